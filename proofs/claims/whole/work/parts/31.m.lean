abbrev mi_X7_undoLast : MI := (yX7_undoLast, Cond.code yX7_undoLast cX7_undoLast 5 none, cX7_undoLast, 5, none, [], 0, 0, 0, none)
theorem cf_X7_undoLast : CFv mi_X7_undoLast 1 := ⟨⟨rfl, q_1447, wall_i_LeafStripes_State, ⟨by decide, by decide, by decide +kernel⟩, by decide⟩, q_1445, q_1446⟩
abbrev mi_X8_init : MI := (yX8_init, Cond.code yX8_init cX8_init 1 none, cX8_init, 1, none, [], 6, 45, 1, none)
theorem cf_X8_init : CFi mi_X8_init 0 := ⟨⟨rfl, q_71, wall_i_LeafStripes_Teller, ⟨by decide, by decide, by decide +kernel⟩, by decide⟩, q_70, rfl, rfl⟩
abbrev mi_X8_goTo : MI := (yX8_goTo, Cond.code yX8_goTo cX8_goTo 3 none, cX8_goTo, 3, none, [], 0, 0, 0, none)
theorem cf_X8_goTo : CFv mi_X8_goTo 1 := ⟨⟨rfl, q_1103, wall_i_LeafStripes_Teller, ⟨by decide, by decide, by decide +kernel⟩, by decide⟩, q_1101, q_1102⟩
abbrev mi_X8_has : MI := (yX8_has, Cond.code yX8_has cX8_has 3 (some .boolean), cX8_has, 3, (some .boolean), [], 0, 0, 0, none)
theorem cf_X8_has : CFv mi_X8_has 2 := ⟨⟨rfl, q_1133, wall_i_LeafStripes_Teller, ⟨by decide, by decide, by decide +kernel⟩, by decide⟩, q_1131, q_1132⟩
abbrev mi_X8_isThere : MI := (yX8_isThere, Cond.code yX8_isThere cX8_isThere 4 (some .boolean), cX8_isThere, 4, (some .boolean), [], 0, 0, 0, none)
theorem cf_X8_isThere : CFv mi_X8_isThere 2 := ⟨⟨rfl, q_1127, wall_i_LeafStripes_Teller, ⟨by decide, by decide, by decide +kernel⟩, by decide⟩, q_1125, q_1126⟩
abbrev mi_X8_put : MI := (yX8_put, Cond.code yX8_put cX8_put 2 none, cX8_put, 2, none, [], 0, 0, 0, none)
theorem cf_X8_put : CFv mi_X8_put 1 := ⟨⟨rfl, q_1117, wall_i_LeafStripes_Teller, ⟨by decide, by decide, by decide +kernel⟩, by decide⟩, q_1115, q_1116⟩
abbrev mi_X8_beginAt : MI := (yX8_beginAt, Cond.code yX8_beginAt cX8_beginAt 4 none, cX8_beginAt, 4, none, [], 0, 0, 0, none)
theorem cf_X8_beginAt : CFv mi_X8_beginAt 2 := ⟨⟨rfl, q_1141, wall_i_LeafStripes_Teller, ⟨by decide, by decide, by decide +kernel⟩, by decide⟩, q_1139, q_1140⟩
abbrev mi_X8_goOn : MI := (yX8_goOn, Cond.code yX8_goOn cX8_goOn 6 (some .boolean), cX8_goOn, 6, (some .boolean), [], 0, 0, 0, none)
theorem cf_X8_goOn : CFv mi_X8_goOn 3 := ⟨⟨rfl, q_1156, wall_i_LeafStripes_Teller, ⟨by decide, by decide, by decide +kernel⟩, by decide⟩, q_1154, q_1155⟩
abbrev mi_X8_putNumber : MI := (yX8_putNumber, Cond.code yX8_putNumber cX8_putNumber 2 none, cX8_putNumber, 2, none, [], 0, 0, 0, none)
theorem cf_X8_putNumber : CFv mi_X8_putNumber 1 := ⟨⟨rfl, q_1151, wall_i_LeafStripes_Teller, ⟨by decide, by decide, by decide +kernel⟩, by decide⟩, q_1149, q_1150⟩
abbrev mi_X8_tellItem : MI := (yX8_tellItem, Cond.code yX8_tellItem cX8_tellItem 5 none, cX8_tellItem, 5, none, [], 0, 0, 0, none)
theorem cf_X8_tellItem : CFv mi_X8_tellItem 3 := ⟨⟨rfl, q_1145, wall_i_LeafStripes_Teller, ⟨by decide, by decide, by decide +kernel⟩, by decide⟩, q_1143, q_1144⟩
abbrev mi_X8_tellItems : MI := (yX8_tellItems, Cond.code yX8_tellItems cX8_tellItems 6 none, cX8_tellItems, 6, none, [], 0, 0, 0, none)
theorem cf_X8_tellItems : CFv mi_X8_tellItems 3 := ⟨⟨rfl, q_1152, wall_i_LeafStripes_Teller, ⟨by decide, by decide, by decide +kernel⟩, by decide⟩, q_1136, q_1137⟩
abbrev mi_X8_tellField : MI := (yX8_tellField, Cond.code yX8_tellField cX8_tellField 6 none, cX8_tellField, 6, none, [], 0, 0, 0, none)
theorem cf_X8_tellField : CFv mi_X8_tellField 2 := ⟨⟨rfl, q_1121, wall_i_LeafStripes_Teller, ⟨by decide, by decide, by decide +kernel⟩, by decide⟩, q_1119, q_1120⟩
abbrev mi_X8_tellFields : MI := (yX8_tellFields, Cond.code yX8_tellFields cX8_tellFields 5 none, cX8_tellFields, 5, none, [], 0, 0, 0, none)
theorem cf_X8_tellFields : CFv mi_X8_tellFields 2 := ⟨⟨rfl, q_1110, wall_i_LeafStripes_Teller, ⟨by decide, by decide, by decide +kernel⟩, by decide⟩, q_1108, q_1109⟩
abbrev mi_X8_tell : MI := (yX8_tell, Cond.code yX8_tell cX8_tell 7 (some .int), cX8_tell, 7, (some .int), [], 0, 0, 0, none)
theorem cf_X8_tell : CFv mi_X8_tell 6 := ⟨⟨rfl, q_1092, wall_i_LeafStripes_Teller, ⟨by decide, by decide, by decide +kernel⟩, by decide⟩, q_1090, q_1091⟩
abbrev mi_X8_countReads : MI := (yX8_countReads, Cond.code yX8_countReads cX8_countReads 10 (some .int), cX8_countReads, 10, (some .int), [], 0, 0, 0, none)
theorem cf_X8_countReads : CFv mi_X8_countReads 4 := ⟨⟨rfl, q_1225, wall_i_LeafStripes_Teller, ⟨by decide, by decide, by decide +kernel⟩, by decide⟩, q_1223, q_1224⟩
abbrev mi_X9_init : MI := (yX9_init, Cond.code yX9_init cX9_init 1 none, cX9_init, 1, none, [], 1, 700, 1, none)
theorem cf_X9_init : CFi mi_X9_init 0 := ⟨⟨rfl, q_56, wall_i_LeafStripes_Text, ⟨by decide, by decide, by decide +kernel⟩, by decide⟩, q_55, rfl, rfl⟩
abbrev mi_X9_append : MI := (yX9_append, Cond.code yX9_append cX9_append 3 none, cX9_append, 3, none, [], 0, 0, 0, none)
theorem cf_X9_append : CFv mi_X9_append 1 := ⟨⟨rfl, q_161, wall_i_LeafStripes_Text, ⟨by decide, by decide, by decide +kernel⟩, by decide⟩, q_159, q_160⟩
abbrev mi_X9_open : MI := (yX9_open, Cond.code yX9_open cX9_open 2 none, cX9_open, 2, none, [], 0, 0, 0, none)
theorem cf_X9_open : CFv mi_X9_open 1 := ⟨⟨rfl, q_187, wall_i_LeafStripes_Text, ⟨by decide, by decide, by decide +kernel⟩, by decide⟩, q_185, q_186⟩
abbrev mi_X10_init : MI := (yX10_init, Cond.code yX10_init cX10_init 1 none, cX10_init, 1, none, [], 2, 16, 1, none)
theorem cf_X10_init : CFi mi_X10_init 0 := ⟨⟨rfl, q_76, wall_i_LeafStripes_Years, ⟨by decide, by decide, by decide +kernel⟩, by decide⟩, q_75, rfl, rfl⟩
abbrev mi_X10_draw : MI := (yX10_draw, Cond.code yX10_draw cX10_draw 2 (some .int), cX10_draw, 2, (some .int), [], 0, 0, 0, none)
theorem cf_X10_draw : CFv mi_X10_draw 1 := ⟨⟨rfl, q_1512, wall_i_LeafStripes_Years, ⟨by decide, by decide, by decide +kernel⟩, by decide⟩, q_1510, q_1511⟩
abbrev mi_X10_drawItem : MI := (yX10_drawItem, Cond.code yX10_drawItem cX10_drawItem 4 none, cX10_drawItem, 4, none, [], 0, 0, 0, none)
theorem cf_X10_drawItem : CFv mi_X10_drawItem 2 := ⟨⟨rfl, q_1517, wall_i_LeafStripes_Years, ⟨by decide, by decide, by decide +kernel⟩, by decide⟩, q_1515, q_1516⟩
abbrev mi_X10_drawField : MI := (yX10_drawField, Cond.code yX10_drawField cX10_drawField 5 none, cX10_drawField, 5, none, [], 0, 0, 0, none)
theorem cf_X10_drawField : CFv mi_X10_drawField 2 := ⟨⟨rfl, q_1506, wall_i_LeafStripes_Years, ⟨by decide, by decide, by decide +kernel⟩, by decide⟩, q_1504, q_1505⟩
abbrev mi_X10_drawFields : MI := (yX10_drawFields, Cond.code yX10_drawFields cX10_drawFields 4 none, cX10_drawFields, 4, none, [], 0, 0, 0, none)
theorem cf_X10_drawFields : CFv mi_X10_drawFields 2 := ⟨⟨rfl, q_1500, wall_i_LeafStripes_Years, ⟨by decide, by decide, by decide +kernel⟩, by decide⟩, q_1498, q_1499⟩
def f_X7_undoLast_144 (v2 : Nat) (w0 : Nat) (M : Mem) : Option (Unit × Mem) :=
  if mK M v2 = 1 then
    if mK M w0 = 21 then
      if inB (mI M v2 2) (mN M w0) = true then
        ap (sI M w0 (mI M v2 2).toNatClampNeg (mI M v2 3)) fun M4 =>
        some ((), M4)
      else none
    else none
  else none
def f_X7_undoLast_51 : Nat → Nat → Int32 → Nat → Int32 → Mem → Option (Unit × Mem)
  | 0, _, _, _, _, _ => none
  | n + 1, v0, v1, v2, v3, M =>
    if mK M v2 = 1 then
      if (mI M v2 3) ≤ v3 then
        some ((), M)
      else
        if mK M v0 = 8 then
          bnd (f_X7_cutLastRecord v0 v1 M) fun _ M4 =>
          f_X7_undoLast_51 n v0 v1 v2 (v3 + 1) M4
        else none
    else none
def f_X7_undoLast (v0 : Nat) (v1 : Int32) (M : Mem) : Option (Unit × Mem) :=
  if mK M v0 = 8 then
    if (mI M v0 3) ≤ 0 then
      some ((), M)
    else
      if (mI M v0 3) ≤ (40 : Int32) then
        ap (sI M v0 3 ((mI M v0 3) - (1 : Int32))) fun M4 =>
        if mK M4 v0 = 8 then
          if mK M4 (mR M4 v0 2) = 24 then
            if inB (mI M4 v0 3) (mN M4 (mR M4 v0 2)) = true then
              if (mR M4 (mR M4 v0 2) (mI M4 v0 3).toNatClampNeg) = 0 then
                some ((), M4)
              else
                if mK M4 (mR M4 (mR M4 v0 2) (mI M4 v0 3).toNatClampNeg) = 1 then
                  if (mI M4 (mR M4 (mR M4 v0 2) (mI M4 v0 3).toNatClampNeg) 0) = 0 then
                    f_X7_undoLast_51 FUEL v0 v1 (mR M4 (mR M4 v0 2) (mI M4 v0 3).toNatClampNeg) (0 : Int32) M4
                  else
                    if (mI M4 (mR M4 (mR M4 v0 2) (mI M4 v0 3).toNatClampNeg) 0) = (1 : Int32) then
                      if (mR M4 (mR M4 (mR M4 v0 2) (mI M4 v0 3).toNatClampNeg) 4) = 0 then
                        some ((), M4)
                      else
                        bnd (f_X7_bringBack v0 (mR M4 (mR M4 (mR M4 v0 2) (mI M4 v0 3).toNatClampNeg) 4) v1 M4) fun _ M20 =>
                        some ((), M20)
                    else
                      if mK M4 (mR M4 v0 0) = 23 then
                        if inB (mI M4 (mR M4 (mR M4 v0 2) (mI M4 v0 3).toNatClampNeg) 1) (mN M4 (mR M4 v0 0)) = true then
                          if (mI M4 (mR M4 (mR M4 v0 2) (mI M4 v0 3).toNatClampNeg) 0) = (2 : Int32) then
                            if mK M4 (mR M4 (mR M4 v0 0) (mI M4 (mR M4 (mR M4 v0 2) (mI M4 v0 3).toNatClampNeg) 1).toNatClampNeg) = 3 then
                              f_X7_undoLast_144 (mR M4 (mR M4 v0 2) (mI M4 v0 3).toNatClampNeg) (mR M4 (mR M4 (mR M4 v0 0) (mI M4 (mR M4 (mR M4 v0 2) (mI M4 v0 3).toNatClampNeg) 1).toNatClampNeg) 2) M4
                            else none
                          else
                            if (mI M4 (mR M4 (mR M4 v0 2) (mI M4 v0 3).toNatClampNeg) 0) = (3 : Int32) then
                              if mK M4 (mR M4 (mR M4 v0 0) (mI M4 (mR M4 (mR M4 v0 2) (mI M4 v0 3).toNatClampNeg) 1).toNatClampNeg) = 3 then
                                f_X7_undoLast_144 (mR M4 (mR M4 v0 2) (mI M4 v0 3).toNatClampNeg) (mR M4 (mR M4 (mR M4 v0 0) (mI M4 (mR M4 (mR M4 v0 2) (mI M4 v0 3).toNatClampNeg) 1).toNatClampNeg) 0) M4
                              else none
                            else
                              if mK M4 (mR M4 (mR M4 v0 0) (mI M4 (mR M4 (mR M4 v0 2) (mI M4 v0 3).toNatClampNeg) 1).toNatClampNeg) = 3 then
                                f_X7_undoLast_144 (mR M4 (mR M4 v0 2) (mI M4 v0 3).toNatClampNeg) (mR M4 (mR M4 (mR M4 v0 0) (mI M4 (mR M4 (mR M4 v0 2) (mI M4 v0 3).toNatClampNeg) 1).toNatClampNeg) 1) M4
                              else none
                        else none
                      else none
                else none
            else none
          else none
        else none
      else
        some ((), M)
  else none
theorem s_X7_undoLast_144 (v2 : Nat) (w0 : Nat) (M : Mem) (r : (Unit × Mem)) (hf : f_X7_undoLast_144 v2 w0 M = some r) : G mi_X7_undoLast 4 (oU r.1) r.2 144 [none, none, some (aR v2), none, none] [aR w0] M 0 0 := by
  unfold f_X7_undoLast_144 at hf
  refine g_astore (pc' := 146) (lv' := [none, none, some (aR v2), none, some (aR w0)]) dX7_undoLast_144 rfl rfl (by decide) rfl ?_
  refine g_aload (pc' := 148) dX7_undoLast_146 rfl rfl ?_
  refine g_aload_n (pc' := 149) dX7_undoLast_148 rfl rfl ?_
  obtain ⟨h1, hf⟩ := chk_s hf
  refine g_getI (pc' := 152) 0 2 rfl rfl (by decide) inX0 (by decide) rfl rfl q_1455 dX7_undoLast_149 rfl h1 ?_
  refine g_aload_n (pc' := 153) dX7_undoLast_152 rfl rfl ?_
  refine g_getI (pc' := 156) 0 3 rfl rfl (by decide) inX0 (by decide) rfl rfl q_1449 dX7_undoLast_153 rfl h1 ?_
  obtain ⟨h2, hf⟩ := chk_s hf
  obtain ⟨b3, hf⟩ := chk_s hf
  refine g_iast (pc' := 157) dX7_undoLast_156 rfl h2 (inB_in b3) (gM fun M4 hM4 => ?_)
  have hf := ap_eq hf hM4
  cases hf
  exact g_return dX7_undoLast_157 rfl (Nat.le_of_ble_eq_true rfl) (Nat.le_of_ble_eq_true rfl)
theorem s_X7_undoLast_51 : ∀ (n : Nat) (v0 : Nat) (v1 : Int32) (v2 : Nat) (v3 : Int32) (M : Mem) (r : (Unit × Mem)), f_X7_undoLast_51 n v0 v1 v2 v3 M = some r → G mi_X7_undoLast 4 (oU r.1) r.2 51 [some (aR v0), some (aI v1), some (aR v2), some (aI v3), none] [] M 0 0 := by
  intro n
  induction n with
  | zero => intro v0 v1 v2 v3 M r hf; cases hf
  | succ n ih =>
    intro v0 v1 v2 v3 M r hf
    unfold f_X7_undoLast_51 at hf
    refine g_iload_n (pc' := 52) dX7_undoLast_51 rfl rfl ?_
    refine g_aload_n (pc' := 53) dX7_undoLast_52 rfl rfl ?_
    obtain ⟨h1, hf⟩ := chk_s hf
    refine g_getI (pc' := 56) 0 3 rfl rfl (by decide) inX0 (by decide) rfl rfl q_1449 dX7_undoLast_53 rfl h1 ?_
    refine g_icmp_ge (pc' := 59) 70 dX7_undoLast_56 rfl (by decide) (fun c2 => ?_) (fun c2 => ?_)
    · have hf := ite_t c2 hf
      refine g_goto (pc' := 157) dX7_undoLast_70 (by decide) ?_
      cases hf
      exact g_return dX7_undoLast_157 rfl (Nat.le_of_ble_eq_true rfl) (Nat.le_of_ble_eq_true rfl)
    · have hf := ite_f c2 hf
      refine g_aload_n (pc' := 60) dX7_undoLast_59 rfl rfl ?_
      refine g_iload_n (pc' := 61) dX7_undoLast_60 rfl rfl ?_
      obtain ⟨h3, hf⟩ := chk_s hf
      obtain ⟨_, M4, e5, hf⟩ := bnd_some hf
      refine g_callVv (pc' := 64) (k' := 0) (u' := 0) (fr2 := 3) (As := [aI v1]) (b := v0) (st := []) cf_X7_cutLastRecord q_1456 (by omega) (ci := 7) rfl rfl (by decide) dX7_undoLast_61 rfl rfl rfl (Nat.le_of_ble_eq_true rfl) (Or.inl rfl) (Nat.le_refl _) (Nat.le_refl _) (Nat.le_refl _) (Nat.le_refl _) h3 (s_X7_cutLastRecord v0 v1 M _ e5) ?_
      refine g_iinc (pc' := 67) (lv' := [some (aR v0), some (aI v1), some (aR v2), some (aI (v3 + 1)), none]) (v3 + 1) dX7_undoLast_64 rfl rfl (by rfl) rfl (by decide) rfl ?_
      refine g_goto (pc' := 51) dX7_undoLast_67 (by decide) ?_
      refine g_widen (k' := 0) (u' := 0) (by omega) (by omega) ?_
      exact ih v0 v1 v2 (v3 + 1) M4 _ hf
theorem s_X7_undoLast (v0 : Nat) (v1 : Int32) (M : Mem) (r : (Unit × Mem)) (hf : f_X7_undoLast v0 v1 M = some r) : Sem mi_X7_undoLast (4) [aR v0, aI v1] M (oU r.1) r.2 := by
  unfold f_X7_undoLast at hf
  refine sem_of (by decide) rfl rfl rfl (Nat.le_of_ble_eq_true rfl) (lv := [some (aR v0), some (aI v1), none, none, none]) rfl ?_
  refine g_aload_n (pc' := 1) dX7_undoLast_0 rfl rfl ?_
  obtain ⟨h1, hf⟩ := chk_s hf
  refine g_getI (pc' := 4) 7 3 rfl rfl (by decide) inX7 (by decide) rfl rfl q_352 dX7_undoLast_1 rfl h1 ?_
  refine g_if_le (pc' := 7) 16 dX7_undoLast_4 rfl (by decide) (fun c2 => ?_) (fun c2 => ?_)
  · have hf := ite_t c2 hf
    cases hf
    exact g_return dX7_undoLast_16 rfl (Nat.le_of_ble_eq_true rfl) (Nat.le_of_ble_eq_true rfl)
  · have hf := ite_f c2 hf
    refine g_aload_n (pc' := 8) dX7_undoLast_7 rfl rfl ?_
    refine g_getI (pc' := 11) 7 3 rfl rfl (by decide) inX7 (by decide) rfl rfl q_352 dX7_undoLast_8 rfl h1 ?_
    refine g_bipush (pc' := 13) (40 : Int32) dX7_undoLast_11 rfl (by decide) ?_
    refine g_icmp_le (pc' := 16) 17 dX7_undoLast_13 rfl (by decide) (fun c3 => ?_) (fun c3 => ?_)
    · have hf := ite_t c3 hf
      refine g_aload_n (pc' := 18) dX7_undoLast_17 rfl rfl ?_
      refine g_dup (pc' := 19) dX7_undoLast_18 rfl rfl ?_
      refine g_getI (pc' := 22) 7 3 rfl rfl (by decide) inX7 (by decide) rfl rfl q_352 dX7_undoLast_19 rfl h1 ?_
      refine g_iconst (pc' := 23) (1 : Int32) dX7_undoLast_22 rfl (by decide) ?_
      refine g_isub (pc' := 24) dX7_undoLast_23 rfl ?_
      refine g_putI (pc' := 27) 7 3 rfl rfl (by decide) inX7 tyX7_ok nmX7 (by decide) rfl rfl rfl rfl q_352 dX7_undoLast_24 rfl h1 (gM fun M4 hM4 => ?_)
      have hf := ap_eq hf hM4
      refine g_aload_n (pc' := 28) dX7_undoLast_27 rfl rfl ?_
      obtain ⟨h5, hf⟩ := chk_s hf
      refine g_getR (pc' := 31) 7 2 rfl rfl (by decide) inX7 (by decide) rfl rfl q_87 dX7_undoLast_28 rfl h5 ?_
      refine g_aload_n (pc' := 32) dX7_undoLast_31 rfl rfl ?_
      refine g_getI (pc' := 35) 7 3 rfl rfl (by decide) inX7 (by decide) rfl rfl q_352 dX7_undoLast_32 rfl h5 ?_
      obtain ⟨h6, hf⟩ := chk_s hf
      obtain ⟨b7, hf⟩ := chk_s hf
      refine g_aald (pc' := 36) (t0 := 3) (fun _ => rfl) (by decide) dX7_undoLast_35 rfl h6 (inB_in b7) ?_
      refine g_astore_n (pc' := 37) (lv' := [some (aR v0), some (aI v1), some (aR (mR M4 (mR M4 v0 2) (mI M4 v0 3).toNatClampNeg)), none, none]) dX7_undoLast_36 rfl rfl (by decide) rfl ?_
      refine g_aload_n (pc' := 38) dX7_undoLast_37 rfl rfl ?_
      refine g_ifnonnull (pc' := 41) 42 dX7_undoLast_38 rfl (by decide) (fun c8 => ?_) (fun c8 => ?_)
      · have hf := ite_f c8 hf
        refine g_aload_n (pc' := 43) dX7_undoLast_42 rfl rfl ?_
        obtain ⟨h9, hf⟩ := chk_s hf
        refine g_getI (pc' := 46) 0 0 rfl rfl (by decide) inX0 (by decide) rfl rfl q_1448 dX7_undoLast_43 rfl h9 ?_
        refine g_if_ne (pc' := 49) 73 dX7_undoLast_46 rfl (by decide) (fun c10 => ?_) (fun c10 => ?_)
        · have hf := ite_f c10 hf
          refine g_aload_n (pc' := 74) dX7_undoLast_73 rfl rfl ?_
          refine g_getI (pc' := 77) 0 0 rfl rfl (by decide) inX0 (by decide) rfl rfl q_1448 dX7_undoLast_74 rfl h9 ?_
          refine g_iconst (pc' := 78) (1 : Int32) dX7_undoLast_77 rfl (by decide) ?_
          refine g_icmp_ne (pc' := 81) 100 dX7_undoLast_78 rfl (by decide) (fun c11 => ?_) (fun c11 => ?_)
          · have hf := ite_f c11 hf
            refine g_aload_n (pc' := 101) dX7_undoLast_100 rfl rfl ?_
            refine g_getR (pc' := 104) 7 0 rfl rfl (by decide) inX7 (by decide) rfl rfl q_85 dX7_undoLast_101 rfl h5 ?_
            refine g_aload_n (pc' := 105) dX7_undoLast_104 rfl rfl ?_
            refine g_getI (pc' := 108) 0 1 rfl rfl (by decide) inX0 (by decide) rfl rfl q_1451 dX7_undoLast_105 rfl h9 ?_
            obtain ⟨h12, hf⟩ := chk_s hf
            obtain ⟨b13, hf⟩ := chk_s hf
            refine g_aald (pc' := 109) (t0 := 2) (fun _ => rfl) (by decide) dX7_undoLast_108 rfl h12 (inB_in b13) ?_
            refine g_astore_n (pc' := 110) (lv' := [some (aR v0), some (aI v1), some (aR (mR M4 (mR M4 v0 2) (mI M4 v0 3).toNatClampNeg)), some (aR (mR M4 (mR M4 v0 0) (mI M4 (mR M4 (mR M4 v0 2) (mI M4 v0 3).toNatClampNeg) 1).toNatClampNeg)), none]) dX7_undoLast_109 rfl rfl (by decide) rfl ?_
            refine g_aload_n (pc' := 111) dX7_undoLast_110 rfl rfl ?_
            refine g_getI (pc' := 114) 0 0 rfl rfl (by decide) inX0 (by decide) rfl rfl q_1448 dX7_undoLast_111 rfl h9 ?_
            refine g_iconst (pc' := 115) (2 : Int32) dX7_undoLast_114 rfl (by decide) ?_
            refine g_icmp_ne (pc' := 118) 125 dX7_undoLast_115 rfl (by decide) (fun c14 => ?_) (fun c14 => ?_)
            · have hf := ite_f c14 hf
              refine g_aload_n (pc' := 126) dX7_undoLast_125 rfl rfl ?_
              refine g_getI (pc' := 129) 0 0 rfl rfl (by decide) inX0 (by decide) rfl rfl q_1448 dX7_undoLast_126 rfl h9 ?_
              refine g_iconst (pc' := 130) (3 : Int32) dX7_undoLast_129 rfl (by decide) ?_
              refine g_icmp_ne (pc' := 133) 140 dX7_undoLast_130 rfl (by decide) (fun c15 => ?_) (fun c15 => ?_)
              · have hf := ite_f c15 hf
                refine g_aload_n (pc' := 141) dX7_undoLast_140 rfl rfl ?_
                obtain ⟨h16, hf⟩ := chk_s hf
                refine g_getR (pc' := 144) 2 1 rfl rfl (by decide) inX2 (by decide) rfl rfl q_1454 dX7_undoLast_141 rfl h16 ?_
                refine g_mask [false, false, true, false, true] rfl ?_
                exact s_X7_undoLast_144 (mR M4 (mR M4 v0 2) (mI M4 v0 3).toNatClampNeg) (mR M4 (mR M4 (mR M4 v0 0) (mI M4 (mR M4 (mR M4 v0 2) (mI M4 v0 3).toNatClampNeg) 1).toNatClampNeg) 1) M4 _ hf
              · have hf := ite_t c15 hf
                refine g_aload_n (pc' := 134) dX7_undoLast_133 rfl rfl ?_
                obtain ⟨h17, hf⟩ := chk_s hf
                refine g_getR (pc' := 137) 2 0 rfl rfl (by decide) inX2 (by decide) rfl rfl q_1453 dX7_undoLast_134 rfl h17 ?_
                refine g_goto (pc' := 144) dX7_undoLast_137 (by decide) ?_
                refine g_mask [false, false, true, false, true] rfl ?_
                exact s_X7_undoLast_144 (mR M4 (mR M4 v0 2) (mI M4 v0 3).toNatClampNeg) (mR M4 (mR M4 (mR M4 v0 0) (mI M4 (mR M4 (mR M4 v0 2) (mI M4 v0 3).toNatClampNeg) 1).toNatClampNeg) 0) M4 _ hf
            · have hf := ite_t c14 hf
              refine g_aload_n (pc' := 119) dX7_undoLast_118 rfl rfl ?_
              obtain ⟨h18, hf⟩ := chk_s hf
              refine g_getR (pc' := 122) 2 2 rfl rfl (by decide) inX2 (by decide) rfl rfl q_1452 dX7_undoLast_119 rfl h18 ?_
              refine g_goto (pc' := 144) dX7_undoLast_122 (by decide) ?_
              refine g_mask [false, false, true, false, true] rfl ?_
              exact s_X7_undoLast_144 (mR M4 (mR M4 v0 2) (mI M4 v0 3).toNatClampNeg) (mR M4 (mR M4 (mR M4 v0 0) (mI M4 (mR M4 (mR M4 v0 2) (mI M4 v0 3).toNatClampNeg) 1).toNatClampNeg) 2) M4 _ hf
          · have hf := ite_t c11 hf
            refine g_aload_n (pc' := 82) dX7_undoLast_81 rfl rfl ?_
            refine g_getR (pc' := 85) 0 4 rfl rfl (by decide) inX0 (by decide) rfl rfl q_1450 dX7_undoLast_82 rfl h9 ?_
            refine g_ifnull (pc' := 88) 157 dX7_undoLast_85 rfl (by decide) (fun c19 => ?_) (fun c19 => ?_)
            · have hf := ite_t c19 hf
              cases hf
              exact g_return dX7_undoLast_157 rfl (Nat.le_of_ble_eq_true rfl) (Nat.le_of_ble_eq_true rfl)
            · have hf := ite_f c19 hf
              refine g_aload_n (pc' := 89) dX7_undoLast_88 rfl rfl ?_
              refine g_aload_n (pc' := 90) dX7_undoLast_89 rfl rfl ?_
              refine g_getR (pc' := 93) 0 4 rfl rfl (by decide) inX0 (by decide) rfl rfl q_1450 dX7_undoLast_90 rfl h9 ?_
              refine g_iload_n (pc' := 94) dX7_undoLast_93 rfl rfl ?_
              obtain ⟨_, M20, e21, hf⟩ := bnd_some hf
              refine g_callVv (pc' := 97) (k' := 0) (u' := 0) (fr2 := 3) (As := [aR (mR M4 (mR M4 (mR M4 v0 2) (mI M4 v0 3).toNatClampNeg) 4), aI v1]) (b := v0) (st := []) cf_X7_bringBack q_1457 (by omega) (ci := 7) rfl rfl (by decide) dX7_undoLast_94 rfl rfl rfl (Nat.le_of_ble_eq_true rfl) (Or.inl rfl) (Nat.le_refl _) (Nat.le_refl _) (Nat.le_refl _) (Nat.le_refl _) h5 (s_X7_bringBack v0 (mR M4 (mR M4 (mR M4 v0 2) (mI M4 v0 3).toNatClampNeg) 4) v1 M4 _ e21) ?_
              refine g_goto (pc' := 157) dX7_undoLast_97 (by decide) ?_
              cases hf
              exact g_return dX7_undoLast_157 rfl (Nat.le_of_ble_eq_true rfl) (Nat.le_of_ble_eq_true rfl)
        · have hf := ite_t c10 hf
          refine g_iconst (pc' := 50) (0 : Int32) dX7_undoLast_49 rfl (by decide) ?_
          refine g_istore_n (pc' := 51) (lv' := [some (aR v0), some (aI v1), some (aR (mR M4 (mR M4 v0 2) (mI M4 v0 3).toNatClampNeg)), some (aI (0 : Int32)), none]) dX7_undoLast_50 rfl rfl (by decide) rfl ?_
          exact s_X7_undoLast_51 FUEL v0 v1 (mR M4 (mR M4 v0 2) (mI M4 v0 3).toNatClampNeg) (0 : Int32) M4 _ hf
      · have hf := ite_t c8 hf
        cases hf
        exact g_return dX7_undoLast_41 rfl (Nat.le_of_ble_eq_true rfl) (Nat.le_of_ble_eq_true rfl)
    · have hf := ite_f c3 hf
      cases hf
      exact g_return dX7_undoLast_16 rfl (Nat.le_of_ble_eq_true rfl) (Nat.le_of_ble_eq_true rfl)
def f_X8_init (v0 : Nat) (M : Mem) : Option (Unit × Mem) :=
  if ¬ v0 = 0 then
    if mn M + 6 < 900000 then
      if okrB M [v0, v0] = true then
        ap (mMul M 8) fun M2 =>
        if mK M2 v0 = 9 then
          if okrB M2 [(mn M + 1)] = true then
            ap (sR M2 v0 7 (mn M + 1)) fun M4 =>
            some ((), M4)
          else none
        else none
      else none
    else none
  else none
theorem s_X8_init (v0 : Nat) (M : Mem) (r : (Unit × Mem)) (hf : f_X8_init v0 M = some r) : Sem mi_X8_init (1) [aR v0] M (oU r.1) r.2 := by
  unfold f_X8_init at hf
  refine sem_of (by decide) rfl rfl rfl (Nat.le_of_ble_eq_true rfl) (lv := [some (aR v0)]) rfl ?_
  refine g_aload_n (pc' := 1) dX8_init_0 rfl rfl ?_
  obtain ⟨ho6, hf⟩ := chk_s hf
  refine g_obj (pc' := 4) q_72 q_11 q_12 (by omega) ho6 (Nat.le_of_ble_eq_true rfl) dX8_init_1 rfl ?_
  refine g_aload_n (pc' := 5) dX8_init_4 rfl rfl ?_
  refine g_iconst (pc' := 6) (5 : Int32) dX8_init_5 rfl (by decide) ?_
  refine g_bipush (pc' := 8) (8 : Int32) dX8_init_6 rfl (by decide) ?_
  obtain ⟨hm1, hf⟩ := chk_s hf
  obtain ⟨ha1, hf⟩ := chk_s hf
  refine g_multi (pc' := 12) (k' := 6) (u' := 45) (by decide) q_73 wall_aint dX8_init_8 rfl hm1 (okrB_ok ha1 rfl) (by omega) (by omega) (by show 6 ≤ 6; omega) (by show 45 ≤ 45; omega) (gM fun M2 hM2 => ?_)
  have hf := ap_eq hf hM2
  obtain ⟨h3, hf⟩ := chk_s hf
  obtain ⟨hr5, hf⟩ := chk_s hf
  refine g_putFR (pc' := 15) 8 7 rfl rfl (by decide) inX8 tyX8_ok nmX8 (by decide) rfl rfl rfl rfl rfl (Or.inr ⟨_, rfl⟩) (okrB_1 hr5) q_74 dX8_init_12 rfl h3 (gM fun M4 hM4 => ?_)
  have hf := ap_eq hf hM4
  cases hf
  exact g_return dX8_init_15 rfl (Nat.le_of_ble_eq_true rfl) (Nat.le_of_ble_eq_true rfl)
def f_X8_goTo_2 : Nat → Nat → Int32 → Int32 → Mem → Option (Unit × Mem)
  | 0, _, _, _, _ => none
  | n + 1, v0, v1, v2, M =>
    if mK M v0 = 9 then
      if mK M (mR M v0 5) = 6 then
        if (mI M (mR M v0 5) 1) ≤ v2 then
          some ((), M)
        else
          if mK M (mR M v0 7) = 25 then
            if inB (0 : Int32) (mN M (mR M v0 7)) = true then
              if mK M (mR M v0 6) = 8 then
                if mK M (mR M (mR M v0 6) 0) = 23 then
                  if inB v2 (mN M (mR M (mR M v0 6) 0)) = true then
                    if mK M (mR M (mR M (mR M v0 6) 0) v2.toNatClampNeg) = 3 then
                      bnd (f_X2_firstOf (mR M (mR M (mR M v0 6) 0) v2.toNatClampNeg) v1 M) fun r11 M10 =>
                      if mK M10 (mR M (mR M v0 7) (0 : Int32).toNatClampNeg) = 21 then
                        if inB v2 (mN M10 (mR M (mR M v0 7) (0 : Int32).toNatClampNeg)) = true then
                          ap (sI M10 (mR M (mR M v0 7) (0 : Int32).toNatClampNeg) v2.toNatClampNeg r11) fun M14 =>
                          f_X8_goTo_2 n v0 v1 (v2 + 1) M14
                        else none
                      else none
                    else none
                  else none
                else none
              else none
            else none
          else none
      else none
    else none
def f_X8_goTo (v0 : Nat) (v1 : Int32) (M : Mem) : Option (Unit × Mem) :=
  f_X8_goTo_2 FUEL v0 v1 (0 : Int32) M
theorem s_X8_goTo_2 : ∀ (n : Nat) (v0 : Nat) (v1 : Int32) (v2 : Int32) (M : Mem) (r : (Unit × Mem)), f_X8_goTo_2 n v0 v1 v2 M = some r → G mi_X8_goTo 2 (oU r.1) r.2 2 [some (aR v0), some (aI v1), some (aI v2)] [] M 0 0 := by
  intro n
  induction n with
  | zero => intro v0 v1 v2 M r hf; cases hf
  | succ n ih =>
    intro v0 v1 v2 M r hf
    unfold f_X8_goTo_2 at hf
    refine g_iload_n (pc' := 3) dX8_goTo_2 rfl rfl ?_
    refine g_aload_n (pc' := 4) dX8_goTo_3 rfl rfl ?_
    obtain ⟨h1, hf⟩ := chk_s hf
    refine g_getR (pc' := 7) 8 5 rfl rfl (by decide) inX8 (by decide) rfl rfl q_1094 dX8_goTo_4 rfl h1 ?_
    obtain ⟨h2, hf⟩ := chk_s hf
    refine g_getI (pc' := 10) 5 1 rfl rfl (by decide) inX5 (by decide) rfl rfl q_1104 dX8_goTo_7 rfl h2 ?_
    refine g_icmp_ge (pc' := 13) 40 dX8_goTo_10 rfl (by decide) (fun c3 => ?_) (fun c3 => ?_)
    · have hf := ite_t c3 hf
      cases hf
      exact g_return dX8_goTo_40 rfl (Nat.le_of_ble_eq_true rfl) (Nat.le_of_ble_eq_true rfl)
    · have hf := ite_f c3 hf
      refine g_aload_n (pc' := 14) dX8_goTo_13 rfl rfl ?_
      refine g_getR (pc' := 17) 8 7 rfl rfl (by decide) inX8 (by decide) rfl rfl q_74 dX8_goTo_14 rfl h1 ?_
      refine g_iconst (pc' := 18) (0 : Int32) dX8_goTo_17 rfl (by decide) ?_
      obtain ⟨h4, hf⟩ := chk_s hf
      obtain ⟨b5, hf⟩ := chk_s hf
      refine g_aald2 (pc' := 19) dX8_goTo_18 rfl h4 (inB_in b5) ?_
      refine g_iload_n (pc' := 20) dX8_goTo_19 rfl rfl ?_
      refine g_aload_n (pc' := 21) dX8_goTo_20 rfl rfl ?_
      refine g_getR (pc' := 24) 8 6 rfl rfl (by decide) inX8 (by decide) rfl rfl q_1095 dX8_goTo_21 rfl h1 ?_
      obtain ⟨h6, hf⟩ := chk_s hf
      refine g_getR (pc' := 27) 7 0 rfl rfl (by decide) inX7 (by decide) rfl rfl q_1105 dX8_goTo_24 rfl h6 ?_
      refine g_iload_n (pc' := 28) dX8_goTo_27 rfl rfl ?_
      obtain ⟨h7, hf⟩ := chk_s hf
      obtain ⟨b8, hf⟩ := chk_s hf
      refine g_aald (pc' := 29) (t0 := 2) (fun _ => rfl) (by decide) dX8_goTo_28 rfl h7 (inB_in b8) ?_
      refine g_iload_n (pc' := 30) dX8_goTo_29 rfl rfl ?_
      obtain ⟨h9, hf⟩ := chk_s hf
      obtain ⟨r11, M10, e11, hf⟩ := bnd_some hf
      refine g_callVi (pc' := 33) (k' := 0) (u' := 0) (fr2 := 1) (As := [aI v1]) (b := (mR M (mR M (mR M v0 6) 0) v2.toNatClampNeg)) (st := [aI v2, aR (mR M (mR M v0 7) (0 : Int32).toNatClampNeg)]) cf_X2_firstOf q_1106 (by omega) (ci := 2) rfl rfl (by decide) dX8_goTo_30 rfl rfl rfl (Nat.le_of_ble_eq_true rfl) (Or.inl rfl) (Nat.le_refl _) (Nat.le_refl _) (Nat.le_refl _) (Nat.le_refl _) h9 (s_X2_firstOf (mR M (mR M (mR M v0 6) 0) v2.toNatClampNeg) v1 M _ e11) ?_
      obtain ⟨h12, hf⟩ := chk_s hf
      obtain ⟨b13, hf⟩ := chk_s hf
      refine g_iast (pc' := 34) dX8_goTo_33 rfl h12 (inB_in b13) (gM fun M14 hM14 => ?_)
      have hf := ap_eq hf hM14
      refine g_iinc (pc' := 37) (lv' := [some (aR v0), some (aI v1), some (aI (v2 + 1))]) (v2 + 1) dX8_goTo_34 rfl rfl (by rfl) rfl (by decide) rfl ?_
      refine g_goto (pc' := 2) dX8_goTo_37 (by decide) ?_
      refine g_widen (k' := 0) (u' := 0) (by omega) (by omega) ?_
      exact ih v0 v1 (v2 + 1) M14 _ hf
theorem s_X8_goTo (v0 : Nat) (v1 : Int32) (M : Mem) (r : (Unit × Mem)) (hf : f_X8_goTo v0 v1 M = some r) : Sem mi_X8_goTo (2) [aR v0, aI v1] M (oU r.1) r.2 := by
  unfold f_X8_goTo at hf
  refine sem_of (by decide) rfl rfl rfl (Nat.le_of_ble_eq_true rfl) (lv := [some (aR v0), some (aI v1), none]) rfl ?_
  refine g_iconst (pc' := 1) (0 : Int32) dX8_goTo_0 rfl (by decide) ?_
  refine g_istore_n (pc' := 2) (lv' := [some (aR v0), some (aI v1), some (aI (0 : Int32))]) dX8_goTo_1 rfl rfl (by decide) rfl ?_
  exact s_X8_goTo_2 FUEL v0 v1 (0 : Int32) M _ hf
def f_X8_has (v0 : Nat) (v1 : Int32) (v2 : Int32) (M : Mem) : Option (Int32 × Mem) :=
  if v2 < 0 then
    some ((0 : Int32), M)
  else
    if mK M v0 = 9 then
      if mK M (mR M v0 6) = 8 then
        if mK M (mR M (mR M v0 6) 0) = 23 then
          if inB v1 (mN M (mR M (mR M v0 6) 0)) = true then
            if mK M (mR M (mR M (mR M v0 6) 0) v1.toNatClampNeg) = 3 then
              if (mI M (mR M (mR M (mR M v0 6) 0) v1.toNatClampNeg) 3) ≤ v2 then
                some ((0 : Int32), M)
              else
                some ((1 : Int32), M)
            else none
          else none
        else none
      else none
    else none
theorem s_X8_has (v0 : Nat) (v1 : Int32) (v2 : Int32) (M : Mem) (r : (Int32 × Mem)) (hf : f_X8_has v0 v1 v2 M = some r) : Sem mi_X8_has (1) [aR v0, aI v1, aI v2] M (oI r.1) r.2 := by
  unfold f_X8_has at hf
  refine sem_of (by decide) rfl rfl rfl (Nat.le_of_ble_eq_true rfl) (lv := [some (aR v0), some (aI v1), some (aI v2)]) rfl ?_
  refine g_iload_n (pc' := 1) dX8_has_0 rfl rfl ?_
  refine g_if_lt (pc' := 4) 24 dX8_has_1 rfl (by decide) (fun c1 => ?_) (fun c1 => ?_)
  · have hf := ite_t c1 hf
    refine g_iconst (pc' := 25) (0 : Int32) dX8_has_24 rfl (by decide) ?_
    cases hf
    exact g_zreturn dX8_has_25 rfl (Or.inl rfl) (Nat.le_of_ble_eq_true rfl) (Nat.le_of_ble_eq_true rfl)
  · have hf := ite_f c1 hf
    refine g_iload_n (pc' := 5) dX8_has_4 rfl rfl ?_
    refine g_aload_n (pc' := 6) dX8_has_5 rfl rfl ?_
    obtain ⟨h2, hf⟩ := chk_s hf
    refine g_getR (pc' := 9) 8 6 rfl rfl (by decide) inX8 (by decide) rfl rfl q_1095 dX8_has_6 rfl h2 ?_
    obtain ⟨h3, hf⟩ := chk_s hf
    refine g_getR (pc' := 12) 7 0 rfl rfl (by decide) inX7 (by decide) rfl rfl q_1105 dX8_has_9 rfl h3 ?_
    refine g_iload_n (pc' := 13) dX8_has_12 rfl rfl ?_
    obtain ⟨h4, hf⟩ := chk_s hf
    obtain ⟨b5, hf⟩ := chk_s hf
    refine g_aald (pc' := 14) (t0 := 2) (fun _ => rfl) (by decide) dX8_has_13 rfl h4 (inB_in b5) ?_
    obtain ⟨h6, hf⟩ := chk_s hf
    refine g_getI (pc' := 17) 2 3 rfl rfl (by decide) inX2 (by decide) rfl rfl q_1134 dX8_has_14 rfl h6 ?_
    refine g_icmp_ge (pc' := 20) 24 dX8_has_17 rfl (by decide) (fun c7 => ?_) (fun c7 => ?_)
    · have hf := ite_t c7 hf
      refine g_iconst (pc' := 25) (0 : Int32) dX8_has_24 rfl (by decide) ?_
      cases hf
      exact g_zreturn dX8_has_25 rfl (Or.inl rfl) (Nat.le_of_ble_eq_true rfl) (Nat.le_of_ble_eq_true rfl)
    · have hf := ite_f c7 hf
      refine g_iconst (pc' := 21) (1 : Int32) dX8_has_20 rfl (by decide) ?_
      refine g_goto (pc' := 25) dX8_has_21 (by decide) ?_
      cases hf
      exact g_zreturn dX8_has_25 rfl (Or.inr rfl) (Nat.le_of_ble_eq_true rfl) (Nat.le_of_ble_eq_true rfl)
def f_X8_isThere (v0 : Nat) (v1 : Int32) (v2 : Int32) (M : Mem) : Option (Int32 × Mem) :=
  if mK M v0 = 9 then
    if mK M (mR M v0 5) = 6 then
      if mK M (mR M (mR M v0 5) 10) = 21 then
        if inB v1 (mN M (mR M (mR M v0 5) 10)) = true then
          bnd (f_X11_lowestBit (mI M (mR M (mR M v0 5) 10) v1.toNatClampNeg) M) fun r6 M5 =>
          if r6 = (-1 : Int32) then
            some ((0 : Int32), M5)
          else
            if mK M5 v0 = 9 then
              if mK M5 (mR M5 v0 7) = 25 then
                if inB v2 (mN M5 (mR M5 v0 7)) = true then
                  if mK M5 (mR M5 (mR M5 v0 7) v2.toNatClampNeg) = 21 then
                    if inB r6 (mN M5 (mR M5 (mR M5 v0 7) v2.toNatClampNeg)) = true then
                      bnd (f_X8_has v0 r6 (mI M5 (mR M5 (mR M5 v0 7) v2.toNatClampNeg) r6.toNatClampNeg) M5) fun r14 M13 =>
                      if r14 = 0 then
                        some ((0 : Int32), M13)
                      else
                        if mK M13 v0 = 9 then
                          if mK M13 (mR M13 v0 6) = 8 then
                            if mK M13 (mR M13 (mR M13 v0 6) 0) = 23 then
                              if inB r6 (mN M13 (mR M13 (mR M13 v0 6) 0)) = true then
                                if mK M13 (mR M13 (mR M13 (mR M13 v0 6) 0) r6.toNatClampNeg) = 3 then
                                  if mK M13 (mR M13 v0 7) = 25 then
                                    if inB v2 (mN M13 (mR M13 v0 7)) = true then
                                      if mK M13 (mR M13 (mR M13 v0 7) v2.toNatClampNeg) = 21 then
                                        if inB r6 (mN M13 (mR M13 (mR M13 v0 7) v2.toNatClampNeg)) = true then
                                          if mK M13 (mR M13 (mR M13 (mR M13 (mR M13 v0 6) 0) r6.toNatClampNeg) 1) = 21 then
                                            if inB (mI M13 (mR M13 (mR M13 v0 7) v2.toNatClampNeg) r6.toNatClampNeg) (mN M13 (mR M13 (mR M13 (mR M13 (mR M13 v0 6) 0) r6.toNatClampNeg) 1)) = true then
                                              if mK M13 (mR M13 v0 5) = 6 then
                                                if mK M13 (mR M13 (mR M13 v0 5) 5) = 21 then
                                                  if inB v1 (mN M13 (mR M13 (mR M13 v0 5) 5)) = true then
                                                    if (mI M13 (mR M13 (mR M13 (mR M13 (mR M13 v0 6) 0) r6.toNatClampNeg) 1) (mI M13 (mR M13 (mR M13 v0 7) v2.toNatClampNeg) r6.toNatClampNeg).toNatClampNeg) < (mI M13 (mR M13 (mR M13 v0 5) 5) v1.toNatClampNeg) then
                                                      some ((0 : Int32), M13)
                                                    else
                                                      some ((1 : Int32), M13)
                                                  else none
                                                else none
                                              else none
                                            else none
                                          else none
                                        else none
                                      else none
                                    else none
                                  else none
                                else none
                              else none
                            else none
                          else none
                        else none
                    else none
                  else none
                else none
              else none
            else none
        else none
      else none
    else none
  else none
theorem s_X8_isThere (v0 : Nat) (v1 : Int32) (v2 : Int32) (M : Mem) (r : (Int32 × Mem)) (hf : f_X8_isThere v0 v1 v2 M = some r) : Sem mi_X8_isThere (2) [aR v0, aI v1, aI v2] M (oI r.1) r.2 := by
  unfold f_X8_isThere at hf
  refine sem_of (by decide) rfl rfl rfl (Nat.le_of_ble_eq_true rfl) (lv := [some (aR v0), some (aI v1), some (aI v2), none]) rfl ?_
  refine g_aload_n (pc' := 1) dX8_isThere_0 rfl rfl ?_
  obtain ⟨h1, hf⟩ := chk_s hf
  refine g_getR (pc' := 4) 8 5 rfl rfl (by decide) inX8 (by decide) rfl rfl q_1094 dX8_isThere_1 rfl h1 ?_
  obtain ⟨h2, hf⟩ := chk_s hf
  refine g_getR (pc' := 7) 5 10 rfl rfl (by decide) inX5 (by decide) rfl rfl q_1113 dX8_isThere_4 rfl h2 ?_
  refine g_iload_n (pc' := 8) dX8_isThere_7 rfl rfl ?_
  obtain ⟨h3, hf⟩ := chk_s hf
  obtain ⟨b4, hf⟩ := chk_s hf
  refine g_iald (pc' := 9) dX8_isThere_8 rfl h3 (inB_in b4) ?_
  obtain ⟨r6, M5, e6, hf⟩ := bnd_some hf
  refine g_callSNi (pc' := 12) (k' := 0) (u' := 0) (fr2 := 1) (As := [aI (mI M (mR M (mR M v0 5) 10) v1.toNatClampNeg)]) (st := []) cf_X11_lowestBit (List.mem_of_getElem? (i := 10) rfl) (by omega) dX8_isThere_9 rfl rfl rfl (Nat.le_of_ble_eq_true rfl) (Or.inl rfl) (Nat.le_refl _) (Nat.le_refl _) (Nat.le_refl _) (Nat.le_refl _) (s_X11_lowestBit (mI M (mR M (mR M v0 5) 10) v1.toNatClampNeg) M _ e6) ?_
  refine g_istore_n (pc' := 13) (lv' := [some (aR v0), some (aI v1), some (aI v2), some (aI r6)]) dX8_isThere_12 rfl rfl (by decide) rfl ?_
  refine g_iload_n (pc' := 14) dX8_isThere_13 rfl rfl ?_
  refine g_iconst (pc' := 15) (-1 : Int32) dX8_isThere_14 rfl (by decide) ?_
  refine g_icmp_eq (pc' := 18) 71 dX8_isThere_15 rfl (by decide) (fun c7 => ?_) (fun c7 => ?_)
  · have hf := ite_t c7 hf
    refine g_iconst (pc' := 72) (0 : Int32) dX8_isThere_71 rfl (by decide) ?_
    cases hf
    exact g_zreturn dX8_isThere_72 rfl (Or.inl rfl) (Nat.le_of_ble_eq_true rfl) (Nat.le_of_ble_eq_true rfl)
  · have hf := ite_f c7 hf
    refine g_aload_n (pc' := 19) dX8_isThere_18 rfl rfl ?_
    refine g_iload_n (pc' := 20) dX8_isThere_19 rfl rfl ?_
    refine g_aload_n (pc' := 21) dX8_isThere_20 rfl rfl ?_
    obtain ⟨h8, hf⟩ := chk_s hf
    refine g_getR (pc' := 24) 8 7 rfl rfl (by decide) inX8 (by decide) rfl rfl q_74 dX8_isThere_21 rfl h8 ?_
    refine g_iload_n (pc' := 25) dX8_isThere_24 rfl rfl ?_
    obtain ⟨h9, hf⟩ := chk_s hf
    obtain ⟨b10, hf⟩ := chk_s hf
    refine g_aald2 (pc' := 26) dX8_isThere_25 rfl h9 (inB_in b10) ?_
    refine g_iload_n (pc' := 27) dX8_isThere_26 rfl rfl ?_
    obtain ⟨h11, hf⟩ := chk_s hf
    obtain ⟨b12, hf⟩ := chk_s hf
    refine g_iald (pc' := 28) dX8_isThere_27 rfl h11 (inB_in b12) ?_
    obtain ⟨r14, M13, e14, hf⟩ := bnd_some hf
    refine g_callVi (pc' := 31) (k' := 0) (u' := 0) (fr2 := 1) (As := [aI r6, aI (mI M5 (mR M5 (mR M5 v0 7) v2.toNatClampNeg) r6.toNatClampNeg)]) (b := v0) (st := []) cf_X8_has q_1130 (by omega) (ci := 8) rfl rfl (by decide) dX8_isThere_28 rfl rfl rfl (Nat.le_of_ble_eq_true rfl) (Or.inl rfl) (Nat.le_refl _) (Nat.le_refl _) (Nat.le_refl _) (Nat.le_refl _) h8 (s_X8_has v0 r6 (mI M5 (mR M5 (mR M5 v0 7) v2.toNatClampNeg) r6.toNatClampNeg) M5 _ e14) ?_
    refine g_if_eq (pc' := 34) 71 dX8_isThere_31 rfl (by decide) (fun c15 => ?_) (fun c15 => ?_)
    · have hf := ite_t c15 hf
      refine g_iconst (pc' := 72) (0 : Int32) dX8_isThere_71 rfl (by decide) ?_
      cases hf
      exact g_zreturn dX8_isThere_72 rfl (Or.inl rfl) (Nat.le_of_ble_eq_true rfl) (Nat.le_of_ble_eq_true rfl)
    · have hf := ite_f c15 hf
      refine g_aload_n (pc' := 35) dX8_isThere_34 rfl rfl ?_
      obtain ⟨h16, hf⟩ := chk_s hf
      refine g_getR (pc' := 38) 8 6 rfl rfl (by decide) inX8 (by decide) rfl rfl q_1095 dX8_isThere_35 rfl h16 ?_
      obtain ⟨h17, hf⟩ := chk_s hf
      refine g_getR (pc' := 41) 7 0 rfl rfl (by decide) inX7 (by decide) rfl rfl q_1105 dX8_isThere_38 rfl h17 ?_
      refine g_iload_n (pc' := 42) dX8_isThere_41 rfl rfl ?_
      obtain ⟨h18, hf⟩ := chk_s hf
      obtain ⟨b19, hf⟩ := chk_s hf
      refine g_aald (pc' := 43) (t0 := 2) (fun _ => rfl) (by decide) dX8_isThere_42 rfl h18 (inB_in b19) ?_
      obtain ⟨h20, hf⟩ := chk_s hf
      refine g_getR (pc' := 46) 2 1 rfl rfl (by decide) inX2 (by decide) rfl rfl q_1128 dX8_isThere_43 rfl h20 ?_
      refine g_aload_n (pc' := 47) dX8_isThere_46 rfl rfl ?_
      refine g_getR (pc' := 50) 8 7 rfl rfl (by decide) inX8 (by decide) rfl rfl q_74 dX8_isThere_47 rfl h16 ?_
      refine g_iload_n (pc' := 51) dX8_isThere_50 rfl rfl ?_
      obtain ⟨h21, hf⟩ := chk_s hf
      obtain ⟨b22, hf⟩ := chk_s hf
      refine g_aald2 (pc' := 52) dX8_isThere_51 rfl h21 (inB_in b22) ?_
      refine g_iload_n (pc' := 53) dX8_isThere_52 rfl rfl ?_
      obtain ⟨h23, hf⟩ := chk_s hf
      obtain ⟨b24, hf⟩ := chk_s hf
      refine g_iald (pc' := 54) dX8_isThere_53 rfl h23 (inB_in b24) ?_
      obtain ⟨h25, hf⟩ := chk_s hf
      obtain ⟨b26, hf⟩ := chk_s hf
      refine g_iald (pc' := 55) dX8_isThere_54 rfl h25 (inB_in b26) ?_
      refine g_aload_n (pc' := 56) dX8_isThere_55 rfl rfl ?_
      refine g_getR (pc' := 59) 8 5 rfl rfl (by decide) inX8 (by decide) rfl rfl q_1094 dX8_isThere_56 rfl h16 ?_
      obtain ⟨h27, hf⟩ := chk_s hf
      refine g_getR (pc' := 62) 5 5 rfl rfl (by decide) inX5 (by decide) rfl rfl q_1129 dX8_isThere_59 rfl h27 ?_
      refine g_iload_n (pc' := 63) dX8_isThere_62 rfl rfl ?_
      obtain ⟨h28, hf⟩ := chk_s hf
      obtain ⟨b29, hf⟩ := chk_s hf
      refine g_iald (pc' := 64) dX8_isThere_63 rfl h28 (inB_in b29) ?_
      refine g_icmp_lt (pc' := 67) 71 dX8_isThere_64 rfl (by decide) (fun c30 => ?_) (fun c30 => ?_)
      · have hf := ite_t c30 hf
        refine g_iconst (pc' := 72) (0 : Int32) dX8_isThere_71 rfl (by decide) ?_
        cases hf
        exact g_zreturn dX8_isThere_72 rfl (Or.inl rfl) (Nat.le_of_ble_eq_true rfl) (Nat.le_of_ble_eq_true rfl)
      · have hf := ite_f c30 hf
        refine g_iconst (pc' := 68) (1 : Int32) dX8_isThere_67 rfl (by decide) ?_
        refine g_goto (pc' := 72) dX8_isThere_68 (by decide) ?_
        cases hf
        exact g_zreturn dX8_isThere_72 rfl (Or.inr rfl) (Nat.le_of_ble_eq_true rfl) (Nat.le_of_ble_eq_true rfl)
def f_X8_put_16 (v0 : Nat) (M : Mem) : Option (Unit × Mem) :=
  if mK M v0 = 9 then
    ap (sI M v0 2 ((mI M v0 2) + (1 : Int32))) fun M2 =>
    some ((), M2)
  else none
def f_X8_put (v0 : Nat) (v1 : Int32) (M : Mem) : Option (Unit × Mem) :=
  if mK M v0 = 9 then
    if (mI M v0 2) = (mI M v0 1) then
      ap (sI M v0 0 v1) fun M3 =>
      f_X8_put_16 v0 M3
    else
      f_X8_put_16 v0 M
  else none
theorem s_X8_put_16 (v0 : Nat) (M : Mem) (r : (Unit × Mem)) (hf : f_X8_put_16 v0 M = some r) : G mi_X8_put 1 (oU r.1) r.2 16 [some (aR v0), none] [] M 0 0 := by
  unfold f_X8_put_16 at hf
  refine g_aload_n (pc' := 17) dX8_put_16 rfl rfl ?_
  refine g_dup (pc' := 18) dX8_put_17 rfl rfl ?_
  obtain ⟨h1, hf⟩ := chk_s hf
  refine g_getI (pc' := 21) 8 2 rfl rfl (by decide) inX8 (by decide) rfl rfl q_1098 dX8_put_18 rfl h1 ?_
  refine g_iconst (pc' := 22) (1 : Int32) dX8_put_21 rfl (by decide) ?_
  refine g_iadd (pc' := 23) dX8_put_22 rfl ?_
  refine g_putI (pc' := 26) 8 2 rfl rfl (by decide) inX8 tyX8_ok nmX8 (by decide) rfl rfl rfl rfl q_1098 dX8_put_23 rfl h1 (gM fun M2 hM2 => ?_)
  have hf := ap_eq hf hM2
  cases hf
  exact g_return dX8_put_26 rfl (Nat.le_of_ble_eq_true rfl) (Nat.le_of_ble_eq_true rfl)
theorem s_X8_put (v0 : Nat) (v1 : Int32) (M : Mem) (r : (Unit × Mem)) (hf : f_X8_put v0 v1 M = some r) : Sem mi_X8_put (1) [aR v0, aI v1] M (oU r.1) r.2 := by
  unfold f_X8_put at hf
  refine sem_of (by decide) rfl rfl rfl (Nat.le_of_ble_eq_true rfl) (lv := [some (aR v0), some (aI v1)]) rfl ?_
  refine g_aload_n (pc' := 1) dX8_put_0 rfl rfl ?_
  obtain ⟨h1, hf⟩ := chk_s hf
  refine g_getI (pc' := 4) 8 2 rfl rfl (by decide) inX8 (by decide) rfl rfl q_1098 dX8_put_1 rfl h1 ?_
  refine g_aload_n (pc' := 5) dX8_put_4 rfl rfl ?_
  refine g_getI (pc' := 8) 8 1 rfl rfl (by decide) inX8 (by decide) rfl rfl q_1097 dX8_put_5 rfl h1 ?_
  refine g_icmp_ne (pc' := 11) 16 dX8_put_8 rfl (by decide) (fun c2 => ?_) (fun c2 => ?_)
  · have hf := ite_f c2 hf
    refine g_mask [true, false] rfl ?_
    exact s_X8_put_16 v0 M _ hf
  · have hf := ite_t c2 hf
    refine g_aload_n (pc' := 12) dX8_put_11 rfl rfl ?_
    refine g_iload_n (pc' := 13) dX8_put_12 rfl rfl ?_
    refine g_putI (pc' := 16) 8 0 rfl rfl (by decide) inX8 tyX8_ok nmX8 (by decide) rfl rfl rfl rfl q_1099 dX8_put_13 rfl h1 (gM fun M3 hM3 => ?_)
    have hf := ap_eq hf hM3
    refine g_mask [true, false] rfl ?_
    exact s_X8_put_16 v0 M3 _ hf
def f_X8_beginAt_47 (k2 : Nat → Int32 → Int32 → Int32 → Mem → Option (Unit × Mem)) (v0 : Nat) (v1 : Int32) (v2 : Int32) (v3 : Int32) (M : Mem) : Option (Unit × Mem) :=
  k2 v0 v1 v2 (v3 + 1) M
def f_X8_beginAt_2 : Nat → Nat → Int32 → Int32 → Int32 → Mem → Option (Unit × Mem)
  | 0, _, _, _, _, _ => none
  | n + 1, v0, v1, v2, v3, M =>
    if mK M v0 = 9 then
      if mK M (mR M v0 5) = 6 then
        if (mI M (mR M v0 5) 1) ≤ v3 then
          some ((), M)
        else
          if mK M (mR M (mR M v0 5) 10) = 21 then
            if inB v1 (mN M (mR M (mR M v0 5) 10)) = true then
              if ((((mI M (mR M (mR M v0 5) 10) v1.toNatClampNeg).toUInt32 >>> (v3.toUInt32 &&& Int32.toUInt32 31)).toInt32) &&& (1 : Int32)) = 0 then
                f_X8_beginAt_47 (f_X8_beginAt_2 n) v0 v1 v2 v3 M
              else
                if mK M (mR M v0 7) = 25 then
                  if inB (v2 + (1 : Int32)) (mN M (mR M v0 7)) = true then
                    if inB v2 (mN M (mR M v0 7)) = true then
                      if mK M (mR M (mR M v0 7) v2.toNatClampNeg) = 21 then
                        if inB v3 (mN M (mR M (mR M v0 7) v2.toNatClampNeg)) = true then
                          if mK M (mR M (mR M v0 7) (v2 + (1 : Int32)).toNatClampNeg) = 21 then
                            if inB v3 (mN M (mR M (mR M v0 7) (v2 + (1 : Int32)).toNatClampNeg)) = true then
                              ap (sI M (mR M (mR M v0 7) (v2 + (1 : Int32)).toNatClampNeg) v3.toNatClampNeg (mI M (mR M (mR M v0 7) v2.toNatClampNeg) v3.toNatClampNeg)) fun M14 =>
                              f_X8_beginAt_47 (f_X8_beginAt_2 n) v0 v1 v2 v3 M14
                            else none
                          else none
                        else none
                      else none
                    else none
                  else none
                else none
            else none
          else none
      else none
    else none
def f_X8_beginAt (v0 : Nat) (v1 : Int32) (v2 : Int32) (M : Mem) : Option (Unit × Mem) :=
  f_X8_beginAt_2 FUEL v0 v1 v2 (0 : Int32) M
theorem s_X8_beginAt_47 (k2 : Nat → Int32 → Int32 → Int32 → Mem → Option (Unit × Mem)) (hk2 : ∀ (v0 : Nat) (v1 : Int32) (v2 : Int32) (v3 : Int32) (M : Mem) (r : (Unit × Mem)), k2 v0 v1 v2 v3 M = some r → G mi_X8_beginAt 1 (oU r.1) r.2 2 [some (aR v0), some (aI v1), some (aI v2), some (aI v3)] [] M 0 0) (v0 : Nat) (v1 : Int32) (v2 : Int32) (v3 : Int32) (M : Mem) (r : (Unit × Mem)) (hf : f_X8_beginAt_47 k2 v0 v1 v2 v3 M = some r) : G mi_X8_beginAt 1 (oU r.1) r.2 47 [some (aR v0), some (aI v1), some (aI v2), some (aI v3)] [] M 0 0 := by
  unfold f_X8_beginAt_47 at hf
  refine g_iinc (pc' := 50) (lv' := [some (aR v0), some (aI v1), some (aI v2), some (aI (v3 + 1))]) (v3 + 1) dX8_beginAt_47 rfl rfl (by rfl) rfl (by decide) rfl ?_
  refine g_goto (pc' := 2) dX8_beginAt_50 (by decide) ?_
  exact hk2 v0 v1 v2 (v3 + 1) M _ hf
theorem s_X8_beginAt_2 : ∀ (n : Nat) (v0 : Nat) (v1 : Int32) (v2 : Int32) (v3 : Int32) (M : Mem) (r : (Unit × Mem)), f_X8_beginAt_2 n v0 v1 v2 v3 M = some r → G mi_X8_beginAt 1 (oU r.1) r.2 2 [some (aR v0), some (aI v1), some (aI v2), some (aI v3)] [] M 0 0 := by
  intro n
  induction n with
  | zero => intro v0 v1 v2 v3 M r hf; cases hf
  | succ n ih =>
    intro v0 v1 v2 v3 M r hf
    unfold f_X8_beginAt_2 at hf
    refine g_iload_n (pc' := 3) dX8_beginAt_2 rfl rfl ?_
    refine g_aload_n (pc' := 4) dX8_beginAt_3 rfl rfl ?_
    obtain ⟨h1, hf⟩ := chk_s hf
    refine g_getR (pc' := 7) 8 5 rfl rfl (by decide) inX8 (by decide) rfl rfl q_1094 dX8_beginAt_4 rfl h1 ?_
    obtain ⟨h2, hf⟩ := chk_s hf
    refine g_getI (pc' := 10) 5 1 rfl rfl (by decide) inX5 (by decide) rfl rfl q_1104 dX8_beginAt_7 rfl h2 ?_
    refine g_icmp_ge (pc' := 13) 53 dX8_beginAt_10 rfl (by decide) (fun c3 => ?_) (fun c3 => ?_)
    · have hf := ite_t c3 hf
      cases hf
      exact g_return dX8_beginAt_53 rfl (Nat.le_of_ble_eq_true rfl) (Nat.le_of_ble_eq_true rfl)
    · have hf := ite_f c3 hf
      refine g_aload_n (pc' := 14) dX8_beginAt_13 rfl rfl ?_
      refine g_getR (pc' := 17) 8 5 rfl rfl (by decide) inX8 (by decide) rfl rfl q_1094 dX8_beginAt_14 rfl h1 ?_
      refine g_getR (pc' := 20) 5 10 rfl rfl (by decide) inX5 (by decide) rfl rfl q_1113 dX8_beginAt_17 rfl h2 ?_
      refine g_iload_n (pc' := 21) dX8_beginAt_20 rfl rfl ?_
      obtain ⟨h4, hf⟩ := chk_s hf
      obtain ⟨b5, hf⟩ := chk_s hf
      refine g_iald (pc' := 22) dX8_beginAt_21 rfl h4 (inB_in b5) ?_
      refine g_iload_n (pc' := 23) dX8_beginAt_22 rfl rfl ?_
      refine g_iushr (pc' := 24) dX8_beginAt_23 rfl ?_
      refine g_iconst (pc' := 25) (1 : Int32) dX8_beginAt_24 rfl (by decide) ?_
      refine g_iand (pc' := 26) dX8_beginAt_25 rfl ?_
      refine g_if_eq (pc' := 29) 47 dX8_beginAt_26 rfl (by decide) (fun c6 => ?_) (fun c6 => ?_)
      · have hf := ite_t c6 hf
        exact s_X8_beginAt_47 (f_X8_beginAt_2 n) ih v0 v1 v2 v3 M _ hf
      · have hf := ite_f c6 hf
        refine g_aload_n (pc' := 30) dX8_beginAt_29 rfl rfl ?_
        refine g_getR (pc' := 33) 8 7 rfl rfl (by decide) inX8 (by decide) rfl rfl q_74 dX8_beginAt_30 rfl h1 ?_
        refine g_iload_n (pc' := 34) dX8_beginAt_33 rfl rfl ?_
        refine g_iconst (pc' := 35) (1 : Int32) dX8_beginAt_34 rfl (by decide) ?_
        refine g_iadd (pc' := 36) dX8_beginAt_35 rfl ?_
        obtain ⟨h7, hf⟩ := chk_s hf
        obtain ⟨b8, hf⟩ := chk_s hf
        refine g_aald2 (pc' := 37) dX8_beginAt_36 rfl h7 (inB_in b8) ?_
        refine g_iload_n (pc' := 38) dX8_beginAt_37 rfl rfl ?_
        refine g_aload_n (pc' := 39) dX8_beginAt_38 rfl rfl ?_
        refine g_getR (pc' := 42) 8 7 rfl rfl (by decide) inX8 (by decide) rfl rfl q_74 dX8_beginAt_39 rfl h1 ?_
        refine g_iload_n (pc' := 43) dX8_beginAt_42 rfl rfl ?_
        obtain ⟨b9, hf⟩ := chk_s hf
        refine g_aald2 (pc' := 44) dX8_beginAt_43 rfl h7 (inB_in b9) ?_
        refine g_iload_n (pc' := 45) dX8_beginAt_44 rfl rfl ?_
        obtain ⟨h10, hf⟩ := chk_s hf
        obtain ⟨b11, hf⟩ := chk_s hf
        refine g_iald (pc' := 46) dX8_beginAt_45 rfl h10 (inB_in b11) ?_
        obtain ⟨h12, hf⟩ := chk_s hf
        obtain ⟨b13, hf⟩ := chk_s hf
        refine g_iast (pc' := 47) dX8_beginAt_46 rfl h12 (inB_in b13) (gM fun M14 hM14 => ?_)
        have hf := ap_eq hf hM14
        exact s_X8_beginAt_47 (f_X8_beginAt_2 n) ih v0 v1 v2 v3 M14 _ hf
theorem s_X8_beginAt (v0 : Nat) (v1 : Int32) (v2 : Int32) (M : Mem) (r : (Unit × Mem)) (hf : f_X8_beginAt v0 v1 v2 M = some r) : Sem mi_X8_beginAt (1) [aR v0, aI v1, aI v2] M (oU r.1) r.2 := by
  unfold f_X8_beginAt at hf
  refine sem_of (by decide) rfl rfl rfl (Nat.le_of_ble_eq_true rfl) (lv := [some (aR v0), some (aI v1), some (aI v2), none]) rfl ?_
  refine g_iconst (pc' := 1) (0 : Int32) dX8_beginAt_0 rfl (by decide) ?_
  refine g_istore_n (pc' := 2) (lv' := [some (aR v0), some (aI v1), some (aI v2), some (aI (0 : Int32))]) dX8_beginAt_1 rfl rfl (by decide) rfl ?_
  exact s_X8_beginAt_2 FUEL v0 v1 v2 (0 : Int32) M _ hf
def f_X8_goOn_76 (k14 : Nat → Int32 → Int32 → Int32 → Int32 → Int32 → Mem → Option (Int32 × Mem)) (v0 : Nat) (v1 : Int32) (v2 : Int32) (v3 : Int32) (v4 : Int32) (v5 : Int32) (M : Mem) : Option (Int32 × Mem) :=
  k14 v0 v1 v2 v3 v4 (v5 + 1) M
def f_X8_goOn_14 : Nat → Nat → Int32 → Int32 → Int32 → Int32 → Int32 → Mem → Option (Int32 × Mem)
  | 0, _, _, _, _, _, _, _ => none
  | n + 1, v0, v1, v2, v3, v4, v5, M =>
    if mK M v0 = 9 then
      if mK M (mR M v0 5) = 6 then
        if (mI M (mR M v0 5) 1) ≤ v5 then
          if mK M (mR M v0 7) = 25 then
            if inB v3 (mN M (mR M v0 7)) = true then
              if mK M (mR M (mR M v0 7) v3.toNatClampNeg) = 21 then
                if inB v2 (mN M (mR M (mR M v0 7) v3.toNatClampNeg)) = true then
                  bnd (f_X8_has v0 v2 (mI M (mR M (mR M v0 7) v3.toNatClampNeg) v2.toNatClampNeg) M) fun r9 M8 =>
                  if r9 = 0 then
                    some ((0 : Int32), M8)
                  else
                    if mK M8 v0 = 9 then
                      if mK M8 (mR M8 v0 6) = 8 then
                        if mK M8 (mR M8 (mR M8 v0 6) 0) = 23 then
                          if inB v2 (mN M8 (mR M8 (mR M8 v0 6) 0)) = true then
                            if mK M8 (mR M8 (mR M8 (mR M8 v0 6) 0) v2.toNatClampNeg) = 3 then
                              if mK M8 (mR M8 (mR M8 (mR M8 (mR M8 v0 6) 0) v2.toNatClampNeg) 0) = 21 then
                                if inB (mI M (mR M (mR M v0 7) v3.toNatClampNeg) v2.toNatClampNeg) (mN M8 (mR M8 (mR M8 (mR M8 (mR M8 v0 6) 0) v2.toNatClampNeg) 0)) = true then
                                  if (mI M8 (mR M8 (mR M8 (mR M8 (mR M8 v0 6) 0) v2.toNatClampNeg) 0) (mI M (mR M (mR M v0 7) v3.toNatClampNeg) v2.toNatClampNeg).toNatClampNeg) = v4 then
                                    some ((1 : Int32), M8)
                                  else
                                    some ((0 : Int32), M8)
                                else none
                              else none
                            else none
                          else none
                        else none
                      else none
                    else none
                else none
              else none
            else none
          else none
        else
          if mK M (mR M (mR M v0 5) 10) = 21 then
            if inB v1 (mN M (mR M (mR M v0 5) 10)) = true then
              if ((((mI M (mR M (mR M v0 5) 10) v1.toNatClampNeg).toUInt32 >>> (v5.toUInt32 &&& Int32.toUInt32 31)).toInt32) &&& (1 : Int32)) = 0 then
                f_X8_goOn_76 (f_X8_goOn_14 n) v0 v1 v2 v3 v4 v5 M
              else
                if mK M (mR M v0 7) = 25 then
                  if inB v3 (mN M (mR M v0 7)) = true then
                    if mK M (mR M v0 6) = 8 then
                      if mK M (mR M (mR M v0 6) 0) = 23 then
                        if inB v5 (mN M (mR M (mR M v0 6) 0)) = true then
                          if mK M (mR M (mR M v0 7) v3.toNatClampNeg) = 21 then
                            if inB v5 (mN M (mR M (mR M v0 7) v3.toNatClampNeg)) = true then
                              if mK M (mR M (mR M (mR M v0 6) 0) v5.toNatClampNeg) = 3 then
                                bnd (f_X2_behind (mR M (mR M (mR M v0 6) 0) v5.toNatClampNeg) (mI M (mR M (mR M v0 7) v3.toNatClampNeg) v5.toNatClampNeg) v4 M) fun r31 M30 =>
                                if mK M30 (mR M (mR M v0 7) v3.toNatClampNeg) = 21 then
                                  if inB v5 (mN M30 (mR M (mR M v0 7) v3.toNatClampNeg)) = true then
                                    ap (sI M30 (mR M (mR M v0 7) v3.toNatClampNeg) v5.toNatClampNeg r31) fun M34 =>
                                    f_X8_goOn_76 (f_X8_goOn_14 n) v0 v1 v2 v3 v4 v5 M34
                                  else none
                                else none
                              else none
                            else none
                          else none
                        else none
                      else none
                    else none
                  else none
                else none
            else none
          else none
      else none
    else none
def f_X8_goOn (v0 : Nat) (v1 : Int32) (v2 : Int32) (v3 : Int32) (M : Mem) : Option (Int32 × Mem) :=
  if mK M v0 = 9 then
    if mK M (mR M v0 5) = 6 then
      if mK M (mR M (mR M v0 5) 6) = 21 then
        if inB v1 (mN M (mR M (mR M v0 5) 6)) = true then
          f_X8_goOn_14 FUEL v0 v1 v2 v3 (mI M (mR M (mR M v0 5) 6) v1.toNatClampNeg) (0 : Int32) M
        else none
      else none
    else none
  else none
theorem s_X8_goOn_76 (k14 : Nat → Int32 → Int32 → Int32 → Int32 → Int32 → Mem → Option (Int32 × Mem)) (hk14 : ∀ (v0 : Nat) (v1 : Int32) (v2 : Int32) (v3 : Int32) (v4 : Int32) (v5 : Int32) (M : Mem) (r : (Int32 × Mem)), k14 v0 v1 v2 v3 v4 v5 M = some r → G mi_X8_goOn 2 (oI r.1) r.2 14 [some (aR v0), some (aI v1), some (aI v2), some (aI v3), some (aI v4), some (aI v5)] [] M 0 0) (v0 : Nat) (v1 : Int32) (v2 : Int32) (v3 : Int32) (v4 : Int32) (v5 : Int32) (M : Mem) (r : (Int32 × Mem)) (hf : f_X8_goOn_76 k14 v0 v1 v2 v3 v4 v5 M = some r) : G mi_X8_goOn 2 (oI r.1) r.2 76 [some (aR v0), some (aI v1), some (aI v2), some (aI v3), some (aI v4), some (aI v5)] [] M 0 0 := by
  unfold f_X8_goOn_76 at hf
  refine g_iinc (pc' := 79) (lv' := [some (aR v0), some (aI v1), some (aI v2), some (aI v3), some (aI v4), some (aI (v5 + 1))]) (v5 + 1) dX8_goOn_76 rfl rfl (by rfl) rfl (by decide) rfl ?_
  refine g_goto (pc' := 14) dX8_goOn_79 (by decide) ?_
  exact hk14 v0 v1 v2 v3 v4 (v5 + 1) M _ hf
theorem s_X8_goOn_14 : ∀ (n : Nat) (v0 : Nat) (v1 : Int32) (v2 : Int32) (v3 : Int32) (v4 : Int32) (v5 : Int32) (M : Mem) (r : (Int32 × Mem)), f_X8_goOn_14 n v0 v1 v2 v3 v4 v5 M = some r → G mi_X8_goOn 2 (oI r.1) r.2 14 [some (aR v0), some (aI v1), some (aI v2), some (aI v3), some (aI v4), some (aI v5)] [] M 0 0 := by
  intro n
  induction n with
  | zero => intro v0 v1 v2 v3 v4 v5 M r hf; cases hf
  | succ n ih =>
    intro v0 v1 v2 v3 v4 v5 M r hf
    unfold f_X8_goOn_14 at hf
    refine g_iload (pc' := 16) dX8_goOn_14 rfl rfl ?_
    refine g_aload_n (pc' := 17) dX8_goOn_16 rfl rfl ?_
    obtain ⟨h1, hf⟩ := chk_s hf
    refine g_getR (pc' := 20) 8 5 rfl rfl (by decide) inX8 (by decide) rfl rfl q_1094 dX8_goOn_17 rfl h1 ?_
    obtain ⟨h2, hf⟩ := chk_s hf
    refine g_getI (pc' := 23) 5 1 rfl rfl (by decide) inX5 (by decide) rfl rfl q_1104 dX8_goOn_20 rfl h2 ?_
    refine g_icmp_ge (pc' := 26) 82 dX8_goOn_23 rfl (by decide) (fun c3 => ?_) (fun c3 => ?_)
    · have hf := ite_t c3 hf
      refine g_aload_n (pc' := 83) dX8_goOn_82 rfl rfl ?_
      refine g_getR (pc' := 86) 8 7 rfl rfl (by decide) inX8 (by decide) rfl rfl q_74 dX8_goOn_83 rfl h1 ?_
      refine g_iload_n (pc' := 87) dX8_goOn_86 rfl rfl ?_
      obtain ⟨h4, hf⟩ := chk_s hf
      obtain ⟨b5, hf⟩ := chk_s hf
      refine g_aald2 (pc' := 88) dX8_goOn_87 rfl h4 (inB_in b5) ?_
      refine g_iload_n (pc' := 89) dX8_goOn_88 rfl rfl ?_
      obtain ⟨h6, hf⟩ := chk_s hf
      obtain ⟨b7, hf⟩ := chk_s hf
      refine g_iald (pc' := 90) dX8_goOn_89 rfl h6 (inB_in b7) ?_
      refine g_istore (pc' := 92) (lv' := [some (aR v0), some (aI v1), some (aI v2), some (aI v3), some (aI v4), some (aI (mI M (mR M (mR M v0 7) v3.toNatClampNeg) v2.toNatClampNeg))]) dX8_goOn_90 rfl rfl (by decide) rfl ?_
      refine g_aload_n (pc' := 93) dX8_goOn_92 rfl rfl ?_
      refine g_iload_n (pc' := 94) dX8_goOn_93 rfl rfl ?_
      refine g_iload (pc' := 96) dX8_goOn_94 rfl rfl ?_
      obtain ⟨r9, M8, e9, hf⟩ := bnd_some hf
      refine g_callVi (pc' := 99) (k' := 0) (u' := 0) (fr2 := 1) (As := [aI v2, aI (mI M (mR M (mR M v0 7) v3.toNatClampNeg) v2.toNatClampNeg)]) (b := v0) (st := []) cf_X8_has q_1130 (by omega) (ci := 8) rfl rfl (by decide) dX8_goOn_96 rfl rfl rfl (Nat.le_of_ble_eq_true rfl) (Or.inl rfl) (Nat.le_refl _) (Nat.le_refl _) (Nat.le_refl _) (Nat.le_refl _) h1 (s_X8_has v0 v2 (mI M (mR M (mR M v0 7) v3.toNatClampNeg) v2.toNatClampNeg) M _ e9) ?_
      refine g_if_eq (pc' := 102) 126 dX8_goOn_99 rfl (by decide) (fun c10 => ?_) (fun c10 => ?_)
      · have hf := ite_t c10 hf
        refine g_iconst (pc' := 127) (0 : Int32) dX8_goOn_126 rfl (by decide) ?_
        cases hf
        exact g_zreturn dX8_goOn_127 rfl (Or.inl rfl) (Nat.le_of_ble_eq_true rfl) (Nat.le_of_ble_eq_true rfl)
      · have hf := ite_f c10 hf
        refine g_aload_n (pc' := 103) dX8_goOn_102 rfl rfl ?_
        obtain ⟨h11, hf⟩ := chk_s hf
        refine g_getR (pc' := 106) 8 6 rfl rfl (by decide) inX8 (by decide) rfl rfl q_1095 dX8_goOn_103 rfl h11 ?_
        obtain ⟨h12, hf⟩ := chk_s hf
        refine g_getR (pc' := 109) 7 0 rfl rfl (by decide) inX7 (by decide) rfl rfl q_1105 dX8_goOn_106 rfl h12 ?_
        refine g_iload_n (pc' := 110) dX8_goOn_109 rfl rfl ?_
        obtain ⟨h13, hf⟩ := chk_s hf
        obtain ⟨b14, hf⟩ := chk_s hf
        refine g_aald (pc' := 111) (t0 := 2) (fun _ => rfl) (by decide) dX8_goOn_110 rfl h13 (inB_in b14) ?_
        obtain ⟨h15, hf⟩ := chk_s hf
        refine g_getR (pc' := 114) 2 0 rfl rfl (by decide) inX2 (by decide) rfl rfl q_1158 dX8_goOn_111 rfl h15 ?_
        refine g_iload (pc' := 116) dX8_goOn_114 rfl rfl ?_
        obtain ⟨h16, hf⟩ := chk_s hf
        obtain ⟨b17, hf⟩ := chk_s hf
        refine g_iald (pc' := 117) dX8_goOn_116 rfl h16 (inB_in b17) ?_
        refine g_iload (pc' := 119) dX8_goOn_117 rfl rfl ?_
        refine g_icmp_ne (pc' := 122) 126 dX8_goOn_119 rfl (by decide) (fun c18 => ?_) (fun c18 => ?_)
        · have hf := ite_f c18 hf
          refine g_iconst (pc' := 127) (0 : Int32) dX8_goOn_126 rfl (by decide) ?_
          cases hf
          exact g_zreturn dX8_goOn_127 rfl (Or.inl rfl) (Nat.le_of_ble_eq_true rfl) (Nat.le_of_ble_eq_true rfl)
        · have hf := ite_t c18 hf
          refine g_iconst (pc' := 123) (1 : Int32) dX8_goOn_122 rfl (by decide) ?_
          refine g_goto (pc' := 127) dX8_goOn_123 (by decide) ?_
          cases hf
          exact g_zreturn dX8_goOn_127 rfl (Or.inr rfl) (Nat.le_of_ble_eq_true rfl) (Nat.le_of_ble_eq_true rfl)
    · have hf := ite_f c3 hf
      refine g_aload_n (pc' := 27) dX8_goOn_26 rfl rfl ?_
      refine g_getR (pc' := 30) 8 5 rfl rfl (by decide) inX8 (by decide) rfl rfl q_1094 dX8_goOn_27 rfl h1 ?_
      refine g_getR (pc' := 33) 5 10 rfl rfl (by decide) inX5 (by decide) rfl rfl q_1113 dX8_goOn_30 rfl h2 ?_
      refine g_iload_n (pc' := 34) dX8_goOn_33 rfl rfl ?_
      obtain ⟨h19, hf⟩ := chk_s hf
      obtain ⟨b20, hf⟩ := chk_s hf
      refine g_iald (pc' := 35) dX8_goOn_34 rfl h19 (inB_in b20) ?_
      refine g_iload (pc' := 37) dX8_goOn_35 rfl rfl ?_
      refine g_iushr (pc' := 38) dX8_goOn_37 rfl ?_
      refine g_iconst (pc' := 39) (1 : Int32) dX8_goOn_38 rfl (by decide) ?_
      refine g_iand (pc' := 40) dX8_goOn_39 rfl ?_
      refine g_if_eq (pc' := 43) 76 dX8_goOn_40 rfl (by decide) (fun c21 => ?_) (fun c21 => ?_)
      · have hf := ite_t c21 hf
        exact s_X8_goOn_76 (f_X8_goOn_14 n) ih v0 v1 v2 v3 v4 v5 M _ hf
      · have hf := ite_f c21 hf
        refine g_aload_n (pc' := 44) dX8_goOn_43 rfl rfl ?_
        refine g_getR (pc' := 47) 8 7 rfl rfl (by decide) inX8 (by decide) rfl rfl q_74 dX8_goOn_44 rfl h1 ?_
        refine g_iload_n (pc' := 48) dX8_goOn_47 rfl rfl ?_
        obtain ⟨h22, hf⟩ := chk_s hf
        obtain ⟨b23, hf⟩ := chk_s hf
        refine g_aald2 (pc' := 49) dX8_goOn_48 rfl h22 (inB_in b23) ?_
        refine g_iload (pc' := 51) dX8_goOn_49 rfl rfl ?_
        refine g_aload_n (pc' := 52) dX8_goOn_51 rfl rfl ?_
        refine g_getR (pc' := 55) 8 6 rfl rfl (by decide) inX8 (by decide) rfl rfl q_1095 dX8_goOn_52 rfl h1 ?_
        obtain ⟨h24, hf⟩ := chk_s hf
        refine g_getR (pc' := 58) 7 0 rfl rfl (by decide) inX7 (by decide) rfl rfl q_1105 dX8_goOn_55 rfl h24 ?_
        refine g_iload (pc' := 60) dX8_goOn_58 rfl rfl ?_
        obtain ⟨h25, hf⟩ := chk_s hf
        obtain ⟨b26, hf⟩ := chk_s hf
        refine g_aald (pc' := 61) (t0 := 2) (fun _ => rfl) (by decide) dX8_goOn_60 rfl h25 (inB_in b26) ?_
        refine g_aload_n (pc' := 62) dX8_goOn_61 rfl rfl ?_
        refine g_getR (pc' := 65) 8 7 rfl rfl (by decide) inX8 (by decide) rfl rfl q_74 dX8_goOn_62 rfl h1 ?_
        refine g_iload_n (pc' := 66) dX8_goOn_65 rfl rfl ?_
        refine g_aald2 (pc' := 67) dX8_goOn_66 rfl h22 (inB_in b23) ?_
        refine g_iload (pc' := 69) dX8_goOn_67 rfl rfl ?_
        obtain ⟨h27, hf⟩ := chk_s hf
        obtain ⟨b28, hf⟩ := chk_s hf
        refine g_iald (pc' := 70) dX8_goOn_69 rfl h27 (inB_in b28) ?_
        refine g_iload (pc' := 72) dX8_goOn_70 rfl rfl ?_
        obtain ⟨h29, hf⟩ := chk_s hf
        obtain ⟨r31, M30, e31, hf⟩ := bnd_some hf
        refine g_callVi (pc' := 75) (k' := 0) (u' := 0) (fr2 := 1) (As := [aI (mI M (mR M (mR M v0 7) v3.toNatClampNeg) v5.toNatClampNeg), aI v4]) (b := (mR M (mR M (mR M v0 6) 0) v5.toNatClampNeg)) (st := [aI v5, aR (mR M (mR M v0 7) v3.toNatClampNeg)]) cf_X2_behind q_1159 (by omega) (ci := 2) rfl rfl (by decide) dX8_goOn_72 rfl rfl rfl (Nat.le_of_ble_eq_true rfl) (Or.inl rfl) (Nat.le_refl _) (Nat.le_refl _) (Nat.le_refl _) (Nat.le_refl _) h29 (s_X2_behind (mR M (mR M (mR M v0 6) 0) v5.toNatClampNeg) (mI M (mR M (mR M v0 7) v3.toNatClampNeg) v5.toNatClampNeg) v4 M _ e31) ?_
        obtain ⟨h32, hf⟩ := chk_s hf
        obtain ⟨b33, hf⟩ := chk_s hf
        refine g_iast (pc' := 76) dX8_goOn_75 rfl h32 (inB_in b33) (gM fun M34 hM34 => ?_)
        have hf := ap_eq hf hM34
        refine g_widen (k' := 0) (u' := 0) (by omega) (by omega) ?_
        exact s_X8_goOn_76 (f_X8_goOn_14 n) ih v0 v1 v2 v3 v4 v5 M34 _ hf
theorem s_X8_goOn (v0 : Nat) (v1 : Int32) (v2 : Int32) (v3 : Int32) (M : Mem) (r : (Int32 × Mem)) (hf : f_X8_goOn v0 v1 v2 v3 M = some r) : Sem mi_X8_goOn (2) [aR v0, aI v1, aI v2, aI v3] M (oI r.1) r.2 := by
  unfold f_X8_goOn at hf
  refine sem_of (by decide) rfl rfl rfl (Nat.le_of_ble_eq_true rfl) (lv := [some (aR v0), some (aI v1), some (aI v2), some (aI v3), none, none]) rfl ?_
  refine g_aload_n (pc' := 1) dX8_goOn_0 rfl rfl ?_
  obtain ⟨h1, hf⟩ := chk_s hf
  refine g_getR (pc' := 4) 8 5 rfl rfl (by decide) inX8 (by decide) rfl rfl q_1094 dX8_goOn_1 rfl h1 ?_
  obtain ⟨h2, hf⟩ := chk_s hf
  refine g_getR (pc' := 7) 5 6 rfl rfl (by decide) inX5 (by decide) rfl rfl q_1157 dX8_goOn_4 rfl h2 ?_
  refine g_iload_n (pc' := 8) dX8_goOn_7 rfl rfl ?_
  obtain ⟨h3, hf⟩ := chk_s hf
  obtain ⟨b4, hf⟩ := chk_s hf
  refine g_iald (pc' := 9) dX8_goOn_8 rfl h3 (inB_in b4) ?_
  refine g_istore (pc' := 11) (lv' := [some (aR v0), some (aI v1), some (aI v2), some (aI v3), some (aI (mI M (mR M (mR M v0 5) 6) v1.toNatClampNeg)), none]) dX8_goOn_9 rfl rfl (by decide) rfl ?_
  refine g_iconst (pc' := 12) (0 : Int32) dX8_goOn_11 rfl (by decide) ?_
  refine g_istore (pc' := 14) (lv' := [some (aR v0), some (aI v1), some (aI v2), some (aI v3), some (aI (mI M (mR M (mR M v0 5) 6) v1.toNatClampNeg)), some (aI (0 : Int32))]) dX8_goOn_12 rfl rfl (by decide) rfl ?_
  exact s_X8_goOn_14 FUEL v0 v1 v2 v3 (mI M (mR M (mR M v0 5) 6) v1.toNatClampNeg) (0 : Int32) M _ hf
def f_X8_putNumber_37 (v0 : Nat) (v1 : Int32) (M : Mem) : Option (Unit × Mem) :=
  if mK M v0 = 9 then
    bnd (f_X8_put v0 ((48 : Int32) + (v1 - v1 / (10 : Int32) * (10 : Int32))) M) fun _ M2 =>
    some ((), M2)
  else none
def f_X8_putNumber_17 (v0 : Nat) (v1 : Int32) (M : Mem) : Option (Unit × Mem) :=
  if v1 < (10 : Int32) then
    f_X8_putNumber_37 v0 v1 M
  else
    if mK M v0 = 9 then
      bnd (f_X8_put v0 ((48 : Int32) + ((v1 / (10 : Int32)) - (v1 / (10 : Int32)) / (10 : Int32) * (10 : Int32))) M) fun _ M3 =>
      f_X8_putNumber_37 v0 v1 M3
    else none
def f_X8_putNumber (v0 : Nat) (v1 : Int32) (M : Mem) : Option (Unit × Mem) :=
  if v1 < (100 : Int32) then
    f_X8_putNumber_17 v0 v1 M
  else
    if mK M v0 = 9 then
      bnd (f_X8_put v0 ((48 : Int32) + (v1 / (100 : Int32))) M) fun _ M3 =>
      f_X8_putNumber_17 v0 v1 M3
    else none
theorem s_X8_putNumber_37 (v0 : Nat) (v1 : Int32) (M : Mem) (r : (Unit × Mem)) (hf : f_X8_putNumber_37 v0 v1 M = some r) : G mi_X8_putNumber 2 (oU r.1) r.2 37 [some (aR v0), some (aI v1)] [] M 0 0 := by
  unfold f_X8_putNumber_37 at hf
  refine g_aload_n (pc' := 38) dX8_putNumber_37 rfl rfl ?_
  refine g_bipush (pc' := 40) (48 : Int32) dX8_putNumber_38 rfl (by decide) ?_
  refine g_iload_n (pc' := 41) dX8_putNumber_40 rfl rfl ?_
  refine g_bipush (pc' := 43) (10 : Int32) dX8_putNumber_41 rfl (by decide) ?_
  refine g_irem (pc' := 44) dX8_putNumber_43 rfl (by decide) ?_
  refine g_iadd (pc' := 45) dX8_putNumber_44 rfl ?_
  obtain ⟨h1, hf⟩ := chk_s hf
  obtain ⟨_, M2, e3, hf⟩ := bnd_some hf
  refine g_callVv (pc' := 48) (k' := 0) (u' := 0) (fr2 := 1) (As := [aI ((48 : Int32) + (v1 - v1 / (10 : Int32) * (10 : Int32)))]) (b := v0) (st := []) cf_X8_put q_1114 (by omega) (ci := 8) rfl rfl (by decide) dX8_putNumber_45 rfl rfl rfl (Nat.le_of_ble_eq_true rfl) (Or.inl rfl) (Nat.le_refl _) (Nat.le_refl _) (Nat.le_refl _) (Nat.le_refl _) h1 (s_X8_put v0 ((48 : Int32) + (v1 - v1 / (10 : Int32) * (10 : Int32))) M _ e3) ?_
  cases hf
  exact g_return dX8_putNumber_48 rfl (Nat.le_of_ble_eq_true rfl) (Nat.le_of_ble_eq_true rfl)
theorem s_X8_putNumber_17 (v0 : Nat) (v1 : Int32) (M : Mem) (r : (Unit × Mem)) (hf : f_X8_putNumber_17 v0 v1 M = some r) : G mi_X8_putNumber 2 (oU r.1) r.2 17 [some (aR v0), some (aI v1)] [] M 0 0 := by
  unfold f_X8_putNumber_17 at hf
  refine g_iload_n (pc' := 18) dX8_putNumber_17 rfl rfl ?_
  refine g_bipush (pc' := 20) (10 : Int32) dX8_putNumber_18 rfl (by decide) ?_
  refine g_icmp_lt (pc' := 23) 37 dX8_putNumber_20 rfl (by decide) (fun c1 => ?_) (fun c1 => ?_)
  · have hf := ite_t c1 hf
    exact s_X8_putNumber_37 v0 v1 M _ hf
  · have hf := ite_f c1 hf
    refine g_aload_n (pc' := 24) dX8_putNumber_23 rfl rfl ?_
    refine g_bipush (pc' := 26) (48 : Int32) dX8_putNumber_24 rfl (by decide) ?_
    refine g_iload_n (pc' := 27) dX8_putNumber_26 rfl rfl ?_
    refine g_bipush (pc' := 29) (10 : Int32) dX8_putNumber_27 rfl (by decide) ?_
    refine g_idiv (pc' := 30) dX8_putNumber_29 rfl (by decide) ?_
    refine g_bipush (pc' := 32) (10 : Int32) dX8_putNumber_30 rfl (by decide) ?_
    refine g_irem (pc' := 33) dX8_putNumber_32 rfl (by decide) ?_
    refine g_iadd (pc' := 34) dX8_putNumber_33 rfl ?_
    obtain ⟨h2, hf⟩ := chk_s hf
    obtain ⟨_, M3, e4, hf⟩ := bnd_some hf
    refine g_callVv (pc' := 37) (k' := 0) (u' := 0) (fr2 := 1) (As := [aI ((48 : Int32) + ((v1 / (10 : Int32)) - (v1 / (10 : Int32)) / (10 : Int32) * (10 : Int32)))]) (b := v0) (st := []) cf_X8_put q_1114 (by omega) (ci := 8) rfl rfl (by decide) dX8_putNumber_34 rfl rfl rfl (Nat.le_of_ble_eq_true rfl) (Or.inl rfl) (Nat.le_refl _) (Nat.le_refl _) (Nat.le_refl _) (Nat.le_refl _) h2 (s_X8_put v0 ((48 : Int32) + ((v1 / (10 : Int32)) - (v1 / (10 : Int32)) / (10 : Int32) * (10 : Int32))) M _ e4) ?_
    refine g_widen (k' := 0) (u' := 0) (by omega) (by omega) ?_
    exact s_X8_putNumber_37 v0 v1 M3 _ hf
theorem s_X8_putNumber (v0 : Nat) (v1 : Int32) (M : Mem) (r : (Unit × Mem)) (hf : f_X8_putNumber v0 v1 M = some r) : Sem mi_X8_putNumber (2) [aR v0, aI v1] M (oU r.1) r.2 := by
  unfold f_X8_putNumber at hf
  refine sem_of (by decide) rfl rfl rfl (Nat.le_of_ble_eq_true rfl) (lv := [some (aR v0), some (aI v1)]) rfl ?_
  refine g_iload_n (pc' := 1) dX8_putNumber_0 rfl rfl ?_
  refine g_bipush (pc' := 3) (100 : Int32) dX8_putNumber_1 rfl (by decide) ?_
  refine g_icmp_lt (pc' := 6) 17 dX8_putNumber_3 rfl (by decide) (fun c1 => ?_) (fun c1 => ?_)
  · have hf := ite_t c1 hf
    exact s_X8_putNumber_17 v0 v1 M _ hf
  · have hf := ite_f c1 hf
    refine g_aload_n (pc' := 7) dX8_putNumber_6 rfl rfl ?_
    refine g_bipush (pc' := 9) (48 : Int32) dX8_putNumber_7 rfl (by decide) ?_
    refine g_iload_n (pc' := 10) dX8_putNumber_9 rfl rfl ?_
    refine g_bipush (pc' := 12) (100 : Int32) dX8_putNumber_10 rfl (by decide) ?_
    refine g_idiv (pc' := 13) dX8_putNumber_12 rfl (by decide) ?_
    refine g_iadd (pc' := 14) dX8_putNumber_13 rfl ?_
    obtain ⟨h2, hf⟩ := chk_s hf
    obtain ⟨_, M3, e4, hf⟩ := bnd_some hf
    refine g_callVv (pc' := 17) (k' := 0) (u' := 0) (fr2 := 1) (As := [aI ((48 : Int32) + (v1 / (100 : Int32)))]) (b := v0) (st := []) cf_X8_put q_1114 (by omega) (ci := 8) rfl rfl (by decide) dX8_putNumber_14 rfl rfl rfl (Nat.le_of_ble_eq_true rfl) (Or.inl rfl) (Nat.le_refl _) (Nat.le_refl _) (Nat.le_refl _) (Nat.le_refl _) h2 (s_X8_put v0 ((48 : Int32) + (v1 / (100 : Int32))) M _ e4) ?_
    refine g_widen (k' := 0) (u' := 0) (by omega) (by omega) ?_
    exact s_X8_putNumber_17 v0 v1 M3 _ hf
def f_X8_tellItem (kF : Nat → Int32 → Int32 → Mem → Option (Unit × Mem)) (v0 : Nat) (v1 : Int32) (v2 : Int32) (v3 : Int32) (M : Mem) : Option (Unit × Mem) :=
  if mK M v0 = 9 then
    if mK M (mR M v0 5) = 6 then
      if mK M (mR M (mR M v0 5) 4) = 21 then
        if inB v2 (mN M (mR M (mR M v0 5) 4)) = true then
          if (mI M (mR M (mR M v0 5) 4) v2.toNatClampNeg) = (-1 : Int32) then
            bnd (f_X8_put v0 (40 : Int32) M) fun _ M26 =>
            if mK M26 v0 = 9 then
              bnd (kF v0 v1 (v3 + (1 : Int32)) M26) fun _ M29 =>
              if mK M29 v0 = 9 then
                bnd (f_X8_put v0 (41 : Int32) M29) fun _ M32 =>
                some ((), M32)
              else none
            else none
          else
            if mK M (mR M v0 7) = 25 then
              if inB (v3 + (1 : Int32)) (mN M (mR M v0 7)) = true then
                if mK M (mR M (mR M v0 7) (v3 + (1 : Int32)).toNatClampNeg) = 21 then
                  if inB (mI M (mR M (mR M v0 5) 4) v2.toNatClampNeg) (mN M (mR M (mR M v0 7) (v3 + (1 : Int32)).toNatClampNeg)) = true then
                    bnd (f_X8_has v0 (mI M (mR M (mR M v0 5) 4) v2.toNatClampNeg) (mI M (mR M (mR M v0 7) (v3 + (1 : Int32)).toNatClampNeg) (mI M (mR M (mR M v0 5) 4) v2.toNatClampNeg).toNatClampNeg) M) fun r11 M10 =>
                    if r11 = 0 then
                      some ((), M10)
                    else
                      if mK M10 v0 = 9 then
                        if mK M10 (mR M10 v0 6) = 8 then
                          if mK M10 (mR M10 (mR M10 v0 6) 0) = 23 then
                            if inB (mI M (mR M (mR M v0 5) 4) v2.toNatClampNeg) (mN M10 (mR M10 (mR M10 v0 6) 0)) = true then
                              if mK M10 (mR M10 (mR M10 (mR M10 v0 6) 0) (mI M (mR M (mR M v0 5) 4) v2.toNatClampNeg).toNatClampNeg) = 3 then
                                if mK M10 (mR M10 v0 7) = 25 then
                                  if inB (v3 + (1 : Int32)) (mN M10 (mR M10 v0 7)) = true then
                                    if mK M10 (mR M10 (mR M10 v0 7) (v3 + (1 : Int32)).toNatClampNeg) = 21 then
                                      if inB (mI M (mR M (mR M v0 5) 4) v2.toNatClampNeg) (mN M10 (mR M10 (mR M10 v0 7) (v3 + (1 : Int32)).toNatClampNeg)) = true then
                                        if mK M10 (mR M10 (mR M10 (mR M10 (mR M10 v0 6) 0) (mI M (mR M (mR M v0 5) 4) v2.toNatClampNeg).toNatClampNeg) 2) = 21 then
                                          if inB (mI M10 (mR M10 (mR M10 v0 7) (v3 + (1 : Int32)).toNatClampNeg) (mI M (mR M (mR M v0 5) 4) v2.toNatClampNeg).toNatClampNeg) (mN M10 (mR M10 (mR M10 (mR M10 (mR M10 v0 6) 0) (mI M (mR M (mR M v0 5) 4) v2.toNatClampNeg).toNatClampNeg) 2)) = true then
                                            bnd (f_X8_putNumber v0 (mI M10 (mR M10 (mR M10 (mR M10 (mR M10 v0 6) 0) (mI M (mR M (mR M v0 5) 4) v2.toNatClampNeg).toNatClampNeg) 2) (mI M10 (mR M10 (mR M10 v0 7) (v3 + (1 : Int32)).toNatClampNeg) (mI M (mR M (mR M v0 5) 4) v2.toNatClampNeg).toNatClampNeg).toNatClampNeg) M10) fun _ M24 =>
                                            some ((), M24)
                                          else none
                                        else none
                                      else none
                                    else none
                                  else none
                                else none
                              else none
                            else none
                          else none
                        else none
                      else none
                  else none
                else none
              else none
            else none
        else none
      else none
    else none
  else none
theorem s_X8_tellItem (kF : Nat → Int32 → Int32 → Mem → Option (Unit × Mem)) (F : Nat) (hF : ∀ (a0 : Nat) (a1 : Int32) (a2 : Int32) (M : Mem) (r : (Unit × Mem)), kF a0 a1 a2 M = some r → Sem mi_X8_tellFields F [aR a0, aI a1, aI a2] M (oU r.1) r.2) (v0 : Nat) (v1 : Int32) (v2 : Int32) (v3 : Int32) (M : Mem) (r : (Unit × Mem)) (hf : f_X8_tellItem kF v0 v1 v2 v3 M = some r) : Sem mi_X8_tellItem ((F + 3)) [aR v0, aI v1, aI v2, aI v3] M (oU r.1) r.2 := by
  unfold f_X8_tellItem at hf
  refine sem_of (by decide) rfl rfl rfl (Nat.le_of_ble_eq_true rfl) (lv := [some (aR v0), some (aI v1), some (aI v2), some (aI v3), none]) rfl ?_
  refine g_aload_n (pc' := 1) dX8_tellItem_0 rfl rfl ?_
  obtain ⟨h1, hf⟩ := chk_s hf
  refine g_getR (pc' := 4) 8 5 rfl rfl (by decide) inX8 (by decide) rfl rfl q_1094 dX8_tellItem_1 rfl h1 ?_
  obtain ⟨h2, hf⟩ := chk_s hf
  refine g_getR (pc' := 7) 5 4 rfl rfl (by decide) inX5 (by decide) rfl rfl q_1146 dX8_tellItem_4 rfl h2 ?_
  refine g_iload_n (pc' := 8) dX8_tellItem_7 rfl rfl ?_
  obtain ⟨h3, hf⟩ := chk_s hf
  obtain ⟨b4, hf⟩ := chk_s hf
  refine g_iald (pc' := 9) dX8_tellItem_8 rfl h3 (inB_in b4) ?_
  refine g_istore (pc' := 11) (lv' := [some (aR v0), some (aI v1), some (aI v2), some (aI v3), some (aI (mI M (mR M (mR M v0 5) 4) v2.toNatClampNeg))]) dX8_tellItem_9 rfl rfl (by decide) rfl ?_
  refine g_iload (pc' := 13) dX8_tellItem_11 rfl rfl ?_
  refine g_iconst (pc' := 14) (-1 : Int32) dX8_tellItem_13 rfl (by decide) ?_
  refine g_icmp_ne (pc' := 17) 40 dX8_tellItem_14 rfl (by decide) (fun c5 => ?_) (fun c5 => ?_)
  · have hf := ite_f c5 hf
    refine g_aload_n (pc' := 41) dX8_tellItem_40 rfl rfl ?_
    refine g_iload (pc' := 43) dX8_tellItem_41 rfl rfl ?_
    refine g_aload_n (pc' := 44) dX8_tellItem_43 rfl rfl ?_
    refine g_getR (pc' := 47) 8 7 rfl rfl (by decide) inX8 (by decide) rfl rfl q_74 dX8_tellItem_44 rfl h1 ?_
    refine g_iload_n (pc' := 48) dX8_tellItem_47 rfl rfl ?_
    refine g_iconst (pc' := 49) (1 : Int32) dX8_tellItem_48 rfl (by decide) ?_
    refine g_iadd (pc' := 50) dX8_tellItem_49 rfl ?_
    obtain ⟨h6, hf⟩ := chk_s hf
    obtain ⟨b7, hf⟩ := chk_s hf
    refine g_aald2 (pc' := 51) dX8_tellItem_50 rfl h6 (inB_in b7) ?_
    refine g_iload (pc' := 53) dX8_tellItem_51 rfl rfl ?_
    obtain ⟨h8, hf⟩ := chk_s hf
    obtain ⟨b9, hf⟩ := chk_s hf
    refine g_iald (pc' := 54) dX8_tellItem_53 rfl h8 (inB_in b9) ?_
    obtain ⟨r11, M10, e11, hf⟩ := bnd_some hf
    refine g_callVi (pc' := 57) (k' := 0) (u' := 0) (fr2 := 1) (As := [aI (mI M (mR M (mR M v0 5) 4) v2.toNatClampNeg), aI (mI M (mR M (mR M v0 7) (v3 + (1 : Int32)).toNatClampNeg) (mI M (mR M (mR M v0 5) 4) v2.toNatClampNeg).toNatClampNeg)]) (b := v0) (st := []) cf_X8_has q_1130 (by omega) (ci := 8) rfl rfl (by decide) dX8_tellItem_54 rfl rfl rfl (Nat.le_of_ble_eq_true rfl) (Or.inl rfl) (Nat.le_refl _) (Nat.le_refl _) (Nat.le_refl _) (Nat.le_refl _) h1 (s_X8_has v0 (mI M (mR M (mR M v0 5) 4) v2.toNatClampNeg) (mI M (mR M (mR M v0 7) (v3 + (1 : Int32)).toNatClampNeg) (mI M (mR M (mR M v0 5) 4) v2.toNatClampNeg).toNatClampNeg) M _ e11) ?_
    refine g_if_eq (pc' := 60) 89 dX8_tellItem_57 rfl (by decide) (fun c12 => ?_) (fun c12 => ?_)
    · have hf := ite_t c12 hf
      cases hf
      exact g_return dX8_tellItem_89 rfl (Nat.le_of_ble_eq_true rfl) (Nat.le_of_ble_eq_true rfl)
    · have hf := ite_f c12 hf
      refine g_aload_n (pc' := 61) dX8_tellItem_60 rfl rfl ?_
      refine g_aload_n (pc' := 62) dX8_tellItem_61 rfl rfl ?_
      obtain ⟨h13, hf⟩ := chk_s hf
      refine g_getR (pc' := 65) 8 6 rfl rfl (by decide) inX8 (by decide) rfl rfl q_1095 dX8_tellItem_62 rfl h13 ?_
      obtain ⟨h14, hf⟩ := chk_s hf
      refine g_getR (pc' := 68) 7 0 rfl rfl (by decide) inX7 (by decide) rfl rfl q_1105 dX8_tellItem_65 rfl h14 ?_
      refine g_iload (pc' := 70) dX8_tellItem_68 rfl rfl ?_
      obtain ⟨h15, hf⟩ := chk_s hf
      obtain ⟨b16, hf⟩ := chk_s hf
      refine g_aald (pc' := 71) (t0 := 2) (fun _ => rfl) (by decide) dX8_tellItem_70 rfl h15 (inB_in b16) ?_
      obtain ⟨h17, hf⟩ := chk_s hf
      refine g_getR (pc' := 74) 2 2 rfl rfl (by decide) inX2 (by decide) rfl rfl q_1147 dX8_tellItem_71 rfl h17 ?_
      refine g_aload_n (pc' := 75) dX8_tellItem_74 rfl rfl ?_
      refine g_getR (pc' := 78) 8 7 rfl rfl (by decide) inX8 (by decide) rfl rfl q_74 dX8_tellItem_75 rfl h13 ?_
      refine g_iload_n (pc' := 79) dX8_tellItem_78 rfl rfl ?_
      refine g_iconst (pc' := 80) (1 : Int32) dX8_tellItem_79 rfl (by decide) ?_
      refine g_iadd (pc' := 81) dX8_tellItem_80 rfl ?_
      obtain ⟨h18, hf⟩ := chk_s hf
      obtain ⟨b19, hf⟩ := chk_s hf
      refine g_aald2 (pc' := 82) dX8_tellItem_81 rfl h18 (inB_in b19) ?_
      refine g_iload (pc' := 84) dX8_tellItem_82 rfl rfl ?_
      obtain ⟨h20, hf⟩ := chk_s hf
      obtain ⟨b21, hf⟩ := chk_s hf
      refine g_iald (pc' := 85) dX8_tellItem_84 rfl h20 (inB_in b21) ?_
      obtain ⟨h22, hf⟩ := chk_s hf
      obtain ⟨b23, hf⟩ := chk_s hf
      refine g_iald (pc' := 86) dX8_tellItem_85 rfl h22 (inB_in b23) ?_
      obtain ⟨_, M24, e25, hf⟩ := bnd_some hf
      refine g_callVv (pc' := 89) (k' := 0) (u' := 0) (fr2 := 2) (As := [aI (mI M10 (mR M10 (mR M10 (mR M10 (mR M10 v0 6) 0) (mI M (mR M (mR M v0 5) 4) v2.toNatClampNeg).toNatClampNeg) 2) (mI M10 (mR M10 (mR M10 v0 7) (v3 + (1 : Int32)).toNatClampNeg) (mI M (mR M (mR M v0 5) 4) v2.toNatClampNeg).toNatClampNeg).toNatClampNeg)]) (b := v0) (st := []) cf_X8_putNumber q_1148 (by omega) (ci := 8) rfl rfl (by decide) dX8_tellItem_86 rfl rfl rfl (Nat.le_of_ble_eq_true rfl) (Or.inl rfl) (Nat.le_refl _) (Nat.le_refl _) (Nat.le_refl _) (Nat.le_refl _) h13 (s_X8_putNumber v0 (mI M10 (mR M10 (mR M10 (mR M10 (mR M10 v0 6) 0) (mI M (mR M (mR M v0 5) 4) v2.toNatClampNeg).toNatClampNeg) 2) (mI M10 (mR M10 (mR M10 v0 7) (v3 + (1 : Int32)).toNatClampNeg) (mI M (mR M (mR M v0 5) 4) v2.toNatClampNeg).toNatClampNeg).toNatClampNeg) M10 _ e25) ?_
      cases hf
      exact g_return dX8_tellItem_89 rfl (Nat.le_of_ble_eq_true rfl) (Nat.le_of_ble_eq_true rfl)
  · have hf := ite_t c5 hf
    refine g_aload_n (pc' := 18) dX8_tellItem_17 rfl rfl ?_
    refine g_bipush (pc' := 20) (40 : Int32) dX8_tellItem_18 rfl (by decide) ?_
    obtain ⟨_, M26, e27, hf⟩ := bnd_some hf
    refine g_callVv (pc' := 23) (k' := 0) (u' := 0) (fr2 := 1) (As := [aI (40 : Int32)]) (b := v0) (st := []) cf_X8_put q_1114 (by omega) (ci := 8) rfl rfl (by decide) dX8_tellItem_20 rfl rfl rfl (Nat.le_of_ble_eq_true rfl) (Or.inl rfl) (Nat.le_refl _) (Nat.le_refl _) (Nat.le_refl _) (Nat.le_refl _) h1 (s_X8_put v0 (40 : Int32) M _ e27) ?_
    refine g_aload_n (pc' := 24) dX8_tellItem_23 rfl rfl ?_
    refine g_iload_n (pc' := 25) dX8_tellItem_24 rfl rfl ?_
    refine g_iload_n (pc' := 26) dX8_tellItem_25 rfl rfl ?_
    refine g_iconst (pc' := 27) (1 : Int32) dX8_tellItem_26 rfl (by decide) ?_
    refine g_iadd (pc' := 28) dX8_tellItem_27 rfl ?_
    obtain ⟨h28, hf⟩ := chk_s hf
    obtain ⟨_, M29, e30, hf⟩ := bnd_some hf
    refine g_callVv (pc' := 31) (k' := 0) (u' := 0) (fr2 := F) (As := [aI v1, aI (v3 + (1 : Int32))]) (b := v0) (st := []) cf_X8_tellFields q_1107 (by omega) (ci := 8) rfl rfl (by decide) dX8_tellItem_28 rfl rfl rfl (Nat.le_of_ble_eq_true rfl) (Or.inl rfl) (Nat.le_refl _) (Nat.le_refl _) (Nat.le_refl _) (Nat.le_refl _) h28 (hF v0 v1 (v3 + (1 : Int32)) M26 _ e30) ?_
    refine g_aload_n (pc' := 32) dX8_tellItem_31 rfl rfl ?_
    refine g_bipush (pc' := 34) (41 : Int32) dX8_tellItem_32 rfl (by decide) ?_
    obtain ⟨h31, hf⟩ := chk_s hf
    obtain ⟨_, M32, e33, hf⟩ := bnd_some hf
    refine g_callVv (pc' := 37) (k' := 0) (u' := 0) (fr2 := 1) (As := [aI (41 : Int32)]) (b := v0) (st := []) cf_X8_put q_1114 (by omega) (ci := 8) rfl rfl (by decide) dX8_tellItem_34 rfl rfl rfl (Nat.le_of_ble_eq_true rfl) (Or.inl rfl) (Nat.le_refl _) (Nat.le_refl _) (Nat.le_refl _) (Nat.le_refl _) h31 (s_X8_put v0 (41 : Int32) M29 _ e33) ?_
    refine g_goto (pc' := 89) dX8_tellItem_37 (by decide) ?_
    cases hf
    exact g_return dX8_tellItem_89 rfl (Nat.le_of_ble_eq_true rfl) (Nat.le_of_ble_eq_true rfl)
def f_X8_tellItems_30 (kF : Nat → Int32 → Int32 → Mem → Option (Unit × Mem)) : Nat → Nat → Int32 → Int32 → Int32 → Int32 → Int32 → Mem → Option (Unit × Mem)
  | 0, _, _, _, _, _, _, _ => none
  | n + 1, v0, v1, v2, v3, v4, v5, M =>
    if (120 : Int32) ≤ v5 then
      some ((), M)
    else
      if mK M v0 = 9 then
        bnd (f_X8_goOn v0 v2 v4 (v3 + (1 : Int32)) M) fun r4 M3 =>
        if r4 = 0 then
          some ((), M3)
        else
          if mK M3 v0 = 9 then
            bnd (f_X8_put v0 (32 : Int32) M3) fun _ M7 =>
            if mK M7 v0 = 9 then
              bnd (f_X8_tellItem kF v0 v1 v2 v3 M7) fun _ M10 =>
              f_X8_tellItems_30 kF n v0 v1 v2 v3 v4 (v5 + 1) M10
            else none
          else none
      else none
def f_X8_tellItems (kF : Nat → Int32 → Int32 → Mem → Option (Unit × Mem)) (v0 : Nat) (v1 : Int32) (v2 : Int32) (v3 : Int32) (M : Mem) : Option (Unit × Mem) :=
  if mK M v0 = 9 then
    if mK M (mR M v0 5) = 6 then
      if mK M (mR M (mR M v0 5) 10) = 21 then
        if inB v2 (mN M (mR M (mR M v0 5) 10)) = true then
          bnd (f_X11_lowestBit (mI M (mR M (mR M v0 5) 10) v2.toNatClampNeg) M) fun r6 M5 =>
          if mK M5 v0 = 9 then
            bnd (f_X8_beginAt v0 v2 v3 M5) fun _ M8 =>
            if mK M8 v0 = 9 then
              bnd (f_X8_tellItem kF v0 v1 v2 v3 M8) fun _ M11 =>
              f_X8_tellItems_30 kF FUEL v0 v1 v2 v3 r6 (0 : Int32) M11
            else none
          else none
        else none
      else none
    else none
  else none
theorem s_X8_tellItems_30 (kF : Nat → Int32 → Int32 → Mem → Option (Unit × Mem)) (F : Nat) (hF : ∀ (a0 : Nat) (a1 : Int32) (a2 : Int32) (M : Mem) (r : (Unit × Mem)), kF a0 a1 a2 M = some r → Sem mi_X8_tellFields F [aR a0, aI a1, aI a2] M (oU r.1) r.2) : ∀ (n : Nat) (v0 : Nat) (v1 : Int32) (v2 : Int32) (v3 : Int32) (v4 : Int32) (v5 : Int32) (M : Mem) (r : (Unit × Mem)), f_X8_tellItems_30 kF n v0 v1 v2 v3 v4 v5 M = some r → G mi_X8_tellItems (F + 4) (oU r.1) r.2 30 [some (aR v0), some (aI v1), some (aI v2), some (aI v3), some (aI v4), some (aI v5)] [] M 0 0 := by
  intro n
  induction n with
  | zero => intro v0 v1 v2 v3 v4 v5 M r hf; cases hf
  | succ n ih =>
    intro v0 v1 v2 v3 v4 v5 M r hf
    unfold f_X8_tellItems_30 at hf
    refine g_iload (pc' := 32) dX8_tellItems_30 rfl rfl ?_
    refine g_bipush (pc' := 34) (120 : Int32) dX8_tellItems_32 rfl (by decide) ?_
    refine g_icmp_ge (pc' := 37) 69 dX8_tellItems_34 rfl (by decide) (fun c1 => ?_) (fun c1 => ?_)
    · have hf := ite_t c1 hf
      cases hf
      exact g_return dX8_tellItems_69 rfl (Nat.le_of_ble_eq_true rfl) (Nat.le_of_ble_eq_true rfl)
    · have hf := ite_f c1 hf
      refine g_aload_n (pc' := 38) dX8_tellItems_37 rfl rfl ?_
      refine g_iload_n (pc' := 39) dX8_tellItems_38 rfl rfl ?_
      refine g_iload (pc' := 41) dX8_tellItems_39 rfl rfl ?_
      refine g_iload_n (pc' := 42) dX8_tellItems_41 rfl rfl ?_
      refine g_iconst (pc' := 43) (1 : Int32) dX8_tellItems_42 rfl (by decide) ?_
      refine g_iadd (pc' := 44) dX8_tellItems_43 rfl ?_
      obtain ⟨h2, hf⟩ := chk_s hf
      obtain ⟨r4, M3, e4, hf⟩ := bnd_some hf
      refine g_callVi (pc' := 47) (k' := 0) (u' := 0) (fr2 := 2) (As := [aI v2, aI v4, aI (v3 + (1 : Int32))]) (b := v0) (st := []) cf_X8_goOn q_1153 (by omega) (ci := 8) rfl rfl (by decide) dX8_tellItems_44 rfl rfl rfl (Nat.le_of_ble_eq_true rfl) (Or.inl rfl) (Nat.le_refl _) (Nat.le_refl _) (Nat.le_refl _) (Nat.le_refl _) h2 (s_X8_goOn v0 v2 v4 (v3 + (1 : Int32)) M _ e4) ?_
      refine g_if_eq (pc' := 50) 69 dX8_tellItems_47 rfl (by decide) (fun c5 => ?_) (fun c5 => ?_)
      · have hf := ite_t c5 hf
        cases hf
        exact g_return dX8_tellItems_69 rfl (Nat.le_of_ble_eq_true rfl) (Nat.le_of_ble_eq_true rfl)
      · have hf := ite_f c5 hf
        refine g_aload_n (pc' := 51) dX8_tellItems_50 rfl rfl ?_
        refine g_bipush (pc' := 53) (32 : Int32) dX8_tellItems_51 rfl (by decide) ?_
        obtain ⟨h6, hf⟩ := chk_s hf
        obtain ⟨_, M7, e8, hf⟩ := bnd_some hf
        refine g_callVv (pc' := 56) (k' := 0) (u' := 0) (fr2 := 1) (As := [aI (32 : Int32)]) (b := v0) (st := []) cf_X8_put q_1114 (by omega) (ci := 8) rfl rfl (by decide) dX8_tellItems_53 rfl rfl rfl (Nat.le_of_ble_eq_true rfl) (Or.inl rfl) (Nat.le_refl _) (Nat.le_refl _) (Nat.le_refl _) (Nat.le_refl _) h6 (s_X8_put v0 (32 : Int32) M3 _ e8) ?_
        refine g_aload_n (pc' := 57) dX8_tellItems_56 rfl rfl ?_
        refine g_iload_n (pc' := 58) dX8_tellItems_57 rfl rfl ?_
        refine g_iload_n (pc' := 59) dX8_tellItems_58 rfl rfl ?_
        refine g_iload_n (pc' := 60) dX8_tellItems_59 rfl rfl ?_
        obtain ⟨h9, hf⟩ := chk_s hf
        obtain ⟨_, M10, e11, hf⟩ := bnd_some hf
        refine g_callVv (pc' := 63) (k' := 0) (u' := 0) (fr2 := F + 3) (As := [aI v1, aI v2, aI v3]) (b := v0) (st := []) cf_X8_tellItem q_1142 (by omega) (ci := 8) rfl rfl (by decide) dX8_tellItems_60 rfl rfl rfl (Nat.le_of_ble_eq_true rfl) (Or.inl rfl) (Nat.le_refl _) (Nat.le_refl _) (Nat.le_refl _) (Nat.le_refl _) h9 (s_X8_tellItem kF F hF v0 v1 v2 v3 M7 _ e11) ?_
        refine g_iinc (pc' := 66) (lv' := [some (aR v0), some (aI v1), some (aI v2), some (aI v3), some (aI v4), some (aI (v5 + 1))]) (v5 + 1) dX8_tellItems_63 rfl rfl (by rfl) rfl (by decide) rfl ?_
        refine g_goto (pc' := 30) dX8_tellItems_66 (by decide) ?_
        refine g_widen (k' := 0) (u' := 0) (by omega) (by omega) ?_
        exact ih v0 v1 v2 v3 v4 (v5 + 1) M10 _ hf
theorem s_X8_tellItems (kF : Nat → Int32 → Int32 → Mem → Option (Unit × Mem)) (F : Nat) (hF : ∀ (a0 : Nat) (a1 : Int32) (a2 : Int32) (M : Mem) (r : (Unit × Mem)), kF a0 a1 a2 M = some r → Sem mi_X8_tellFields F [aR a0, aI a1, aI a2] M (oU r.1) r.2) (v0 : Nat) (v1 : Int32) (v2 : Int32) (v3 : Int32) (M : Mem) (r : (Unit × Mem)) (hf : f_X8_tellItems kF v0 v1 v2 v3 M = some r) : Sem mi_X8_tellItems ((F + 4)) [aR v0, aI v1, aI v2, aI v3] M (oU r.1) r.2 := by
  unfold f_X8_tellItems at hf
  refine sem_of (by decide) rfl rfl rfl (Nat.le_of_ble_eq_true rfl) (lv := [some (aR v0), some (aI v1), some (aI v2), some (aI v3), none, none]) rfl ?_
  refine g_aload_n (pc' := 1) dX8_tellItems_0 rfl rfl ?_
  obtain ⟨h1, hf⟩ := chk_s hf
  refine g_getR (pc' := 4) 8 5 rfl rfl (by decide) inX8 (by decide) rfl rfl q_1094 dX8_tellItems_1 rfl h1 ?_
  obtain ⟨h2, hf⟩ := chk_s hf
  refine g_getR (pc' := 7) 5 10 rfl rfl (by decide) inX5 (by decide) rfl rfl q_1113 dX8_tellItems_4 rfl h2 ?_
  refine g_iload_n (pc' := 8) dX8_tellItems_7 rfl rfl ?_
  obtain ⟨h3, hf⟩ := chk_s hf
  obtain ⟨b4, hf⟩ := chk_s hf
  refine g_iald (pc' := 9) dX8_tellItems_8 rfl h3 (inB_in b4) ?_
  obtain ⟨r6, M5, e6, hf⟩ := bnd_some hf
  refine g_callSNi (pc' := 12) (k' := 0) (u' := 0) (fr2 := 1) (As := [aI (mI M (mR M (mR M v0 5) 10) v2.toNatClampNeg)]) (st := []) cf_X11_lowestBit (List.mem_of_getElem? (i := 10) rfl) (by omega) dX8_tellItems_9 rfl rfl rfl (Nat.le_of_ble_eq_true rfl) (Or.inl rfl) (Nat.le_refl _) (Nat.le_refl _) (Nat.le_refl _) (Nat.le_refl _) (s_X11_lowestBit (mI M (mR M (mR M v0 5) 10) v2.toNatClampNeg) M _ e6) ?_
  refine g_istore (pc' := 14) (lv' := [some (aR v0), some (aI v1), some (aI v2), some (aI v3), some (aI r6), none]) dX8_tellItems_12 rfl rfl (by decide) rfl ?_
  refine g_aload_n (pc' := 15) dX8_tellItems_14 rfl rfl ?_
  refine g_iload_n (pc' := 16) dX8_tellItems_15 rfl rfl ?_
  refine g_iload_n (pc' := 17) dX8_tellItems_16 rfl rfl ?_
  obtain ⟨h7, hf⟩ := chk_s hf
  obtain ⟨_, M8, e9, hf⟩ := bnd_some hf
  refine g_callVv (pc' := 20) (k' := 0) (u' := 0) (fr2 := 1) (As := [aI v2, aI v3]) (b := v0) (st := []) cf_X8_beginAt q_1138 (by omega) (ci := 8) rfl rfl (by decide) dX8_tellItems_17 rfl rfl rfl (Nat.le_of_ble_eq_true rfl) (Or.inl rfl) (Nat.le_refl _) (Nat.le_refl _) (Nat.le_refl _) (Nat.le_refl _) h7 (s_X8_beginAt v0 v2 v3 M5 _ e9) ?_
  refine g_aload_n (pc' := 21) dX8_tellItems_20 rfl rfl ?_
  refine g_iload_n (pc' := 22) dX8_tellItems_21 rfl rfl ?_
  refine g_iload_n (pc' := 23) dX8_tellItems_22 rfl rfl ?_
  refine g_iload_n (pc' := 24) dX8_tellItems_23 rfl rfl ?_
  obtain ⟨h10, hf⟩ := chk_s hf
  obtain ⟨_, M11, e12, hf⟩ := bnd_some hf
  refine g_callVv (pc' := 27) (k' := 0) (u' := 0) (fr2 := F + 3) (As := [aI v1, aI v2, aI v3]) (b := v0) (st := []) cf_X8_tellItem q_1142 (by omega) (ci := 8) rfl rfl (by decide) dX8_tellItems_24 rfl rfl rfl (Nat.le_of_ble_eq_true rfl) (Or.inl rfl) (Nat.le_refl _) (Nat.le_refl _) (Nat.le_refl _) (Nat.le_refl _) h10 (s_X8_tellItem kF F hF v0 v1 v2 v3 M8 _ e12) ?_
  refine g_iconst (pc' := 28) (0 : Int32) dX8_tellItems_27 rfl (by decide) ?_
  refine g_istore (pc' := 30) (lv' := [some (aR v0), some (aI v1), some (aI v2), some (aI v3), some (aI r6), some (aI (0 : Int32))]) dX8_tellItems_28 rfl rfl (by decide) rfl ?_
  refine g_widen (k' := 0) (u' := 0) (by omega) (by omega) ?_
  exact s_X8_tellItems_30 kF F hF FUEL v0 v1 v2 v3 r6 (0 : Int32) M11 _ hf
def f_X8_tellField_88 (kF : Nat → Int32 → Int32 → Mem → Option (Unit × Mem)) (v0 : Nat) (M : Mem) : Option (Unit × Mem) :=
  if mK M v0 = 9 then
    bnd (f_X8_put v0 (93 : Int32) M) fun _ M2 =>
    some ((), M2)
  else none
def f_X8_tellField_62 (kF : Nat → Int32 → Int32 → Mem → Option (Unit × Mem)) (v0 : Nat) (v1 : Int32) (v2 : Int32) (v3 : Int32) (v4 : Int32) (w0 : Int32) (M : Mem) : Option (Unit × Mem) :=
  if v4 = (2 : Int32) then
    if mK M v0 = 9 then
      bnd (f_X8_put v0 (91 : Int32) M) fun _ M13 =>
      if w0 = 0 then
        f_X8_tellField_88 kF v0 M13
      else
        if mK M13 v0 = 9 then
          bnd (f_X8_tellItems kF v0 v1 v3 v2 M13) fun _ M17 =>
          f_X8_tellField_88 kF v0 M17
        else none
    else none
  else
    if w0 = 0 then
      if mK M v0 = 9 then
        bnd (f_X8_put v0 (45 : Int32) M) fun _ M4 =>
        some ((), M4)
      else none
    else
      if mK M v0 = 9 then
        bnd (f_X8_beginAt v0 v3 v2 M) fun _ M7 =>
        if mK M7 v0 = 9 then
          bnd (f_X8_tellItem kF v0 v1 v3 v2 M7) fun _ M10 =>
          some ((), M10)
        else none
      else none
def f_X8_tellField_61 (kF : Nat → Int32 → Int32 → Mem → Option (Unit × Mem)) (v0 : Nat) (v1 : Int32) (v2 : Int32) (v3 : Int32) (v4 : Int32) (M : Mem) : Option (Unit × Mem) :=
  f_X8_tellField_62 kF v0 v1 v2 v3 v4 (0 : Int32) M
def f_X8_tellField_36 (kF : Nat → Int32 → Int32 → Mem → Option (Unit × Mem)) (v0 : Nat) (v1 : Int32) (v2 : Int32) (v3 : Int32) (w0 : Int32) (M : Mem) : Option (Unit × Mem) :=
  if v3 = (-1 : Int32) then
    f_X8_tellField_61 kF v0 v1 v2 v3 w0 M
  else
    if (3 : Int32) < v2 then
      f_X8_tellField_61 kF v0 v1 v2 v3 w0 M
    else
      if mK M v0 = 9 then
        bnd (f_X8_isThere v0 v3 v2 M) fun r5 M4 =>
        if r5 = 0 then
          f_X8_tellField_61 kF v0 v1 v2 v3 w0 M4
        else
          f_X8_tellField_62 kF v0 v1 v2 v3 w0 (1 : Int32) M4
      else none
def f_X8_tellField (kF : Nat → Int32 → Int32 → Mem → Option (Unit × Mem)) (v0 : Nat) (v1 : Int32) (v2 : Int32) (M : Mem) : Option (Unit × Mem) :=
  if mK M v0 = 9 then
    if mK M (mR M v0 4) = 6 then
      if mK M (mR M (mR M v0 4) 11) = 21 then
        if inB v1 (mN M (mR M (mR M v0 4) 11)) = true then
          if (mI M (mR M (mR M v0 4) 11) v1.toNatClampNeg) = (-1 : Int32) then
            if mK M (mR M (mR M v0 4) 2) = 21 then
              if inB v1 (mN M (mR M (mR M v0 4) 2)) = true then
                f_X8_tellField_36 kF v0 v1 v2 (mI M (mR M (mR M v0 4) 11) v1.toNatClampNeg) (mI M (mR M (mR M v0 4) 2) v1.toNatClampNeg) M
              else none
            else none
          else
            if mK M (mR M v0 5) = 6 then
              if mK M (mR M (mR M v0 5) 2) = 21 then
                if inB (mI M (mR M (mR M v0 4) 11) v1.toNatClampNeg) (mN M (mR M (mR M v0 5) 2)) = true then
                  f_X8_tellField_36 kF v0 v1 v2 (mI M (mR M (mR M v0 4) 11) v1.toNatClampNeg) (mI M (mR M (mR M v0 5) 2) (mI M (mR M (mR M v0 4) 11) v1.toNatClampNeg).toNatClampNeg) M
                else none
              else none
            else none
        else none
      else none
    else none
  else none
theorem s_X8_tellField_88 (kF : Nat → Int32 → Int32 → Mem → Option (Unit × Mem)) (F : Nat) (hF : ∀ (a0 : Nat) (a1 : Int32) (a2 : Int32) (M : Mem) (r : (Unit × Mem)), kF a0 a1 a2 M = some r → Sem mi_X8_tellFields F [aR a0, aI a1, aI a2] M (oU r.1) r.2) (v0 : Nat) (M : Mem) (r : (Unit × Mem)) (hf : f_X8_tellField_88 kF v0 M = some r) : G mi_X8_tellField (F + 5) (oU r.1) r.2 88 [some (aR v0), none, none, none, none, none] [] M 0 0 := by
  unfold f_X8_tellField_88 at hf
  refine g_aload_n (pc' := 89) dX8_tellField_88 rfl rfl ?_
  refine g_bipush (pc' := 91) (93 : Int32) dX8_tellField_89 rfl (by decide) ?_
  obtain ⟨h1, hf⟩ := chk_s hf
  obtain ⟨_, M2, e3, hf⟩ := bnd_some hf
  refine g_callVv (pc' := 94) (k' := 0) (u' := 0) (fr2 := 1) (As := [aI (93 : Int32)]) (b := v0) (st := []) cf_X8_put q_1114 (by omega) (ci := 8) rfl rfl (by decide) dX8_tellField_91 rfl rfl rfl (Nat.le_of_ble_eq_true rfl) (Or.inl rfl) (Nat.le_refl _) (Nat.le_refl _) (Nat.le_refl _) (Nat.le_refl _) h1 (s_X8_put v0 (93 : Int32) M _ e3) ?_
  refine g_goto (pc' := 124) dX8_tellField_94 (by decide) ?_
  cases hf
  exact g_return dX8_tellField_124 rfl (Nat.le_of_ble_eq_true rfl) (Nat.le_of_ble_eq_true rfl)
theorem s_X8_tellField_62 (kF : Nat → Int32 → Int32 → Mem → Option (Unit × Mem)) (F : Nat) (hF : ∀ (a0 : Nat) (a1 : Int32) (a2 : Int32) (M : Mem) (r : (Unit × Mem)), kF a0 a1 a2 M = some r → Sem mi_X8_tellFields F [aR a0, aI a1, aI a2] M (oU r.1) r.2) (v0 : Nat) (v1 : Int32) (v2 : Int32) (v3 : Int32) (v4 : Int32) (w0 : Int32) (M : Mem) (r : (Unit × Mem)) (hf : f_X8_tellField_62 kF v0 v1 v2 v3 v4 w0 M = some r) : G mi_X8_tellField (F + 5) (oU r.1) r.2 62 [some (aR v0), some (aI v1), some (aI v2), some (aI v3), some (aI v4), none] [aI w0] M 0 0 := by
  unfold f_X8_tellField_62 at hf
  refine g_istore (pc' := 64) (lv' := [some (aR v0), some (aI v1), some (aI v2), some (aI v3), some (aI v4), some (aI w0)]) dX8_tellField_62 rfl rfl (by decide) rfl ?_
  refine g_iload (pc' := 66) dX8_tellField_64 rfl rfl ?_
  refine g_iconst (pc' := 67) (2 : Int32) dX8_tellField_66 rfl (by decide) ?_
  refine g_icmp_ne (pc' := 70) 97 dX8_tellField_67 rfl (by decide) (fun c1 => ?_) (fun c1 => ?_)
  · have hf := ite_f c1 hf
    refine g_iload (pc' := 99) dX8_tellField_97 rfl rfl ?_
    refine g_if_eq (pc' := 102) 118 dX8_tellField_99 rfl (by decide) (fun c2 => ?_) (fun c2 => ?_)
    · have hf := ite_t c2 hf
      refine g_aload_n (pc' := 119) dX8_tellField_118 rfl rfl ?_
      refine g_bipush (pc' := 121) (45 : Int32) dX8_tellField_119 rfl (by decide) ?_
      obtain ⟨h3, hf⟩ := chk_s hf
      obtain ⟨_, M4, e5, hf⟩ := bnd_some hf
      refine g_callVv (pc' := 124) (k' := 0) (u' := 0) (fr2 := 1) (As := [aI (45 : Int32)]) (b := v0) (st := []) cf_X8_put q_1114 (by omega) (ci := 8) rfl rfl (by decide) dX8_tellField_121 rfl rfl rfl (Nat.le_of_ble_eq_true rfl) (Or.inl rfl) (Nat.le_refl _) (Nat.le_refl _) (Nat.le_refl _) (Nat.le_refl _) h3 (s_X8_put v0 (45 : Int32) M _ e5) ?_
      cases hf
      exact g_return dX8_tellField_124 rfl (Nat.le_of_ble_eq_true rfl) (Nat.le_of_ble_eq_true rfl)
    · have hf := ite_f c2 hf
      refine g_aload_n (pc' := 103) dX8_tellField_102 rfl rfl ?_
      refine g_iload_n (pc' := 104) dX8_tellField_103 rfl rfl ?_
      refine g_iload_n (pc' := 105) dX8_tellField_104 rfl rfl ?_
      obtain ⟨h6, hf⟩ := chk_s hf
      obtain ⟨_, M7, e8, hf⟩ := bnd_some hf
      refine g_callVv (pc' := 108) (k' := 0) (u' := 0) (fr2 := 1) (As := [aI v3, aI v2]) (b := v0) (st := []) cf_X8_beginAt q_1138 (by omega) (ci := 8) rfl rfl (by decide) dX8_tellField_105 rfl rfl rfl (Nat.le_of_ble_eq_true rfl) (Or.inl rfl) (Nat.le_refl _) (Nat.le_refl _) (Nat.le_refl _) (Nat.le_refl _) h6 (s_X8_beginAt v0 v3 v2 M _ e8) ?_
      refine g_aload_n (pc' := 109) dX8_tellField_108 rfl rfl ?_
      refine g_iload_n (pc' := 110) dX8_tellField_109 rfl rfl ?_
      refine g_iload_n (pc' := 111) dX8_tellField_110 rfl rfl ?_
      refine g_iload_n (pc' := 112) dX8_tellField_111 rfl rfl ?_
      obtain ⟨h9, hf⟩ := chk_s hf
      obtain ⟨_, M10, e11, hf⟩ := bnd_some hf
      refine g_callVv (pc' := 115) (k' := 0) (u' := 0) (fr2 := F + 3) (As := [aI v1, aI v3, aI v2]) (b := v0) (st := []) cf_X8_tellItem q_1142 (by omega) (ci := 8) rfl rfl (by decide) dX8_tellField_112 rfl rfl rfl (Nat.le_of_ble_eq_true rfl) (Or.inl rfl) (Nat.le_refl _) (Nat.le_refl _) (Nat.le_refl _) (Nat.le_refl _) h9 (s_X8_tellItem kF F hF v0 v1 v3 v2 M7 _ e11) ?_
      refine g_goto (pc' := 124) dX8_tellField_115 (by decide) ?_
      cases hf
      exact g_return dX8_tellField_124 rfl (Nat.le_of_ble_eq_true rfl) (Nat.le_of_ble_eq_true rfl)
  · have hf := ite_t c1 hf
    refine g_aload_n (pc' := 71) dX8_tellField_70 rfl rfl ?_
    refine g_bipush (pc' := 73) (91 : Int32) dX8_tellField_71 rfl (by decide) ?_
    obtain ⟨h12, hf⟩ := chk_s hf
    obtain ⟨_, M13, e14, hf⟩ := bnd_some hf
    refine g_callVv (pc' := 76) (k' := 0) (u' := 0) (fr2 := 1) (As := [aI (91 : Int32)]) (b := v0) (st := []) cf_X8_put q_1114 (by omega) (ci := 8) rfl rfl (by decide) dX8_tellField_73 rfl rfl rfl (Nat.le_of_ble_eq_true rfl) (Or.inl rfl) (Nat.le_refl _) (Nat.le_refl _) (Nat.le_refl _) (Nat.le_refl _) h12 (s_X8_put v0 (91 : Int32) M _ e14) ?_
    refine g_iload (pc' := 78) dX8_tellField_76 rfl rfl ?_
    refine g_if_eq (pc' := 81) 88 dX8_tellField_78 rfl (by decide) (fun c15 => ?_) (fun c15 => ?_)
    · have hf := ite_t c15 hf
      refine g_mask [true, false, false, false, false, false] rfl ?_
      refine g_widen (k' := 0) (u' := 0) (by omega) (by omega) ?_
      exact s_X8_tellField_88 kF F hF v0 M13 _ hf
    · have hf := ite_f c15 hf
      refine g_aload_n (pc' := 82) dX8_tellField_81 rfl rfl ?_
      refine g_iload_n (pc' := 83) dX8_tellField_82 rfl rfl ?_
      refine g_iload_n (pc' := 84) dX8_tellField_83 rfl rfl ?_
      refine g_iload_n (pc' := 85) dX8_tellField_84 rfl rfl ?_
      obtain ⟨h16, hf⟩ := chk_s hf
      obtain ⟨_, M17, e18, hf⟩ := bnd_some hf
      refine g_callVv (pc' := 88) (k' := 0) (u' := 0) (fr2 := F + 4) (As := [aI v1, aI v3, aI v2]) (b := v0) (st := []) cf_X8_tellItems q_1135 (by omega) (ci := 8) rfl rfl (by decide) dX8_tellField_85 rfl rfl rfl (Nat.le_of_ble_eq_true rfl) (Or.inl rfl) (Nat.le_refl _) (Nat.le_refl _) (Nat.le_refl _) (Nat.le_refl _) h16 (s_X8_tellItems kF F hF v0 v1 v3 v2 M13 _ e18) ?_
      refine g_mask [true, false, false, false, false, false] rfl ?_
      refine g_widen (k' := 0) (u' := 0) (by omega) (by omega) ?_
      exact s_X8_tellField_88 kF F hF v0 M17 _ hf
theorem s_X8_tellField_61 (kF : Nat → Int32 → Int32 → Mem → Option (Unit × Mem)) (F : Nat) (hF : ∀ (a0 : Nat) (a1 : Int32) (a2 : Int32) (M : Mem) (r : (Unit × Mem)), kF a0 a1 a2 M = some r → Sem mi_X8_tellFields F [aR a0, aI a1, aI a2] M (oU r.1) r.2) (v0 : Nat) (v1 : Int32) (v2 : Int32) (v3 : Int32) (v4 : Int32) (M : Mem) (r : (Unit × Mem)) (hf : f_X8_tellField_61 kF v0 v1 v2 v3 v4 M = some r) : G mi_X8_tellField (F + 5) (oU r.1) r.2 61 [some (aR v0), some (aI v1), some (aI v2), some (aI v3), some (aI v4), none] [] M 0 0 := by
  unfold f_X8_tellField_61 at hf
  refine g_iconst (pc' := 62) (0 : Int32) dX8_tellField_61 rfl (by decide) ?_
  exact s_X8_tellField_62 kF F hF v0 v1 v2 v3 v4 (0 : Int32) M _ hf
theorem s_X8_tellField_36 (kF : Nat → Int32 → Int32 → Mem → Option (Unit × Mem)) (F : Nat) (hF : ∀ (a0 : Nat) (a1 : Int32) (a2 : Int32) (M : Mem) (r : (Unit × Mem)), kF a0 a1 a2 M = some r → Sem mi_X8_tellFields F [aR a0, aI a1, aI a2] M (oU r.1) r.2) (v0 : Nat) (v1 : Int32) (v2 : Int32) (v3 : Int32) (w0 : Int32) (M : Mem) (r : (Unit × Mem)) (hf : f_X8_tellField_36 kF v0 v1 v2 v3 w0 M = some r) : G mi_X8_tellField (F + 5) (oU r.1) r.2 36 [some (aR v0), some (aI v1), some (aI v2), some (aI v3), none, none] [aI w0] M 0 0 := by
  unfold f_X8_tellField_36 at hf
  refine g_istore (pc' := 38) (lv' := [some (aR v0), some (aI v1), some (aI v2), some (aI v3), some (aI w0), none]) dX8_tellField_36 rfl rfl (by decide) rfl ?_
  refine g_iload_n (pc' := 39) dX8_tellField_38 rfl rfl ?_
  refine g_iconst (pc' := 40) (-1 : Int32) dX8_tellField_39 rfl (by decide) ?_
  refine g_icmp_eq (pc' := 43) 61 dX8_tellField_40 rfl (by decide) (fun c1 => ?_) (fun c1 => ?_)
  · have hf := ite_t c1 hf
    exact s_X8_tellField_61 kF F hF v0 v1 v2 v3 w0 M _ hf
  · have hf := ite_f c1 hf
    refine g_iload_n (pc' := 44) dX8_tellField_43 rfl rfl ?_
    refine g_iconst (pc' := 45) (3 : Int32) dX8_tellField_44 rfl (by decide) ?_
    refine g_icmp_gt (pc' := 48) 61 dX8_tellField_45 rfl (by decide) (fun c2 => ?_) (fun c2 => ?_)
    · have hf := ite_t c2 hf
      exact s_X8_tellField_61 kF F hF v0 v1 v2 v3 w0 M _ hf
    · have hf := ite_f c2 hf
      refine g_aload_n (pc' := 49) dX8_tellField_48 rfl rfl ?_
      refine g_iload_n (pc' := 50) dX8_tellField_49 rfl rfl ?_
      refine g_iload_n (pc' := 51) dX8_tellField_50 rfl rfl ?_
      obtain ⟨h3, hf⟩ := chk_s hf
      obtain ⟨r5, M4, e5, hf⟩ := bnd_some hf
      refine g_callVi (pc' := 54) (k' := 0) (u' := 0) (fr2 := 2) (As := [aI v3, aI v2]) (b := v0) (st := []) cf_X8_isThere q_1124 (by omega) (ci := 8) rfl rfl (by decide) dX8_tellField_51 rfl rfl rfl (Nat.le_of_ble_eq_true rfl) (Or.inl rfl) (Nat.le_refl _) (Nat.le_refl _) (Nat.le_refl _) (Nat.le_refl _) h3 (s_X8_isThere v0 v3 v2 M _ e5) ?_
      refine g_if_eq (pc' := 57) 61 dX8_tellField_54 rfl (by decide) (fun c6 => ?_) (fun c6 => ?_)
      · have hf := ite_t c6 hf
        refine g_widen (k' := 0) (u' := 0) (by omega) (by omega) ?_
        exact s_X8_tellField_61 kF F hF v0 v1 v2 v3 w0 M4 _ hf
      · have hf := ite_f c6 hf
        refine g_iconst (pc' := 58) (1 : Int32) dX8_tellField_57 rfl (by decide) ?_
        refine g_goto (pc' := 62) dX8_tellField_58 (by decide) ?_
        refine g_widen (k' := 0) (u' := 0) (by omega) (by omega) ?_
        exact s_X8_tellField_62 kF F hF v0 v1 v2 v3 w0 (1 : Int32) M4 _ hf
theorem s_X8_tellField (kF : Nat → Int32 → Int32 → Mem → Option (Unit × Mem)) (F : Nat) (hF : ∀ (a0 : Nat) (a1 : Int32) (a2 : Int32) (M : Mem) (r : (Unit × Mem)), kF a0 a1 a2 M = some r → Sem mi_X8_tellFields F [aR a0, aI a1, aI a2] M (oU r.1) r.2) (v0 : Nat) (v1 : Int32) (v2 : Int32) (M : Mem) (r : (Unit × Mem)) (hf : f_X8_tellField kF v0 v1 v2 M = some r) : Sem mi_X8_tellField ((F + 5)) [aR v0, aI v1, aI v2] M (oU r.1) r.2 := by
  unfold f_X8_tellField at hf
  refine sem_of (by decide) rfl rfl rfl (Nat.le_of_ble_eq_true rfl) (lv := [some (aR v0), some (aI v1), some (aI v2), none, none, none]) rfl ?_
  refine g_aload_n (pc' := 1) dX8_tellField_0 rfl rfl ?_
  obtain ⟨h1, hf⟩ := chk_s hf
  refine g_getR (pc' := 4) 8 4 rfl rfl (by decide) inX8 (by decide) rfl rfl q_1093 dX8_tellField_1 rfl h1 ?_
  obtain ⟨h2, hf⟩ := chk_s hf
  refine g_getR (pc' := 7) 5 11 rfl rfl (by decide) inX5 (by decide) rfl rfl q_1122 dX8_tellField_4 rfl h2 ?_
  refine g_iload_n (pc' := 8) dX8_tellField_7 rfl rfl ?_
  obtain ⟨h3, hf⟩ := chk_s hf
  obtain ⟨b4, hf⟩ := chk_s hf
  refine g_iald (pc' := 9) dX8_tellField_8 rfl h3 (inB_in b4) ?_
  refine g_istore_n (pc' := 10) (lv' := [some (aR v0), some (aI v1), some (aI v2), some (aI (mI M (mR M (mR M v0 4) 11) v1.toNatClampNeg)), none, none]) dX8_tellField_9 rfl rfl (by decide) rfl ?_
  refine g_iload_n (pc' := 11) dX8_tellField_10 rfl rfl ?_
  refine g_iconst (pc' := 12) (-1 : Int32) dX8_tellField_11 rfl (by decide) ?_
  refine g_icmp_ne (pc' := 15) 27 dX8_tellField_12 rfl (by decide) (fun c5 => ?_) (fun c5 => ?_)
  · have hf := ite_f c5 hf
    refine g_aload_n (pc' := 28) dX8_tellField_27 rfl rfl ?_
    refine g_getR (pc' := 31) 8 5 rfl rfl (by decide) inX8 (by decide) rfl rfl q_1094 dX8_tellField_28 rfl h1 ?_
    obtain ⟨h6, hf⟩ := chk_s hf
    refine g_getR (pc' := 34) 5 2 rfl rfl (by decide) inX5 (by decide) rfl rfl q_1123 dX8_tellField_31 rfl h6 ?_
    refine g_iload_n (pc' := 35) dX8_tellField_34 rfl rfl ?_
    obtain ⟨h7, hf⟩ := chk_s hf
    obtain ⟨b8, hf⟩ := chk_s hf
    refine g_iald (pc' := 36) dX8_tellField_35 rfl h7 (inB_in b8) ?_
    exact s_X8_tellField_36 kF F hF v0 v1 v2 (mI M (mR M (mR M v0 4) 11) v1.toNatClampNeg) (mI M (mR M (mR M v0 5) 2) (mI M (mR M (mR M v0 4) 11) v1.toNatClampNeg).toNatClampNeg) M _ hf
  · have hf := ite_t c5 hf
    refine g_aload_n (pc' := 16) dX8_tellField_15 rfl rfl ?_
    refine g_getR (pc' := 19) 8 4 rfl rfl (by decide) inX8 (by decide) rfl rfl q_1093 dX8_tellField_16 rfl h1 ?_
    refine g_getR (pc' := 22) 5 2 rfl rfl (by decide) inX5 (by decide) rfl rfl q_1123 dX8_tellField_19 rfl h2 ?_
    refine g_iload_n (pc' := 23) dX8_tellField_22 rfl rfl ?_
    obtain ⟨h9, hf⟩ := chk_s hf
    obtain ⟨b10, hf⟩ := chk_s hf
    refine g_iald (pc' := 24) dX8_tellField_23 rfl h9 (inB_in b10) ?_
    refine g_goto (pc' := 36) dX8_tellField_24 (by decide) ?_
    exact s_X8_tellField_36 kF F hF v0 v1 v2 (mI M (mR M (mR M v0 4) 11) v1.toNatClampNeg) (mI M (mR M (mR M v0 4) 2) v1.toNatClampNeg) M _ hf
def f_X8_tellFields_68 (kF : Nat → Int32 → Int32 → Mem → Option (Unit × Mem)) (k5 : Nat → Int32 → Int32 → Int32 → Int32 → Mem → Option (Unit × Mem)) (v0 : Nat) (v1 : Int32) (v2 : Int32) (v3 : Int32) (v4 : Int32) (M : Mem) : Option (Unit × Mem) :=
  k5 v0 v1 v2 v3 (v4 + 1) M
def f_X8_tellFields_59 (kF : Nat → Int32 → Int32 → Mem → Option (Unit × Mem)) (k5 : Nat → Int32 → Int32 → Int32 → Int32 → Mem → Option (Unit × Mem)) (v0 : Nat) (v1 : Int32) (v2 : Int32) (v4 : Int32) (M : Mem) : Option (Unit × Mem) :=
  if mK M v0 = 9 then
    bnd (f_X8_tellField kF v0 v4 v2 M) fun _ M2 =>
    f_X8_tellFields_68 kF k5 v0 v1 v2 (0 : Int32) v4 M2
  else none
def f_X8_tellFields_5 (kF : Nat → Int32 → Int32 → Mem → Option (Unit × Mem)) : Nat → Nat → Int32 → Int32 → Int32 → Int32 → Mem → Option (Unit × Mem)
  | 0, _, _, _, _, _, _ => none
  | n + 1, v0, v1, v2, v3, v4, M =>
    if mK M v0 = 9 then
      if mK M (mR M v0 4) = 6 then
        if (mI M (mR M v0 4) 0) ≤ v4 then
          some ((), M)
        else
          if mK M (mR M (mR M v0 4) 3) = 21 then
            if inB v4 (mN M (mR M (mR M v0 4) 3)) = true then
              if (mI M (mR M (mR M v0 4) 3) v4.toNatClampNeg) = v1 then
                if mK M (mR M (mR M v0 4) 10) = 21 then
                  if inB v4 (mN M (mR M (mR M v0 4) 10)) = true then
                    if ((mI M (mR M (mR M v0 4) 10) v4.toNatClampNeg) &&& (mI M v0 3)) = 0 then
                      f_X8_tellFields_68 kF (f_X8_tellFields_5 kF n) v0 v1 v2 v3 v4 M
                    else
                      if v3 = 0 then
                        bnd (f_X8_put v0 (32 : Int32) M) fun _ M11 =>
                        f_X8_tellFields_59 kF (f_X8_tellFields_5 kF n) v0 v1 v2 v4 M11
                      else
                        f_X8_tellFields_59 kF (f_X8_tellFields_5 kF n) v0 v1 v2 v4 M
                  else none
                else none
              else
                f_X8_tellFields_68 kF (f_X8_tellFields_5 kF n) v0 v1 v2 v3 v4 M
            else none
          else none
      else none
    else none
def f_X8_tellFields_o (kF : Nat → Int32 → Int32 → Mem → Option (Unit × Mem)) (v0 : Nat) (v1 : Int32) (v2 : Int32) (M : Mem) : Option (Unit × Mem) :=
  f_X8_tellFields_5 kF FUEL v0 v1 v2 (1 : Int32) (0 : Int32) M
def f_X8_tellFields : Nat → Nat → Int32 → Int32 → Mem → Option (Unit × Mem)
  | 0, _, _, _, _ => none
  | n + 1, v0, v1, v2, M => f_X8_tellFields_o (f_X8_tellFields n) v0 v1 v2 M
theorem s_X8_tellFields_68 (kF : Nat → Int32 → Int32 → Mem → Option (Unit × Mem)) (k5 : Nat → Int32 → Int32 → Int32 → Int32 → Mem → Option (Unit × Mem)) (F : Nat) (hF : ∀ (a0 : Nat) (a1 : Int32) (a2 : Int32) (M : Mem) (r : (Unit × Mem)), kF a0 a1 a2 M = some r → Sem mi_X8_tellFields F [aR a0, aI a1, aI a2] M (oU r.1) r.2) (hk5 : ∀ (v0 : Nat) (v1 : Int32) (v2 : Int32) (v3 : Int32) (v4 : Int32) (M : Mem) (r : (Unit × Mem)), k5 v0 v1 v2 v3 v4 M = some r → G mi_X8_tellFields (F + 6) (oU r.1) r.2 5 [some (aR v0), some (aI v1), some (aI v2), some (aI v3), some (aI v4)] [] M 0 0) (v0 : Nat) (v1 : Int32) (v2 : Int32) (v3 : Int32) (v4 : Int32) (M : Mem) (r : (Unit × Mem)) (hf : f_X8_tellFields_68 kF k5 v0 v1 v2 v3 v4 M = some r) : G mi_X8_tellFields (F + 6) (oU r.1) r.2 68 [some (aR v0), some (aI v1), some (aI v2), some (aI v3), some (aI v4)] [] M 0 0 := by
  unfold f_X8_tellFields_68 at hf
  refine g_iinc (pc' := 71) (lv' := [some (aR v0), some (aI v1), some (aI v2), some (aI v3), some (aI (v4 + 1))]) (v4 + 1) dX8_tellFields_68 rfl rfl (by rfl) rfl (by decide) rfl ?_
  refine g_goto (pc' := 5) dX8_tellFields_71 (by decide) ?_
  exact hk5 v0 v1 v2 v3 (v4 + 1) M _ hf
theorem s_X8_tellFields_59 (kF : Nat → Int32 → Int32 → Mem → Option (Unit × Mem)) (k5 : Nat → Int32 → Int32 → Int32 → Int32 → Mem → Option (Unit × Mem)) (F : Nat) (hF : ∀ (a0 : Nat) (a1 : Int32) (a2 : Int32) (M : Mem) (r : (Unit × Mem)), kF a0 a1 a2 M = some r → Sem mi_X8_tellFields F [aR a0, aI a1, aI a2] M (oU r.1) r.2) (hk5 : ∀ (v0 : Nat) (v1 : Int32) (v2 : Int32) (v3 : Int32) (v4 : Int32) (M : Mem) (r : (Unit × Mem)), k5 v0 v1 v2 v3 v4 M = some r → G mi_X8_tellFields (F + 6) (oU r.1) r.2 5 [some (aR v0), some (aI v1), some (aI v2), some (aI v3), some (aI v4)] [] M 0 0) (v0 : Nat) (v1 : Int32) (v2 : Int32) (v4 : Int32) (M : Mem) (r : (Unit × Mem)) (hf : f_X8_tellFields_59 kF k5 v0 v1 v2 v4 M = some r) : G mi_X8_tellFields (F + 6) (oU r.1) r.2 59 [some (aR v0), some (aI v1), some (aI v2), none, some (aI v4)] [] M 0 0 := by
  unfold f_X8_tellFields_59 at hf
  refine g_iconst (pc' := 60) (0 : Int32) dX8_tellFields_59 rfl (by decide) ?_
  refine g_istore_n (pc' := 61) (lv' := [some (aR v0), some (aI v1), some (aI v2), some (aI (0 : Int32)), some (aI v4)]) dX8_tellFields_60 rfl rfl (by decide) rfl ?_
  refine g_aload_n (pc' := 62) dX8_tellFields_61 rfl rfl ?_
  refine g_iload (pc' := 64) dX8_tellFields_62 rfl rfl ?_
  refine g_iload_n (pc' := 65) dX8_tellFields_64 rfl rfl ?_
  obtain ⟨h1, hf⟩ := chk_s hf
  obtain ⟨_, M2, e3, hf⟩ := bnd_some hf
  refine g_callVv (pc' := 68) (k' := 0) (u' := 0) (fr2 := F + 5) (As := [aI v4, aI v2]) (b := v0) (st := []) cf_X8_tellField q_1118 (by omega) (ci := 8) rfl rfl (by decide) dX8_tellFields_65 rfl rfl rfl (Nat.le_of_ble_eq_true rfl) (Or.inl rfl) (Nat.le_refl _) (Nat.le_refl _) (Nat.le_refl _) (Nat.le_refl _) h1 (s_X8_tellField kF F hF v0 v4 v2 M _ e3) ?_
  refine g_widen (k' := 0) (u' := 0) (by omega) (by omega) ?_
  exact s_X8_tellFields_68 kF k5 F hF hk5 v0 v1 v2 (0 : Int32) v4 M2 _ hf
theorem s_X8_tellFields_5 (kF : Nat → Int32 → Int32 → Mem → Option (Unit × Mem)) (F : Nat) (hF : ∀ (a0 : Nat) (a1 : Int32) (a2 : Int32) (M : Mem) (r : (Unit × Mem)), kF a0 a1 a2 M = some r → Sem mi_X8_tellFields F [aR a0, aI a1, aI a2] M (oU r.1) r.2) : ∀ (n : Nat) (v0 : Nat) (v1 : Int32) (v2 : Int32) (v3 : Int32) (v4 : Int32) (M : Mem) (r : (Unit × Mem)), f_X8_tellFields_5 kF n v0 v1 v2 v3 v4 M = some r → G mi_X8_tellFields (F + 6) (oU r.1) r.2 5 [some (aR v0), some (aI v1), some (aI v2), some (aI v3), some (aI v4)] [] M 0 0 := by
  intro n
  induction n with
  | zero => intro v0 v1 v2 v3 v4 M r hf; cases hf
  | succ n ih =>
    intro v0 v1 v2 v3 v4 M r hf
    unfold f_X8_tellFields_5 at hf
    refine g_iload (pc' := 7) dX8_tellFields_5 rfl rfl ?_
    refine g_aload_n (pc' := 8) dX8_tellFields_7 rfl rfl ?_
    obtain ⟨h1, hf⟩ := chk_s hf
    refine g_getR (pc' := 11) 8 4 rfl rfl (by decide) inX8 (by decide) rfl rfl q_1093 dX8_tellFields_8 rfl h1 ?_
    obtain ⟨h2, hf⟩ := chk_s hf
    refine g_getI (pc' := 14) 5 0 rfl rfl (by decide) inX5 (by decide) rfl rfl q_1111 dX8_tellFields_11 rfl h2 ?_
    refine g_icmp_ge (pc' := 17) 74 dX8_tellFields_14 rfl (by decide) (fun c3 => ?_) (fun c3 => ?_)
    · have hf := ite_t c3 hf
      cases hf
      exact g_return dX8_tellFields_74 rfl (Nat.le_of_ble_eq_true rfl) (Nat.le_of_ble_eq_true rfl)
    · have hf := ite_f c3 hf
      refine g_aload_n (pc' := 18) dX8_tellFields_17 rfl rfl ?_
      refine g_getR (pc' := 21) 8 4 rfl rfl (by decide) inX8 (by decide) rfl rfl q_1093 dX8_tellFields_18 rfl h1 ?_
      refine g_getR (pc' := 24) 5 3 rfl rfl (by decide) inX5 (by decide) rfl rfl q_1112 dX8_tellFields_21 rfl h2 ?_
      refine g_iload (pc' := 26) dX8_tellFields_24 rfl rfl ?_
      obtain ⟨h4, hf⟩ := chk_s hf
      obtain ⟨b5, hf⟩ := chk_s hf
      refine g_iald (pc' := 27) dX8_tellFields_26 rfl h4 (inB_in b5) ?_
      refine g_iload_n (pc' := 28) dX8_tellFields_27 rfl rfl ?_
      refine g_icmp_ne (pc' := 31) 68 dX8_tellFields_28 rfl (by decide) (fun c6 => ?_) (fun c6 => ?_)
      · have hf := ite_f c6 hf
        exact s_X8_tellFields_68 kF (f_X8_tellFields_5 kF n) F hF ih v0 v1 v2 v3 v4 M _ hf
      · have hf := ite_t c6 hf
        refine g_aload_n (pc' := 32) dX8_tellFields_31 rfl rfl ?_
        refine g_getR (pc' := 35) 8 4 rfl rfl (by decide) inX8 (by decide) rfl rfl q_1093 dX8_tellFields_32 rfl h1 ?_
        refine g_getR (pc' := 38) 5 10 rfl rfl (by decide) inX5 (by decide) rfl rfl q_1113 dX8_tellFields_35 rfl h2 ?_
        refine g_iload (pc' := 40) dX8_tellFields_38 rfl rfl ?_
        obtain ⟨h7, hf⟩ := chk_s hf
        obtain ⟨b8, hf⟩ := chk_s hf
        refine g_iald (pc' := 41) dX8_tellFields_40 rfl h7 (inB_in b8) ?_
        refine g_aload_n (pc' := 42) dX8_tellFields_41 rfl rfl ?_
        refine g_getI (pc' := 45) 8 3 rfl rfl (by decide) inX8 (by decide) rfl rfl q_1096 dX8_tellFields_42 rfl h1 ?_
        refine g_iand (pc' := 46) dX8_tellFields_45 rfl ?_
        refine g_if_eq (pc' := 49) 68 dX8_tellFields_46 rfl (by decide) (fun c9 => ?_) (fun c9 => ?_)
        · have hf := ite_t c9 hf
          exact s_X8_tellFields_68 kF (f_X8_tellFields_5 kF n) F hF ih v0 v1 v2 v3 v4 M _ hf
        · have hf := ite_f c9 hf
          refine g_iload_n (pc' := 50) dX8_tellFields_49 rfl rfl ?_
          refine g_if_ne (pc' := 53) 59 dX8_tellFields_50 rfl (by decide) (fun c10 => ?_) (fun c10 => ?_)
          · have hf := ite_f c10 hf
            refine g_mask [true, true, true, false, true] rfl ?_
            exact s_X8_tellFields_59 kF (f_X8_tellFields_5 kF n) F hF ih v0 v1 v2 v4 M _ hf
          · have hf := ite_t c10 hf
            refine g_aload_n (pc' := 54) dX8_tellFields_53 rfl rfl ?_
            refine g_bipush (pc' := 56) (32 : Int32) dX8_tellFields_54 rfl (by decide) ?_
            obtain ⟨_, M11, e12, hf⟩ := bnd_some hf
            refine g_callVv (pc' := 59) (k' := 0) (u' := 0) (fr2 := 1) (As := [aI (32 : Int32)]) (b := v0) (st := []) cf_X8_put q_1114 (by omega) (ci := 8) rfl rfl (by decide) dX8_tellFields_56 rfl rfl rfl (Nat.le_of_ble_eq_true rfl) (Or.inl rfl) (Nat.le_refl _) (Nat.le_refl _) (Nat.le_refl _) (Nat.le_refl _) h1 (s_X8_put v0 (32 : Int32) M _ e12) ?_
            refine g_mask [true, true, true, false, true] rfl ?_
            refine g_widen (k' := 0) (u' := 0) (by omega) (by omega) ?_
            exact s_X8_tellFields_59 kF (f_X8_tellFields_5 kF n) F hF ih v0 v1 v2 v4 M11 _ hf
theorem s_X8_tellFields_o (kF : Nat → Int32 → Int32 → Mem → Option (Unit × Mem)) (F : Nat) (hF : ∀ (a0 : Nat) (a1 : Int32) (a2 : Int32) (M : Mem) (r : (Unit × Mem)), kF a0 a1 a2 M = some r → Sem mi_X8_tellFields F [aR a0, aI a1, aI a2] M (oU r.1) r.2) (v0 : Nat) (v1 : Int32) (v2 : Int32) (M : Mem) (r : (Unit × Mem)) (hf : f_X8_tellFields_o kF v0 v1 v2 M = some r) : Sem mi_X8_tellFields ((F + 6)) [aR v0, aI v1, aI v2] M (oU r.1) r.2 := by
  unfold f_X8_tellFields_o at hf
  refine sem_of (by decide) rfl rfl rfl (Nat.le_of_ble_eq_true rfl) (lv := [some (aR v0), some (aI v1), some (aI v2), none, none]) rfl ?_
  refine g_iconst (pc' := 1) (1 : Int32) dX8_tellFields_0 rfl (by decide) ?_
  refine g_istore_n (pc' := 2) (lv' := [some (aR v0), some (aI v1), some (aI v2), some (aI (1 : Int32)), none]) dX8_tellFields_1 rfl rfl (by decide) rfl ?_
  refine g_iconst (pc' := 3) (0 : Int32) dX8_tellFields_2 rfl (by decide) ?_
  refine g_istore (pc' := 5) (lv' := [some (aR v0), some (aI v1), some (aI v2), some (aI (1 : Int32)), some (aI (0 : Int32))]) dX8_tellFields_3 rfl rfl (by decide) rfl ?_
  exact s_X8_tellFields_5 kF F hF FUEL v0 v1 v2 (1 : Int32) (0 : Int32) M _ hf
theorem s_X8_tellFields : ∀ (n : Nat) (v0 : Nat) (v1 : Int32) (v2 : Int32) (M : Mem) (r : (Unit × Mem)), f_X8_tellFields n v0 v1 v2 M = some r → Sem mi_X8_tellFields (6 * n + 0) [aR v0, aI v1, aI v2] M (oU r.1) r.2 := by
  intro n
  induction n with
  | zero => intro v0 v1 v2 M r hf; cases hf
  | succ n ih =>
    intro v0 v1 v2 M r hf
    rw [show 6 * (n + 1) + 0 = 6 * n + 0 + 6 by omega]
    exact s_X8_tellFields_o (f_X8_tellFields n) (6 * n + 0) ih v0 v1 v2 M r hf
def f_X8_tell (v0 : Nat) (v1 : Nat) (v2 : Nat) (v3 : Nat) (v4 : Int32) (v5 : Int32) (v6 : Int32) (M : Mem) : Option (Int32 × Mem) :=
  if mK M v0 = 9 then
    if okrB M [v1] = true then
      ap (sR M v0 4 v1) fun M2 =>
      if mK M2 v0 = 9 then
        if okrB M2 [v2] = true then
          ap (sR M2 v0 5 v2) fun M5 =>
          if mK M5 v0 = 9 then
            if okrB M5 [v3] = true then
              ap (sR M5 v0 6 v3) fun M8 =>
              if mK M8 v0 = 9 then
                ap (sI M8 v0 3 v5) fun M11 =>
                if mK M11 v0 = 9 then
                  ap (sI M11 v0 1 v6) fun M13 =>
                  if mK M13 v0 = 9 then
                    ap (sI M13 v0 2 (0 : Int32)) fun M15 =>
                    if mK M15 v0 = 9 then
                      ap (sI M15 v0 0 (-1 : Int32)) fun M17 =>
                      if mK M17 v0 = 9 then
                        bnd (f_X8_goTo v0 v4 M17) fun _ M19 =>
                        if mK M19 v0 = 9 then
                          bnd (f_X8_tellFields 6 v0 (-1 : Int32) (0 : Int32) M19) fun _ M22 =>
                          if mK M22 v0 = 9 then
                            bnd (f_X8_put v0 (59 : Int32) M22) fun _ M25 =>
                            if mK M25 v0 = 9 then
                              some (mI M25 v0 2, M25)
                            else none
                          else none
                        else none
                      else none
                    else none
                  else none
                else none
              else none
            else none
          else none
        else none
      else none
    else none
  else none
theorem s_X8_tell (v0 : Nat) (v1 : Nat) (v2 : Nat) (v3 : Nat) (v4 : Int32) (v5 : Int32) (v6 : Int32) (M : Mem) (r : (Int32 × Mem)) (hf : f_X8_tell v0 v1 v2 v3 v4 v5 v6 M = some r) : Sem mi_X8_tell (37) [aR v0, aR v1, aR v2, aR v3, aI v4, aI v5, aI v6] M (oI r.1) r.2 := by
  unfold f_X8_tell at hf
  refine sem_of (by decide) rfl rfl rfl (Nat.le_of_ble_eq_true rfl) (lv := [some (aR v0), some (aR v1), some (aR v2), some (aR v3), some (aI v4), some (aI v5), some (aI v6)]) rfl ?_
  refine g_aload_n (pc' := 1) dX8_tell_0 rfl rfl ?_
  refine g_aload_n (pc' := 2) dX8_tell_1 rfl rfl ?_
  obtain ⟨h1, hf⟩ := chk_s hf
  obtain ⟨hr3, hf⟩ := chk_s hf
  refine g_putR (pc' := 5) 8 4 rfl rfl (by decide) inX8 tyX8_ok nmX8 (by decide) rfl rfl rfl (Or.inl ⟨_, rfl⟩) (okrB_1 hr3) q_1093 dX8_tell_2 rfl h1 (gM fun M2 hM2 => ?_)
  have hf := ap_eq hf hM2
  refine g_aload_n (pc' := 6) dX8_tell_5 rfl rfl ?_
  refine g_aload_n (pc' := 7) dX8_tell_6 rfl rfl ?_
  obtain ⟨h4, hf⟩ := chk_s hf
  obtain ⟨hr6, hf⟩ := chk_s hf
  refine g_putR (pc' := 10) 8 5 rfl rfl (by decide) inX8 tyX8_ok nmX8 (by decide) rfl rfl rfl (Or.inl ⟨_, rfl⟩) (okrB_1 hr6) q_1094 dX8_tell_7 rfl h4 (gM fun M5 hM5 => ?_)
  have hf := ap_eq hf hM5
  refine g_aload_n (pc' := 11) dX8_tell_10 rfl rfl ?_
  refine g_aload_n (pc' := 12) dX8_tell_11 rfl rfl ?_
  obtain ⟨h7, hf⟩ := chk_s hf
  obtain ⟨hr9, hf⟩ := chk_s hf
  refine g_putR (pc' := 15) 8 6 rfl rfl (by decide) inX8 tyX8_ok nmX8 (by decide) rfl rfl rfl (Or.inl ⟨_, rfl⟩) (okrB_1 hr9) q_1095 dX8_tell_12 rfl h7 (gM fun M8 hM8 => ?_)
  have hf := ap_eq hf hM8
  refine g_aload_n (pc' := 16) dX8_tell_15 rfl rfl ?_
  refine g_iload (pc' := 18) dX8_tell_16 rfl rfl ?_
  obtain ⟨h10, hf⟩ := chk_s hf
  refine g_putI (pc' := 21) 8 3 rfl rfl (by decide) inX8 tyX8_ok nmX8 (by decide) rfl rfl rfl rfl q_1096 dX8_tell_18 rfl h10 (gM fun M11 hM11 => ?_)
  have hf := ap_eq hf hM11
  refine g_aload_n (pc' := 22) dX8_tell_21 rfl rfl ?_
  refine g_iload (pc' := 24) dX8_tell_22 rfl rfl ?_
  obtain ⟨h12, hf⟩ := chk_s hf
  refine g_putI (pc' := 27) 8 1 rfl rfl (by decide) inX8 tyX8_ok nmX8 (by decide) rfl rfl rfl rfl q_1097 dX8_tell_24 rfl h12 (gM fun M13 hM13 => ?_)
  have hf := ap_eq hf hM13
  refine g_aload_n (pc' := 28) dX8_tell_27 rfl rfl ?_
  refine g_iconst (pc' := 29) (0 : Int32) dX8_tell_28 rfl (by decide) ?_
  obtain ⟨h14, hf⟩ := chk_s hf
  refine g_putI (pc' := 32) 8 2 rfl rfl (by decide) inX8 tyX8_ok nmX8 (by decide) rfl rfl rfl rfl q_1098 dX8_tell_29 rfl h14 (gM fun M15 hM15 => ?_)
  have hf := ap_eq hf hM15
  refine g_aload_n (pc' := 33) dX8_tell_32 rfl rfl ?_
  refine g_iconst (pc' := 34) (-1 : Int32) dX8_tell_33 rfl (by decide) ?_
  obtain ⟨h16, hf⟩ := chk_s hf
  refine g_putI (pc' := 37) 8 0 rfl rfl (by decide) inX8 tyX8_ok nmX8 (by decide) rfl rfl rfl rfl q_1099 dX8_tell_34 rfl h16 (gM fun M17 hM17 => ?_)
  have hf := ap_eq hf hM17
  refine g_aload_n (pc' := 38) dX8_tell_37 rfl rfl ?_
  refine g_iload (pc' := 40) dX8_tell_38 rfl rfl ?_
  obtain ⟨h18, hf⟩ := chk_s hf
  obtain ⟨_, M19, e20, hf⟩ := bnd_some hf
  refine g_callVv (pc' := 43) (k' := 0) (u' := 0) (fr2 := 2) (As := [aI v4]) (b := v0) (st := []) cf_X8_goTo q_1100 (by omega) (ci := 8) rfl rfl (by decide) dX8_tell_40 rfl rfl rfl (Nat.le_of_ble_eq_true rfl) (Or.inl rfl) (Nat.le_refl _) (Nat.le_refl _) (Nat.le_refl _) (Nat.le_refl _) h18 (s_X8_goTo v0 v4 M17 _ e20) ?_
  refine g_aload_n (pc' := 44) dX8_tell_43 rfl rfl ?_
  refine g_iconst (pc' := 45) (-1 : Int32) dX8_tell_44 rfl (by decide) ?_
  refine g_iconst (pc' := 46) (0 : Int32) dX8_tell_45 rfl (by decide) ?_
  obtain ⟨h21, hf⟩ := chk_s hf
  obtain ⟨_, M22, e23, hf⟩ := bnd_some hf
  refine g_callVv (pc' := 49) (k' := 0) (u' := 0) (fr2 := 6 * 6 + 0) (As := [aI (-1 : Int32), aI (0 : Int32)]) (b := v0) (st := []) cf_X8_tellFields q_1107 (by omega) (ci := 8) rfl rfl (by decide) dX8_tell_46 rfl rfl rfl (Nat.le_of_ble_eq_true rfl) (Or.inl rfl) (Nat.le_refl _) (Nat.le_refl _) (Nat.le_refl _) (Nat.le_refl _) h21 (s_X8_tellFields 6 v0 (-1 : Int32) (0 : Int32) M19 _ e23) ?_
  refine g_aload_n (pc' := 50) dX8_tell_49 rfl rfl ?_
  refine g_bipush (pc' := 52) (59 : Int32) dX8_tell_50 rfl (by decide) ?_
  obtain ⟨h24, hf⟩ := chk_s hf
  obtain ⟨_, M25, e26, hf⟩ := bnd_some hf
  refine g_callVv (pc' := 55) (k' := 0) (u' := 0) (fr2 := 1) (As := [aI (59 : Int32)]) (b := v0) (st := []) cf_X8_put q_1114 (by omega) (ci := 8) rfl rfl (by decide) dX8_tell_52 rfl rfl rfl (Nat.le_of_ble_eq_true rfl) (Or.inl rfl) (Nat.le_refl _) (Nat.le_refl _) (Nat.le_refl _) (Nat.le_refl _) h24 (s_X8_put v0 (59 : Int32) M22 _ e26) ?_
  refine g_aload_n (pc' := 56) dX8_tell_55 rfl rfl ?_
  obtain ⟨h27, hf⟩ := chk_s hf
  refine g_getI (pc' := 59) 8 2 rfl rfl (by decide) inX8 (by decide) rfl rfl q_1098 dX8_tell_56 rfl h27 ?_
  cases hf
  exact g_ireturn dX8_tell_59 rfl (Nat.le_of_ble_eq_true rfl) (Nat.le_of_ble_eq_true rfl)
def f_X8_countReads_100 (k28 : Nat → Int32 → Int32 → Int32 → Int32 → Mem → Option (Int32 × Mem)) (v0 : Nat) (v4 : Int32) (v5 : Int32) (v6 : Int32) (v7 : Int32) (w0 : Int32) (M : Mem) : Option (Int32 × Mem) :=
  if mK M v0 = 9 then
    if mK M (mR M v0 5) = 6 then
      bnd (f_X5_leafAfter (mR M v0 5) v4 v6 w0 M) fun r4 M3 =>
      k28 v0 v4 v5 r4 (v7 + 1) M3
    else none
  else none
def f_X8_countReads_28 : Nat → Nat → Int32 → Int32 → Int32 → Int32 → Mem → Option (Int32 × Mem)
  | 0, _, _, _, _, _, _ => none
  | n + 1, v0, v4, v5, v6, v7, M =>
    if (960 : Int32) ≤ v7 then
      some (v5, M)
    else
      if v6 = (-1 : Int32) then
        some (v5, M)
      else
        if mK M v0 = 9 then
          if mK M (mR M v0 7) = 25 then
            if inB (0 : Int32) (mN M (mR M v0 7)) = true then
              if mK M (mR M (mR M v0 7) (0 : Int32).toNatClampNeg) = 21 then
                if inB v6 (mN M (mR M (mR M v0 7) (0 : Int32).toNatClampNeg)) = true then
                  ap (sI M (mR M (mR M v0 7) (0 : Int32).toNatClampNeg) v6.toNatClampNeg ((mI M (mR M (mR M v0 7) (0 : Int32).toNatClampNeg) v6.toNatClampNeg) + (1 : Int32))) fun M8 =>
                  if mK M8 v0 = 9 then
                    if mK M8 (mR M8 v0 7) = 25 then
                      if inB (0 : Int32) (mN M8 (mR M8 v0 7)) = true then
                        if mK M8 (mR M8 (mR M8 v0 7) (0 : Int32).toNatClampNeg) = 21 then
                          if inB v6 (mN M8 (mR M8 (mR M8 v0 7) (0 : Int32).toNatClampNeg)) = true then
                            bnd (f_X8_has v0 v6 (mI M8 (mR M8 (mR M8 v0 7) (0 : Int32).toNatClampNeg) v6.toNatClampNeg) M8) fun r15 M14 =>
                            if r15 = 0 then
                              f_X8_countReads_100 (f_X8_countReads_28 n) v0 v4 (v5 + 1) v6 v7 (0 : Int32) M14
                            else
                              if mK M14 v0 = 9 then
                                if mK M14 (mR M14 v0 6) = 8 then
                                  if mK M14 (mR M14 (mR M14 v0 6) 0) = 23 then
                                    if inB v6 (mN M14 (mR M14 (mR M14 v0 6) 0)) = true then
                                      if mK M14 (mR M14 (mR M14 (mR M14 v0 6) 0) v6.toNatClampNeg) = 3 then
                                        if mK M14 (mR M14 (mR M14 (mR M14 (mR M14 v0 6) 0) v6.toNatClampNeg) 0) = 21 then
                                          if inB (mI M8 (mR M8 (mR M8 v0 7) (0 : Int32).toNatClampNeg) v6.toNatClampNeg) (mN M14 (mR M14 (mR M14 (mR M14 (mR M14 v0 6) 0) v6.toNatClampNeg) 0)) = true then
                                            f_X8_countReads_100 (f_X8_countReads_28 n) v0 v4 (v5 + 1) v6 v7 (mI M14 (mR M14 (mR M14 (mR M14 (mR M14 v0 6) 0) v6.toNatClampNeg) 0) (mI M8 (mR M8 (mR M8 v0 7) (0 : Int32).toNatClampNeg) v6.toNatClampNeg).toNatClampNeg) M14
                                          else none
                                        else none
                                      else none
                                    else none
                                  else none
                                else none
                              else none
                          else none
                        else none
                      else none
                    else none
                  else none
                else none
              else none
            else none
          else none
        else none
def f_X8_countReads (v0 : Nat) (v1 : Nat) (v2 : Nat) (v3 : Int32) (v4 : Int32) (M : Mem) : Option (Int32 × Mem) :=
  if mK M v0 = 9 then
    if okrB M [v1] = true then
      ap (sR M v0 5 v1) fun M2 =>
      if mK M2 v0 = 9 then
        if okrB M2 [v2] = true then
          ap (sR M2 v0 6 v2) fun M5 =>
          if mK M5 v0 = 9 then
            bnd (f_X8_goTo v0 v3 M5) fun _ M8 =>
            bnd (f_X11_lowestBit v4 M8) fun r11 M10 =>
            f_X8_countReads_28 FUEL v0 v4 (0 : Int32) r11 (0 : Int32) M10
          else none
        else none
      else none
    else none
  else none
theorem s_X8_countReads_100 (k28 : Nat → Int32 → Int32 → Int32 → Int32 → Mem → Option (Int32 × Mem)) (hk28 : ∀ (v0 : Nat) (v4 : Int32) (v5 : Int32) (v6 : Int32) (v7 : Int32) (M : Mem) (r : (Int32 × Mem)), k28 v0 v4 v5 v6 v7 M = some r → G mi_X8_countReads 4 (oI r.1) r.2 28 [some (aR v0), none, none, none, some (aI v4), some (aI v5), some (aI v6), some (aI v7), none, none] [] M 0 0) (v0 : Nat) (v4 : Int32) (v5 : Int32) (v6 : Int32) (v7 : Int32) (w0 : Int32) (M : Mem) (r : (Int32 × Mem)) (hf : f_X8_countReads_100 k28 v0 v4 v5 v6 v7 w0 M = some r) : G mi_X8_countReads 4 (oI r.1) r.2 100 [some (aR v0), none, none, none, some (aI v4), some (aI v5), some (aI v6), some (aI v7), none, none] [aI w0] M 0 0 := by
  unfold f_X8_countReads_100 at hf
  refine g_istore (pc' := 102) (lv' := [some (aR v0), none, none, none, some (aI v4), some (aI v5), some (aI v6), some (aI v7), none, some (aI w0)]) dX8_countReads_100 rfl rfl (by decide) rfl ?_
  refine g_aload_n (pc' := 103) dX8_countReads_102 rfl rfl ?_
  obtain ⟨h1, hf⟩ := chk_s hf
  refine g_getR (pc' := 106) 8 5 rfl rfl (by decide) inX8 (by decide) rfl rfl q_1094 dX8_countReads_103 rfl h1 ?_
  refine g_iload (pc' := 108) dX8_countReads_106 rfl rfl ?_
  refine g_iload (pc' := 110) dX8_countReads_108 rfl rfl ?_
  refine g_iload (pc' := 112) dX8_countReads_110 rfl rfl ?_
  obtain ⟨h2, hf⟩ := chk_s hf
  obtain ⟨r4, M3, e4, hf⟩ := bnd_some hf
  refine g_callVi (pc' := 115) (k' := 0) (u' := 0) (fr2 := 3) (As := [aI v4, aI v6, aI w0]) (b := (mR M v0 5)) (st := []) cf_X5_leafAfter q_1226 (by omega) (ci := 5) rfl rfl (by decide) dX8_countReads_112 rfl rfl rfl (Nat.le_of_ble_eq_true rfl) (Or.inl rfl) (Nat.le_refl _) (Nat.le_refl _) (Nat.le_refl _) (Nat.le_refl _) h2 (s_X5_leafAfter (mR M v0 5) v4 v6 w0 M _ e4) ?_
  refine g_istore (pc' := 117) (lv' := [some (aR v0), none, none, none, some (aI v4), some (aI v5), some (aI r4), some (aI v7), none, some (aI w0)]) dX8_countReads_115 rfl rfl (by decide) rfl ?_
  refine g_iinc (pc' := 120) (lv' := [some (aR v0), none, none, none, some (aI v4), some (aI v5), some (aI r4), some (aI (v7 + 1)), none, some (aI w0)]) (v7 + 1) dX8_countReads_117 rfl rfl (by rfl) rfl (by decide) rfl ?_
  refine g_goto (pc' := 28) dX8_countReads_120 (by decide) ?_
  refine g_mask [true, true, true, true, true, true, true, true, true, false] rfl ?_
  refine g_widen (k' := 0) (u' := 0) (by omega) (by omega) ?_
  exact hk28 v0 v4 v5 r4 (v7 + 1) M3 _ hf
theorem s_X8_countReads_28 : ∀ (n : Nat) (v0 : Nat) (v4 : Int32) (v5 : Int32) (v6 : Int32) (v7 : Int32) (M : Mem) (r : (Int32 × Mem)), f_X8_countReads_28 n v0 v4 v5 v6 v7 M = some r → G mi_X8_countReads 4 (oI r.1) r.2 28 [some (aR v0), none, none, none, some (aI v4), some (aI v5), some (aI v6), some (aI v7), none, none] [] M 0 0 := by
  intro n
  induction n with
  | zero => intro v0 v4 v5 v6 v7 M r hf; cases hf
  | succ n ih =>
    intro v0 v4 v5 v6 v7 M r hf
    unfold f_X8_countReads_28 at hf
    refine g_iload (pc' := 30) dX8_countReads_28 rfl rfl ?_
    refine g_sipush (pc' := 33) (960 : Int32) dX8_countReads_30 rfl (by decide) ?_
    refine g_icmp_ge (pc' := 36) 123 dX8_countReads_33 rfl (by decide) (fun c1 => ?_) (fun c1 => ?_)
    · have hf := ite_t c1 hf
      refine g_iload (pc' := 125) dX8_countReads_123 rfl rfl ?_
      cases hf
      exact g_ireturn dX8_countReads_125 rfl (Nat.le_of_ble_eq_true rfl) (Nat.le_of_ble_eq_true rfl)
    · have hf := ite_f c1 hf
      refine g_iload (pc' := 38) dX8_countReads_36 rfl rfl ?_
      refine g_iconst (pc' := 39) (-1 : Int32) dX8_countReads_38 rfl (by decide) ?_
      refine g_icmp_eq (pc' := 42) 123 dX8_countReads_39 rfl (by decide) (fun c2 => ?_) (fun c2 => ?_)
      · have hf := ite_t c2 hf
        refine g_iload (pc' := 125) dX8_countReads_123 rfl rfl ?_
        cases hf
        exact g_ireturn dX8_countReads_125 rfl (Nat.le_of_ble_eq_true rfl) (Nat.le_of_ble_eq_true rfl)
      · have hf := ite_f c2 hf
        refine g_iinc (pc' := 45) (lv' := [some (aR v0), none, none, none, some (aI v4), some (aI (v5 + 1)), some (aI v6), some (aI v7), none, none]) (v5 + 1) dX8_countReads_42 rfl rfl (by rfl) rfl (by decide) rfl ?_
        refine g_aload_n (pc' := 46) dX8_countReads_45 rfl rfl ?_
        obtain ⟨h3, hf⟩ := chk_s hf
        refine g_getR (pc' := 49) 8 7 rfl rfl (by decide) inX8 (by decide) rfl rfl q_74 dX8_countReads_46 rfl h3 ?_
        refine g_iconst (pc' := 50) (0 : Int32) dX8_countReads_49 rfl (by decide) ?_
        obtain ⟨h4, hf⟩ := chk_s hf
        obtain ⟨b5, hf⟩ := chk_s hf
        refine g_aald2 (pc' := 51) dX8_countReads_50 rfl h4 (inB_in b5) ?_
        refine g_iload (pc' := 53) dX8_countReads_51 rfl rfl ?_
        refine g_dup2 (pc' := 54) dX8_countReads_53 rfl rfl rfl ?_
        obtain ⟨h6, hf⟩ := chk_s hf
        obtain ⟨b7, hf⟩ := chk_s hf
        refine g_iald (pc' := 55) dX8_countReads_54 rfl h6 (inB_in b7) ?_
        refine g_iconst (pc' := 56) (1 : Int32) dX8_countReads_55 rfl (by decide) ?_
        refine g_iadd (pc' := 57) dX8_countReads_56 rfl ?_
        refine g_iast (pc' := 58) dX8_countReads_57 rfl h6 (inB_in b7) (gM fun M8 hM8 => ?_)
        have hf := ap_eq hf hM8
        refine g_aload_n (pc' := 59) dX8_countReads_58 rfl rfl ?_
        obtain ⟨h9, hf⟩ := chk_s hf
        refine g_getR (pc' := 62) 8 7 rfl rfl (by decide) inX8 (by decide) rfl rfl q_74 dX8_countReads_59 rfl h9 ?_
        refine g_iconst (pc' := 63) (0 : Int32) dX8_countReads_62 rfl (by decide) ?_
        obtain ⟨h10, hf⟩ := chk_s hf
        obtain ⟨b11, hf⟩ := chk_s hf
        refine g_aald2 (pc' := 64) dX8_countReads_63 rfl h10 (inB_in b11) ?_
        refine g_iload (pc' := 66) dX8_countReads_64 rfl rfl ?_
        obtain ⟨h12, hf⟩ := chk_s hf
        obtain ⟨b13, hf⟩ := chk_s hf
        refine g_iald (pc' := 67) dX8_countReads_66 rfl h12 (inB_in b13) ?_
        refine g_istore (pc' := 69) (lv' := [some (aR v0), none, none, none, some (aI v4), some (aI (v5 + 1)), some (aI v6), some (aI v7), some (aI (mI M8 (mR M8 (mR M8 v0 7) (0 : Int32).toNatClampNeg) v6.toNatClampNeg)), none]) dX8_countReads_67 rfl rfl (by decide) rfl ?_
        refine g_aload_n (pc' := 70) dX8_countReads_69 rfl rfl ?_
        refine g_iload (pc' := 72) dX8_countReads_70 rfl rfl ?_
        refine g_iload (pc' := 74) dX8_countReads_72 rfl rfl ?_
        obtain ⟨r15, M14, e15, hf⟩ := bnd_some hf
        refine g_callVi (pc' := 77) (k' := 0) (u' := 0) (fr2 := 1) (As := [aI v6, aI (mI M8 (mR M8 (mR M8 v0 7) (0 : Int32).toNatClampNeg) v6.toNatClampNeg)]) (b := v0) (st := []) cf_X8_has q_1130 (by omega) (ci := 8) rfl rfl (by decide) dX8_countReads_74 rfl rfl rfl (Nat.le_of_ble_eq_true rfl) (Or.inl rfl) (Nat.le_refl _) (Nat.le_refl _) (Nat.le_refl _) (Nat.le_refl _) h9 (s_X8_has v0 v6 (mI M8 (mR M8 (mR M8 v0 7) (0 : Int32).toNatClampNeg) v6.toNatClampNeg) M8 _ e15) ?_
        refine g_if_eq (pc' := 80) 99 dX8_countReads_77 rfl (by decide) (fun c16 => ?_) (fun c16 => ?_)
        · have hf := ite_t c16 hf
          refine g_iconst (pc' := 100) (0 : Int32) dX8_countReads_99 rfl (by decide) ?_
          refine g_mask [true, true, true, true, true, true, true, true, false, true] rfl ?_
          refine g_widen (k' := 0) (u' := 0) (by omega) (by omega) ?_
          exact s_X8_countReads_100 (f_X8_countReads_28 n) ih v0 v4 (v5 + 1) v6 v7 (0 : Int32) M14 _ hf
        · have hf := ite_f c16 hf
          refine g_aload_n (pc' := 81) dX8_countReads_80 rfl rfl ?_
          obtain ⟨h17, hf⟩ := chk_s hf
          refine g_getR (pc' := 84) 8 6 rfl rfl (by decide) inX8 (by decide) rfl rfl q_1095 dX8_countReads_81 rfl h17 ?_
          obtain ⟨h18, hf⟩ := chk_s hf
          refine g_getR (pc' := 87) 7 0 rfl rfl (by decide) inX7 (by decide) rfl rfl q_1105 dX8_countReads_84 rfl h18 ?_
          refine g_iload (pc' := 89) dX8_countReads_87 rfl rfl ?_
          obtain ⟨h19, hf⟩ := chk_s hf
          obtain ⟨b20, hf⟩ := chk_s hf
          refine g_aald (pc' := 90) (t0 := 2) (fun _ => rfl) (by decide) dX8_countReads_89 rfl h19 (inB_in b20) ?_
          obtain ⟨h21, hf⟩ := chk_s hf
          refine g_getR (pc' := 93) 2 0 rfl rfl (by decide) inX2 (by decide) rfl rfl q_1158 dX8_countReads_90 rfl h21 ?_
          refine g_iload (pc' := 95) dX8_countReads_93 rfl rfl ?_
          obtain ⟨h22, hf⟩ := chk_s hf
          obtain ⟨b23, hf⟩ := chk_s hf
          refine g_iald (pc' := 96) dX8_countReads_95 rfl h22 (inB_in b23) ?_
          refine g_goto (pc' := 100) dX8_countReads_96 (by decide) ?_
          refine g_mask [true, true, true, true, true, true, true, true, false, true] rfl ?_
          refine g_widen (k' := 0) (u' := 0) (by omega) (by omega) ?_
          exact s_X8_countReads_100 (f_X8_countReads_28 n) ih v0 v4 (v5 + 1) v6 v7 (mI M14 (mR M14 (mR M14 (mR M14 (mR M14 v0 6) 0) v6.toNatClampNeg) 0) (mI M8 (mR M8 (mR M8 v0 7) (0 : Int32).toNatClampNeg) v6.toNatClampNeg).toNatClampNeg) M14 _ hf
theorem s_X8_countReads (v0 : Nat) (v1 : Nat) (v2 : Nat) (v3 : Int32) (v4 : Int32) (M : Mem) (r : (Int32 × Mem)) (hf : f_X8_countReads v0 v1 v2 v3 v4 M = some r) : Sem mi_X8_countReads (4) [aR v0, aR v1, aR v2, aI v3, aI v4] M (oI r.1) r.2 := by
  unfold f_X8_countReads at hf
  refine sem_of (by decide) rfl rfl rfl (Nat.le_of_ble_eq_true rfl) (lv := [some (aR v0), some (aR v1), some (aR v2), some (aI v3), some (aI v4), none, none, none, none, none]) rfl ?_
  refine g_aload_n (pc' := 1) dX8_countReads_0 rfl rfl ?_
  refine g_aload_n (pc' := 2) dX8_countReads_1 rfl rfl ?_
  obtain ⟨h1, hf⟩ := chk_s hf
  obtain ⟨hr3, hf⟩ := chk_s hf
  refine g_putR (pc' := 5) 8 5 rfl rfl (by decide) inX8 tyX8_ok nmX8 (by decide) rfl rfl rfl (Or.inl ⟨_, rfl⟩) (okrB_1 hr3) q_1094 dX8_countReads_2 rfl h1 (gM fun M2 hM2 => ?_)
  have hf := ap_eq hf hM2
  refine g_aload_n (pc' := 6) dX8_countReads_5 rfl rfl ?_
  refine g_aload_n (pc' := 7) dX8_countReads_6 rfl rfl ?_
  obtain ⟨h4, hf⟩ := chk_s hf
  obtain ⟨hr6, hf⟩ := chk_s hf
  refine g_putR (pc' := 10) 8 6 rfl rfl (by decide) inX8 tyX8_ok nmX8 (by decide) rfl rfl rfl (Or.inl ⟨_, rfl⟩) (okrB_1 hr6) q_1095 dX8_countReads_7 rfl h4 (gM fun M5 hM5 => ?_)
  have hf := ap_eq hf hM5
  refine g_aload_n (pc' := 11) dX8_countReads_10 rfl rfl ?_
  refine g_iload_n (pc' := 12) dX8_countReads_11 rfl rfl ?_
  obtain ⟨h7, hf⟩ := chk_s hf
  obtain ⟨_, M8, e9, hf⟩ := bnd_some hf
  refine g_callVv (pc' := 15) (k' := 0) (u' := 0) (fr2 := 2) (As := [aI v3]) (b := v0) (st := []) cf_X8_goTo q_1100 (by omega) (ci := 8) rfl rfl (by decide) dX8_countReads_12 rfl rfl rfl (Nat.le_of_ble_eq_true rfl) (Or.inl rfl) (Nat.le_refl _) (Nat.le_refl _) (Nat.le_refl _) (Nat.le_refl _) h7 (s_X8_goTo v0 v3 M5 _ e9) ?_
  refine g_iconst (pc' := 16) (0 : Int32) dX8_countReads_15 rfl (by decide) ?_
  refine g_istore (pc' := 18) (lv' := [some (aR v0), some (aR v1), some (aR v2), some (aI v3), some (aI v4), some (aI (0 : Int32)), none, none, none, none]) dX8_countReads_16 rfl rfl (by decide) rfl ?_
  refine g_iload (pc' := 20) dX8_countReads_18 rfl rfl ?_
  obtain ⟨r11, M10, e11, hf⟩ := bnd_some hf
  refine g_callSNi (pc' := 23) (k' := 0) (u' := 0) (fr2 := 1) (As := [aI v4]) (st := []) cf_X11_lowestBit (List.mem_of_getElem? (i := 10) rfl) (by omega) dX8_countReads_20 rfl rfl rfl (Nat.le_of_ble_eq_true rfl) (Or.inl rfl) (Nat.le_refl _) (Nat.le_refl _) (Nat.le_refl _) (Nat.le_refl _) (s_X11_lowestBit v4 M8 _ e11) ?_
  refine g_istore (pc' := 25) (lv' := [some (aR v0), some (aR v1), some (aR v2), some (aI v3), some (aI v4), some (aI (0 : Int32)), some (aI r11), none, none, none]) dX8_countReads_23 rfl rfl (by decide) rfl ?_
  refine g_iconst (pc' := 26) (0 : Int32) dX8_countReads_25 rfl (by decide) ?_
  refine g_istore (pc' := 28) (lv' := [some (aR v0), some (aR v1), some (aR v2), some (aI v3), some (aI v4), some (aI (0 : Int32)), some (aI r11), some (aI (0 : Int32)), none, none]) dX8_countReads_26 rfl rfl (by decide) rfl ?_
  refine g_mask [true, false, false, false, true, true, true, true, true, true] rfl ?_
  refine g_widen (k' := 0) (u' := 0) (by omega) (by omega) ?_
  exact s_X8_countReads_28 FUEL v0 v4 (0 : Int32) r11 (0 : Int32) M10 _ hf
def f_X9_init (v0 : Nat) (M : Mem) : Option (Unit × Mem) :=
  if ¬ v0 = 0 then
    if mn M + 1 < 900000 then
      if okrB M [v0, v0] = true then
        ap (mNew M 21 (700 : Int32).toNatClampNeg) fun M2 =>
        if mK M2 v0 = 10 then
          if okrB M2 [(mn M + 1)] = true then
            ap (sR M2 v0 0 (mn M + 1)) fun M4 =>
            some ((), M4)
          else none
        else none
      else none
    else none
  else none
theorem s_X9_init (v0 : Nat) (M : Mem) (r : (Unit × Mem)) (hf : f_X9_init v0 M = some r) : Sem mi_X9_init (1) [aR v0] M (oU r.1) r.2 := by
  unfold f_X9_init at hf
  refine sem_of (by decide) rfl rfl rfl (Nat.le_of_ble_eq_true rfl) (lv := [some (aR v0)]) rfl ?_
  refine g_aload_n (pc' := 1) dX9_init_0 rfl rfl ?_
  obtain ⟨ho6, hf⟩ := chk_s hf
  refine g_obj (pc' := 4) q_57 q_11 q_12 (by omega) ho6 (Nat.le_of_ble_eq_true rfl) dX9_init_1 rfl ?_
  refine g_aload_n (pc' := 5) dX9_init_4 rfl rfl ?_
  refine g_sipush (pc' := 8) (700 : Int32) dX9_init_5 rfl (by decide) ?_
  obtain ⟨hm1, hf⟩ := chk_s hf
  obtain ⟨ha1, hf⟩ := chk_s hf
  refine g_newI (pc' := 10) (k' := 1) (u' := 700) (by decide) wall_aint dX9_init_8 rfl (by decide) (by decide) hm1 (okrB_ok ha1 rfl) (by omega) (by show 0 + 700 ≤ 700; omega) (by show 1 ≤ 1; omega) (by show 700 ≤ 700; omega) (gM fun M2 hM2 => ?_)
  have hf := ap_eq hf hM2
  obtain ⟨h3, hf⟩ := chk_s hf
  obtain ⟨hr5, hf⟩ := chk_s hf
  refine g_putFR (pc' := 13) 9 0 rfl rfl (by decide) inX9 tyX9_ok nmX9 (by decide) rfl rfl rfl rfl rfl (Or.inr ⟨_, rfl⟩) (okrB_1 hr5) q_59 dX9_init_10 rfl h3 (gM fun M4 hM4 => ?_)
  have hf := ap_eq hf hM4
  cases hf
  exact g_return dX9_init_13 rfl (Nat.le_of_ble_eq_true rfl) (Nat.le_of_ble_eq_true rfl)
def f_X9_append_3 : Nat → Nat → Int32 → Int32 → Mem → Option (Unit × Mem)
  | 0, _, _, _, _ => none
  | n + 1, v0, v1, v2, M =>
    if v2 < 0 then
      some ((), M)
    else
      if mK M v0 = 10 then
        if (700 : Int32) ≤ (mI M v0 1) then
          some ((), M)
        else
          if mK M (mR M v0 0) = 21 then
            if inB (mI M v0 1) (mN M (mR M v0 0)) = true then
              ap (sI M (mR M v0 0) (mI M v0 1).toNatClampNeg (((v1.toUInt32 >>> (v2.toUInt32 &&& Int32.toUInt32 31)).toInt32) &&& (255 : Int32))) fun M6 =>
              if mK M6 v0 = 10 then
                ap (sI M6 v0 1 ((mI M6 v0 1) + (1 : Int32))) fun M8 =>
                f_X9_append_3 n v0 v1 (v2 + (-8)) M8
              else none
            else none
          else none
      else none
def f_X9_append (v0 : Nat) (v1 : Int32) (M : Mem) : Option (Unit × Mem) :=
  f_X9_append_3 FUEL v0 v1 (24 : Int32) M
theorem s_X9_append_3 : ∀ (n : Nat) (v0 : Nat) (v1 : Int32) (v2 : Int32) (M : Mem) (r : (Unit × Mem)), f_X9_append_3 n v0 v1 v2 M = some r → G mi_X9_append 1 (oU r.1) r.2 3 [some (aR v0), some (aI v1), some (aI v2)] [] M 0 0 := by
  intro n
  induction n with
  | zero => intro v0 v1 v2 M r hf; cases hf
  | succ n ih =>
    intro v0 v1 v2 M r hf
    unfold f_X9_append_3 at hf
    refine g_iload_n (pc' := 4) dX9_append_3 rfl rfl ?_
    refine g_if_lt (pc' := 7) 49 dX9_append_4 rfl (by decide) (fun c1 => ?_) (fun c1 => ?_)
    · have hf := ite_t c1 hf
      cases hf
      exact g_return dX9_append_49 rfl (Nat.le_of_ble_eq_true rfl) (Nat.le_of_ble_eq_true rfl)
    · have hf := ite_f c1 hf
      refine g_aload_n (pc' := 8) dX9_append_7 rfl rfl ?_
      obtain ⟨h2, hf⟩ := chk_s hf
      refine g_getI (pc' := 11) 9 1 rfl rfl (by decide) inX9 (by decide) rfl rfl q_162 dX9_append_8 rfl h2 ?_
      refine g_sipush (pc' := 14) (700 : Int32) dX9_append_11 rfl (by decide) ?_
      refine g_icmp_ge (pc' := 17) 49 dX9_append_14 rfl (by decide) (fun c3 => ?_) (fun c3 => ?_)
      · have hf := ite_t c3 hf
        cases hf
        exact g_return dX9_append_49 rfl (Nat.le_of_ble_eq_true rfl) (Nat.le_of_ble_eq_true rfl)
      · have hf := ite_f c3 hf
        refine g_aload_n (pc' := 18) dX9_append_17 rfl rfl ?_
        refine g_getR (pc' := 21) 9 0 rfl rfl (by decide) inX9 (by decide) rfl rfl q_59 dX9_append_18 rfl h2 ?_
        refine g_aload_n (pc' := 22) dX9_append_21 rfl rfl ?_
        refine g_getI (pc' := 25) 9 1 rfl rfl (by decide) inX9 (by decide) rfl rfl q_162 dX9_append_22 rfl h2 ?_
        refine g_iload_n (pc' := 26) dX9_append_25 rfl rfl ?_
        refine g_iload_n (pc' := 27) dX9_append_26 rfl rfl ?_
        refine g_iushr (pc' := 28) dX9_append_27 rfl ?_
        refine g_sipush (pc' := 31) (255 : Int32) dX9_append_28 rfl (by decide) ?_
        refine g_iand (pc' := 32) dX9_append_31 rfl ?_
        obtain ⟨h4, hf⟩ := chk_s hf
        obtain ⟨b5, hf⟩ := chk_s hf
        refine g_iast (pc' := 33) dX9_append_32 rfl h4 (inB_in b5) (gM fun M6 hM6 => ?_)
        have hf := ap_eq hf hM6
        refine g_aload_n (pc' := 34) dX9_append_33 rfl rfl ?_
        refine g_dup (pc' := 35) dX9_append_34 rfl rfl ?_
        obtain ⟨h7, hf⟩ := chk_s hf
        refine g_getI (pc' := 38) 9 1 rfl rfl (by decide) inX9 (by decide) rfl rfl q_162 dX9_append_35 rfl h7 ?_
        refine g_iconst (pc' := 39) (1 : Int32) dX9_append_38 rfl (by decide) ?_
        refine g_iadd (pc' := 40) dX9_append_39 rfl ?_
        refine g_putI (pc' := 43) 9 1 rfl rfl (by decide) inX9 tyX9_ok nmX9 (by decide) rfl rfl rfl rfl q_162 dX9_append_40 rfl h7 (gM fun M8 hM8 => ?_)
        have hf := ap_eq hf hM8
        refine g_iinc (pc' := 46) (lv' := [some (aR v0), some (aI v1), some (aI (v2 + (-8)))]) (v2 + (-8)) dX9_append_43 rfl rfl (by rfl) rfl (by decide) rfl ?_
        refine g_goto (pc' := 3) dX9_append_46 (by decide) ?_
        exact ih v0 v1 (v2 + (-8)) M8 _ hf
theorem s_X9_append (v0 : Nat) (v1 : Int32) (M : Mem) (r : (Unit × Mem)) (hf : f_X9_append v0 v1 M = some r) : Sem mi_X9_append (1) [aR v0, aI v1] M (oU r.1) r.2 := by
  unfold f_X9_append at hf
  refine sem_of (by decide) rfl rfl rfl (Nat.le_of_ble_eq_true rfl) (lv := [some (aR v0), some (aI v1), none]) rfl ?_
  refine g_bipush (pc' := 2) (24 : Int32) dX9_append_0 rfl (by decide) ?_
  refine g_istore_n (pc' := 3) (lv' := [some (aR v0), some (aI v1), some (aI (24 : Int32))]) dX9_append_2 rfl rfl (by decide) rfl ?_
  exact s_X9_append_3 FUEL v0 v1 (24 : Int32) M _ hf
def f_X9_open (v0 : Nat) (v1 : Int32) (M : Mem) : Option (Unit × Mem) :=
  if mK M v0 = 10 then
    ap (sI M v0 2 v1) fun M2 =>
    if mK M2 v0 = 10 then
      ap (sI M2 v0 1 (0 : Int32)) fun M4 =>
      if mK M4 v0 = 10 then
        ap (sI M4 v0 5 (0 : Int32)) fun M6 =>
        if mK M6 v0 = 10 then
          bnd (f_X9_advance v0 M6) fun _ M8 =>
          some ((), M8)
        else none
      else none
    else none
  else none
theorem s_X9_open (v0 : Nat) (v1 : Int32) (M : Mem) (r : (Unit × Mem)) (hf : f_X9_open v0 v1 M = some r) : Sem mi_X9_open (3) [aR v0, aI v1] M (oU r.1) r.2 := by
  unfold f_X9_open at hf
  refine sem_of (by decide) rfl rfl rfl (Nat.le_of_ble_eq_true rfl) (lv := [some (aR v0), some (aI v1)]) rfl ?_
  refine g_aload_n (pc' := 1) dX9_open_0 rfl rfl ?_
  refine g_iload_n (pc' := 2) dX9_open_1 rfl rfl ?_
  obtain ⟨h1, hf⟩ := chk_s hf
  refine g_putI (pc' := 5) 9 2 rfl rfl (by decide) inX9 tyX9_ok nmX9 (by decide) rfl rfl rfl rfl q_188 dX9_open_2 rfl h1 (gM fun M2 hM2 => ?_)
  have hf := ap_eq hf hM2
  refine g_aload_n (pc' := 6) dX9_open_5 rfl rfl ?_
  refine g_iconst (pc' := 7) (0 : Int32) dX9_open_6 rfl (by decide) ?_
  obtain ⟨h3, hf⟩ := chk_s hf
  refine g_putI (pc' := 10) 9 1 rfl rfl (by decide) inX9 tyX9_ok nmX9 (by decide) rfl rfl rfl rfl q_162 dX9_open_7 rfl h3 (gM fun M4 hM4 => ?_)
  have hf := ap_eq hf hM4
  refine g_aload_n (pc' := 11) dX9_open_10 rfl rfl ?_
  refine g_iconst (pc' := 12) (0 : Int32) dX9_open_11 rfl (by decide) ?_
  obtain ⟨h5, hf⟩ := chk_s hf
  refine g_putI (pc' := 15) 9 5 rfl rfl (by decide) inX9 tyX9_ok nmX9 (by decide) rfl rfl rfl rfl q_189 dX9_open_12 rfl h5 (gM fun M6 hM6 => ?_)
  have hf := ap_eq hf hM6
  refine g_aload_n (pc' := 16) dX9_open_15 rfl rfl ?_
  obtain ⟨h7, hf⟩ := chk_s hf
  obtain ⟨_, M8, e9, hf⟩ := bnd_some hf
  refine g_callVv (pc' := 19) (k' := 0) (u' := 0) (fr2 := 2) (As := []) (b := v0) (st := []) cf_X9_advance q_190 (by omega) (ci := 9) rfl rfl (by decide) dX9_open_16 rfl rfl rfl (Nat.le_of_ble_eq_true rfl) (Or.inl rfl) (Nat.le_refl _) (Nat.le_refl _) (Nat.le_refl _) (Nat.le_refl _) h7 (s_X9_advance v0 M6 _ e9) ?_
  cases hf
  exact g_return dX9_open_19 rfl (Nat.le_of_ble_eq_true rfl) (Nat.le_of_ble_eq_true rfl)
def f_X10_init (v0 : Nat) (M : Mem) : Option (Unit × Mem) :=
  if ¬ v0 = 0 then
    if mn M + 1 < 900000 then
      if okrB M [v0, v0] = true then
        ap (mNew M 21 (8 : Int32).toNatClampNeg) fun M2 =>
        if mK M2 v0 = 11 then
          if okrB M2 [(mn M + 1)] = true then
            ap (sR M2 v0 2 (mn M + 1)) fun M4 =>
            if mn M4 + 1 < 900000 then
              if okrB M4 [v0, v0] = true then
                ap (mNew M4 21 (8 : Int32).toNatClampNeg) fun M7 =>
                if mK M7 v0 = 11 then
                  if okrB M7 [(mn M4 + 1)] = true then
                    ap (sR M7 v0 3 (mn M4 + 1)) fun M9 =>
                    some ((), M9)
                  else none
                else none
              else none
            else none
          else none
        else none
      else none
    else none
  else none
theorem s_X10_init (v0 : Nat) (M : Mem) (r : (Unit × Mem)) (hf : f_X10_init v0 M = some r) : Sem mi_X10_init (1) [aR v0] M (oU r.1) r.2 := by
  unfold f_X10_init at hf
  refine sem_of (by decide) rfl rfl rfl (Nat.le_of_ble_eq_true rfl) (lv := [some (aR v0)]) rfl ?_
  refine g_aload_n (pc' := 1) dX10_init_0 rfl rfl ?_
  obtain ⟨ho11, hf⟩ := chk_s hf
  refine g_obj (pc' := 4) q_77 q_11 q_12 (by omega) ho11 (Nat.le_of_ble_eq_true rfl) dX10_init_1 rfl ?_
  refine g_aload_n (pc' := 5) dX10_init_4 rfl rfl ?_
  refine g_bipush (pc' := 7) (8 : Int32) dX10_init_5 rfl (by decide) ?_
  obtain ⟨hm1, hf⟩ := chk_s hf
  obtain ⟨ha1, hf⟩ := chk_s hf
  refine g_newI (pc' := 9) (k' := 1) (u' := 8) (by decide) wall_aint dX10_init_7 rfl (by decide) (by decide) hm1 (okrB_ok ha1 rfl) (by omega) (by show 0 + 8 ≤ 8; omega) (by show 1 ≤ 2; omega) (by show 8 ≤ 16; omega) (gM fun M2 hM2 => ?_)
  have hf := ap_eq hf hM2
  obtain ⟨h3, hf⟩ := chk_s hf
  obtain ⟨hr5, hf⟩ := chk_s hf
  refine g_putFR (pc' := 12) 10 2 rfl rfl (by decide) inX10 tyX10_ok nmX10 (by decide) rfl rfl rfl rfl rfl (Or.inr ⟨_, rfl⟩) (okrB_1 hr5) q_78 dX10_init_9 rfl h3 (gM fun M4 hM4 => ?_)
  have hf := ap_eq hf hM4
  refine g_aload_n (pc' := 13) dX10_init_12 rfl rfl ?_
  refine g_bipush (pc' := 15) (8 : Int32) dX10_init_13 rfl (by decide) ?_
  obtain ⟨hm6, hf⟩ := chk_s hf
  obtain ⟨ha6, hf⟩ := chk_s hf
  refine g_newI (pc' := 17) (k' := 2) (u' := 16) (by decide) wall_aint dX10_init_15 rfl (by decide) (by decide) hm6 (okrB_ok ha6 rfl) (by omega) (by show 8 + 8 ≤ 16; omega) (by show 2 ≤ 2; omega) (by show 16 ≤ 16; omega) (gM fun M7 hM7 => ?_)
  have hf := ap_eq hf hM7
  obtain ⟨h8, hf⟩ := chk_s hf
  obtain ⟨hr10, hf⟩ := chk_s hf
  refine g_putFR (pc' := 20) 10 3 rfl rfl (by decide) inX10 tyX10_ok nmX10 (by decide) rfl rfl rfl rfl rfl (Or.inr ⟨_, rfl⟩) (okrB_1 hr10) q_79 dX10_init_17 rfl h8 (gM fun M9 hM9 => ?_)
  have hf := ap_eq hf hM9
  cases hf
  exact g_return dX10_init_20 rfl (Nat.le_of_ble_eq_true rfl) (Nat.le_of_ble_eq_true rfl)
def f_X10_draw (v0 : Nat) (v1 : Int32) (M : Mem) : Option (Int32 × Mem) :=
  if mK M v0 = 11 then
    ap (sI M v0 5 (((mI M v0 5) * (1103515245 : Int32)) + (12345 : Int32))) fun M2 =>
    if v1 ≤ 0 then
      some ((0 : Int32), M2)
    else
      if mK M2 v0 = 11 then
        if ¬ v1 = 0 then
        some (((((mI M2 v0 5).toUInt32 >>> ((16 : Int32).toUInt32 &&& Int32.toUInt32 31)).toInt32) &&& (32767 : Int32)) - ((((mI M2 v0 5).toUInt32 >>> ((16 : Int32).toUInt32 &&& Int32.toUInt32 31)).toInt32) &&& (32767 : Int32)) / v1 * v1, M2)
        else none
      else none
  else none
theorem s_X10_draw (v0 : Nat) (v1 : Int32) (M : Mem) (r : (Int32 × Mem)) (hf : f_X10_draw v0 v1 M = some r) : Sem mi_X10_draw (1) [aR v0, aI v1] M (oI r.1) r.2 := by
  unfold f_X10_draw at hf
  refine sem_of (by decide) rfl rfl rfl (Nat.le_of_ble_eq_true rfl) (lv := [some (aR v0), some (aI v1)]) rfl ?_
  refine g_aload_n (pc' := 1) dX10_draw_0 rfl rfl ?_
  refine g_aload_n (pc' := 2) dX10_draw_1 rfl rfl ?_
  obtain ⟨h1, hf⟩ := chk_s hf
  refine g_getI (pc' := 5) 10 5 rfl rfl (by decide) inX10 (by decide) rfl rfl q_1484 dX10_draw_2 rfl h1 ?_
  refine g_ldc (pc' := 7) (v := (1103515245 : Int32)) dX10_draw_5 rfl q_1513 ?_
  refine g_imul (pc' := 8) dX10_draw_7 rfl ?_
  refine g_sipush (pc' := 11) (12345 : Int32) dX10_draw_8 rfl (by decide) ?_
  refine g_iadd (pc' := 12) dX10_draw_11 rfl ?_
  refine g_putI (pc' := 15) 10 5 rfl rfl (by decide) inX10 tyX10_ok nmX10 (by decide) rfl rfl rfl rfl q_1484 dX10_draw_12 rfl h1 (gM fun M2 hM2 => ?_)
  have hf := ap_eq hf hM2
  refine g_iload_n (pc' := 16) dX10_draw_15 rfl rfl ?_
  refine g_if_le (pc' := 19) 35 dX10_draw_16 rfl (by decide) (fun c3 => ?_) (fun c3 => ?_)
  · have hf := ite_t c3 hf
    refine g_iconst (pc' := 36) (0 : Int32) dX10_draw_35 rfl (by decide) ?_
    cases hf
    exact g_ireturn dX10_draw_36 rfl (Nat.le_of_ble_eq_true rfl) (Nat.le_of_ble_eq_true rfl)
  · have hf := ite_f c3 hf
    refine g_aload_n (pc' := 20) dX10_draw_19 rfl rfl ?_
    obtain ⟨h4, hf⟩ := chk_s hf
    refine g_getI (pc' := 23) 10 5 rfl rfl (by decide) inX10 (by decide) rfl rfl q_1484 dX10_draw_20 rfl h4 ?_
    refine g_bipush (pc' := 25) (16 : Int32) dX10_draw_23 rfl (by decide) ?_
    refine g_iushr (pc' := 26) dX10_draw_25 rfl ?_
    refine g_sipush (pc' := 29) (32767 : Int32) dX10_draw_26 rfl (by decide) ?_
    refine g_iand (pc' := 30) dX10_draw_29 rfl ?_
    refine g_iload_n (pc' := 31) dX10_draw_30 rfl rfl ?_
    obtain ⟨hz5, hf⟩ := chk_s hf
    refine g_irem (pc' := 32) dX10_draw_31 rfl hz5 ?_
    refine g_goto (pc' := 36) dX10_draw_32 (by decide) ?_
    cases hf
    exact g_ireturn dX10_draw_36 rfl (Nat.le_of_ble_eq_true rfl) (Nat.le_of_ble_eq_true rfl)
def f_X10_drawItem (kF : Nat → Int32 → Int32 → Mem → Option (Unit × Mem)) (v0 : Nat) (v1 : Int32) (v2 : Int32) (M : Mem) : Option (Unit × Mem) :=
  if mK M v0 = 11 then
    if mK M (mR M v0 6) = 6 then
      if mK M (mR M (mR M v0 6) 4) = 21 then
        if inB v1 (mN M (mR M (mR M v0 6) 4)) = true then
          if (mI M (mR M (mR M v0 6) 4) v1.toNatClampNeg) = (-1 : Int32) then
            bnd (kF v0 v1 (v2 + (1 : Int32)) M) fun _ M14 =>
            some ((), M14)
          else
            bnd (f_X10_draw v0 (100 : Int32) M) fun r7 M6 =>
            if mK M6 v0 = 11 then
              ap (sI M6 v0 4 ((mI M v0 4) + r7)) fun M9 =>
              if mK M9 v0 = 11 then
                if mK M9 (mR M9 v0 3) = 21 then
                  if inB (mI M (mR M (mR M v0 6) 4) v1.toNatClampNeg) (mN M9 (mR M9 v0 3)) = true then
                    ap (sI M9 (mR M9 v0 3) (mI M (mR M (mR M v0 6) 4) v1.toNatClampNeg).toNatClampNeg ((mI M9 (mR M9 v0 3) (mI M (mR M (mR M v0 6) 4) v1.toNatClampNeg).toNatClampNeg) + (1 : Int32))) fun M13 =>
                    some ((), M13)
                  else none
                else none
              else none
            else none
        else none
      else none
    else none
  else none
theorem s_X10_drawItem (kF : Nat → Int32 → Int32 → Mem → Option (Unit × Mem)) (F : Nat) (hF : ∀ (a0 : Nat) (a1 : Int32) (a2 : Int32) (M : Mem) (r : (Unit × Mem)), kF a0 a1 a2 M = some r → Sem mi_X10_drawFields F [aR a0, aI a1, aI a2] M (oU r.1) r.2) (v0 : Nat) (v1 : Int32) (v2 : Int32) (M : Mem) (r : (Unit × Mem)) (hf : f_X10_drawItem kF v0 v1 v2 M = some r) : Sem mi_X10_drawItem ((F + 2)) [aR v0, aI v1, aI v2] M (oU r.1) r.2 := by
  unfold f_X10_drawItem at hf
  refine sem_of (by decide) rfl rfl rfl (Nat.le_of_ble_eq_true rfl) (lv := [some (aR v0), some (aI v1), some (aI v2), none]) rfl ?_
  refine g_aload_n (pc' := 1) dX10_drawItem_0 rfl rfl ?_
  obtain ⟨h1, hf⟩ := chk_s hf
  refine g_getR (pc' := 4) 10 6 rfl rfl (by decide) inX10 (by decide) rfl rfl q_1483 dX10_drawItem_1 rfl h1 ?_
  obtain ⟨h2, hf⟩ := chk_s hf
  refine g_getR (pc' := 7) 5 4 rfl rfl (by decide) inX5 (by decide) rfl rfl q_1518 dX10_drawItem_4 rfl h2 ?_
  refine g_iload_n (pc' := 8) dX10_drawItem_7 rfl rfl ?_
  obtain ⟨h3, hf⟩ := chk_s hf
  obtain ⟨b4, hf⟩ := chk_s hf
  refine g_iald (pc' := 9) dX10_drawItem_8 rfl h3 (inB_in b4) ?_
  refine g_istore_n (pc' := 10) (lv' := [some (aR v0), some (aI v1), some (aI v2), some (aI (mI M (mR M (mR M v0 6) 4) v1.toNatClampNeg))]) dX10_drawItem_9 rfl rfl (by decide) rfl ?_
  refine g_iload_n (pc' := 11) dX10_drawItem_10 rfl rfl ?_
  refine g_iconst (pc' := 12) (-1 : Int32) dX10_drawItem_11 rfl (by decide) ?_
  refine g_icmp_ne (pc' := 15) 26 dX10_drawItem_12 rfl (by decide) (fun c5 => ?_) (fun c5 => ?_)
  · have hf := ite_f c5 hf
    refine g_aload_n (pc' := 27) dX10_drawItem_26 rfl rfl ?_
    refine g_dup (pc' := 28) dX10_drawItem_27 rfl rfl ?_
    refine g_getI (pc' := 31) 10 4 rfl rfl (by decide) inX10 (by decide) rfl rfl q_1496 dX10_drawItem_28 rfl h1 ?_
    refine g_aload_n (pc' := 32) dX10_drawItem_31 rfl rfl ?_
    refine g_bipush (pc' := 34) (100 : Int32) dX10_drawItem_32 rfl (by decide) ?_
    obtain ⟨r7, M6, e7, hf⟩ := bnd_some hf
    refine g_callVi (pc' := 37) (k' := 0) (u' := 0) (fr2 := 1) (As := [aI (100 : Int32)]) (b := v0) (st := [aI (mI M v0 4), aR v0]) cf_X10_draw q_1509 (by omega) (ci := 10) rfl rfl (by decide) dX10_drawItem_34 rfl rfl rfl (Nat.le_of_ble_eq_true rfl) (Or.inl rfl) (Nat.le_refl _) (Nat.le_refl _) (Nat.le_refl _) (Nat.le_refl _) h1 (s_X10_draw v0 (100 : Int32) M _ e7) ?_
    refine g_iadd (pc' := 38) dX10_drawItem_37 rfl ?_
    obtain ⟨h8, hf⟩ := chk_s hf
    refine g_putI (pc' := 41) 10 4 rfl rfl (by decide) inX10 tyX10_ok nmX10 (by decide) rfl rfl rfl rfl q_1496 dX10_drawItem_38 rfl h8 (gM fun M9 hM9 => ?_)
    have hf := ap_eq hf hM9
    refine g_aload_n (pc' := 42) dX10_drawItem_41 rfl rfl ?_
    obtain ⟨h10, hf⟩ := chk_s hf
    refine g_getR (pc' := 45) 10 3 rfl rfl (by decide) inX10 (by decide) rfl rfl q_79 dX10_drawItem_42 rfl h10 ?_
    refine g_iload_n (pc' := 46) dX10_drawItem_45 rfl rfl ?_
    refine g_dup2 (pc' := 47) dX10_drawItem_46 rfl rfl rfl ?_
    obtain ⟨h11, hf⟩ := chk_s hf
    obtain ⟨b12, hf⟩ := chk_s hf
    refine g_iald (pc' := 48) dX10_drawItem_47 rfl h11 (inB_in b12) ?_
    refine g_iconst (pc' := 49) (1 : Int32) dX10_drawItem_48 rfl (by decide) ?_
    refine g_iadd (pc' := 50) dX10_drawItem_49 rfl ?_
    refine g_iast (pc' := 51) dX10_drawItem_50 rfl h11 (inB_in b12) (gM fun M13 hM13 => ?_)
    have hf := ap_eq hf hM13
    cases hf
    exact g_return dX10_drawItem_51 rfl (Nat.le_of_ble_eq_true rfl) (Nat.le_of_ble_eq_true rfl)
  · have hf := ite_t c5 hf
    refine g_aload_n (pc' := 16) dX10_drawItem_15 rfl rfl ?_
    refine g_iload_n (pc' := 17) dX10_drawItem_16 rfl rfl ?_
    refine g_iload_n (pc' := 18) dX10_drawItem_17 rfl rfl ?_
    refine g_iconst (pc' := 19) (1 : Int32) dX10_drawItem_18 rfl (by decide) ?_
    refine g_iadd (pc' := 20) dX10_drawItem_19 rfl ?_
    obtain ⟨_, M14, e15, hf⟩ := bnd_some hf
    refine g_callVv (pc' := 23) (k' := 0) (u' := 0) (fr2 := F) (As := [aI v1, aI (v2 + (1 : Int32))]) (b := v0) (st := []) cf_X10_drawFields q_1497 (by omega) (ci := 10) rfl rfl (by decide) dX10_drawItem_20 rfl rfl rfl (Nat.le_of_ble_eq_true rfl) (Or.inl rfl) (Nat.le_refl _) (Nat.le_refl _) (Nat.le_refl _) (Nat.le_refl _) h1 (hF v0 v1 (v2 + (1 : Int32)) M _ e15) ?_
    refine g_goto (pc' := 51) dX10_drawItem_23 (by decide) ?_
    cases hf
    exact g_return dX10_drawItem_51 rfl (Nat.le_of_ble_eq_true rfl) (Nat.le_of_ble_eq_true rfl)
def f_X10_drawField_65 (kF : Nat → Int32 → Int32 → Mem → Option (Unit × Mem)) : Nat → Nat → Int32 → Int32 → Mem → Option (Unit × Mem)
  | 0, _, _, _, _ => none
  | n + 1, v0, v1, v4, M =>
    if mK M v0 = 11 then
      if mK M (mR M v0 6) = 6 then
        if (mI M (mR M v0 6) 1) ≤ v4 then
          some ((), M)
        else
          if mK M (mR M v0 3) = 21 then
            if inB v4 (mN M (mR M v0 3)) = true then
              if mK M (mR M (mR M v0 6) 10) = 21 then
                if inB v1 (mN M (mR M (mR M v0 6) 10)) = true then
                  ap (sI M (mR M v0 3) v4.toNatClampNeg ((mI M (mR M v0 3) v4.toNatClampNeg) + ((((mI M (mR M (mR M v0 6) 10) v1.toNatClampNeg).toUInt32 >>> (v4.toUInt32 &&& Int32.toUInt32 31)).toInt32) &&& (1 : Int32)))) fun M8 =>
                  f_X10_drawField_65 kF n v0 v1 (v4 + 1) M8
                else none
              else none
            else none
          else none
      else none
    else none
def f_X10_drawField_40 (kF : Nat → Int32 → Int32 → Mem → Option (Unit × Mem)) : Nat → Nat → Int32 → Int32 → Int32 → Int32 → Mem → Option (Unit × Mem)
  | 0, _, _, _, _, _, _ => none
  | n + 1, v0, v1, v2, v3, v4, M =>
    if v3 ≤ v4 then
      if v3 = 0 then
        f_X10_drawField_65 kF FUEL v0 v1 (0 : Int32) M
      else
        some ((), M)
    else
      if mK M v0 = 11 then
        bnd (f_X10_drawItem kF v0 v1 v2 M) fun _ M4 =>
        f_X10_drawField_40 kF n v0 v1 v2 v3 (v4 + 1) M4
      else none
def f_X10_drawField_37 (kF : Nat → Int32 → Int32 → Mem → Option (Unit × Mem)) (v0 : Nat) (v1 : Int32) (v2 : Int32) (v3 : Int32) (M : Mem) : Option (Unit × Mem) :=
  f_X10_drawField_40 kF FUEL v0 v1 v2 v3 (0 : Int32) M
def f_X10_drawField_33 (kF : Nat → Int32 → Int32 → Mem → Option (Unit × Mem)) (v0 : Nat) (v1 : Int32) (v2 : Int32) (w0 : Nat) (w1 : Int32) (M : Mem) : Option (Unit × Mem) :=
  if mK M w0 = 11 then
    bnd (f_X10_draw w0 w1 M) fun r3 M2 =>
    f_X10_drawField_37 kF v0 v1 v2 r3 M2
  else none
def f_X10_drawField (kF : Nat → Int32 → Int32 → Mem → Option (Unit × Mem)) (v0 : Nat) (v1 : Int32) (v2 : Int32) (M : Mem) : Option (Unit × Mem) :=
  if mK M v0 = 11 then
    if mK M (mR M v0 6) = 6 then
      if mK M (mR M (mR M v0 6) 2) = 21 then
        if inB v1 (mN M (mR M (mR M v0 6) 2)) = true then
          if (mI M (mR M (mR M v0 6) 2) v1.toNatClampNeg) = 0 then
            f_X10_drawField_37 kF v0 v1 v2 (1 : Int32) M
          else
            if (mI M (mR M (mR M v0 6) 2) v1.toNatClampNeg) = (1 : Int32) then
              f_X10_drawField_33 kF v0 v1 v2 v0 (2 : Int32) M
            else
              f_X10_drawField_33 kF v0 v1 v2 v0 (3 : Int32) M
        else none
      else none
    else none
  else none
theorem s_X10_drawField_65 (kF : Nat → Int32 → Int32 → Mem → Option (Unit × Mem)) (F : Nat) (hF : ∀ (a0 : Nat) (a1 : Int32) (a2 : Int32) (M : Mem) (r : (Unit × Mem)), kF a0 a1 a2 M = some r → Sem mi_X10_drawFields F [aR a0, aI a1, aI a2] M (oU r.1) r.2) : ∀ (n : Nat) (v0 : Nat) (v1 : Int32) (v4 : Int32) (M : Mem) (r : (Unit × Mem)), f_X10_drawField_65 kF n v0 v1 v4 M = some r → G mi_X10_drawField (F + 3) (oU r.1) r.2 65 [some (aR v0), some (aI v1), none, none, some (aI v4)] [] M 0 0 := by
  intro n
  induction n with
  | zero => intro v0 v1 v4 M r hf; cases hf
  | succ n ih =>
    intro v0 v1 v4 M r hf
    unfold f_X10_drawField_65 at hf
    refine g_iload (pc' := 67) dX10_drawField_65 rfl rfl ?_
    refine g_aload_n (pc' := 68) dX10_drawField_67 rfl rfl ?_
    obtain ⟨h1, hf⟩ := chk_s hf
    refine g_getR (pc' := 71) 10 6 rfl rfl (by decide) inX10 (by decide) rfl rfl q_1483 dX10_drawField_68 rfl h1 ?_
    obtain ⟨h2, hf⟩ := chk_s hf
    refine g_getI (pc' := 74) 5 1 rfl rfl (by decide) inX5 (by decide) rfl rfl q_1488 dX10_drawField_71 rfl h2 ?_
    refine g_icmp_ge (pc' := 77) 107 dX10_drawField_74 rfl (by decide) (fun c3 => ?_) (fun c3 => ?_)
    · have hf := ite_t c3 hf
      cases hf
      exact g_return dX10_drawField_107 rfl (Nat.le_of_ble_eq_true rfl) (Nat.le_of_ble_eq_true rfl)
    · have hf := ite_f c3 hf
      refine g_aload_n (pc' := 78) dX10_drawField_77 rfl rfl ?_
      refine g_getR (pc' := 81) 10 3 rfl rfl (by decide) inX10 (by decide) rfl rfl q_79 dX10_drawField_78 rfl h1 ?_
      refine g_iload (pc' := 83) dX10_drawField_81 rfl rfl ?_
      refine g_dup2 (pc' := 84) dX10_drawField_83 rfl rfl rfl ?_
      obtain ⟨h4, hf⟩ := chk_s hf
      obtain ⟨b5, hf⟩ := chk_s hf
      refine g_iald (pc' := 85) dX10_drawField_84 rfl h4 (inB_in b5) ?_
      refine g_aload_n (pc' := 86) dX10_drawField_85 rfl rfl ?_
      refine g_getR (pc' := 89) 10 6 rfl rfl (by decide) inX10 (by decide) rfl rfl q_1483 dX10_drawField_86 rfl h1 ?_
      refine g_getR (pc' := 92) 5 10 rfl rfl (by decide) inX5 (by decide) rfl rfl q_1508 dX10_drawField_89 rfl h2 ?_
      refine g_iload_n (pc' := 93) dX10_drawField_92 rfl rfl ?_
      obtain ⟨h6, hf⟩ := chk_s hf
      obtain ⟨b7, hf⟩ := chk_s hf
      refine g_iald (pc' := 94) dX10_drawField_93 rfl h6 (inB_in b7) ?_
      refine g_iload (pc' := 96) dX10_drawField_94 rfl rfl ?_
      refine g_iushr (pc' := 97) dX10_drawField_96 rfl ?_
      refine g_iconst (pc' := 98) (1 : Int32) dX10_drawField_97 rfl (by decide) ?_
      refine g_iand (pc' := 99) dX10_drawField_98 rfl ?_
      refine g_iadd (pc' := 100) dX10_drawField_99 rfl ?_
      refine g_iast (pc' := 101) dX10_drawField_100 rfl h4 (inB_in b5) (gM fun M8 hM8 => ?_)
      have hf := ap_eq hf hM8
      refine g_iinc (pc' := 104) (lv' := [some (aR v0), some (aI v1), none, none, some (aI (v4 + 1))]) (v4 + 1) dX10_drawField_101 rfl rfl (by rfl) rfl (by decide) rfl ?_
      refine g_goto (pc' := 65) dX10_drawField_104 (by decide) ?_
      exact ih v0 v1 (v4 + 1) M8 _ hf
theorem s_X10_drawField_40 (kF : Nat → Int32 → Int32 → Mem → Option (Unit × Mem)) (F : Nat) (hF : ∀ (a0 : Nat) (a1 : Int32) (a2 : Int32) (M : Mem) (r : (Unit × Mem)), kF a0 a1 a2 M = some r → Sem mi_X10_drawFields F [aR a0, aI a1, aI a2] M (oU r.1) r.2) : ∀ (n : Nat) (v0 : Nat) (v1 : Int32) (v2 : Int32) (v3 : Int32) (v4 : Int32) (M : Mem) (r : (Unit × Mem)), f_X10_drawField_40 kF n v0 v1 v2 v3 v4 M = some r → G mi_X10_drawField (F + 3) (oU r.1) r.2 40 [some (aR v0), some (aI v1), some (aI v2), some (aI v3), some (aI v4)] [] M 0 0 := by
  intro n
  induction n with
  | zero => intro v0 v1 v2 v3 v4 M r hf; cases hf
  | succ n ih =>
    intro v0 v1 v2 v3 v4 M r hf
    unfold f_X10_drawField_40 at hf
    refine g_iload (pc' := 42) dX10_drawField_40 rfl rfl ?_
    refine g_iload_n (pc' := 43) dX10_drawField_42 rfl rfl ?_
    refine g_icmp_ge (pc' := 46) 58 dX10_drawField_43 rfl (by decide) (fun c1 => ?_) (fun c1 => ?_)
    · have hf := ite_t c1 hf
      refine g_iload_n (pc' := 59) dX10_drawField_58 rfl rfl ?_
      refine g_if_ne (pc' := 62) 107 dX10_drawField_59 rfl (by decide) (fun c2 => ?_) (fun c2 => ?_)
      · have hf := ite_f c2 hf
        cases hf
        exact g_return dX10_drawField_107 rfl (Nat.le_of_ble_eq_true rfl) (Nat.le_of_ble_eq_true rfl)
      · have hf := ite_t c2 hf
        refine g_iconst (pc' := 63) (0 : Int32) dX10_drawField_62 rfl (by decide) ?_
        refine g_istore (pc' := 65) (lv' := [some (aR v0), some (aI v1), some (aI v2), some (aI v3), some (aI (0 : Int32))]) dX10_drawField_63 rfl rfl (by decide) rfl ?_
        refine g_mask [true, true, false, false, true] rfl ?_
        exact s_X10_drawField_65 kF F hF FUEL v0 v1 (0 : Int32) M _ hf
    · have hf := ite_f c1 hf
      refine g_aload_n (pc' := 47) dX10_drawField_46 rfl rfl ?_
      refine g_iload_n (pc' := 48) dX10_drawField_47 rfl rfl ?_
      refine g_iload_n (pc' := 49) dX10_drawField_48 rfl rfl ?_
      obtain ⟨h3, hf⟩ := chk_s hf
      obtain ⟨_, M4, e5, hf⟩ := bnd_some hf
      refine g_callVv (pc' := 52) (k' := 0) (u' := 0) (fr2 := F + 2) (As := [aI v1, aI v2]) (b := v0) (st := []) cf_X10_drawItem q_1514 (by omega) (ci := 10) rfl rfl (by decide) dX10_drawField_49 rfl rfl rfl (Nat.le_of_ble_eq_true rfl) (Or.inl rfl) (Nat.le_refl _) (Nat.le_refl _) (Nat.le_refl _) (Nat.le_refl _) h3 (s_X10_drawItem kF F hF v0 v1 v2 M _ e5) ?_
      refine g_iinc (pc' := 55) (lv' := [some (aR v0), some (aI v1), some (aI v2), some (aI v3), some (aI (v4 + 1))]) (v4 + 1) dX10_drawField_52 rfl rfl (by rfl) rfl (by decide) rfl ?_
      refine g_goto (pc' := 40) dX10_drawField_55 (by decide) ?_
      refine g_widen (k' := 0) (u' := 0) (by omega) (by omega) ?_
      exact ih v0 v1 v2 v3 (v4 + 1) M4 _ hf
theorem s_X10_drawField_37 (kF : Nat → Int32 → Int32 → Mem → Option (Unit × Mem)) (F : Nat) (hF : ∀ (a0 : Nat) (a1 : Int32) (a2 : Int32) (M : Mem) (r : (Unit × Mem)), kF a0 a1 a2 M = some r → Sem mi_X10_drawFields F [aR a0, aI a1, aI a2] M (oU r.1) r.2) (v0 : Nat) (v1 : Int32) (v2 : Int32) (v3 : Int32) (M : Mem) (r : (Unit × Mem)) (hf : f_X10_drawField_37 kF v0 v1 v2 v3 M = some r) : G mi_X10_drawField (F + 3) (oU r.1) r.2 37 [some (aR v0), some (aI v1), some (aI v2), some (aI v3), none] [] M 0 0 := by
  unfold f_X10_drawField_37 at hf
  refine g_iconst (pc' := 38) (0 : Int32) dX10_drawField_37 rfl (by decide) ?_
  refine g_istore (pc' := 40) (lv' := [some (aR v0), some (aI v1), some (aI v2), some (aI v3), some (aI (0 : Int32))]) dX10_drawField_38 rfl rfl (by decide) rfl ?_
  exact s_X10_drawField_40 kF F hF FUEL v0 v1 v2 v3 (0 : Int32) M _ hf
theorem s_X10_drawField_33 (kF : Nat → Int32 → Int32 → Mem → Option (Unit × Mem)) (F : Nat) (hF : ∀ (a0 : Nat) (a1 : Int32) (a2 : Int32) (M : Mem) (r : (Unit × Mem)), kF a0 a1 a2 M = some r → Sem mi_X10_drawFields F [aR a0, aI a1, aI a2] M (oU r.1) r.2) (v0 : Nat) (v1 : Int32) (v2 : Int32) (w0 : Nat) (w1 : Int32) (M : Mem) (r : (Unit × Mem)) (hf : f_X10_drawField_33 kF v0 v1 v2 w0 w1 M = some r) : G mi_X10_drawField (F + 3) (oU r.1) r.2 33 [some (aR v0), some (aI v1), some (aI v2), none, none] [aI w1, aR w0] M 0 0 := by
  unfold f_X10_drawField_33 at hf
  obtain ⟨h1, hf⟩ := chk_s hf
  obtain ⟨r3, M2, e3, hf⟩ := bnd_some hf
  refine g_callVi (pc' := 36) (k' := 0) (u' := 0) (fr2 := 1) (As := [aI w1]) (b := w0) (st := []) cf_X10_draw q_1509 (by omega) (ci := 10) rfl rfl (by decide) dX10_drawField_33 rfl rfl rfl (Nat.le_of_ble_eq_true rfl) (Or.inl rfl) (Nat.le_refl _) (Nat.le_refl _) (Nat.le_refl _) (Nat.le_refl _) h1 (s_X10_draw w0 w1 M _ e3) ?_
  refine g_istore_n (pc' := 37) (lv' := [some (aR v0), some (aI v1), some (aI v2), some (aI r3), none]) dX10_drawField_36 rfl rfl (by decide) rfl ?_
  refine g_widen (k' := 0) (u' := 0) (by omega) (by omega) ?_
  exact s_X10_drawField_37 kF F hF v0 v1 v2 r3 M2 _ hf
theorem s_X10_drawField (kF : Nat → Int32 → Int32 → Mem → Option (Unit × Mem)) (F : Nat) (hF : ∀ (a0 : Nat) (a1 : Int32) (a2 : Int32) (M : Mem) (r : (Unit × Mem)), kF a0 a1 a2 M = some r → Sem mi_X10_drawFields F [aR a0, aI a1, aI a2] M (oU r.1) r.2) (v0 : Nat) (v1 : Int32) (v2 : Int32) (M : Mem) (r : (Unit × Mem)) (hf : f_X10_drawField kF v0 v1 v2 M = some r) : Sem mi_X10_drawField ((F + 3)) [aR v0, aI v1, aI v2] M (oU r.1) r.2 := by
  unfold f_X10_drawField at hf
  refine sem_of (by decide) rfl rfl rfl (Nat.le_of_ble_eq_true rfl) (lv := [some (aR v0), some (aI v1), some (aI v2), none, none]) rfl ?_
  refine g_iconst (pc' := 1) (1 : Int32) dX10_drawField_0 rfl (by decide) ?_
  refine g_istore_n (pc' := 2) (lv' := [some (aR v0), some (aI v1), some (aI v2), some (aI (1 : Int32)), none]) dX10_drawField_1 rfl rfl (by decide) rfl ?_
  refine g_aload_n (pc' := 3) dX10_drawField_2 rfl rfl ?_
  obtain ⟨h1, hf⟩ := chk_s hf
  refine g_getR (pc' := 6) 10 6 rfl rfl (by decide) inX10 (by decide) rfl rfl q_1483 dX10_drawField_3 rfl h1 ?_
  obtain ⟨h2, hf⟩ := chk_s hf
  refine g_getR (pc' := 9) 5 2 rfl rfl (by decide) inX5 (by decide) rfl rfl q_1507 dX10_drawField_6 rfl h2 ?_
  refine g_iload_n (pc' := 10) dX10_drawField_9 rfl rfl ?_
  obtain ⟨h3, hf⟩ := chk_s hf
  obtain ⟨b4, hf⟩ := chk_s hf
  refine g_iald (pc' := 11) dX10_drawField_10 rfl h3 (inB_in b4) ?_
  refine g_if_eq (pc' := 14) 37 dX10_drawField_11 rfl (by decide) (fun c5 => ?_) (fun c5 => ?_)
  · have hf := ite_t c5 hf
    exact s_X10_drawField_37 kF F hF v0 v1 v2 (1 : Int32) M _ hf
  · have hf := ite_f c5 hf
    refine g_aload_n (pc' := 15) dX10_drawField_14 rfl rfl ?_
    refine g_aload_n (pc' := 16) dX10_drawField_15 rfl rfl ?_
    refine g_getR (pc' := 19) 10 6 rfl rfl (by decide) inX10 (by decide) rfl rfl q_1483 dX10_drawField_16 rfl h1 ?_
    refine g_getR (pc' := 22) 5 2 rfl rfl (by decide) inX5 (by decide) rfl rfl q_1507 dX10_drawField_19 rfl h2 ?_
    refine g_iload_n (pc' := 23) dX10_drawField_22 rfl rfl ?_
    refine g_iald (pc' := 24) dX10_drawField_23 rfl h3 (inB_in b4) ?_
    refine g_iconst (pc' := 25) (1 : Int32) dX10_drawField_24 rfl (by decide) ?_
    refine g_icmp_ne (pc' := 28) 32 dX10_drawField_25 rfl (by decide) (fun c6 => ?_) (fun c6 => ?_)
    · have hf := ite_f c6 hf
      refine g_iconst (pc' := 33) (3 : Int32) dX10_drawField_32 rfl (by decide) ?_
      refine g_mask [true, true, true, false, true] rfl ?_
      exact s_X10_drawField_33 kF F hF v0 v1 v2 v0 (3 : Int32) M _ hf
    · have hf := ite_t c6 hf
      refine g_iconst (pc' := 29) (2 : Int32) dX10_drawField_28 rfl (by decide) ?_
      refine g_goto (pc' := 33) dX10_drawField_29 (by decide) ?_
      refine g_mask [true, true, true, false, true] rfl ?_
      exact s_X10_drawField_33 kF F hF v0 v1 v2 v0 (2 : Int32) M _ hf
def f_X10_drawFields_38 (kF : Nat → Int32 → Int32 → Mem → Option (Unit × Mem)) (k8 : Nat → Int32 → Int32 → Int32 → Mem → Option (Unit × Mem)) (v0 : Nat) (v1 : Int32) (v2 : Int32) (v3 : Int32) (M : Mem) : Option (Unit × Mem) :=
  k8 v0 v1 v2 (v3 + 1) M
def f_X10_drawFields_8 (kF : Nat → Int32 → Int32 → Mem → Option (Unit × Mem)) : Nat → Nat → Int32 → Int32 → Int32 → Mem → Option (Unit × Mem)
  | 0, _, _, _, _, _ => none
  | n + 1, v0, v1, v2, v3, M =>
    if mK M v0 = 11 then
      if mK M (mR M v0 6) = 6 then
        if (mI M (mR M v0 6) 0) ≤ v3 then
          some ((), M)
        else
          if mK M (mR M (mR M v0 6) 3) = 21 then
            if inB v3 (mN M (mR M (mR M v0 6) 3)) = true then
              if (mI M (mR M (mR M v0 6) 3) v3.toNatClampNeg) = v1 then
                bnd (f_X10_drawField kF v0 v3 v2 M) fun _ M7 =>
                f_X10_drawFields_38 kF (f_X10_drawFields_8 kF n) v0 v1 v2 v3 M7
              else
                f_X10_drawFields_38 kF (f_X10_drawFields_8 kF n) v0 v1 v2 v3 M
            else none
          else none
      else none
    else none
def f_X10_drawFields_o (kF : Nat → Int32 → Int32 → Mem → Option (Unit × Mem)) (v0 : Nat) (v1 : Int32) (v2 : Int32) (M : Mem) : Option (Unit × Mem) :=
  if v2 ≤ (3 : Int32) then
    f_X10_drawFields_8 kF FUEL v0 v1 v2 (0 : Int32) M
  else
    some ((), M)
def f_X10_drawFields : Nat → Nat → Int32 → Int32 → Mem → Option (Unit × Mem)
  | 0, _, _, _, _ => none
  | n + 1, v0, v1, v2, M => f_X10_drawFields_o (f_X10_drawFields n) v0 v1 v2 M
theorem s_X10_drawFields_38 (kF : Nat → Int32 → Int32 → Mem → Option (Unit × Mem)) (k8 : Nat → Int32 → Int32 → Int32 → Mem → Option (Unit × Mem)) (F : Nat) (hF : ∀ (a0 : Nat) (a1 : Int32) (a2 : Int32) (M : Mem) (r : (Unit × Mem)), kF a0 a1 a2 M = some r → Sem mi_X10_drawFields F [aR a0, aI a1, aI a2] M (oU r.1) r.2) (hk8 : ∀ (v0 : Nat) (v1 : Int32) (v2 : Int32) (v3 : Int32) (M : Mem) (r : (Unit × Mem)), k8 v0 v1 v2 v3 M = some r → G mi_X10_drawFields (F + 4) (oU r.1) r.2 8 [some (aR v0), some (aI v1), some (aI v2), some (aI v3)] [] M 0 0) (v0 : Nat) (v1 : Int32) (v2 : Int32) (v3 : Int32) (M : Mem) (r : (Unit × Mem)) (hf : f_X10_drawFields_38 kF k8 v0 v1 v2 v3 M = some r) : G mi_X10_drawFields (F + 4) (oU r.1) r.2 38 [some (aR v0), some (aI v1), some (aI v2), some (aI v3)] [] M 0 0 := by
  unfold f_X10_drawFields_38 at hf
  refine g_iinc (pc' := 41) (lv' := [some (aR v0), some (aI v1), some (aI v2), some (aI (v3 + 1))]) (v3 + 1) dX10_drawFields_38 rfl rfl (by rfl) rfl (by decide) rfl ?_
  refine g_goto (pc' := 8) dX10_drawFields_41 (by decide) ?_
  exact hk8 v0 v1 v2 (v3 + 1) M _ hf
theorem s_X10_drawFields_8 (kF : Nat → Int32 → Int32 → Mem → Option (Unit × Mem)) (F : Nat) (hF : ∀ (a0 : Nat) (a1 : Int32) (a2 : Int32) (M : Mem) (r : (Unit × Mem)), kF a0 a1 a2 M = some r → Sem mi_X10_drawFields F [aR a0, aI a1, aI a2] M (oU r.1) r.2) : ∀ (n : Nat) (v0 : Nat) (v1 : Int32) (v2 : Int32) (v3 : Int32) (M : Mem) (r : (Unit × Mem)), f_X10_drawFields_8 kF n v0 v1 v2 v3 M = some r → G mi_X10_drawFields (F + 4) (oU r.1) r.2 8 [some (aR v0), some (aI v1), some (aI v2), some (aI v3)] [] M 0 0 := by
  intro n
  induction n with
  | zero => intro v0 v1 v2 v3 M r hf; cases hf
  | succ n ih =>
    intro v0 v1 v2 v3 M r hf
    unfold f_X10_drawFields_8 at hf
    refine g_iload_n (pc' := 9) dX10_drawFields_8 rfl rfl ?_
    refine g_aload_n (pc' := 10) dX10_drawFields_9 rfl rfl ?_
    obtain ⟨h1, hf⟩ := chk_s hf
    refine g_getR (pc' := 13) 10 6 rfl rfl (by decide) inX10 (by decide) rfl rfl q_1483 dX10_drawFields_10 rfl h1 ?_
    obtain ⟨h2, hf⟩ := chk_s hf
    refine g_getI (pc' := 16) 5 0 rfl rfl (by decide) inX5 (by decide) rfl rfl q_1501 dX10_drawFields_13 rfl h2 ?_
    refine g_icmp_ge (pc' := 19) 44 dX10_drawFields_16 rfl (by decide) (fun c3 => ?_) (fun c3 => ?_)
    · have hf := ite_t c3 hf
      cases hf
      exact g_return dX10_drawFields_44 rfl (Nat.le_of_ble_eq_true rfl) (Nat.le_of_ble_eq_true rfl)
    · have hf := ite_f c3 hf
      refine g_aload_n (pc' := 20) dX10_drawFields_19 rfl rfl ?_
      refine g_getR (pc' := 23) 10 6 rfl rfl (by decide) inX10 (by decide) rfl rfl q_1483 dX10_drawFields_20 rfl h1 ?_
      refine g_getR (pc' := 26) 5 3 rfl rfl (by decide) inX5 (by decide) rfl rfl q_1502 dX10_drawFields_23 rfl h2 ?_
      refine g_iload_n (pc' := 27) dX10_drawFields_26 rfl rfl ?_
      obtain ⟨h4, hf⟩ := chk_s hf
      obtain ⟨b5, hf⟩ := chk_s hf
      refine g_iald (pc' := 28) dX10_drawFields_27 rfl h4 (inB_in b5) ?_
      refine g_iload_n (pc' := 29) dX10_drawFields_28 rfl rfl ?_
      refine g_icmp_ne (pc' := 32) 38 dX10_drawFields_29 rfl (by decide) (fun c6 => ?_) (fun c6 => ?_)
      · have hf := ite_f c6 hf
        exact s_X10_drawFields_38 kF (f_X10_drawFields_8 kF n) F hF ih v0 v1 v2 v3 M _ hf
      · have hf := ite_t c6 hf
        refine g_aload_n (pc' := 33) dX10_drawFields_32 rfl rfl ?_
        refine g_iload_n (pc' := 34) dX10_drawFields_33 rfl rfl ?_
        refine g_iload_n (pc' := 35) dX10_drawFields_34 rfl rfl ?_
        obtain ⟨_, M7, e8, hf⟩ := bnd_some hf
        refine g_callVv (pc' := 38) (k' := 0) (u' := 0) (fr2 := F + 3) (As := [aI v3, aI v2]) (b := v0) (st := []) cf_X10_drawField q_1503 (by omega) (ci := 10) rfl rfl (by decide) dX10_drawFields_35 rfl rfl rfl (Nat.le_of_ble_eq_true rfl) (Or.inl rfl) (Nat.le_refl _) (Nat.le_refl _) (Nat.le_refl _) (Nat.le_refl _) h1 (s_X10_drawField kF F hF v0 v3 v2 M _ e8) ?_
        refine g_widen (k' := 0) (u' := 0) (by omega) (by omega) ?_
        exact s_X10_drawFields_38 kF (f_X10_drawFields_8 kF n) F hF ih v0 v1 v2 v3 M7 _ hf
theorem s_X10_drawFields_o (kF : Nat → Int32 → Int32 → Mem → Option (Unit × Mem)) (F : Nat) (hF : ∀ (a0 : Nat) (a1 : Int32) (a2 : Int32) (M : Mem) (r : (Unit × Mem)), kF a0 a1 a2 M = some r → Sem mi_X10_drawFields F [aR a0, aI a1, aI a2] M (oU r.1) r.2) (v0 : Nat) (v1 : Int32) (v2 : Int32) (M : Mem) (r : (Unit × Mem)) (hf : f_X10_drawFields_o kF v0 v1 v2 M = some r) : Sem mi_X10_drawFields ((F + 4)) [aR v0, aI v1, aI v2] M (oU r.1) r.2 := by
  unfold f_X10_drawFields_o at hf
  refine sem_of (by decide) rfl rfl rfl (Nat.le_of_ble_eq_true rfl) (lv := [some (aR v0), some (aI v1), some (aI v2), none]) rfl ?_
  refine g_iload_n (pc' := 1) dX10_drawFields_0 rfl rfl ?_
  refine g_iconst (pc' := 2) (3 : Int32) dX10_drawFields_1 rfl (by decide) ?_
  refine g_icmp_le (pc' := 5) 6 dX10_drawFields_2 rfl (by decide) (fun c1 => ?_) (fun c1 => ?_)
  · have hf := ite_t c1 hf
    refine g_iconst (pc' := 7) (0 : Int32) dX10_drawFields_6 rfl (by decide) ?_
    refine g_istore_n (pc' := 8) (lv' := [some (aR v0), some (aI v1), some (aI v2), some (aI (0 : Int32))]) dX10_drawFields_7 rfl rfl (by decide) rfl ?_
    exact s_X10_drawFields_8 kF F hF FUEL v0 v1 v2 (0 : Int32) M _ hf
  · have hf := ite_f c1 hf
    cases hf
    exact g_return dX10_drawFields_5 rfl (Nat.le_of_ble_eq_true rfl) (Nat.le_of_ble_eq_true rfl)
theorem s_X10_drawFields : ∀ (n : Nat) (v0 : Nat) (v1 : Int32) (v2 : Int32) (M : Mem) (r : (Unit × Mem)), f_X10_drawFields n v0 v1 v2 M = some r → Sem mi_X10_drawFields (4 * n + 0) [aR v0, aI v1, aI v2] M (oU r.1) r.2 := by
  intro n
  induction n with
  | zero => intro v0 v1 v2 M r hf; cases hf
  | succ n ih =>
    intro v0 v1 v2 M r hf
    rw [show 4 * (n + 1) + 0 = 4 * n + 0 + 4 by omega]
    exact s_X10_drawFields_o (f_X10_drawFields n) (4 * n + 0) ih v0 v1 v2 M r hf
