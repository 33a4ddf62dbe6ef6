abbrev mi_X10_drawRecord : MI := (yX10_drawRecord, Cond.code yX10_drawRecord cX10_drawRecord 2 none, cX10_drawRecord, 2, none, [], 0, 0, 0, none)
theorem cf_X10_drawRecord : CFv mi_X10_drawRecord 0 := ⟨⟨rfl, q_1495, wall_i_LeafStripes_Years, ⟨by decide, by decide, by decide +kernel⟩, by decide⟩, q_1493, q_1494⟩
abbrev mi_X10_hasRoom : MI := (yX10_hasRoom, Cond.code yX10_hasRoom cX10_hasRoom 2 (some .boolean), cX10_hasRoom, 2, (some .boolean), [], 0, 0, 0, none)
theorem cf_X10_hasRoom : CFv mi_X10_hasRoom 0 := ⟨⟨rfl, q_1522, wall_i_LeafStripes_Years, ⟨by decide, by decide, by decide +kernel⟩, by decide⟩, q_1520, q_1521⟩
abbrev mi_X10_takeRecord : MI := (yX10_takeRecord, Cond.code yX10_takeRecord cX10_takeRecord 2 none, cX10_takeRecord, 2, none, [], 0, 0, 0, none)
theorem cf_X10_takeRecord : CFv mi_X10_takeRecord 0 := ⟨⟨rfl, q_1526, wall_i_LeafStripes_Years, ⟨by decide, by decide, by decide +kernel⟩, by decide⟩, q_1524, q_1525⟩
abbrev mi_X10_run : MI := (yX10_run, Cond.code yX10_run cX10_run 6 none, cX10_run, 6, none, [], 0, 0, 0, none)
theorem cf_X10_run : CFv mi_X10_run 4 := ⟨⟨rfl, q_1482, wall_i_LeafStripes_Years, ⟨by decide, by decide, by decide +kernel⟩, by decide⟩, q_1480, q_1481⟩
abbrev mi_X10_entrySum : MI := (yX10_entrySum, Cond.code yX10_entrySum cX10_entrySum 3 (some .int), cX10_entrySum, 3, (some .int), [], 0, 0, 0, none)
theorem cf_X10_entrySum : CFv mi_X10_entrySum 0 := ⟨⟨rfl, q_1530, wall_i_LeafStripes_Years, ⟨by decide, by decide, by decide +kernel⟩, by decide⟩, q_1528, q_1529⟩
abbrev mi_X11_init : MI := (yX11_init, Cond.code yX11_init cX11_init 1 none, cX11_init, 1, none, [], 132, 7756, 1, none)
theorem cf_X11_init : CFi mi_X11_init 0 := ⟨⟨rfl, q_9, wall_i_LeafStripes, ⟨by decide, by decide, by decide +kernel⟩, by decide⟩, q_8, rfl, rfl⟩
abbrev mi_X11_feed : MI := (yX11_feed, Cond.code yX11_feed cX11_feed 6 (some .int), cX11_feed, 6, (some .int), [], 0, 0, 0, none)
theorem cf_X11_feed : CFv mi_X11_feed 5 := ⟨⟨rfl, q_156, wall_i_LeafStripes, ⟨by decide, by decide, by decide +kernel⟩, by decide⟩, q_154, q_155⟩
abbrev mi_X11_needTape : MI := (yX11_needTape, Cond.code yX11_needTape cX11_needTape 2 none, cX11_needTape, 2, none, [], 1, 6, 0, none)
theorem cf_X11_needTape : CFv mi_X11_needTape 1 := ⟨⟨rfl, q_181, wall_i_LeafStripes, ⟨by decide, by decide, by decide +kernel⟩, by decide⟩, q_179, q_180⟩
abbrev mi_X11_noteFault : MI := (yX11_noteFault, Cond.code yX11_noteFault cX11_noteFault 2 (some .boolean), cX11_noteFault, 2, (some .boolean), [], 0, 0, 0, none)
theorem cf_X11_noteFault : CFv mi_X11_noteFault 1 := ⟨⟨rfl, q_338, wall_i_LeafStripes, ⟨by decide, by decide, by decide +kernel⟩, by decide⟩, q_336, q_337⟩
abbrev mi_X11_schema : MI := (yX11_schema, Cond.code yX11_schema cX11_schema 4 (some .int), cX11_schema, 4, (some .int), [], 1, 6, 0, none)
theorem cf_X11_schema : CFv mi_X11_schema 1 := ⟨⟨rfl, q_177, wall_i_LeafStripes, ⟨by decide, by decide, by decide +kernel⟩, by decide⟩, q_175, q_176⟩
abbrev mi_X11_isWrong : MI := (yX11_isWrong, Cond.code yX11_isWrong cX11_isWrong 1 (some .boolean), cX11_isWrong, 1, (some .boolean), [], 0, 0, 0, none)
theorem cf_X11_isWrong : CFv mi_X11_isWrong 0 := ⟨⟨rfl, q_481, wall_i_LeafStripes, ⟨by decide, by decide, by decide +kernel⟩, by decide⟩, q_479, q_480⟩
abbrev mi_X11_refuse : MI := (yX11_refuse, Cond.code yX11_refuse cX11_refuse 1 (some .int), cX11_refuse, 1, (some .int), [], 0, 0, 0, none)
theorem cf_X11_refuse : CFv mi_X11_refuse 0 := ⟨⟨rfl, q_550, wall_i_LeafStripes, ⟨by decide, by decide, by decide +kernel⟩, by decide⟩, q_548, q_549⟩
abbrev mi_X11_add : MI := (yX11_add, Cond.code yX11_add cX11_add 3 (some .int), cX11_add, 3, (some .int), [], 2, 11, 1, none)
theorem cf_X11_add : CFv mi_X11_add 1 := ⟨⟨rfl, q_473, wall_i_LeafStripes, ⟨by decide, by decide, by decide +kernel⟩, by decide⟩, q_471, q_472⟩
abbrev mi_X11_view : MI := (yX11_view, Cond.code yX11_view cX11_view 4 (some .int), cX11_view, 4, (some .int), [], 1, 6, 0, none)
theorem cf_X11_view : CFv mi_X11_view 1 := ⟨⟨rfl, q_748, wall_i_LeafStripes, ⟨by decide, by decide, by decide +kernel⟩, by decide⟩, q_746, q_747⟩
abbrev mi_X11_pipe : MI := (yX11_pipe, Cond.code yX11_pipe cX11_pipe 4 (some .int), cX11_pipe, 4, (some .int), [], 1, 6, 0, none)
theorem cf_X11_pipe : CFv mi_X11_pipe 1 := ⟨⟨rfl, q_759, wall_i_LeafStripes, ⟨by decide, by decide, by decide +kernel⟩, by decide⟩, q_757, q_758⟩
abbrev mi_X11_fault : MI := (yX11_fault, Cond.code yX11_fault cX11_fault 1 (some .int), cX11_fault, 1, (some .int), [], 0, 0, 0, none)
theorem cf_X11_fault : CFv mi_X11_fault 0 := ⟨⟨rfl, q_783, wall_i_LeafStripes, ⟨by decide, by decide, by decide +kernel⟩, by decide⟩, q_781, q_782⟩
abbrev mi_X11_countChecked : MI := (yX11_countChecked, Cond.code yX11_countChecked cX11_countChecked 3 (some .int), cX11_countChecked, 3, (some .int), [], 1, 6, 0, none)
theorem cf_X11_countChecked : CFv mi_X11_countChecked 1 := ⟨⟨rfl, q_830, wall_i_LeafStripes, ⟨by decide, by decide, by decide +kernel⟩, by decide⟩, q_828, q_829⟩
abbrev mi_X11_count : MI := (yX11_count, Cond.code yX11_count cX11_count 2 (some .int), cX11_count, 2, (some .int), [], 1, 6, 0, none)
theorem cf_X11_count : CFv mi_X11_count 1 := ⟨⟨rfl, q_795, wall_i_LeafStripes, ⟨by decide, by decide, by decide +kernel⟩, by decide⟩, q_793, q_794⟩
abbrev mi_X11_needField : MI := (yX11_needField, Cond.code yX11_needField cX11_needField 2 none, cX11_needField, 2, none, [], 1, 6, 0, none)
theorem cf_X11_needField : CFv mi_X11_needField 1 := ⟨⟨rfl, q_923, wall_i_LeafStripes, ⟨by decide, by decide, by decide +kernel⟩, by decide⟩, q_921, q_922⟩
abbrev mi_X11_field : MI := (yX11_field, Cond.code yX11_field cX11_field 3 (some .int), cX11_field, 3, (some .int), [], 2, 12, 0, none)
theorem cf_X11_field : CFv mi_X11_field 2 := ⟨⟨rfl, q_914, wall_i_LeafStripes, ⟨by decide, by decide, by decide +kernel⟩, by decide⟩, q_912, q_913⟩
def f_X10_drawRecord_7 : Nat → Nat → Int32 → Mem → Option (Unit × Mem)
  | 0, _, _, _ => none
  | n + 1, v0, v1, M =>
    if (8 : Int32) ≤ v1 then
      if mK M v0 = 11 then
        bnd (f_X10_drawFields 6 v0 (-1 : Int32) (0 : Int32) M) fun _ M3 =>
        some ((), M3)
      else none
    else
      if mK M v0 = 11 then
        if mK M (mR M v0 3) = 21 then
          if inB v1 (mN M (mR M v0 3)) = true then
            ap (sI M (mR M v0 3) v1.toNatClampNeg (0 : Int32)) fun M8 =>
            f_X10_drawRecord_7 n v0 (v1 + 1) M8
          else none
        else none
      else none
def f_X10_drawRecord (v0 : Nat) (M : Mem) : Option (Unit × Mem) :=
  if mK M v0 = 11 then
    ap (sI M v0 4 (0 : Int32)) fun M2 =>
    f_X10_drawRecord_7 FUEL v0 (0 : Int32) M2
  else none
theorem s_X10_drawRecord_7 : ∀ (n : Nat) (v0 : Nat) (v1 : Int32) (M : Mem) (r : (Unit × Mem)), f_X10_drawRecord_7 n v0 v1 M = some r → G mi_X10_drawRecord 25 (oU r.1) r.2 7 [some (aR v0), some (aI v1)] [] M 0 0 := by
  intro n
  induction n with
  | zero => intro v0 v1 M r hf; cases hf
  | succ n ih =>
    intro v0 v1 M r hf
    unfold f_X10_drawRecord_7 at hf
    refine g_iload_n (pc' := 8) dX10_drawRecord_7 rfl rfl ?_
    refine g_bipush (pc' := 10) (8 : Int32) dX10_drawRecord_8 rfl (by decide) ?_
    refine g_icmp_ge (pc' := 13) 26 dX10_drawRecord_10 rfl (by decide) (fun c1 => ?_) (fun c1 => ?_)
    · have hf := ite_t c1 hf
      refine g_aload_n (pc' := 27) dX10_drawRecord_26 rfl rfl ?_
      refine g_iconst (pc' := 28) (-1 : Int32) dX10_drawRecord_27 rfl (by decide) ?_
      refine g_iconst (pc' := 29) (0 : Int32) dX10_drawRecord_28 rfl (by decide) ?_
      obtain ⟨h2, hf⟩ := chk_s hf
      obtain ⟨_, M3, e4, hf⟩ := bnd_some hf
      refine g_callVv (pc' := 32) (k' := 0) (u' := 0) (fr2 := 4 * 6 + 0) (As := [aI (-1 : Int32), aI (0 : Int32)]) (b := v0) (st := []) cf_X10_drawFields q_1497 (by omega) (ci := 10) rfl rfl (by decide) dX10_drawRecord_29 rfl rfl rfl (Nat.le_of_ble_eq_true rfl) (Or.inl rfl) (Nat.le_refl _) (Nat.le_refl _) (Nat.le_refl _) (Nat.le_refl _) h2 (s_X10_drawFields 6 v0 (-1 : Int32) (0 : Int32) M _ e4) ?_
      cases hf
      exact g_return dX10_drawRecord_32 rfl (Nat.le_of_ble_eq_true rfl) (Nat.le_of_ble_eq_true rfl)
    · have hf := ite_f c1 hf
      refine g_aload_n (pc' := 14) dX10_drawRecord_13 rfl rfl ?_
      obtain ⟨h5, hf⟩ := chk_s hf
      refine g_getR (pc' := 17) 10 3 rfl rfl (by decide) inX10 (by decide) rfl rfl q_79 dX10_drawRecord_14 rfl h5 ?_
      refine g_iload_n (pc' := 18) dX10_drawRecord_17 rfl rfl ?_
      refine g_iconst (pc' := 19) (0 : Int32) dX10_drawRecord_18 rfl (by decide) ?_
      obtain ⟨h6, hf⟩ := chk_s hf
      obtain ⟨b7, hf⟩ := chk_s hf
      refine g_iast (pc' := 20) dX10_drawRecord_19 rfl h6 (inB_in b7) (gM fun M8 hM8 => ?_)
      have hf := ap_eq hf hM8
      refine g_iinc (pc' := 23) (lv' := [some (aR v0), some (aI (v1 + 1))]) (v1 + 1) dX10_drawRecord_20 rfl rfl (by rfl) rfl (by decide) rfl ?_
      refine g_goto (pc' := 7) dX10_drawRecord_23 (by decide) ?_
      exact ih v0 (v1 + 1) M8 _ hf
theorem s_X10_drawRecord (v0 : Nat) (M : Mem) (r : (Unit × Mem)) (hf : f_X10_drawRecord v0 M = some r) : Sem mi_X10_drawRecord (25) [aR v0] M (oU r.1) r.2 := by
  unfold f_X10_drawRecord at hf
  refine sem_of (by decide) rfl rfl rfl (Nat.le_of_ble_eq_true rfl) (lv := [some (aR v0), none]) rfl ?_
  refine g_aload_n (pc' := 1) dX10_drawRecord_0 rfl rfl ?_
  refine g_iconst (pc' := 2) (0 : Int32) dX10_drawRecord_1 rfl (by decide) ?_
  obtain ⟨h1, hf⟩ := chk_s hf
  refine g_putI (pc' := 5) 10 4 rfl rfl (by decide) inX10 tyX10_ok nmX10 (by decide) rfl rfl rfl rfl q_1496 dX10_drawRecord_2 rfl h1 (gM fun M2 hM2 => ?_)
  have hf := ap_eq hf hM2
  refine g_iconst (pc' := 6) (0 : Int32) dX10_drawRecord_5 rfl (by decide) ?_
  refine g_istore_n (pc' := 7) (lv' := [some (aR v0), some (aI (0 : Int32))]) dX10_drawRecord_6 rfl rfl (by decide) rfl ?_
  exact s_X10_drawRecord_7 FUEL v0 (0 : Int32) M2 _ hf
def f_X10_hasRoom_2 : Nat → Nat → Int32 → Mem → Option (Int32 × Mem)
  | 0, _, _, _ => none
  | n + 1, v0, v1, M =>
    if (8 : Int32) ≤ v1 then
      some ((1 : Int32), M)
    else
      if mK M v0 = 11 then
        if mK M (mR M v0 2) = 21 then
          if inB v1 (mN M (mR M v0 2)) = true then
            if mK M (mR M v0 3) = 21 then
              if inB v1 (mN M (mR M v0 3)) = true then
                if ((mI M (mR M v0 2) v1.toNatClampNeg) + (mI M (mR M v0 3) v1.toNatClampNeg)) ≤ (120 : Int32) then
                  f_X10_hasRoom_2 n v0 (v1 + 1) M
                else
                  some ((0 : Int32), M)
              else none
            else none
          else none
        else none
      else none
def f_X10_hasRoom (v0 : Nat) (M : Mem) : Option (Int32 × Mem) :=
  f_X10_hasRoom_2 FUEL v0 (0 : Int32) M
theorem s_X10_hasRoom_2 : ∀ (n : Nat) (v0 : Nat) (v1 : Int32) (M : Mem) (r : (Int32 × Mem)), f_X10_hasRoom_2 n v0 v1 M = some r → G mi_X10_hasRoom 1 (oI r.1) r.2 2 [some (aR v0), some (aI v1)] [] M 0 0 := by
  intro n
  induction n with
  | zero => intro v0 v1 M r hf; cases hf
  | succ n ih =>
    intro v0 v1 M r hf
    unfold f_X10_hasRoom_2 at hf
    refine g_iload_n (pc' := 3) dX10_hasRoom_2 rfl rfl ?_
    refine g_bipush (pc' := 5) (8 : Int32) dX10_hasRoom_3 rfl (by decide) ?_
    refine g_icmp_ge (pc' := 8) 34 dX10_hasRoom_5 rfl (by decide) (fun c1 => ?_) (fun c1 => ?_)
    · have hf := ite_t c1 hf
      refine g_iconst (pc' := 35) (1 : Int32) dX10_hasRoom_34 rfl (by decide) ?_
      cases hf
      exact g_zreturn dX10_hasRoom_35 rfl (Or.inr rfl) (Nat.le_of_ble_eq_true rfl) (Nat.le_of_ble_eq_true rfl)
    · have hf := ite_f c1 hf
      refine g_aload_n (pc' := 9) dX10_hasRoom_8 rfl rfl ?_
      obtain ⟨h2, hf⟩ := chk_s hf
      refine g_getR (pc' := 12) 10 2 rfl rfl (by decide) inX10 (by decide) rfl rfl q_78 dX10_hasRoom_9 rfl h2 ?_
      refine g_iload_n (pc' := 13) dX10_hasRoom_12 rfl rfl ?_
      obtain ⟨h3, hf⟩ := chk_s hf
      obtain ⟨b4, hf⟩ := chk_s hf
      refine g_iald (pc' := 14) dX10_hasRoom_13 rfl h3 (inB_in b4) ?_
      refine g_aload_n (pc' := 15) dX10_hasRoom_14 rfl rfl ?_
      refine g_getR (pc' := 18) 10 3 rfl rfl (by decide) inX10 (by decide) rfl rfl q_79 dX10_hasRoom_15 rfl h2 ?_
      refine g_iload_n (pc' := 19) dX10_hasRoom_18 rfl rfl ?_
      obtain ⟨h5, hf⟩ := chk_s hf
      obtain ⟨b6, hf⟩ := chk_s hf
      refine g_iald (pc' := 20) dX10_hasRoom_19 rfl h5 (inB_in b6) ?_
      refine g_iadd (pc' := 21) dX10_hasRoom_20 rfl ?_
      refine g_bipush (pc' := 23) (120 : Int32) dX10_hasRoom_21 rfl (by decide) ?_
      refine g_icmp_le (pc' := 26) 28 dX10_hasRoom_23 rfl (by decide) (fun c7 => ?_) (fun c7 => ?_)
      · have hf := ite_t c7 hf
        refine g_iinc (pc' := 31) (lv' := [some (aR v0), some (aI (v1 + 1))]) (v1 + 1) dX10_hasRoom_28 rfl rfl (by rfl) rfl (by decide) rfl ?_
        refine g_goto (pc' := 2) dX10_hasRoom_31 (by decide) ?_
        exact ih v0 (v1 + 1) M _ hf
      · have hf := ite_f c7 hf
        refine g_iconst (pc' := 27) (0 : Int32) dX10_hasRoom_26 rfl (by decide) ?_
        cases hf
        exact g_zreturn dX10_hasRoom_27 rfl (Or.inl rfl) (Nat.le_of_ble_eq_true rfl) (Nat.le_of_ble_eq_true rfl)
theorem s_X10_hasRoom (v0 : Nat) (M : Mem) (r : (Int32 × Mem)) (hf : f_X10_hasRoom v0 M = some r) : Sem mi_X10_hasRoom (1) [aR v0] M (oI r.1) r.2 := by
  unfold f_X10_hasRoom at hf
  refine sem_of (by decide) rfl rfl rfl (Nat.le_of_ble_eq_true rfl) (lv := [some (aR v0), none]) rfl ?_
  refine g_iconst (pc' := 1) (0 : Int32) dX10_hasRoom_0 rfl (by decide) ?_
  refine g_istore_n (pc' := 2) (lv' := [some (aR v0), some (aI (0 : Int32))]) dX10_hasRoom_1 rfl rfl (by decide) rfl ?_
  exact s_X10_hasRoom_2 FUEL v0 (0 : Int32) M _ hf
def f_X10_takeRecord_25 : Nat → Nat → Int32 → Mem → Option (Unit × Mem)
  | 0, _, _, _ => none
  | n + 1, v0, v1, M =>
    if (8 : Int32) ≤ v1 then
      some ((), M)
    else
      if mK M v0 = 11 then
        if mK M (mR M v0 2) = 21 then
          if inB v1 (mN M (mR M v0 2)) = true then
            if mK M (mR M v0 3) = 21 then
              if inB v1 (mN M (mR M v0 3)) = true then
                ap (sI M (mR M v0 2) v1.toNatClampNeg ((mI M (mR M v0 2) v1.toNatClampNeg) + (mI M (mR M v0 3) v1.toNatClampNeg))) fun M7 =>
                f_X10_takeRecord_25 n v0 (v1 + 1) M7
              else none
            else none
          else none
        else none
      else none
def f_X10_takeRecord (v0 : Nat) (M : Mem) : Option (Unit × Mem) :=
  if mK M v0 = 11 then
    ap (sI M v0 0 ((mI M v0 0) + (1 : Int32))) fun M2 =>
    if mK M2 v0 = 11 then
      ap (sI M2 v0 1 ((mI M2 v0 1) + (mI M2 v0 4))) fun M4 =>
      f_X10_takeRecord_25 FUEL v0 (0 : Int32) M4
    else none
  else none
theorem s_X10_takeRecord_25 : ∀ (n : Nat) (v0 : Nat) (v1 : Int32) (M : Mem) (r : (Unit × Mem)), f_X10_takeRecord_25 n v0 v1 M = some r → G mi_X10_takeRecord 1 (oU r.1) r.2 25 [some (aR v0), some (aI v1)] [] M 0 0 := by
  intro n
  induction n with
  | zero => intro v0 v1 M r hf; cases hf
  | succ n ih =>
    intro v0 v1 M r hf
    unfold f_X10_takeRecord_25 at hf
    refine g_iload_n (pc' := 26) dX10_takeRecord_25 rfl rfl ?_
    refine g_bipush (pc' := 28) (8 : Int32) dX10_takeRecord_26 rfl (by decide) ?_
    refine g_icmp_ge (pc' := 31) 52 dX10_takeRecord_28 rfl (by decide) (fun c1 => ?_) (fun c1 => ?_)
    · have hf := ite_t c1 hf
      cases hf
      exact g_return dX10_takeRecord_52 rfl (Nat.le_of_ble_eq_true rfl) (Nat.le_of_ble_eq_true rfl)
    · have hf := ite_f c1 hf
      refine g_aload_n (pc' := 32) dX10_takeRecord_31 rfl rfl ?_
      obtain ⟨h2, hf⟩ := chk_s hf
      refine g_getR (pc' := 35) 10 2 rfl rfl (by decide) inX10 (by decide) rfl rfl q_78 dX10_takeRecord_32 rfl h2 ?_
      refine g_iload_n (pc' := 36) dX10_takeRecord_35 rfl rfl ?_
      refine g_dup2 (pc' := 37) dX10_takeRecord_36 rfl rfl rfl ?_
      obtain ⟨h3, hf⟩ := chk_s hf
      obtain ⟨b4, hf⟩ := chk_s hf
      refine g_iald (pc' := 38) dX10_takeRecord_37 rfl h3 (inB_in b4) ?_
      refine g_aload_n (pc' := 39) dX10_takeRecord_38 rfl rfl ?_
      refine g_getR (pc' := 42) 10 3 rfl rfl (by decide) inX10 (by decide) rfl rfl q_79 dX10_takeRecord_39 rfl h2 ?_
      refine g_iload_n (pc' := 43) dX10_takeRecord_42 rfl rfl ?_
      obtain ⟨h5, hf⟩ := chk_s hf
      obtain ⟨b6, hf⟩ := chk_s hf
      refine g_iald (pc' := 44) dX10_takeRecord_43 rfl h5 (inB_in b6) ?_
      refine g_iadd (pc' := 45) dX10_takeRecord_44 rfl ?_
      refine g_iast (pc' := 46) dX10_takeRecord_45 rfl h3 (inB_in b4) (gM fun M7 hM7 => ?_)
      have hf := ap_eq hf hM7
      refine g_iinc (pc' := 49) (lv' := [some (aR v0), some (aI (v1 + 1))]) (v1 + 1) dX10_takeRecord_46 rfl rfl (by rfl) rfl (by decide) rfl ?_
      refine g_goto (pc' := 25) dX10_takeRecord_49 (by decide) ?_
      exact ih v0 (v1 + 1) M7 _ hf
theorem s_X10_takeRecord (v0 : Nat) (M : Mem) (r : (Unit × Mem)) (hf : f_X10_takeRecord v0 M = some r) : Sem mi_X10_takeRecord (1) [aR v0] M (oU r.1) r.2 := by
  unfold f_X10_takeRecord at hf
  refine sem_of (by decide) rfl rfl rfl (Nat.le_of_ble_eq_true rfl) (lv := [some (aR v0), none]) rfl ?_
  refine g_aload_n (pc' := 1) dX10_takeRecord_0 rfl rfl ?_
  refine g_dup (pc' := 2) dX10_takeRecord_1 rfl rfl ?_
  obtain ⟨h1, hf⟩ := chk_s hf
  refine g_getI (pc' := 5) 10 0 rfl rfl (by decide) inX10 (by decide) rfl rfl q_1486 dX10_takeRecord_2 rfl h1 ?_
  refine g_iconst (pc' := 6) (1 : Int32) dX10_takeRecord_5 rfl (by decide) ?_
  refine g_iadd (pc' := 7) dX10_takeRecord_6 rfl ?_
  refine g_putI (pc' := 10) 10 0 rfl rfl (by decide) inX10 tyX10_ok nmX10 (by decide) rfl rfl rfl rfl q_1486 dX10_takeRecord_7 rfl h1 (gM fun M2 hM2 => ?_)
  have hf := ap_eq hf hM2
  refine g_aload_n (pc' := 11) dX10_takeRecord_10 rfl rfl ?_
  refine g_dup (pc' := 12) dX10_takeRecord_11 rfl rfl ?_
  obtain ⟨h3, hf⟩ := chk_s hf
  refine g_getI (pc' := 15) 10 1 rfl rfl (by decide) inX10 (by decide) rfl rfl q_1487 dX10_takeRecord_12 rfl h3 ?_
  refine g_aload_n (pc' := 16) dX10_takeRecord_15 rfl rfl ?_
  refine g_getI (pc' := 19) 10 4 rfl rfl (by decide) inX10 (by decide) rfl rfl q_1496 dX10_takeRecord_16 rfl h3 ?_
  refine g_iadd (pc' := 20) dX10_takeRecord_19 rfl ?_
  refine g_putI (pc' := 23) 10 1 rfl rfl (by decide) inX10 tyX10_ok nmX10 (by decide) rfl rfl rfl rfl q_1487 dX10_takeRecord_20 rfl h3 (gM fun M4 hM4 => ?_)
  have hf := ap_eq hf hM4
  refine g_iconst (pc' := 24) (0 : Int32) dX10_takeRecord_23 rfl (by decide) ?_
  refine g_istore_n (pc' := 25) (lv' := [some (aR v0), some (aI (0 : Int32))]) dX10_takeRecord_24 rfl rfl (by decide) rfl ?_
  exact s_X10_takeRecord_25 FUEL v0 (0 : Int32) M4 _ hf
def f_X10_run_141 (k110 : Nat → Int32 → Int32 → Mem → Option (Unit × Mem)) (v0 : Nat) (v4 : Int32) (v5 : Int32) (M : Mem) : Option (Unit × Mem) :=
  k110 v0 v4 (v5 + 1) M
def f_X10_run_110 : Nat → Nat → Int32 → Int32 → Mem → Option (Unit × Mem)
  | 0, _, _, _, _ => none
  | n + 1, v0, v4, v5, M =>
    if v4 ≤ v5 then
      some ((), M)
    else
      if mK M v0 = 11 then
        bnd (f_X10_drawRecord v0 M) fun _ M3 =>
        if mK M3 v0 = 11 then
          if (30 : Int32) ≤ (mI M3 v0 0) then
            f_X10_run_141 (f_X10_run_110 n) v0 v4 v5 M3
          else
            bnd (f_X10_hasRoom v0 M3) fun r8 M7 =>
            if r8 = 0 then
              f_X10_run_141 (f_X10_run_110 n) v0 v4 v5 M7
            else
              if mK M7 v0 = 11 then
                bnd (f_X10_takeRecord v0 M7) fun _ M11 =>
                f_X10_run_141 (f_X10_run_110 n) v0 v4 v5 M11
              else none
        else none
      else none
def f_X10_run_97 (k26 : Nat → Nat → Int32 → Int32 → Mem → Option (Unit × Mem)) (v0 : Nat) (v2 : Nat) (v4 : Int32) (v5 : Int32) (w0 : Nat) (w1 : Int32) (w2 : Int32) (M : Mem) : Option (Unit × Mem) :=
  if mK M w0 = 11 then
    ap (sI M w0 1 (w1 + w2)) fun M2 =>
    k26 v0 v2 v4 (v5 + 1) M2
  else none
def f_X10_run_65 (k26 : Nat → Nat → Int32 → Int32 → Mem → Option (Unit × Mem)) (v0 : Nat) (v2 : Nat) (v4 : Int32) (v5 : Int32) (w0 : Nat) (w1 : Int32) (w2 : Int32) (M : Mem) : Option (Unit × Mem) :=
  if mK M w0 = 21 then
    if inB w1 (mN M w0) = true then
      ap (sI M w0 w1.toNatClampNeg w2) fun M3 =>
      if mK M3 v0 = 11 then
        if mK M3 (mR M3 v0 6) = 6 then
          if (mI M3 (mR M3 v0 6) 1) ≤ v5 then
            f_X10_run_97 k26 v0 v2 v4 v5 v0 (mI M3 v0 1) (0 : Int32) M3
          else
            if mK M3 v2 = 8 then
              if mK M3 (mR M3 v2 0) = 23 then
                if inB v5 (mN M3 (mR M3 v2 0)) = true then
                  if mK M3 (mR M3 (mR M3 v2 0) v5.toNatClampNeg) = 3 then
                    bnd (f_X2_valueSum (mR M3 (mR M3 v2 0) v5.toNatClampNeg) M3) fun r12 M11 =>
                    f_X10_run_97 k26 v0 v2 v4 v5 v0 (mI M3 v0 1) r12 M11
                  else none
                else none
              else none
            else none
        else none
      else none
    else none
  else none
def f_X10_run_26 : Nat → Nat → Nat → Int32 → Int32 → Mem → Option (Unit × Mem)
  | 0, _, _, _, _, _ => none
  | n + 1, v0, v2, v4, v5, M =>
    if (8 : Int32) ≤ v5 then
      f_X10_run_110 FUEL v0 v4 (0 : Int32) M
    else
      if mK M v0 = 11 then
        if mK M (mR M v0 6) = 6 then
          if (mI M (mR M v0 6) 1) ≤ v5 then
            f_X10_run_65 (f_X10_run_26 n) v0 v2 v4 v5 (mR M v0 2) v5 (0 : Int32) M
          else
            if mK M v2 = 8 then
              if mK M (mR M v2 0) = 23 then
                if inB v5 (mN M (mR M v2 0)) = true then
                  if mK M (mR M (mR M v2 0) v5.toNatClampNeg) = 3 then
                    f_X10_run_65 (f_X10_run_26 n) v0 v2 v4 v5 (mR M v0 2) v5 (mI M (mR M (mR M v2 0) v5.toNatClampNeg) 3) M
                  else none
                else none
              else none
            else none
        else none
      else none
def f_X10_run (v0 : Nat) (v1 : Nat) (v2 : Nat) (v3 : Int32) (v4 : Int32) (M : Mem) : Option (Unit × Mem) :=
  if mK M v0 = 11 then
    if okrB M [v1] = true then
      ap (sR M v0 6 v1) fun M2 =>
      if mK M2 v0 = 11 then
        ap (sI M2 v0 5 v3) fun M5 =>
        if mK M5 v2 = 8 then
          if mK M5 v0 = 11 then
            ap (sI M5 v0 0 (mI M5 v2 1)) fun M8 =>
            if mK M8 v0 = 11 then
              ap (sI M8 v0 1 (0 : Int32)) fun M10 =>
              f_X10_run_26 FUEL v0 v2 v4 (0 : Int32) M10
            else none
          else none
        else none
      else none
    else none
  else none
theorem s_X10_run_141 (k110 : Nat → Int32 → Int32 → Mem → Option (Unit × Mem)) (hk110 : ∀ (v0 : Nat) (v4 : Int32) (v5 : Int32) (M : Mem) (r : (Unit × Mem)), k110 v0 v4 v5 M = some r → G mi_X10_run 26 (oU r.1) r.2 110 [some (aR v0), none, none, none, some (aI v4), some (aI v5)] [] M 0 0) (v0 : Nat) (v4 : Int32) (v5 : Int32) (M : Mem) (r : (Unit × Mem)) (hf : f_X10_run_141 k110 v0 v4 v5 M = some r) : G mi_X10_run 26 (oU r.1) r.2 141 [some (aR v0), none, none, none, some (aI v4), some (aI v5)] [] M 0 0 := by
  unfold f_X10_run_141 at hf
  refine g_iinc (pc' := 144) (lv' := [some (aR v0), none, none, none, some (aI v4), some (aI (v5 + 1))]) (v5 + 1) dX10_run_141 rfl rfl (by rfl) rfl (by decide) rfl ?_
  refine g_goto (pc' := 110) dX10_run_144 (by decide) ?_
  exact hk110 v0 v4 (v5 + 1) M _ hf
theorem s_X10_run_110 : ∀ (n : Nat) (v0 : Nat) (v4 : Int32) (v5 : Int32) (M : Mem) (r : (Unit × Mem)), f_X10_run_110 n v0 v4 v5 M = some r → G mi_X10_run 26 (oU r.1) r.2 110 [some (aR v0), none, none, none, some (aI v4), some (aI v5)] [] M 0 0 := by
  intro n
  induction n with
  | zero => intro v0 v4 v5 M r hf; cases hf
  | succ n ih =>
    intro v0 v4 v5 M r hf
    unfold f_X10_run_110 at hf
    refine g_iload (pc' := 112) dX10_run_110 rfl rfl ?_
    refine g_iload (pc' := 114) dX10_run_112 rfl rfl ?_
    refine g_icmp_ge (pc' := 117) 147 dX10_run_114 rfl (by decide) (fun c1 => ?_) (fun c1 => ?_)
    · have hf := ite_t c1 hf
      cases hf
      exact g_return dX10_run_147 rfl (Nat.le_of_ble_eq_true rfl) (Nat.le_of_ble_eq_true rfl)
    · have hf := ite_f c1 hf
      refine g_aload_n (pc' := 118) dX10_run_117 rfl rfl ?_
      obtain ⟨h2, hf⟩ := chk_s hf
      obtain ⟨_, M3, e4, hf⟩ := bnd_some hf
      refine g_callVv (pc' := 121) (k' := 0) (u' := 0) (fr2 := 25) (As := []) (b := v0) (st := []) cf_X10_drawRecord q_1492 (by omega) (ci := 10) rfl rfl (by decide) dX10_run_118 rfl rfl rfl (Nat.le_of_ble_eq_true rfl) (Or.inl rfl) (Nat.le_refl _) (Nat.le_refl _) (Nat.le_refl _) (Nat.le_refl _) h2 (s_X10_drawRecord v0 M _ e4) ?_
      refine g_aload_n (pc' := 122) dX10_run_121 rfl rfl ?_
      obtain ⟨h5, hf⟩ := chk_s hf
      refine g_getI (pc' := 125) 10 0 rfl rfl (by decide) inX10 (by decide) rfl rfl q_1486 dX10_run_122 rfl h5 ?_
      refine g_bipush (pc' := 127) (30 : Int32) dX10_run_125 rfl (by decide) ?_
      refine g_icmp_ge (pc' := 130) 141 dX10_run_127 rfl (by decide) (fun c6 => ?_) (fun c6 => ?_)
      · have hf := ite_t c6 hf
        refine g_widen (k' := 0) (u' := 0) (by omega) (by omega) ?_
        exact s_X10_run_141 (f_X10_run_110 n) ih v0 v4 v5 M3 _ hf
      · have hf := ite_f c6 hf
        refine g_aload_n (pc' := 131) dX10_run_130 rfl rfl ?_
        obtain ⟨r8, M7, e8, hf⟩ := bnd_some hf
        refine g_callVi (pc' := 134) (k' := 0) (u' := 0) (fr2 := 1) (As := []) (b := v0) (st := []) cf_X10_hasRoom q_1519 (by omega) (ci := 10) rfl rfl (by decide) dX10_run_131 rfl rfl rfl (Nat.le_of_ble_eq_true rfl) (Or.inl rfl) (Nat.le_refl _) (Nat.le_refl _) (Nat.le_refl _) (Nat.le_refl _) h5 (s_X10_hasRoom v0 M3 _ e8) ?_
        refine g_if_eq (pc' := 137) 141 dX10_run_134 rfl (by decide) (fun c9 => ?_) (fun c9 => ?_)
        · have hf := ite_t c9 hf
          refine g_widen (k' := 0) (u' := 0) (by omega) (by omega) ?_
          exact s_X10_run_141 (f_X10_run_110 n) ih v0 v4 v5 M7 _ hf
        · have hf := ite_f c9 hf
          refine g_aload_n (pc' := 138) dX10_run_137 rfl rfl ?_
          obtain ⟨h10, hf⟩ := chk_s hf
          obtain ⟨_, M11, e12, hf⟩ := bnd_some hf
          refine g_callVv (pc' := 141) (k' := 0) (u' := 0) (fr2 := 1) (As := []) (b := v0) (st := []) cf_X10_takeRecord q_1523 (by omega) (ci := 10) rfl rfl (by decide) dX10_run_138 rfl rfl rfl (Nat.le_of_ble_eq_true rfl) (Or.inl rfl) (Nat.le_refl _) (Nat.le_refl _) (Nat.le_refl _) (Nat.le_refl _) h10 (s_X10_takeRecord v0 M7 _ e12) ?_
          refine g_widen (k' := 0) (u' := 0) (by omega) (by omega) ?_
          exact s_X10_run_141 (f_X10_run_110 n) ih v0 v4 v5 M11 _ hf
theorem s_X10_run_97 (k26 : Nat → Nat → Int32 → Int32 → Mem → Option (Unit × Mem)) (hk26 : ∀ (v0 : Nat) (v2 : Nat) (v4 : Int32) (v5 : Int32) (M : Mem) (r : (Unit × Mem)), k26 v0 v2 v4 v5 M = some r → G mi_X10_run 26 (oU r.1) r.2 26 [some (aR v0), none, some (aR v2), none, some (aI v4), some (aI v5)] [] M 0 0) (v0 : Nat) (v2 : Nat) (v4 : Int32) (v5 : Int32) (w0 : Nat) (w1 : Int32) (w2 : Int32) (M : Mem) (r : (Unit × Mem)) (hf : f_X10_run_97 k26 v0 v2 v4 v5 w0 w1 w2 M = some r) : G mi_X10_run 26 (oU r.1) r.2 97 [some (aR v0), none, some (aR v2), none, some (aI v4), some (aI v5)] [aI w2, aI w1, aR w0] M 0 0 := by
  unfold f_X10_run_97 at hf
  refine g_iadd (pc' := 98) dX10_run_97 rfl ?_
  obtain ⟨h1, hf⟩ := chk_s hf
  refine g_putI (pc' := 101) 10 1 rfl rfl (by decide) inX10 tyX10_ok nmX10 (by decide) rfl rfl rfl rfl q_1487 dX10_run_98 rfl h1 (gM fun M2 hM2 => ?_)
  have hf := ap_eq hf hM2
  refine g_iinc (pc' := 104) (lv' := [some (aR v0), none, some (aR v2), none, some (aI v4), some (aI (v5 + 1))]) (v5 + 1) dX10_run_101 rfl rfl (by rfl) rfl (by decide) rfl ?_
  refine g_goto (pc' := 26) dX10_run_104 (by decide) ?_
  exact hk26 v0 v2 v4 (v5 + 1) M2 _ hf
theorem s_X10_run_65 (k26 : Nat → Nat → Int32 → Int32 → Mem → Option (Unit × Mem)) (hk26 : ∀ (v0 : Nat) (v2 : Nat) (v4 : Int32) (v5 : Int32) (M : Mem) (r : (Unit × Mem)), k26 v0 v2 v4 v5 M = some r → G mi_X10_run 26 (oU r.1) r.2 26 [some (aR v0), none, some (aR v2), none, some (aI v4), some (aI v5)] [] M 0 0) (v0 : Nat) (v2 : Nat) (v4 : Int32) (v5 : Int32) (w0 : Nat) (w1 : Int32) (w2 : Int32) (M : Mem) (r : (Unit × Mem)) (hf : f_X10_run_65 k26 v0 v2 v4 v5 w0 w1 w2 M = some r) : G mi_X10_run 26 (oU r.1) r.2 65 [some (aR v0), none, some (aR v2), none, some (aI v4), some (aI v5)] [aI w2, aI w1, aR w0] M 0 0 := by
  unfold f_X10_run_65 at hf
  obtain ⟨h1, hf⟩ := chk_s hf
  obtain ⟨b2, hf⟩ := chk_s hf
  refine g_iast (pc' := 66) dX10_run_65 rfl h1 (inB_in b2) (gM fun M3 hM3 => ?_)
  have hf := ap_eq hf hM3
  refine g_aload_n (pc' := 67) dX10_run_66 rfl rfl ?_
  refine g_dup (pc' := 68) dX10_run_67 rfl rfl ?_
  obtain ⟨h4, hf⟩ := chk_s hf
  refine g_getI (pc' := 71) 10 1 rfl rfl (by decide) inX10 (by decide) rfl rfl q_1487 dX10_run_68 rfl h4 ?_
  refine g_iload (pc' := 73) dX10_run_71 rfl rfl ?_
  refine g_aload_n (pc' := 74) dX10_run_73 rfl rfl ?_
  refine g_getR (pc' := 77) 10 6 rfl rfl (by decide) inX10 (by decide) rfl rfl q_1483 dX10_run_74 rfl h4 ?_
  obtain ⟨h5, hf⟩ := chk_s hf
  refine g_getI (pc' := 80) 5 1 rfl rfl (by decide) inX5 (by decide) rfl rfl q_1488 dX10_run_77 rfl h5 ?_
  refine g_icmp_ge (pc' := 83) 96 dX10_run_80 rfl (by decide) (fun c6 => ?_) (fun c6 => ?_)
  · have hf := ite_t c6 hf
    refine g_iconst (pc' := 97) (0 : Int32) dX10_run_96 rfl (by decide) ?_
    exact s_X10_run_97 k26 hk26 v0 v2 v4 v5 v0 (mI M3 v0 1) (0 : Int32) M3 _ hf
  · have hf := ite_f c6 hf
    refine g_aload_n (pc' := 84) dX10_run_83 rfl rfl ?_
    obtain ⟨h7, hf⟩ := chk_s hf
    refine g_getR (pc' := 87) 7 0 rfl rfl (by decide) inX7 (by decide) rfl rfl q_1489 dX10_run_84 rfl h7 ?_
    refine g_iload (pc' := 89) dX10_run_87 rfl rfl ?_
    obtain ⟨h8, hf⟩ := chk_s hf
    obtain ⟨b9, hf⟩ := chk_s hf
    refine g_aald (pc' := 90) (t0 := 2) (fun _ => rfl) (by decide) dX10_run_89 rfl h8 (inB_in b9) ?_
    obtain ⟨h10, hf⟩ := chk_s hf
    obtain ⟨r12, M11, e12, hf⟩ := bnd_some hf
    refine g_callVi (pc' := 93) (k' := 0) (u' := 0) (fr2 := 2) (As := []) (b := (mR M3 (mR M3 v2 0) v5.toNatClampNeg)) (st := [aI (mI M3 v0 1), aR v0]) cf_X2_valueSum q_1491 (by omega) (ci := 2) rfl rfl (by decide) dX10_run_90 rfl rfl rfl (Nat.le_of_ble_eq_true rfl) (Or.inl rfl) (Nat.le_refl _) (Nat.le_refl _) (Nat.le_refl _) (Nat.le_refl _) h10 (s_X2_valueSum (mR M3 (mR M3 v2 0) v5.toNatClampNeg) M3 _ e12) ?_
    refine g_goto (pc' := 97) dX10_run_93 (by decide) ?_
    refine g_widen (k' := 0) (u' := 0) (by omega) (by omega) ?_
    exact s_X10_run_97 k26 hk26 v0 v2 v4 v5 v0 (mI M3 v0 1) r12 M11 _ hf
theorem s_X10_run_26 : ∀ (n : Nat) (v0 : Nat) (v2 : Nat) (v4 : Int32) (v5 : Int32) (M : Mem) (r : (Unit × Mem)), f_X10_run_26 n v0 v2 v4 v5 M = some r → G mi_X10_run 26 (oU r.1) r.2 26 [some (aR v0), none, some (aR v2), none, some (aI v4), some (aI v5)] [] M 0 0 := by
  intro n
  induction n with
  | zero => intro v0 v2 v4 v5 M r hf; cases hf
  | succ n ih =>
    intro v0 v2 v4 v5 M r hf
    unfold f_X10_run_26 at hf
    refine g_iload (pc' := 28) dX10_run_26 rfl rfl ?_
    refine g_bipush (pc' := 30) (8 : Int32) dX10_run_28 rfl (by decide) ?_
    refine g_icmp_ge (pc' := 33) 107 dX10_run_30 rfl (by decide) (fun c1 => ?_) (fun c1 => ?_)
    · have hf := ite_t c1 hf
      refine g_iconst (pc' := 108) (0 : Int32) dX10_run_107 rfl (by decide) ?_
      refine g_istore (pc' := 110) (lv' := [some (aR v0), none, some (aR v2), none, some (aI v4), some (aI (0 : Int32))]) dX10_run_108 rfl rfl (by decide) rfl ?_
      refine g_mask [true, true, false, true, true, true] rfl ?_
      exact s_X10_run_110 FUEL v0 v4 (0 : Int32) M _ hf
    · have hf := ite_f c1 hf
      refine g_aload_n (pc' := 34) dX10_run_33 rfl rfl ?_
      obtain ⟨h2, hf⟩ := chk_s hf
      refine g_getR (pc' := 37) 10 2 rfl rfl (by decide) inX10 (by decide) rfl rfl q_78 dX10_run_34 rfl h2 ?_
      refine g_iload (pc' := 39) dX10_run_37 rfl rfl ?_
      refine g_iload (pc' := 41) dX10_run_39 rfl rfl ?_
      refine g_aload_n (pc' := 42) dX10_run_41 rfl rfl ?_
      refine g_getR (pc' := 45) 10 6 rfl rfl (by decide) inX10 (by decide) rfl rfl q_1483 dX10_run_42 rfl h2 ?_
      obtain ⟨h3, hf⟩ := chk_s hf
      refine g_getI (pc' := 48) 5 1 rfl rfl (by decide) inX5 (by decide) rfl rfl q_1488 dX10_run_45 rfl h3 ?_
      refine g_icmp_ge (pc' := 51) 64 dX10_run_48 rfl (by decide) (fun c4 => ?_) (fun c4 => ?_)
      · have hf := ite_t c4 hf
        refine g_iconst (pc' := 65) (0 : Int32) dX10_run_64 rfl (by decide) ?_
        exact s_X10_run_65 (f_X10_run_26 n) ih v0 v2 v4 v5 (mR M v0 2) v5 (0 : Int32) M _ hf
      · have hf := ite_f c4 hf
        refine g_aload_n (pc' := 52) dX10_run_51 rfl rfl ?_
        obtain ⟨h5, hf⟩ := chk_s hf
        refine g_getR (pc' := 55) 7 0 rfl rfl (by decide) inX7 (by decide) rfl rfl q_1489 dX10_run_52 rfl h5 ?_
        refine g_iload (pc' := 57) dX10_run_55 rfl rfl ?_
        obtain ⟨h6, hf⟩ := chk_s hf
        obtain ⟨b7, hf⟩ := chk_s hf
        refine g_aald (pc' := 58) (t0 := 2) (fun _ => rfl) (by decide) dX10_run_57 rfl h6 (inB_in b7) ?_
        obtain ⟨h8, hf⟩ := chk_s hf
        refine g_getI (pc' := 61) 2 3 rfl rfl (by decide) inX2 (by decide) rfl rfl q_1490 dX10_run_58 rfl h8 ?_
        refine g_goto (pc' := 65) dX10_run_61 (by decide) ?_
        exact s_X10_run_65 (f_X10_run_26 n) ih v0 v2 v4 v5 (mR M v0 2) v5 (mI M (mR M (mR M v2 0) v5.toNatClampNeg) 3) M _ hf
theorem s_X10_run (v0 : Nat) (v1 : Nat) (v2 : Nat) (v3 : Int32) (v4 : Int32) (M : Mem) (r : (Unit × Mem)) (hf : f_X10_run v0 v1 v2 v3 v4 M = some r) : Sem mi_X10_run (26) [aR v0, aR v1, aR v2, aI v3, aI v4] M (oU r.1) r.2 := by
  unfold f_X10_run at hf
  refine sem_of (by decide) rfl rfl rfl (Nat.le_of_ble_eq_true rfl) (lv := [some (aR v0), some (aR v1), some (aR v2), some (aI v3), some (aI v4), none]) rfl ?_
  refine g_aload_n (pc' := 1) dX10_run_0 rfl rfl ?_
  refine g_aload_n (pc' := 2) dX10_run_1 rfl rfl ?_
  obtain ⟨h1, hf⟩ := chk_s hf
  obtain ⟨hr3, hf⟩ := chk_s hf
  refine g_putR (pc' := 5) 10 6 rfl rfl (by decide) inX10 tyX10_ok nmX10 (by decide) rfl rfl rfl (Or.inl ⟨_, rfl⟩) (okrB_1 hr3) q_1483 dX10_run_2 rfl h1 (gM fun M2 hM2 => ?_)
  have hf := ap_eq hf hM2
  refine g_aload_n (pc' := 6) dX10_run_5 rfl rfl ?_
  refine g_iload_n (pc' := 7) dX10_run_6 rfl rfl ?_
  obtain ⟨h4, hf⟩ := chk_s hf
  refine g_putI (pc' := 10) 10 5 rfl rfl (by decide) inX10 tyX10_ok nmX10 (by decide) rfl rfl rfl rfl q_1484 dX10_run_7 rfl h4 (gM fun M5 hM5 => ?_)
  have hf := ap_eq hf hM5
  refine g_aload_n (pc' := 11) dX10_run_10 rfl rfl ?_
  refine g_aload_n (pc' := 12) dX10_run_11 rfl rfl ?_
  obtain ⟨h6, hf⟩ := chk_s hf
  refine g_getI (pc' := 15) 7 1 rfl rfl (by decide) inX7 (by decide) rfl rfl q_1485 dX10_run_12 rfl h6 ?_
  obtain ⟨h7, hf⟩ := chk_s hf
  refine g_putI (pc' := 18) 10 0 rfl rfl (by decide) inX10 tyX10_ok nmX10 (by decide) rfl rfl rfl rfl q_1486 dX10_run_15 rfl h7 (gM fun M8 hM8 => ?_)
  have hf := ap_eq hf hM8
  refine g_aload_n (pc' := 19) dX10_run_18 rfl rfl ?_
  refine g_iconst (pc' := 20) (0 : Int32) dX10_run_19 rfl (by decide) ?_
  obtain ⟨h9, hf⟩ := chk_s hf
  refine g_putI (pc' := 23) 10 1 rfl rfl (by decide) inX10 tyX10_ok nmX10 (by decide) rfl rfl rfl rfl q_1487 dX10_run_20 rfl h9 (gM fun M10 hM10 => ?_)
  have hf := ap_eq hf hM10
  refine g_iconst (pc' := 24) (0 : Int32) dX10_run_23 rfl (by decide) ?_
  refine g_istore (pc' := 26) (lv' := [some (aR v0), some (aR v1), some (aR v2), some (aI v3), some (aI v4), some (aI (0 : Int32))]) dX10_run_24 rfl rfl (by decide) rfl ?_
  refine g_mask [true, false, true, false, true, true] rfl ?_
  exact s_X10_run_26 FUEL v0 v2 v4 (0 : Int32) M10 _ hf
def f_X10_entrySum_4 : Nat → Nat → Int32 → Int32 → Mem → Option (Int32 × Mem)
  | 0, _, _, _, _ => none
  | n + 1, v0, v1, v2, M =>
    if (8 : Int32) ≤ v2 then
      some (v1, M)
    else
      if mK M v0 = 11 then
        if mK M (mR M v0 2) = 21 then
          if inB v2 (mN M (mR M v0 2)) = true then
            f_X10_entrySum_4 n v0 (v1 + (mI M (mR M v0 2) v2.toNatClampNeg)) (v2 + 1) M
          else none
        else none
      else none
def f_X10_entrySum (v0 : Nat) (M : Mem) : Option (Int32 × Mem) :=
  f_X10_entrySum_4 FUEL v0 (0 : Int32) (0 : Int32) M
theorem s_X10_entrySum_4 : ∀ (n : Nat) (v0 : Nat) (v1 : Int32) (v2 : Int32) (M : Mem) (r : (Int32 × Mem)), f_X10_entrySum_4 n v0 v1 v2 M = some r → G mi_X10_entrySum 1 (oI r.1) r.2 4 [some (aR v0), some (aI v1), some (aI v2)] [] M 0 0 := by
  intro n
  induction n with
  | zero => intro v0 v1 v2 M r hf; cases hf
  | succ n ih =>
    intro v0 v1 v2 M r hf
    unfold f_X10_entrySum_4 at hf
    refine g_iload_n (pc' := 5) dX10_entrySum_4 rfl rfl ?_
    refine g_bipush (pc' := 7) (8 : Int32) dX10_entrySum_5 rfl (by decide) ?_
    refine g_icmp_ge (pc' := 10) 25 dX10_entrySum_7 rfl (by decide) (fun c1 => ?_) (fun c1 => ?_)
    · have hf := ite_t c1 hf
      refine g_iload_n (pc' := 26) dX10_entrySum_25 rfl rfl ?_
      cases hf
      exact g_ireturn dX10_entrySum_26 rfl (Nat.le_of_ble_eq_true rfl) (Nat.le_of_ble_eq_true rfl)
    · have hf := ite_f c1 hf
      refine g_iload_n (pc' := 11) dX10_entrySum_10 rfl rfl ?_
      refine g_aload_n (pc' := 12) dX10_entrySum_11 rfl rfl ?_
      obtain ⟨h2, hf⟩ := chk_s hf
      refine g_getR (pc' := 15) 10 2 rfl rfl (by decide) inX10 (by decide) rfl rfl q_78 dX10_entrySum_12 rfl h2 ?_
      refine g_iload_n (pc' := 16) dX10_entrySum_15 rfl rfl ?_
      obtain ⟨h3, hf⟩ := chk_s hf
      obtain ⟨b4, hf⟩ := chk_s hf
      refine g_iald (pc' := 17) dX10_entrySum_16 rfl h3 (inB_in b4) ?_
      refine g_iadd (pc' := 18) dX10_entrySum_17 rfl ?_
      refine g_istore_n (pc' := 19) (lv' := [some (aR v0), some (aI (v1 + (mI M (mR M v0 2) v2.toNatClampNeg))), some (aI v2)]) dX10_entrySum_18 rfl rfl (by decide) rfl ?_
      refine g_iinc (pc' := 22) (lv' := [some (aR v0), some (aI (v1 + (mI M (mR M v0 2) v2.toNatClampNeg))), some (aI (v2 + 1))]) (v2 + 1) dX10_entrySum_19 rfl rfl (by rfl) rfl (by decide) rfl ?_
      refine g_goto (pc' := 4) dX10_entrySum_22 (by decide) ?_
      exact ih v0 (v1 + (mI M (mR M v0 2) v2.toNatClampNeg)) (v2 + 1) M _ hf
theorem s_X10_entrySum (v0 : Nat) (M : Mem) (r : (Int32 × Mem)) (hf : f_X10_entrySum v0 M = some r) : Sem mi_X10_entrySum (1) [aR v0] M (oI r.1) r.2 := by
  unfold f_X10_entrySum at hf
  refine sem_of (by decide) rfl rfl rfl (Nat.le_of_ble_eq_true rfl) (lv := [some (aR v0), none, none]) rfl ?_
  refine g_iconst (pc' := 1) (0 : Int32) dX10_entrySum_0 rfl (by decide) ?_
  refine g_istore_n (pc' := 2) (lv' := [some (aR v0), some (aI (0 : Int32)), none]) dX10_entrySum_1 rfl rfl (by decide) rfl ?_
  refine g_iconst (pc' := 3) (0 : Int32) dX10_entrySum_2 rfl (by decide) ?_
  refine g_istore_n (pc' := 4) (lv' := [some (aR v0), some (aI (0 : Int32)), some (aI (0 : Int32))]) dX10_entrySum_3 rfl rfl (by decide) rfl ?_
  exact s_X10_entrySum_4 FUEL v0 (0 : Int32) (0 : Int32) M _ hf
set_option maxRecDepth 100000 in
set_option maxHeartbeats 4000000 in
def f_X11_init (v0 : Nat) (M : Mem) : Option (Unit × Mem) :=
  if ¬ v0 = 0 then
    if mn M + 1 < 900000 then
      if okrB M [v0, v0] = true then
      ap (mNew M 10 0) fun M2 =>
      if ¬ (mn M + 1) = 0 then
        if okrB M2 [v0, (mn M + 1), v0] = true then
          bnd (f_X9_init (mn M + 1) M2) fun _ M4 =>
          if mK M4 v0 = 12 then
            if okrB M4 [(mn M + 1)] = true then
              ap (sR M4 v0 0 (mn M + 1)) fun M8 =>
              if mn M8 + 1 < 900000 then
                if okrB M8 [v0, v0] = true then
                ap (mNew M8 7 0) fun M11 =>
                if ¬ (mn M8 + 1) = 0 then
                  bnd (f_X6_init (mn M8 + 1) M11) fun _ M13 =>
                  if mK M13 v0 = 12 then
                    if okrB M13 [(mn M8 + 1)] = true then
                      ap (sR M13 v0 1 (mn M8 + 1)) fun M16 =>
                      if mn M16 + 1 < 900000 then
                        if okrB M16 [v0, v0] = true then
                        ap (mNew M16 5 0) fun M19 =>
                        if ¬ (mn M16 + 1) = 0 then
                          if okrB M19 [v0, (mn M16 + 1), v0] = true then
                            bnd (f_X4_init (mn M16 + 1) M19) fun _ M21 =>
                            if mK M21 v0 = 12 then
                              if okrB M21 [(mn M16 + 1)] = true then
                                ap (sR M21 v0 2 (mn M16 + 1)) fun M25 =>
                                if mn M25 + 1 < 900000 then
                                  if okrB M25 [v0, v0] = true then
                                  ap (mNew M25 2 0) fun M28 =>
                                  if ¬ (mn M25 + 1) = 0 then
                                    bnd (f_X1_init (mn M25 + 1) M28) fun _ M30 =>
                                    if mK M30 v0 = 12 then
                                      if okrB M30 [(mn M25 + 1)] = true then
                                        ap (sR M30 v0 3 (mn M25 + 1)) fun M33 =>
                                        if mn M33 + 1 < 900000 then
                                          if okrB M33 [v0, v0] = true then
                                          ap (mNew M33 9 0) fun M36 =>
                                          if ¬ (mn M33 + 1) = 0 then
                                            if okrB M36 [v0, (mn M33 + 1), v0] = true then
                                              bnd (f_X8_init (mn M33 + 1) M36) fun _ M38 =>
                                              if mK M38 v0 = 12 then
                                                if okrB M38 [(mn M33 + 1)] = true then
                                                  ap (sR M38 v0 4 (mn M33 + 1)) fun M42 =>
                                                  if mn M42 + 1 < 900000 then
                                                    if okrB M42 [v0, v0] = true then
                                                    ap (mNew M42 11 0) fun M45 =>
                                                    if ¬ (mn M42 + 1) = 0 then
                                                      if okrB M45 [v0, (mn M42 + 1), v0] = true then
                                                        bnd (f_X10_init (mn M42 + 1) M45) fun _ M47 =>
                                                        if mK M47 v0 = 12 then
                                                          if okrB M47 [(mn M42 + 1)] = true then
                                                            ap (sR M47 v0 5 (mn M42 + 1)) fun M51 =>
                                                            if mn M51 + 1 < 900000 then
                                                              if okrB M51 [v0, v0] = true then
                                                              ap (mNew M51 8 0) fun M54 =>
                                                              if ¬ (mn M51 + 1) = 0 then
                                                                if okrB M54 [v0, (mn M51 + 1), v0] = true then
                                                                  bnd (f_X7_init (mn M51 + 1) M54) fun _ M56 =>
                                                                  if mK M56 v0 = 12 then
                                                                    if okrB M56 [(mn M51 + 1)] = true then
                                                                      ap (sR M56 v0 6 (mn M51 + 1)) fun M60 =>
                                                                      if mn M60 + 1 < 900000 then
                                                                        if okrB M60 [v0, v0] = true then
                                                                        ap (mNew M60 8 0) fun M63 =>
                                                                        if ¬ (mn M60 + 1) = 0 then
                                                                          if okrB M63 [v0, (mn M60 + 1), v0] = true then
                                                                            bnd (f_X7_init (mn M60 + 1) M63) fun _ M65 =>
                                                                            if mK M65 v0 = 12 then
                                                                              if okrB M65 [(mn M60 + 1)] = true then
                                                                                ap (sR M65 v0 7 (mn M60 + 1)) fun M69 =>
                                                                                if mn M69 + 1 < 900000 then
                                                                                  if okrB M69 [v0, v0] = true then
                                                                                  ap (mNew M69 6 0) fun M72 =>
                                                                                  if ¬ (mn M69 + 1) = 0 then
                                                                                    if okrB M72 [v0, (mn M69 + 1), v0] = true then
                                                                                      bnd (f_X5_init (mn M69 + 1) M72) fun _ M74 =>
                                                                                      if mK M74 v0 = 12 then
                                                                                        if okrB M74 [(mn M69 + 1)] = true then
                                                                                          ap (sR M74 v0 8 (mn M69 + 1)) fun M78 =>
                                                                                          if mn M78 + 1 < 900000 then
                                                                                            if okrB M78 [v0, v0] = true then
                                                                                            ap (mNew M78 6 0) fun M81 =>
                                                                                            if ¬ (mn M78 + 1) = 0 then
                                                                                              if okrB M81 [v0, (mn M78 + 1), v0] = true then
                                                                                                bnd (f_X5_init (mn M78 + 1) M81) fun _ M83 =>
                                                                                                if mK M83 v0 = 12 then
                                                                                                  if okrB M83 [(mn M78 + 1)] = true then
                                                                                                    ap (sR M83 v0 9 (mn M78 + 1)) fun M87 =>
                                                                                                    if mn M87 + 1 < 900000 then
                                                                                                      if okrB M87 [v0, v0] = true then
                                                                                                      ap (mNew M87 6 0) fun M90 =>
                                                                                                      if ¬ (mn M87 + 1) = 0 then
                                                                                                        if okrB M90 [v0, (mn M87 + 1), v0] = true then
                                                                                                          bnd (f_X5_init (mn M87 + 1) M90) fun _ M92 =>
                                                                                                          if mK M92 v0 = 12 then
                                                                                                            if okrB M92 [(mn M87 + 1)] = true then
                                                                                                              ap (sR M92 v0 10 (mn M87 + 1)) fun M96 =>
                                                                                                              if mn M96 + 1 < 900000 then
                                                                                                                if okrB M96 [v0, v0] = true then
                                                                                                                ap (mNew M96 4 0) fun M99 =>
                                                                                                                if ¬ (mn M96 + 1) = 0 then
                                                                                                                  if okrB M99 [v0, (mn M96 + 1), v0] = true then
                                                                                                                    bnd (f_X3_init (mn M96 + 1) M99) fun _ M101 =>
                                                                                                                    if mK M101 v0 = 12 then
                                                                                                                      if okrB M101 [(mn M96 + 1)] = true then
                                                                                                                        ap (sR M101 v0 11 (mn M96 + 1)) fun M105 =>
                                                                                                                        if mn M105 + 1 < 900000 then
                                                                                                                          if okrB M105 [v0, v0] = true then
                                                                                                                          ap (mNew M105 4 0) fun M108 =>
                                                                                                                          if ¬ (mn M105 + 1) = 0 then
                                                                                                                            if okrB M108 [v0, (mn M105 + 1), v0] = true then
                                                                                                                              bnd (f_X3_init (mn M105 + 1) M108) fun _ M110 =>
                                                                                                                              if mK M110 v0 = 12 then
                                                                                                                                if okrB M110 [(mn M105 + 1)] = true then
                                                                                                                                  ap (sR M110 v0 12 (mn M105 + 1)) fun M114 =>
                                                                                                                                  if mK M114 v0 = 12 then
                                                                                                                                    ap (sI M114 v0 13 (0 : Int32)) fun M117 =>
                                                                                                                                    if mK M117 v0 = 12 then
                                                                                                                                      ap (sI M117 v0 14 (-1 : Int32)) fun M119 =>
                                                                                                                                      some ((), M119)
                                                                                                                                    else none
                                                                                                                                  else none
                                                                                                                                else none
                                                                                                                              else none
                                                                                                                            else none
                                                                                                                          else none
                                                                                                                          else none
                                                                                                                        else none
                                                                                                                      else none
                                                                                                                    else none
                                                                                                                  else none
                                                                                                                else none
                                                                                                                else none
                                                                                                              else none
                                                                                                            else none
                                                                                                          else none
                                                                                                        else none
                                                                                                      else none
                                                                                                      else none
                                                                                                    else none
                                                                                                  else none
                                                                                                else none
                                                                                              else none
                                                                                            else none
                                                                                            else none
                                                                                          else none
                                                                                        else none
                                                                                      else none
                                                                                    else none
                                                                                  else none
                                                                                  else none
                                                                                else none
                                                                              else none
                                                                            else none
                                                                          else none
                                                                        else none
                                                                        else none
                                                                      else none
                                                                    else none
                                                                  else none
                                                                else none
                                                              else none
                                                              else none
                                                            else none
                                                          else none
                                                        else none
                                                      else none
                                                    else none
                                                    else none
                                                  else none
                                                else none
                                              else none
                                            else none
                                          else none
                                          else none
                                        else none
                                      else none
                                    else none
                                  else none
                                  else none
                                else none
                              else none
                            else none
                          else none
                        else none
                        else none
                      else none
                    else none
                  else none
                else none
                else none
              else none
            else none
          else none
        else none
      else none
      else none
    else none
  else none
set_option maxRecDepth 100000 in
set_option maxHeartbeats 4000000 in
theorem s_X11_init (v0 : Nat) (M : Mem) (r : (Unit × Mem)) (hf : f_X11_init v0 M = some r) : Sem mi_X11_init (3) [aR v0] M (oU r.1) r.2 := by
  unfold f_X11_init at hf
  refine sem_of (by decide) rfl rfl rfl (Nat.le_of_ble_eq_true rfl) (lv := [some (aR v0)]) rfl ?_
  refine g_aload_n (pc' := 1) dX11_init_0 rfl rfl ?_
  obtain ⟨ho120, hf⟩ := chk_s hf
  refine g_obj (pc' := 4) q_10 q_11 q_12 (by omega) ho120 (Nat.le_of_ble_eq_true rfl) dX11_init_1 rfl ?_
  refine g_aload_n (pc' := 5) dX11_init_4 rfl rfl ?_
  obtain ⟨hm1, hf⟩ := chk_s hf
  obtain ⟨ha1, hf⟩ := chk_s hf
  refine g_new (pc' := 8) (k' := 1) (u' := 6) 9 rfl rfl (by decide) inX9 tyX9_ok dfX9 (by decide) q_13 q_14 q_15 dX11_init_5 rfl hm1 (okrB_ok ha1 rfl) (by omega) (by omega) (by show 1 ≤ 132; omega) (by show 6 ≤ 7756; omega) (gM fun M2 hM2 => ?_)
  have hf := ap_eq hf hM2
  refine g_dup (pc' := 9) dX11_init_8 rfl rfl ?_
  obtain ⟨ho3, hf⟩ := chk_s hf
  obtain ⟨ha6, hf⟩ := chk_s hf
  obtain ⟨_, M4, e5, hf⟩ := bnd_some hf
  refine g_callINv (pc' := 12) (k' := 2) (u' := 706) (fr2 := 1) (As := []) (b := (mn M + 1)) (st := [aR (mn M + 1), aR v0]) cf_X9_init (List.mem_of_getElem? (i := 0) rfl) (by omega) ho3 dX11_init_9 rfl rfl rfl (Nat.le_of_ble_eq_true rfl) (Or.inr ⟨by decide, okrB_ok ha6 rfl⟩) (by show 1 + 1 ≤ 2; omega) (by show 6 + 700 ≤ 706; omega) (by show 2 ≤ 132; omega) (by show 706 ≤ 7756; omega) (s_X9_init (mn M + 1) M2 _ e5) ?_
  obtain ⟨h7, hf⟩ := chk_s hf
  obtain ⟨hr9, hf⟩ := chk_s hf
  refine g_putFR (pc' := 15) 11 0 rfl rfl (by decide) inX11 tyX11_ok nmX11 (by decide) rfl rfl rfl rfl rfl (Or.inl ⟨_, rfl⟩) (okrB_1 hr9) q_16 dX11_init_12 rfl h7 (gM fun M8 hM8 => ?_)
  have hf := ap_eq hf hM8
  refine g_aload_n (pc' := 16) dX11_init_15 rfl rfl ?_
  obtain ⟨hm10, hf⟩ := chk_s hf
  obtain ⟨ha10, hf⟩ := chk_s hf
  refine g_new (pc' := 19) (k' := 3) (u' := 712) 6 rfl rfl (by decide) inX6 tyX6_ok dfX6 (by decide) q_17 q_18 q_19 dX11_init_16 rfl hm10 (okrB_ok ha10 rfl) (by omega) (by omega) (by show 3 ≤ 132; omega) (by show 712 ≤ 7756; omega) (gM fun M11 hM11 => ?_)
  have hf := ap_eq hf hM11
  refine g_dup (pc' := 20) dX11_init_19 rfl rfl ?_
  obtain ⟨ho12, hf⟩ := chk_s hf
  obtain ⟨_, M13, e14, hf⟩ := bnd_some hf
  refine g_callINv (pc' := 23) (k' := 3) (u' := 712) (fr2 := 1) (As := []) (b := (mn M8 + 1)) (st := [aR (mn M8 + 1), aR v0]) cf_X6_init (List.mem_of_getElem? (i := 1) rfl) (by omega) ho12 dX11_init_20 rfl rfl rfl (Nat.le_of_ble_eq_true rfl) (Or.inl rfl) (by show 3 + 0 ≤ 3; omega) (by show 712 + 0 ≤ 712; omega) (by show 3 ≤ 132; omega) (by show 712 ≤ 7756; omega) (s_X6_init (mn M8 + 1) M11 _ e14) ?_
  obtain ⟨h15, hf⟩ := chk_s hf
  obtain ⟨hr17, hf⟩ := chk_s hf
  refine g_putFR (pc' := 26) 11 1 rfl rfl (by decide) inX11 tyX11_ok nmX11 (by decide) rfl rfl rfl rfl rfl (Or.inl ⟨_, rfl⟩) (okrB_1 hr17) q_20 dX11_init_23 rfl h15 (gM fun M16 hM16 => ?_)
  have hf := ap_eq hf hM16
  refine g_aload_n (pc' := 27) dX11_init_26 rfl rfl ?_
  obtain ⟨hm18, hf⟩ := chk_s hf
  obtain ⟨ha18, hf⟩ := chk_s hf
  refine g_new (pc' := 30) (k' := 4) (u' := 718) 4 rfl rfl (by decide) inX4 tyX4_ok dfX4 (by decide) q_21 q_22 q_23 dX11_init_27 rfl hm18 (okrB_ok ha18 rfl) (by omega) (by omega) (by show 4 ≤ 132; omega) (by show 718 ≤ 7756; omega) (gM fun M19 hM19 => ?_)
  have hf := ap_eq hf hM19
  refine g_dup (pc' := 31) dX11_init_30 rfl rfl ?_
  obtain ⟨ho20, hf⟩ := chk_s hf
  obtain ⟨ha23, hf⟩ := chk_s hf
  obtain ⟨_, M21, e22, hf⟩ := bnd_some hf
  refine g_callINv (pc' := 34) (k' := 5) (u' := 726) (fr2 := 1) (As := []) (b := (mn M16 + 1)) (st := [aR (mn M16 + 1), aR v0]) cf_X4_init (List.mem_of_getElem? (i := 2) rfl) (by omega) ho20 dX11_init_31 rfl rfl rfl (Nat.le_of_ble_eq_true rfl) (Or.inr ⟨by decide, okrB_ok ha23 rfl⟩) (by show 4 + 1 ≤ 5; omega) (by show 718 + 8 ≤ 726; omega) (by show 5 ≤ 132; omega) (by show 726 ≤ 7756; omega) (s_X4_init (mn M16 + 1) M19 _ e22) ?_
  obtain ⟨h24, hf⟩ := chk_s hf
  obtain ⟨hr26, hf⟩ := chk_s hf
  refine g_putFR (pc' := 37) 11 2 rfl rfl (by decide) inX11 tyX11_ok nmX11 (by decide) rfl rfl rfl rfl rfl (Or.inl ⟨_, rfl⟩) (okrB_1 hr26) q_24 dX11_init_34 rfl h24 (gM fun M25 hM25 => ?_)
  have hf := ap_eq hf hM25
  refine g_aload_n (pc' := 38) dX11_init_37 rfl rfl ?_
  obtain ⟨hm27, hf⟩ := chk_s hf
  obtain ⟨ha27, hf⟩ := chk_s hf
  refine g_new (pc' := 41) (k' := 6) (u' := 733) 1 rfl rfl (by decide) inX1 tyX1_ok dfX1 (by decide) q_25 q_26 q_27 dX11_init_38 rfl hm27 (okrB_ok ha27 rfl) (by omega) (by omega) (by show 6 ≤ 132; omega) (by show 733 ≤ 7756; omega) (gM fun M28 hM28 => ?_)
  have hf := ap_eq hf hM28
  refine g_dup (pc' := 42) dX11_init_41 rfl rfl ?_
  obtain ⟨ho29, hf⟩ := chk_s hf
  obtain ⟨_, M30, e31, hf⟩ := bnd_some hf
  refine g_callINv (pc' := 45) (k' := 6) (u' := 733) (fr2 := 1) (As := []) (b := (mn M25 + 1)) (st := [aR (mn M25 + 1), aR v0]) cf_X1_init (List.mem_of_getElem? (i := 3) rfl) (by omega) ho29 dX11_init_42 rfl rfl rfl (Nat.le_of_ble_eq_true rfl) (Or.inl rfl) (by show 6 + 0 ≤ 6; omega) (by show 733 + 0 ≤ 733; omega) (by show 6 ≤ 132; omega) (by show 733 ≤ 7756; omega) (s_X1_init (mn M25 + 1) M28 _ e31) ?_
  obtain ⟨h32, hf⟩ := chk_s hf
  obtain ⟨hr34, hf⟩ := chk_s hf
  refine g_putFR (pc' := 48) 11 3 rfl rfl (by decide) inX11 tyX11_ok nmX11 (by decide) rfl rfl rfl rfl rfl (Or.inl ⟨_, rfl⟩) (okrB_1 hr34) q_28 dX11_init_45 rfl h32 (gM fun M33 hM33 => ?_)
  have hf := ap_eq hf hM33
  refine g_aload_n (pc' := 49) dX11_init_48 rfl rfl ?_
  obtain ⟨hm35, hf⟩ := chk_s hf
  obtain ⟨ha35, hf⟩ := chk_s hf
  refine g_new (pc' := 52) (k' := 7) (u' := 741) 8 rfl rfl (by decide) inX8 tyX8_ok dfX8 (by decide) q_29 q_30 q_31 dX11_init_49 rfl hm35 (okrB_ok ha35 rfl) (by omega) (by omega) (by show 7 ≤ 132; omega) (by show 741 ≤ 7756; omega) (gM fun M36 hM36 => ?_)
  have hf := ap_eq hf hM36
  refine g_dup (pc' := 53) dX11_init_52 rfl rfl ?_
  obtain ⟨ho37, hf⟩ := chk_s hf
  obtain ⟨ha40, hf⟩ := chk_s hf
  obtain ⟨_, M38, e39, hf⟩ := bnd_some hf
  refine g_callINv (pc' := 56) (k' := 13) (u' := 786) (fr2 := 1) (As := []) (b := (mn M33 + 1)) (st := [aR (mn M33 + 1), aR v0]) cf_X8_init (List.mem_of_getElem? (i := 4) rfl) (by omega) ho37 dX11_init_53 rfl rfl rfl (Nat.le_of_ble_eq_true rfl) (Or.inr ⟨by decide, okrB_ok ha40 rfl⟩) (by show 7 + 6 ≤ 13; omega) (by show 741 + 45 ≤ 786; omega) (by show 13 ≤ 132; omega) (by show 786 ≤ 7756; omega) (s_X8_init (mn M33 + 1) M36 _ e39) ?_
  obtain ⟨h41, hf⟩ := chk_s hf
  obtain ⟨hr43, hf⟩ := chk_s hf
  refine g_putFR (pc' := 59) 11 4 rfl rfl (by decide) inX11 tyX11_ok nmX11 (by decide) rfl rfl rfl rfl rfl (Or.inl ⟨_, rfl⟩) (okrB_1 hr43) q_32 dX11_init_56 rfl h41 (gM fun M42 hM42 => ?_)
  have hf := ap_eq hf hM42
  refine g_aload_n (pc' := 60) dX11_init_59 rfl rfl ?_
  obtain ⟨hm44, hf⟩ := chk_s hf
  obtain ⟨ha44, hf⟩ := chk_s hf
  refine g_new (pc' := 63) (k' := 14) (u' := 793) 10 rfl rfl (by decide) inX10 tyX10_ok dfX10 (by decide) q_33 q_34 q_35 dX11_init_60 rfl hm44 (okrB_ok ha44 rfl) (by omega) (by omega) (by show 14 ≤ 132; omega) (by show 793 ≤ 7756; omega) (gM fun M45 hM45 => ?_)
  have hf := ap_eq hf hM45
  refine g_dup (pc' := 64) dX11_init_63 rfl rfl ?_
  obtain ⟨ho46, hf⟩ := chk_s hf
  obtain ⟨ha49, hf⟩ := chk_s hf
  obtain ⟨_, M47, e48, hf⟩ := bnd_some hf
  refine g_callINv (pc' := 67) (k' := 16) (u' := 809) (fr2 := 1) (As := []) (b := (mn M42 + 1)) (st := [aR (mn M42 + 1), aR v0]) cf_X10_init (List.mem_of_getElem? (i := 5) rfl) (by omega) ho46 dX11_init_64 rfl rfl rfl (Nat.le_of_ble_eq_true rfl) (Or.inr ⟨by decide, okrB_ok ha49 rfl⟩) (by show 14 + 2 ≤ 16; omega) (by show 793 + 16 ≤ 809; omega) (by show 16 ≤ 132; omega) (by show 809 ≤ 7756; omega) (s_X10_init (mn M42 + 1) M45 _ e48) ?_
  obtain ⟨h50, hf⟩ := chk_s hf
  obtain ⟨hr52, hf⟩ := chk_s hf
  refine g_putFR (pc' := 70) 11 5 rfl rfl (by decide) inX11 tyX11_ok nmX11 (by decide) rfl rfl rfl rfl rfl (Or.inl ⟨_, rfl⟩) (okrB_1 hr52) q_36 dX11_init_67 rfl h50 (gM fun M51 hM51 => ?_)
  have hf := ap_eq hf hM51
  refine g_aload_n (pc' := 71) dX11_init_70 rfl rfl ?_
  obtain ⟨hm53, hf⟩ := chk_s hf
  obtain ⟨ha53, hf⟩ := chk_s hf
  refine g_new (pc' := 74) (k' := 17) (u' := 815) 7 rfl rfl (by decide) inX7 tyX7_ok dfX7 (by decide) q_37 q_38 q_39 dX11_init_71 rfl hm53 (okrB_ok ha53 rfl) (by omega) (by omega) (by show 17 ≤ 132; omega) (by show 815 ≤ 7756; omega) (gM fun M54 hM54 => ?_)
  have hf := ap_eq hf hM54
  refine g_dup (pc' := 75) dX11_init_74 rfl rfl ?_
  obtain ⟨ho55, hf⟩ := chk_s hf
  obtain ⟨ha58, hf⟩ := chk_s hf
  obtain ⟨_, M56, e57, hf⟩ := bnd_some hf
  refine g_callIv (pc' := 78) (k' := 51) (u' := 3789) (fr2 := 2) (As := []) (b := (mn M51 + 1)) (st := [aR (mn M51 + 1), aR v0]) cf_X7_init q_80 (by omega) ho55 dX11_init_75 rfl rfl rfl (Nat.le_of_ble_eq_true rfl) (Or.inr ⟨by decide, okrB_ok ha58 rfl⟩) (by show 17 + 34 ≤ 51; omega) (by show 815 + 2974 ≤ 3789; omega) (by show 51 ≤ 132; omega) (by show 3789 ≤ 7756; omega) (s_X7_init (mn M51 + 1) M54 _ e57) ?_
  obtain ⟨h59, hf⟩ := chk_s hf
  obtain ⟨hr61, hf⟩ := chk_s hf
  refine g_putFR (pc' := 81) 11 6 rfl rfl (by decide) inX11 tyX11_ok nmX11 (by decide) rfl rfl rfl rfl rfl (Or.inl ⟨_, rfl⟩) (okrB_1 hr61) q_40 dX11_init_78 rfl h59 (gM fun M60 hM60 => ?_)
  have hf := ap_eq hf hM60
  refine g_aload_n (pc' := 82) dX11_init_81 rfl rfl ?_
  obtain ⟨hm62, hf⟩ := chk_s hf
  obtain ⟨ha62, hf⟩ := chk_s hf
  refine g_new (pc' := 85) (k' := 52) (u' := 3795) 7 rfl rfl (by decide) inX7 tyX7_ok dfX7 (by decide) q_37 q_38 q_39 dX11_init_82 rfl hm62 (okrB_ok ha62 rfl) (by omega) (by omega) (by show 52 ≤ 132; omega) (by show 3795 ≤ 7756; omega) (gM fun M63 hM63 => ?_)
  have hf := ap_eq hf hM63
  refine g_dup (pc' := 86) dX11_init_85 rfl rfl ?_
  obtain ⟨ho64, hf⟩ := chk_s hf
  obtain ⟨ha67, hf⟩ := chk_s hf
  obtain ⟨_, M65, e66, hf⟩ := bnd_some hf
  refine g_callIv (pc' := 89) (k' := 86) (u' := 6769) (fr2 := 2) (As := []) (b := (mn M60 + 1)) (st := [aR (mn M60 + 1), aR v0]) cf_X7_init q_80 (by omega) ho64 dX11_init_86 rfl rfl rfl (Nat.le_of_ble_eq_true rfl) (Or.inr ⟨by decide, okrB_ok ha67 rfl⟩) (by show 52 + 34 ≤ 86; omega) (by show 3795 + 2974 ≤ 6769; omega) (by show 86 ≤ 132; omega) (by show 6769 ≤ 7756; omega) (s_X7_init (mn M60 + 1) M63 _ e66) ?_
  obtain ⟨h68, hf⟩ := chk_s hf
  obtain ⟨hr70, hf⟩ := chk_s hf
  refine g_putFR (pc' := 92) 11 7 rfl rfl (by decide) inX11 tyX11_ok nmX11 (by decide) rfl rfl rfl rfl rfl (Or.inl ⟨_, rfl⟩) (okrB_1 hr70) q_41 dX11_init_89 rfl h68 (gM fun M69 hM69 => ?_)
  have hf := ap_eq hf hM69
  refine g_aload_n (pc' := 93) dX11_init_92 rfl rfl ?_
  obtain ⟨hm71, hf⟩ := chk_s hf
  obtain ⟨ha71, hf⟩ := chk_s hf
  refine g_new (pc' := 96) (k' := 87) (u' := 6782) 5 rfl rfl (by decide) inX5 tyX5_ok dfX5 (by decide) q_42 q_43 q_44 dX11_init_93 rfl hm71 (okrB_ok ha71 rfl) (by omega) (by omega) (by show 87 ≤ 132; omega) (by show 6782 ≤ 7756; omega) (gM fun M72 hM72 => ?_)
  have hf := ap_eq hf hM72
  refine g_dup (pc' := 97) dX11_init_96 rfl rfl ?_
  obtain ⟨ho73, hf⟩ := chk_s hf
  obtain ⟨ha76, hf⟩ := chk_s hf
  obtain ⟨_, M74, e75, hf⟩ := bnd_some hf
  refine g_callINv (pc' := 100) (k' := 98) (u' := 6998) (fr2 := 1) (As := []) (b := (mn M69 + 1)) (st := [aR (mn M69 + 1), aR v0]) cf_X5_init (List.mem_of_getElem? (i := 7) rfl) (by omega) ho73 dX11_init_97 rfl rfl rfl (Nat.le_of_ble_eq_true rfl) (Or.inr ⟨by decide, okrB_ok ha76 rfl⟩) (by show 87 + 11 ≤ 98; omega) (by show 6782 + 216 ≤ 6998; omega) (by show 98 ≤ 132; omega) (by show 6998 ≤ 7756; omega) (s_X5_init (mn M69 + 1) M72 _ e75) ?_
  obtain ⟨h77, hf⟩ := chk_s hf
  obtain ⟨hr79, hf⟩ := chk_s hf
  refine g_putR (pc' := 103) 11 8 rfl rfl (by decide) inX11 tyX11_ok nmX11 (by decide) rfl rfl rfl (Or.inl ⟨_, rfl⟩) (okrB_1 hr79) q_45 dX11_init_100 rfl h77 (gM fun M78 hM78 => ?_)
  have hf := ap_eq hf hM78
  refine g_aload_n (pc' := 104) dX11_init_103 rfl rfl ?_
  obtain ⟨hm80, hf⟩ := chk_s hf
  obtain ⟨ha80, hf⟩ := chk_s hf
  refine g_new (pc' := 107) (k' := 99) (u' := 7011) 5 rfl rfl (by decide) inX5 tyX5_ok dfX5 (by decide) q_42 q_43 q_44 dX11_init_104 rfl hm80 (okrB_ok ha80 rfl) (by omega) (by omega) (by show 99 ≤ 132; omega) (by show 7011 ≤ 7756; omega) (gM fun M81 hM81 => ?_)
  have hf := ap_eq hf hM81
  refine g_dup (pc' := 108) dX11_init_107 rfl rfl ?_
  obtain ⟨ho82, hf⟩ := chk_s hf
  obtain ⟨ha85, hf⟩ := chk_s hf
  obtain ⟨_, M83, e84, hf⟩ := bnd_some hf
  refine g_callINv (pc' := 111) (k' := 110) (u' := 7227) (fr2 := 1) (As := []) (b := (mn M78 + 1)) (st := [aR (mn M78 + 1), aR v0]) cf_X5_init (List.mem_of_getElem? (i := 7) rfl) (by omega) ho82 dX11_init_108 rfl rfl rfl (Nat.le_of_ble_eq_true rfl) (Or.inr ⟨by decide, okrB_ok ha85 rfl⟩) (by show 99 + 11 ≤ 110; omega) (by show 7011 + 216 ≤ 7227; omega) (by show 110 ≤ 132; omega) (by show 7227 ≤ 7756; omega) (s_X5_init (mn M78 + 1) M81 _ e84) ?_
  obtain ⟨h86, hf⟩ := chk_s hf
  obtain ⟨hr88, hf⟩ := chk_s hf
  refine g_putR (pc' := 114) 11 9 rfl rfl (by decide) inX11 tyX11_ok nmX11 (by decide) rfl rfl rfl (Or.inl ⟨_, rfl⟩) (okrB_1 hr88) q_46 dX11_init_111 rfl h86 (gM fun M87 hM87 => ?_)
  have hf := ap_eq hf hM87
  refine g_aload_n (pc' := 115) dX11_init_114 rfl rfl ?_
  obtain ⟨hm89, hf⟩ := chk_s hf
  obtain ⟨ha89, hf⟩ := chk_s hf
  refine g_new (pc' := 118) (k' := 111) (u' := 7240) 5 rfl rfl (by decide) inX5 tyX5_ok dfX5 (by decide) q_42 q_43 q_44 dX11_init_115 rfl hm89 (okrB_ok ha89 rfl) (by omega) (by omega) (by show 111 ≤ 132; omega) (by show 7240 ≤ 7756; omega) (gM fun M90 hM90 => ?_)
  have hf := ap_eq hf hM90
  refine g_dup (pc' := 119) dX11_init_118 rfl rfl ?_
  obtain ⟨ho91, hf⟩ := chk_s hf
  obtain ⟨ha94, hf⟩ := chk_s hf
  obtain ⟨_, M92, e93, hf⟩ := bnd_some hf
  refine g_callINv (pc' := 122) (k' := 122) (u' := 7456) (fr2 := 1) (As := []) (b := (mn M87 + 1)) (st := [aR (mn M87 + 1), aR v0]) cf_X5_init (List.mem_of_getElem? (i := 7) rfl) (by omega) ho91 dX11_init_119 rfl rfl rfl (Nat.le_of_ble_eq_true rfl) (Or.inr ⟨by decide, okrB_ok ha94 rfl⟩) (by show 111 + 11 ≤ 122; omega) (by show 7240 + 216 ≤ 7456; omega) (by show 122 ≤ 132; omega) (by show 7456 ≤ 7756; omega) (s_X5_init (mn M87 + 1) M90 _ e93) ?_
  obtain ⟨h95, hf⟩ := chk_s hf
  obtain ⟨hr97, hf⟩ := chk_s hf
  refine g_putR (pc' := 125) 11 10 rfl rfl (by decide) inX11 tyX11_ok nmX11 (by decide) rfl rfl rfl (Or.inl ⟨_, rfl⟩) (okrB_1 hr97) q_47 dX11_init_122 rfl h95 (gM fun M96 hM96 => ?_)
  have hf := ap_eq hf hM96
  refine g_aload_n (pc' := 126) dX11_init_125 rfl rfl ?_
  obtain ⟨hm98, hf⟩ := chk_s hf
  obtain ⟨ha98, hf⟩ := chk_s hf
  refine g_new (pc' := 129) (k' := 123) (u' := 7462) 3 rfl rfl (by decide) inX3 tyX3_ok dfX3 (by decide) q_48 q_49 q_50 dX11_init_126 rfl hm98 (okrB_ok ha98 rfl) (by omega) (by omega) (by show 123 ≤ 132; omega) (by show 7462 ≤ 7756; omega) (gM fun M99 hM99 => ?_)
  have hf := ap_eq hf hM99
  refine g_dup (pc' := 130) dX11_init_129 rfl rfl ?_
  obtain ⟨ho100, hf⟩ := chk_s hf
  obtain ⟨ha103, hf⟩ := chk_s hf
  obtain ⟨_, M101, e102, hf⟩ := bnd_some hf
  refine g_callINv (pc' := 133) (k' := 127) (u' := 7606) (fr2 := 1) (As := []) (b := (mn M96 + 1)) (st := [aR (mn M96 + 1), aR v0]) cf_X3_init (List.mem_of_getElem? (i := 8) rfl) (by omega) ho100 dX11_init_130 rfl rfl rfl (Nat.le_of_ble_eq_true rfl) (Or.inr ⟨by decide, okrB_ok ha103 rfl⟩) (by show 123 + 4 ≤ 127; omega) (by show 7462 + 144 ≤ 7606; omega) (by show 127 ≤ 132; omega) (by show 7606 ≤ 7756; omega) (s_X3_init (mn M96 + 1) M99 _ e102) ?_
  obtain ⟨h104, hf⟩ := chk_s hf
  obtain ⟨hr106, hf⟩ := chk_s hf
  refine g_putR (pc' := 136) 11 11 rfl rfl (by decide) inX11 tyX11_ok nmX11 (by decide) rfl rfl rfl (Or.inl ⟨_, rfl⟩) (okrB_1 hr106) q_51 dX11_init_133 rfl h104 (gM fun M105 hM105 => ?_)
  have hf := ap_eq hf hM105
  refine g_aload_n (pc' := 137) dX11_init_136 rfl rfl ?_
  obtain ⟨hm107, hf⟩ := chk_s hf
  obtain ⟨ha107, hf⟩ := chk_s hf
  refine g_new (pc' := 140) (k' := 128) (u' := 7612) 3 rfl rfl (by decide) inX3 tyX3_ok dfX3 (by decide) q_48 q_49 q_50 dX11_init_137 rfl hm107 (okrB_ok ha107 rfl) (by omega) (by omega) (by show 128 ≤ 132; omega) (by show 7612 ≤ 7756; omega) (gM fun M108 hM108 => ?_)
  have hf := ap_eq hf hM108
  refine g_dup (pc' := 141) dX11_init_140 rfl rfl ?_
  obtain ⟨ho109, hf⟩ := chk_s hf
  obtain ⟨ha112, hf⟩ := chk_s hf
  obtain ⟨_, M110, e111, hf⟩ := bnd_some hf
  refine g_callINv (pc' := 144) (k' := 132) (u' := 7756) (fr2 := 1) (As := []) (b := (mn M105 + 1)) (st := [aR (mn M105 + 1), aR v0]) cf_X3_init (List.mem_of_getElem? (i := 8) rfl) (by omega) ho109 dX11_init_141 rfl rfl rfl (Nat.le_of_ble_eq_true rfl) (Or.inr ⟨by decide, okrB_ok ha112 rfl⟩) (by show 128 + 4 ≤ 132; omega) (by show 7612 + 144 ≤ 7756; omega) (by show 132 ≤ 132; omega) (by show 7756 ≤ 7756; omega) (s_X3_init (mn M105 + 1) M108 _ e111) ?_
  obtain ⟨h113, hf⟩ := chk_s hf
  obtain ⟨hr115, hf⟩ := chk_s hf
  refine g_putR (pc' := 147) 11 12 rfl rfl (by decide) inX11 tyX11_ok nmX11 (by decide) rfl rfl rfl (Or.inl ⟨_, rfl⟩) (okrB_1 hr115) q_52 dX11_init_144 rfl h113 (gM fun M114 hM114 => ?_)
  have hf := ap_eq hf hM114
  refine g_aload_n (pc' := 148) dX11_init_147 rfl rfl ?_
  refine g_iconst (pc' := 149) (0 : Int32) dX11_init_148 rfl (by decide) ?_
  obtain ⟨h116, hf⟩ := chk_s hf
  refine g_putZ (pc' := 152) 11 13 rfl rfl (by decide) inX11 tyX11_ok nmX11 (by decide) rfl rfl rfl rfl (Or.inl rfl) q_53 dX11_init_149 rfl h116 (gM fun M117 hM117 => ?_)
  have hf := ap_eq hf hM117
  refine g_aload_n (pc' := 153) dX11_init_152 rfl rfl ?_
  refine g_iconst (pc' := 154) (-1 : Int32) dX11_init_153 rfl (by decide) ?_
  obtain ⟨h118, hf⟩ := chk_s hf
  refine g_putI (pc' := 157) 11 14 rfl rfl (by decide) inX11 tyX11_ok nmX11 (by decide) rfl rfl rfl rfl q_54 dX11_init_154 rfl h118 (gM fun M119 hM119 => ?_)
  have hf := ap_eq hf hM119
  cases hf
  exact g_return dX11_init_157 rfl (Nat.le_of_ble_eq_true rfl) (Nat.le_of_ble_eq_true rfl)
def f_X11_feed (v0 : Nat) (v1 : Int32) (v2 : Int32) (v3 : Int32) (v4 : Int32) (v5 : Int32) (M : Mem) : Option (Int32 × Mem) :=
  if mK M v0 = 12 then
    if mK M (mR M v0 0) = 10 then
      if ((mI M (mR M v0 0) 1) + (20 : Int32)) ≤ (700 : Int32) then
        bnd (f_X9_append (mR M v0 0) v1 M) fun _ M4 =>
        if mK M4 v0 = 12 then
          if mK M4 (mR M4 v0 0) = 10 then
            bnd (f_X9_append (mR M4 v0 0) v2 M4) fun _ M8 =>
            if mK M8 v0 = 12 then
              if mK M8 (mR M8 v0 0) = 10 then
                bnd (f_X9_append (mR M8 v0 0) v3 M8) fun _ M12 =>
                if mK M12 v0 = 12 then
                  if mK M12 (mR M12 v0 0) = 10 then
                    bnd (f_X9_append (mR M12 v0 0) v4 M12) fun _ M16 =>
                    if mK M16 v0 = 12 then
                      if mK M16 (mR M16 v0 0) = 10 then
                        bnd (f_X9_append (mR M16 v0 0) v5 M16) fun _ M20 =>
                        if mK M20 v0 = 12 then
                          if mK M20 (mR M20 v0 0) = 10 then
                            some (mI M20 (mR M20 v0 0) 1, M20)
                          else none
                        else none
                      else none
                    else none
                  else none
                else none
              else none
            else none
          else none
        else none
      else
        some ((-1 : Int32), M)
    else none
  else none
theorem s_X11_feed (v0 : Nat) (v1 : Int32) (v2 : Int32) (v3 : Int32) (v4 : Int32) (v5 : Int32) (M : Mem) (r : (Int32 × Mem)) (hf : f_X11_feed v0 v1 v2 v3 v4 v5 M = some r) : Sem mi_X11_feed (2) [aR v0, aI v1, aI v2, aI v3, aI v4, aI v5] M (oI r.1) r.2 := by
  unfold f_X11_feed at hf
  refine sem_of (by decide) rfl rfl rfl (Nat.le_of_ble_eq_true rfl) (lv := [some (aR v0), some (aI v1), some (aI v2), some (aI v3), some (aI v4), some (aI v5)]) rfl ?_
  refine g_aload_n (pc' := 1) dX11_feed_0 rfl rfl ?_
  obtain ⟨h1, hf⟩ := chk_s hf
  refine g_getR (pc' := 4) 11 0 rfl rfl (by decide) inX11 (by decide) rfl rfl q_16 dX11_feed_1 rfl h1 ?_
  obtain ⟨h2, hf⟩ := chk_s hf
  refine g_getI (pc' := 7) 9 1 rfl rfl (by decide) inX9 (by decide) rfl rfl q_157 dX11_feed_4 rfl h2 ?_
  refine g_bipush (pc' := 9) (20 : Int32) dX11_feed_7 rfl (by decide) ?_
  refine g_iadd (pc' := 10) dX11_feed_9 rfl ?_
  refine g_sipush (pc' := 13) (700 : Int32) dX11_feed_10 rfl (by decide) ?_
  refine g_icmp_le (pc' := 16) 18 dX11_feed_13 rfl (by decide) (fun c3 => ?_) (fun c3 => ?_)
  · have hf := ite_t c3 hf
    refine g_aload_n (pc' := 19) dX11_feed_18 rfl rfl ?_
    refine g_getR (pc' := 22) 11 0 rfl rfl (by decide) inX11 (by decide) rfl rfl q_16 dX11_feed_19 rfl h1 ?_
    refine g_iload_n (pc' := 23) dX11_feed_22 rfl rfl ?_
    obtain ⟨_, M4, e5, hf⟩ := bnd_some hf
    refine g_callVv (pc' := 26) (k' := 0) (u' := 0) (fr2 := 1) (As := [aI v1]) (b := (mR M v0 0)) (st := []) cf_X9_append q_158 (by omega) (ci := 9) rfl rfl (by decide) dX11_feed_23 rfl rfl rfl (Nat.le_of_ble_eq_true rfl) (Or.inl rfl) (Nat.le_refl _) (Nat.le_refl _) (Nat.le_refl _) (Nat.le_refl _) h2 (s_X9_append (mR M v0 0) v1 M _ e5) ?_
    refine g_aload_n (pc' := 27) dX11_feed_26 rfl rfl ?_
    obtain ⟨h6, hf⟩ := chk_s hf
    refine g_getR (pc' := 30) 11 0 rfl rfl (by decide) inX11 (by decide) rfl rfl q_16 dX11_feed_27 rfl h6 ?_
    refine g_iload_n (pc' := 31) dX11_feed_30 rfl rfl ?_
    obtain ⟨h7, hf⟩ := chk_s hf
    obtain ⟨_, M8, e9, hf⟩ := bnd_some hf
    refine g_callVv (pc' := 34) (k' := 0) (u' := 0) (fr2 := 1) (As := [aI v2]) (b := (mR M4 v0 0)) (st := []) cf_X9_append q_158 (by omega) (ci := 9) rfl rfl (by decide) dX11_feed_31 rfl rfl rfl (Nat.le_of_ble_eq_true rfl) (Or.inl rfl) (Nat.le_refl _) (Nat.le_refl _) (Nat.le_refl _) (Nat.le_refl _) h7 (s_X9_append (mR M4 v0 0) v2 M4 _ e9) ?_
    refine g_aload_n (pc' := 35) dX11_feed_34 rfl rfl ?_
    obtain ⟨h10, hf⟩ := chk_s hf
    refine g_getR (pc' := 38) 11 0 rfl rfl (by decide) inX11 (by decide) rfl rfl q_16 dX11_feed_35 rfl h10 ?_
    refine g_iload_n (pc' := 39) dX11_feed_38 rfl rfl ?_
    obtain ⟨h11, hf⟩ := chk_s hf
    obtain ⟨_, M12, e13, hf⟩ := bnd_some hf
    refine g_callVv (pc' := 42) (k' := 0) (u' := 0) (fr2 := 1) (As := [aI v3]) (b := (mR M8 v0 0)) (st := []) cf_X9_append q_158 (by omega) (ci := 9) rfl rfl (by decide) dX11_feed_39 rfl rfl rfl (Nat.le_of_ble_eq_true rfl) (Or.inl rfl) (Nat.le_refl _) (Nat.le_refl _) (Nat.le_refl _) (Nat.le_refl _) h11 (s_X9_append (mR M8 v0 0) v3 M8 _ e13) ?_
    refine g_aload_n (pc' := 43) dX11_feed_42 rfl rfl ?_
    obtain ⟨h14, hf⟩ := chk_s hf
    refine g_getR (pc' := 46) 11 0 rfl rfl (by decide) inX11 (by decide) rfl rfl q_16 dX11_feed_43 rfl h14 ?_
    refine g_iload (pc' := 48) dX11_feed_46 rfl rfl ?_
    obtain ⟨h15, hf⟩ := chk_s hf
    obtain ⟨_, M16, e17, hf⟩ := bnd_some hf
    refine g_callVv (pc' := 51) (k' := 0) (u' := 0) (fr2 := 1) (As := [aI v4]) (b := (mR M12 v0 0)) (st := []) cf_X9_append q_158 (by omega) (ci := 9) rfl rfl (by decide) dX11_feed_48 rfl rfl rfl (Nat.le_of_ble_eq_true rfl) (Or.inl rfl) (Nat.le_refl _) (Nat.le_refl _) (Nat.le_refl _) (Nat.le_refl _) h15 (s_X9_append (mR M12 v0 0) v4 M12 _ e17) ?_
    refine g_aload_n (pc' := 52) dX11_feed_51 rfl rfl ?_
    obtain ⟨h18, hf⟩ := chk_s hf
    refine g_getR (pc' := 55) 11 0 rfl rfl (by decide) inX11 (by decide) rfl rfl q_16 dX11_feed_52 rfl h18 ?_
    refine g_iload (pc' := 57) dX11_feed_55 rfl rfl ?_
    obtain ⟨h19, hf⟩ := chk_s hf
    obtain ⟨_, M20, e21, hf⟩ := bnd_some hf
    refine g_callVv (pc' := 60) (k' := 0) (u' := 0) (fr2 := 1) (As := [aI v5]) (b := (mR M16 v0 0)) (st := []) cf_X9_append q_158 (by omega) (ci := 9) rfl rfl (by decide) dX11_feed_57 rfl rfl rfl (Nat.le_of_ble_eq_true rfl) (Or.inl rfl) (Nat.le_refl _) (Nat.le_refl _) (Nat.le_refl _) (Nat.le_refl _) h19 (s_X9_append (mR M16 v0 0) v5 M16 _ e21) ?_
    refine g_aload_n (pc' := 61) dX11_feed_60 rfl rfl ?_
    obtain ⟨h22, hf⟩ := chk_s hf
    refine g_getR (pc' := 64) 11 0 rfl rfl (by decide) inX11 (by decide) rfl rfl q_16 dX11_feed_61 rfl h22 ?_
    obtain ⟨h23, hf⟩ := chk_s hf
    refine g_getI (pc' := 67) 9 1 rfl rfl (by decide) inX9 (by decide) rfl rfl q_157 dX11_feed_64 rfl h23 ?_
    cases hf
    exact g_ireturn dX11_feed_67 rfl (Nat.le_of_ble_eq_true rfl) (Nat.le_of_ble_eq_true rfl)
  · have hf := ite_f c3 hf
    refine g_iconst (pc' := 17) (-1 : Int32) dX11_feed_16 rfl (by decide) ?_
    cases hf
    exact g_ireturn dX11_feed_17 rfl (Nat.le_of_ble_eq_true rfl) (Nat.le_of_ble_eq_true rfl)
def f_X11_needTape_15  (M : Mem) : Option ((Nat ⊕ Unit) × Mem) :=
  some (.inl 2, M)
def f_X11_needTape (v0 : Nat) (v1 : Int32) (M : Mem) : Option ((Nat ⊕ Unit) × Mem) :=
  if v1 < 0 then
    f_X11_needTape_15 M
  else
    if mK M v0 = 12 then
      if mK M (mR M v0 0) = 10 then
        if v1 ≤ (mI M (mR M v0 0) 1) then
          some (.inr (), M)
        else
          f_X11_needTape_15 M
      else none
    else none
theorem s_X11_needTape_15  (M : Mem) (r : ((Nat ⊕ Unit) × Mem)) (hf : f_X11_needTape_15  M = some r) : G mi_X11_needTape 6 (oX oU r.1) r.2 15 [none, none] [] M 0 0 := by
  unfold f_X11_needTape_15 at hf
  cases hf
  exact g_throwAW (xi := 0) rfl dX11_needTape_15 dX11_needTape_18 dX11_needTape_19 dX11_needTape_22 dX11_needTape_25 rfl rfl (by omega) (Nat.le_of_ble_eq_true rfl) (by show 0 + 1 ≤ 1; omega) (by show 0 + 6 ≤ 6; omega)
theorem s_X11_needTape (v0 : Nat) (v1 : Int32) (M : Mem) (r : ((Nat ⊕ Unit) × Mem)) (hf : f_X11_needTape v0 v1 M = some r) : Sem mi_X11_needTape (6) [aR v0, aI v1] M (oX oU r.1) r.2 := by
  unfold f_X11_needTape at hf
  refine sem_of (by decide) rfl rfl rfl (Nat.le_of_ble_eq_true rfl) (lv := [some (aR v0), some (aI v1)]) rfl ?_
  refine g_iload_n (pc' := 1) dX11_needTape_0 rfl rfl ?_
  refine g_if_lt (pc' := 4) 15 dX11_needTape_1 rfl (by decide) (fun c1 => ?_) (fun c1 => ?_)
  · have hf := ite_t c1 hf
    refine g_mask [false, false] rfl ?_
    exact s_X11_needTape_15 M _ hf
  · have hf := ite_f c1 hf
    refine g_iload_n (pc' := 5) dX11_needTape_4 rfl rfl ?_
    refine g_aload_n (pc' := 6) dX11_needTape_5 rfl rfl ?_
    obtain ⟨h2, hf⟩ := chk_s hf
    refine g_getR (pc' := 9) 11 0 rfl rfl (by decide) inX11 (by decide) rfl rfl q_16 dX11_needTape_6 rfl h2 ?_
    obtain ⟨h3, hf⟩ := chk_s hf
    refine g_getI (pc' := 12) 9 1 rfl rfl (by decide) inX9 (by decide) rfl rfl q_157 dX11_needTape_9 rfl h3 ?_
    refine g_icmp_le (pc' := 15) 26 dX11_needTape_12 rfl (by decide) (fun c4 => ?_) (fun c4 => ?_)
    · have hf := ite_t c4 hf
      cases hf
      exact g_return dX11_needTape_26 rfl (Nat.le_of_ble_eq_true rfl) (Nat.le_of_ble_eq_true rfl)
    · have hf := ite_f c4 hf
      refine g_mask [false, false] rfl ?_
      exact s_X11_needTape_15 M _ hf
def f_X11_noteFault (v0 : Nat) (v1 : Int32) (M : Mem) : Option (Int32 × Mem) :=
  if v1 = 0 then
    if mK M v0 = 12 then
      ap (sI M v0 14 (-1 : Int32)) fun M9 =>
      some ((0 : Int32), M9)
    else none
  else
    if mK M v0 = 12 then
      if mK M (mR M v0 0) = 10 then
        ap (sI M v0 14 (mI M (mR M v0 0) 4)) fun M4 =>
        if mK M4 v0 = 12 then
          if mK M4 (mR M4 v0 6) = 8 then
            ap (sI M4 (mR M4 v0 6) 4 ((mI M4 (mR M4 v0 6) 4) + (1 : Int32))) fun M7 =>
            some ((1 : Int32), M7)
          else none
        else none
      else none
    else none
theorem s_X11_noteFault (v0 : Nat) (v1 : Int32) (M : Mem) (r : (Int32 × Mem)) (hf : f_X11_noteFault v0 v1 M = some r) : Sem mi_X11_noteFault (1) [aR v0, aI v1] M (oI r.1) r.2 := by
  unfold f_X11_noteFault at hf
  refine sem_of (by decide) rfl rfl rfl (Nat.le_of_ble_eq_true rfl) (lv := [some (aR v0), some (aI v1)]) rfl ?_
  refine g_iload_n (pc' := 1) dX11_noteFault_0 rfl rfl ?_
  refine g_if_ne (pc' := 4) 11 dX11_noteFault_1 rfl (by decide) (fun c1 => ?_) (fun c1 => ?_)
  · have hf := ite_f c1 hf
    refine g_aload_n (pc' := 12) dX11_noteFault_11 rfl rfl ?_
    refine g_aload_n (pc' := 13) dX11_noteFault_12 rfl rfl ?_
    obtain ⟨h2, hf⟩ := chk_s hf
    refine g_getR (pc' := 16) 11 0 rfl rfl (by decide) inX11 (by decide) rfl rfl q_16 dX11_noteFault_13 rfl h2 ?_
    obtain ⟨h3, hf⟩ := chk_s hf
    refine g_getI (pc' := 19) 9 4 rfl rfl (by decide) inX9 (by decide) rfl rfl q_339 dX11_noteFault_16 rfl h3 ?_
    refine g_putI (pc' := 22) 11 14 rfl rfl (by decide) inX11 tyX11_ok nmX11 (by decide) rfl rfl rfl rfl q_54 dX11_noteFault_19 rfl h2 (gM fun M4 hM4 => ?_)
    have hf := ap_eq hf hM4
    refine g_aload_n (pc' := 23) dX11_noteFault_22 rfl rfl ?_
    obtain ⟨h5, hf⟩ := chk_s hf
    refine g_getR (pc' := 26) 11 6 rfl rfl (by decide) inX11 (by decide) rfl rfl q_40 dX11_noteFault_23 rfl h5 ?_
    refine g_dup (pc' := 27) dX11_noteFault_26 rfl rfl ?_
    obtain ⟨h6, hf⟩ := chk_s hf
    refine g_getI (pc' := 30) 7 4 rfl rfl (by decide) inX7 (by decide) rfl rfl q_340 dX11_noteFault_27 rfl h6 ?_
    refine g_iconst (pc' := 31) (1 : Int32) dX11_noteFault_30 rfl (by decide) ?_
    refine g_iadd (pc' := 32) dX11_noteFault_31 rfl ?_
    refine g_putI (pc' := 35) 7 4 rfl rfl (by decide) inX7 tyX7_ok nmX7 (by decide) rfl rfl rfl rfl q_340 dX11_noteFault_32 rfl h6 (gM fun M7 hM7 => ?_)
    have hf := ap_eq hf hM7
    refine g_iconst (pc' := 36) (1 : Int32) dX11_noteFault_35 rfl (by decide) ?_
    cases hf
    exact g_zreturn dX11_noteFault_36 rfl (Or.inr rfl) (Nat.le_of_ble_eq_true rfl) (Nat.le_of_ble_eq_true rfl)
  · have hf := ite_t c1 hf
    refine g_aload_n (pc' := 5) dX11_noteFault_4 rfl rfl ?_
    refine g_iconst (pc' := 6) (-1 : Int32) dX11_noteFault_5 rfl (by decide) ?_
    obtain ⟨h8, hf⟩ := chk_s hf
    refine g_putI (pc' := 9) 11 14 rfl rfl (by decide) inX11 tyX11_ok nmX11 (by decide) rfl rfl rfl rfl q_54 dX11_noteFault_6 rfl h8 (gM fun M9 hM9 => ?_)
    have hf := ap_eq hf hM9
    refine g_iconst (pc' := 10) (0 : Int32) dX11_noteFault_9 rfl (by decide) ?_
    cases hf
    exact g_zreturn dX11_noteFault_10 rfl (Or.inl rfl) (Nat.le_of_ble_eq_true rfl) (Nat.le_of_ble_eq_true rfl)
def f_X11_schema (v0 : Nat) (v1 : Int32) (M : Mem) : Option ((Nat ⊕ Int32) × Mem) :=
  if mK M v0 = 12 then
    bndX (f_X11_needTape v0 v1 M) fun _ M2 =>
    if mK M2 v0 = 12 then
      if mK M2 (mR M2 v0 0) = 10 then
        bnd (f_X9_open (mR M2 v0 0) v1 M2) fun _ M6 =>
        if mK M6 v0 = 12 then
          if mK M6 (mR M6 v0 1) = 7 then
            bnd (f_X6_read (mR M6 v0 1) (mR M6 v0 0) (mR M6 v0 10) (mR M6 v0 10) (0 : Int32) M6) fun r11 M10 =>
            if mK M10 v0 = 12 then
              bnd (f_X11_noteFault v0 r11 M10) fun r14 M13 =>
              if r14 = 0 then
                if mK M13 v0 = 12 then
                  if okrB M13 [mR M13 v0 10] = true then
                    ap (sR M13 v0 8 (mR M13 v0 10)) fun M17 =>
                    if mK M17 v0 = 12 then
                      if okrB M17 [mR M13 v0 8] = true then
                        ap (sR M17 v0 10 (mR M13 v0 8)) fun M20 =>
                        if mK M20 v0 = 12 then
                          if mK M20 (mR M20 v0 9) = 6 then
                            bnd (f_X5_clear (mR M20 v0 9) M20) fun _ M24 =>
                            if mK M24 v0 = 12 then
                              if mK M24 (mR M24 v0 11) = 4 then
                                bnd (f_X3_clear (mR M24 v0 11) M24) fun _ M28 =>
                                if mK M28 v0 = 12 then
                                  if mK M28 (mR M28 v0 6) = 8 then
                                    bnd (f_X7_clear (mR M28 v0 6) (mR M28 v0 8) M28) fun _ M32 =>
                                    if mK M32 v0 = 12 then
                                      ap (sI M32 v0 13 (0 : Int32)) fun M35 =>
                                      some (.inr (0 : Int32), M35)
                                    else none
                                  else none
                                else none
                              else none
                            else none
                          else none
                        else none
                      else none
                    else none
                  else none
                else none
              else
                some (.inr r11, M13)
            else none
          else none
        else none
      else none
    else none
  else none
theorem s_X11_schema (v0 : Nat) (v1 : Int32) (M : Mem) (r : ((Nat ⊕ Int32) × Mem)) (hf : f_X11_schema v0 v1 M = some r) : Sem mi_X11_schema (9) [aR v0, aI v1] M (oX oI r.1) r.2 := by
  unfold f_X11_schema at hf
  refine sem_of (by decide) rfl rfl rfl (Nat.le_of_ble_eq_true rfl) (lv := [some (aR v0), some (aI v1), none, none]) rfl ?_
  refine g_aload_n (pc' := 1) dX11_schema_0 rfl rfl ?_
  refine g_iload_n (pc' := 2) dX11_schema_1 rfl rfl ?_
  obtain ⟨h1, hf⟩ := chk_s hf
  rcases bndX_some hf with ⟨e, M8, e3, rfl⟩ | ⟨_, M2, e3, hf⟩
  · exact g_callVX (fr2 := 6) (As := [aI v1]) (b := v0) (st := []) cf_X11_needTape q_178 (by omega) (ci := 11) rfl rfl (by decide) dX11_schema_2 rfl rfl (Nat.le_of_ble_eq_true rfl) (Or.inl rfl) rfl (by show 0 + 1 ≤ 1; omega) (by show 0 + 6 ≤ 6; omega) h1 (s_X11_needTape v0 v1 M _ e3)
  · refine g_callVv (pc' := 5) (k' := 1) (u' := 6) (fr2 := 6) (As := [aI v1]) (b := v0) (st := []) cf_X11_needTape q_178 (by omega) (ci := 11) rfl rfl (by decide) dX11_schema_2 rfl rfl rfl (Nat.le_of_ble_eq_true rfl) (Or.inl rfl) (by show 0 + 1 ≤ 1; omega) (by show 0 + 6 ≤ 6; omega) (by show 1 ≤ 1; omega) (by show 6 ≤ 6; omega) h1 (s_X11_needTape v0 v1 M _ e3) ?_
    refine g_aload_n (pc' := 6) dX11_schema_5 rfl rfl ?_
    obtain ⟨h4, hf⟩ := chk_s hf
    refine g_getR (pc' := 9) 11 0 rfl rfl (by decide) inX11 (by decide) rfl rfl q_16 dX11_schema_6 rfl h4 ?_
    refine g_iload_n (pc' := 10) dX11_schema_9 rfl rfl ?_
    obtain ⟨h5, hf⟩ := chk_s hf
    obtain ⟨_, M6, e7, hf⟩ := bnd_some hf
    refine g_callVv (pc' := 13) (k' := 1) (u' := 6) (fr2 := 3) (As := [aI v1]) (b := (mR M2 v0 0)) (st := []) cf_X9_open q_184 (by omega) (ci := 9) rfl rfl (by decide) dX11_schema_10 rfl rfl rfl (Nat.le_of_ble_eq_true rfl) (Or.inl rfl) (by show 1 + 0 ≤ 1; omega) (by show 6 + 0 ≤ 6; omega) (by show 1 ≤ 1; omega) (by show 6 ≤ 6; omega) h5 (s_X9_open (mR M2 v0 0) v1 M2 _ e7) ?_
    refine g_aload_n (pc' := 14) dX11_schema_13 rfl rfl ?_
    obtain ⟨h8, hf⟩ := chk_s hf
    refine g_getR (pc' := 17) 11 1 rfl rfl (by decide) inX11 (by decide) rfl rfl q_20 dX11_schema_14 rfl h8 ?_
    refine g_aload_n (pc' := 18) dX11_schema_17 rfl rfl ?_
    refine g_getR (pc' := 21) 11 0 rfl rfl (by decide) inX11 (by decide) rfl rfl q_16 dX11_schema_18 rfl h8 ?_
    refine g_aload_n (pc' := 22) dX11_schema_21 rfl rfl ?_
    refine g_getR (pc' := 25) 11 10 rfl rfl (by decide) inX11 (by decide) rfl rfl q_47 dX11_schema_22 rfl h8 ?_
    refine g_aload_n (pc' := 26) dX11_schema_25 rfl rfl ?_
    refine g_getR (pc' := 29) 11 10 rfl rfl (by decide) inX11 (by decide) rfl rfl q_47 dX11_schema_26 rfl h8 ?_
    refine g_iconst (pc' := 30) (0 : Int32) dX11_schema_29 rfl (by decide) ?_
    obtain ⟨h9, hf⟩ := chk_s hf
    obtain ⟨r11, M10, e11, hf⟩ := bnd_some hf
    refine g_callVi (pc' := 33) (k' := 1) (u' := 6) (fr2 := 8) (As := [aR (mR M6 v0 0), aR (mR M6 v0 10), aR (mR M6 v0 10), aI (0 : Int32)]) (b := (mR M6 v0 1)) (st := []) cf_X6_read q_205 (by omega) (ci := 6) rfl rfl (by decide) dX11_schema_30 rfl rfl rfl (Nat.le_of_ble_eq_true rfl) (Or.inl rfl) (by show 1 + 0 ≤ 1; omega) (by show 6 + 0 ≤ 6; omega) (by show 1 ≤ 1; omega) (by show 6 ≤ 6; omega) h9 (s_X6_read (mR M6 v0 1) (mR M6 v0 0) (mR M6 v0 10) (mR M6 v0 10) (0 : Int32) M6 _ e11) ?_
    refine g_istore_n (pc' := 34) (lv' := [some (aR v0), some (aI v1), some (aI r11), none]) dX11_schema_33 rfl rfl (by decide) rfl ?_
    refine g_aload_n (pc' := 35) dX11_schema_34 rfl rfl ?_
    refine g_iload_n (pc' := 36) dX11_schema_35 rfl rfl ?_
    obtain ⟨h12, hf⟩ := chk_s hf
    obtain ⟨r14, M13, e14, hf⟩ := bnd_some hf
    refine g_callVi (pc' := 39) (k' := 1) (u' := 6) (fr2 := 1) (As := [aI r11]) (b := v0) (st := []) cf_X11_noteFault q_335 (by omega) (ci := 11) rfl rfl (by decide) dX11_schema_36 rfl rfl rfl (Nat.le_of_ble_eq_true rfl) (Or.inl rfl) (by show 1 + 0 ≤ 1; omega) (by show 6 + 0 ≤ 6; omega) (by show 1 ≤ 1; omega) (by show 6 ≤ 6; omega) h12 (s_X11_noteFault v0 r11 M10 _ e14) ?_
    refine g_if_eq (pc' := 42) 44 dX11_schema_39 rfl (by decide) (fun c15 => ?_) (fun c15 => ?_)
    · have hf := ite_t c15 hf
      refine g_aload_n (pc' := 45) dX11_schema_44 rfl rfl ?_
      obtain ⟨h16, hf⟩ := chk_s hf
      refine g_getR (pc' := 48) 11 8 rfl rfl (by decide) inX11 (by decide) rfl rfl q_45 dX11_schema_45 rfl h16 ?_
      refine g_astore_n (pc' := 49) (lv' := [some (aR v0), some (aI v1), some (aI r11), some (aR (mR M13 v0 8))]) dX11_schema_48 rfl rfl (by decide) rfl ?_
      refine g_aload_n (pc' := 50) dX11_schema_49 rfl rfl ?_
      refine g_aload_n (pc' := 51) dX11_schema_50 rfl rfl ?_
      refine g_getR (pc' := 54) 11 10 rfl rfl (by decide) inX11 (by decide) rfl rfl q_47 dX11_schema_51 rfl h16 ?_
      obtain ⟨hr18, hf⟩ := chk_s hf
      refine g_putR (pc' := 57) 11 8 rfl rfl (by decide) inX11 tyX11_ok nmX11 (by decide) rfl rfl rfl (Or.inl ⟨_, rfl⟩) (okrB_1 hr18) q_45 dX11_schema_54 rfl h16 (gM fun M17 hM17 => ?_)
      have hf := ap_eq hf hM17
      refine g_aload_n (pc' := 58) dX11_schema_57 rfl rfl ?_
      refine g_aload_n (pc' := 59) dX11_schema_58 rfl rfl ?_
      obtain ⟨h19, hf⟩ := chk_s hf
      obtain ⟨hr21, hf⟩ := chk_s hf
      refine g_putR (pc' := 62) 11 10 rfl rfl (by decide) inX11 tyX11_ok nmX11 (by decide) rfl rfl rfl (Or.inl ⟨_, rfl⟩) (okrB_1 hr21) q_47 dX11_schema_59 rfl h19 (gM fun M20 hM20 => ?_)
      have hf := ap_eq hf hM20
      refine g_aload_n (pc' := 63) dX11_schema_62 rfl rfl ?_
      obtain ⟨h22, hf⟩ := chk_s hf
      refine g_getR (pc' := 66) 11 9 rfl rfl (by decide) inX11 (by decide) rfl rfl q_46 dX11_schema_63 rfl h22 ?_
      obtain ⟨h23, hf⟩ := chk_s hf
      obtain ⟨_, M24, e25, hf⟩ := bnd_some hf
      refine g_callVv (pc' := 69) (k' := 1) (u' := 6) (fr2 := 1) (As := []) (b := (mR M20 v0 9)) (st := []) cf_X5_clear q_341 (by omega) (ci := 5) rfl rfl (by decide) dX11_schema_66 rfl rfl rfl (Nat.le_of_ble_eq_true rfl) (Or.inl rfl) (by show 1 + 0 ≤ 1; omega) (by show 6 + 0 ≤ 6; omega) (by show 1 ≤ 1; omega) (by show 6 ≤ 6; omega) h23 (s_X5_clear (mR M20 v0 9) M20 _ e25) ?_
      refine g_aload_n (pc' := 70) dX11_schema_69 rfl rfl ?_
      obtain ⟨h26, hf⟩ := chk_s hf
      refine g_getR (pc' := 73) 11 11 rfl rfl (by decide) inX11 (by decide) rfl rfl q_51 dX11_schema_70 rfl h26 ?_
      obtain ⟨h27, hf⟩ := chk_s hf
      obtain ⟨_, M28, e29, hf⟩ := bnd_some hf
      refine g_callVv (pc' := 76) (k' := 1) (u' := 6) (fr2 := 1) (As := []) (b := (mR M24 v0 11)) (st := []) cf_X3_clear q_342 (by omega) (ci := 3) rfl rfl (by decide) dX11_schema_73 rfl rfl rfl (Nat.le_of_ble_eq_true rfl) (Or.inl rfl) (by show 1 + 0 ≤ 1; omega) (by show 6 + 0 ≤ 6; omega) (by show 1 ≤ 1; omega) (by show 6 ≤ 6; omega) h27 (s_X3_clear (mR M24 v0 11) M24 _ e29) ?_
      refine g_aload_n (pc' := 77) dX11_schema_76 rfl rfl ?_
      obtain ⟨h30, hf⟩ := chk_s hf
      refine g_getR (pc' := 80) 11 6 rfl rfl (by decide) inX11 (by decide) rfl rfl q_40 dX11_schema_77 rfl h30 ?_
      refine g_aload_n (pc' := 81) dX11_schema_80 rfl rfl ?_
      refine g_getR (pc' := 84) 11 8 rfl rfl (by decide) inX11 (by decide) rfl rfl q_45 dX11_schema_81 rfl h30 ?_
      obtain ⟨h31, hf⟩ := chk_s hf
      obtain ⟨_, M32, e33, hf⟩ := bnd_some hf
      refine g_callVv (pc' := 87) (k' := 1) (u' := 6) (fr2 := 1) (As := [aR (mR M28 v0 8)]) (b := (mR M28 v0 6)) (st := []) cf_X7_clear q_347 (by omega) (ci := 7) rfl rfl (by decide) dX11_schema_84 rfl rfl rfl (Nat.le_of_ble_eq_true rfl) (Or.inl rfl) (by show 1 + 0 ≤ 1; omega) (by show 6 + 0 ≤ 6; omega) (by show 1 ≤ 1; omega) (by show 6 ≤ 6; omega) h31 (s_X7_clear (mR M28 v0 6) (mR M28 v0 8) M28 _ e33) ?_
      refine g_aload_n (pc' := 88) dX11_schema_87 rfl rfl ?_
      refine g_iconst (pc' := 89) (0 : Int32) dX11_schema_88 rfl (by decide) ?_
      obtain ⟨h34, hf⟩ := chk_s hf
      refine g_putZ (pc' := 92) 11 13 rfl rfl (by decide) inX11 tyX11_ok nmX11 (by decide) rfl rfl rfl rfl (Or.inl rfl) q_53 dX11_schema_89 rfl h34 (gM fun M35 hM35 => ?_)
      have hf := ap_eq hf hM35
      refine g_iconst (pc' := 93) (0 : Int32) dX11_schema_92 rfl (by decide) ?_
      cases hf
      exact g_ireturn dX11_schema_93 rfl (Nat.le_of_ble_eq_true rfl) (Nat.le_of_ble_eq_true rfl)
    · have hf := ite_f c15 hf
      refine g_iload_n (pc' := 43) dX11_schema_42 rfl rfl ?_
      cases hf
      exact g_ireturn dX11_schema_43 rfl (Nat.le_of_ble_eq_true rfl) (Nat.le_of_ble_eq_true rfl)
def f_X11_isWrong (v0 : Nat) (M : Mem) : Option (Int32 × Mem) :=
  if mK M v0 = 12 then
    if mK M (mR M v0 3) = 2 then
      bnd (f_X1_run (mR M v0 3) (mR M v0 8) (mR M v0 6) M) fun r4 M3 =>
      if r4 = 0 then
        some ((0 : Int32), M3)
      else
        some ((1 : Int32), M3)
    else none
  else none
theorem s_X11_isWrong (v0 : Nat) (M : Mem) (r : (Int32 × Mem)) (hf : f_X11_isWrong v0 M = some r) : Sem mi_X11_isWrong (6) [aR v0] M (oI r.1) r.2 := by
  unfold f_X11_isWrong at hf
  refine sem_of (by decide) rfl rfl rfl (Nat.le_of_ble_eq_true rfl) (lv := [some (aR v0)]) rfl ?_
  refine g_aload_n (pc' := 1) dX11_isWrong_0 rfl rfl ?_
  obtain ⟨h1, hf⟩ := chk_s hf
  refine g_getR (pc' := 4) 11 3 rfl rfl (by decide) inX11 (by decide) rfl rfl q_28 dX11_isWrong_1 rfl h1 ?_
  refine g_aload_n (pc' := 5) dX11_isWrong_4 rfl rfl ?_
  refine g_getR (pc' := 8) 11 8 rfl rfl (by decide) inX11 (by decide) rfl rfl q_45 dX11_isWrong_5 rfl h1 ?_
  refine g_aload_n (pc' := 9) dX11_isWrong_8 rfl rfl ?_
  refine g_getR (pc' := 12) 11 6 rfl rfl (by decide) inX11 (by decide) rfl rfl q_40 dX11_isWrong_9 rfl h1 ?_
  obtain ⟨h2, hf⟩ := chk_s hf
  obtain ⟨r4, M3, e4, hf⟩ := bnd_some hf
  refine g_callVi (pc' := 15) (k' := 0) (u' := 0) (fr2 := 5) (As := [aR (mR M v0 8), aR (mR M v0 6)]) (b := (mR M v0 3)) (st := []) cf_X1_run q_482 (by omega) (ci := 1) rfl rfl (by decide) dX11_isWrong_12 rfl rfl rfl (Nat.le_of_ble_eq_true rfl) (Or.inl rfl) (Nat.le_refl _) (Nat.le_refl _) (Nat.le_refl _) (Nat.le_refl _) h2 (s_X1_run (mR M v0 3) (mR M v0 8) (mR M v0 6) M _ e4) ?_
  refine g_if_eq (pc' := 18) 22 dX11_isWrong_15 rfl (by decide) (fun c5 => ?_) (fun c5 => ?_)
  · have hf := ite_t c5 hf
    refine g_iconst (pc' := 23) (0 : Int32) dX11_isWrong_22 rfl (by decide) ?_
    cases hf
    exact g_zreturn dX11_isWrong_23 rfl (Or.inl rfl) (Nat.le_of_ble_eq_true rfl) (Nat.le_of_ble_eq_true rfl)
  · have hf := ite_f c5 hf
    refine g_iconst (pc' := 19) (1 : Int32) dX11_isWrong_18 rfl (by decide) ?_
    refine g_goto (pc' := 23) dX11_isWrong_19 (by decide) ?_
    cases hf
    exact g_zreturn dX11_isWrong_23 rfl (Or.inr rfl) (Nat.le_of_ble_eq_true rfl) (Nat.le_of_ble_eq_true rfl)
def f_X11_refuse (v0 : Nat) (M : Mem) : Option (Int32 × Mem) :=
  if mK M v0 = 12 then
    if mK M (mR M v0 6) = 8 then
      ap (sI M (mR M v0 6) 5 ((mI M (mR M v0 6) 5) + (1 : Int32))) fun M3 =>
      some ((-1 : Int32), M3)
    else none
  else none
theorem s_X11_refuse (v0 : Nat) (M : Mem) (r : (Int32 × Mem)) (hf : f_X11_refuse v0 M = some r) : Sem mi_X11_refuse (1) [aR v0] M (oI r.1) r.2 := by
  unfold f_X11_refuse at hf
  refine sem_of (by decide) rfl rfl rfl (Nat.le_of_ble_eq_true rfl) (lv := [some (aR v0)]) rfl ?_
  refine g_aload_n (pc' := 1) dX11_refuse_0 rfl rfl ?_
  obtain ⟨h1, hf⟩ := chk_s hf
  refine g_getR (pc' := 4) 11 6 rfl rfl (by decide) inX11 (by decide) rfl rfl q_40 dX11_refuse_1 rfl h1 ?_
  refine g_dup (pc' := 5) dX11_refuse_4 rfl rfl ?_
  obtain ⟨h2, hf⟩ := chk_s hf
  refine g_getI (pc' := 8) 7 5 rfl rfl (by decide) inX7 (by decide) rfl rfl q_551 dX11_refuse_5 rfl h2 ?_
  refine g_iconst (pc' := 9) (1 : Int32) dX11_refuse_8 rfl (by decide) ?_
  refine g_iadd (pc' := 10) dX11_refuse_9 rfl ?_
  refine g_putI (pc' := 13) 7 5 rfl rfl (by decide) inX7 tyX7_ok nmX7 (by decide) rfl rfl rfl rfl q_551 dX11_refuse_10 rfl h2 (gM fun M3 hM3 => ?_)
  have hf := ap_eq hf hM3
  refine g_iconst (pc' := 14) (-1 : Int32) dX11_refuse_13 rfl (by decide) ?_
  cases hf
  exact g_ireturn dX11_refuse_14 rfl (Nat.le_of_ble_eq_true rfl) (Nat.le_of_ble_eq_true rfl)
def f_X11_add_30 (v0 : Nat) (M : Mem) : Option ((Nat ⊕ Int32) × Mem) :=
  if mK M v0 = 12 then
    bnd (f_X11_refuse v0 M) fun r3 M2 =>
    some (.inr r3, M2)
  else none
def f_X11_add (v0 : Nat) (v1 : Int32) (M : Mem) : Option ((Nat ⊕ Int32) × Mem) :=
  if mK M v0 = 12 then
    bndX (f_X11_needTape v0 v1 M) fun _ M2 =>
    if mK M2 v0 = 12 then
      if mK M2 (mR M2 v0 0) = 10 then
        bnd (f_X9_open (mR M2 v0 0) v1 M2) fun _ M6 =>
        if mK M6 v0 = 12 then
          if mK M6 (mR M6 v0 8) = 6 then
            if (mI M6 (mR M6 v0 8) 0) = 0 then
              f_X11_add_30 v0 M6
            else
              bnd (f_X11_isWrong v0 M6) fun r12 M11 =>
              if r12 = 0 then
                if mK M11 v0 = 12 then
                  if mK M11 (mR M11 v0 2) = 5 then
                    bnd (f_X4_read (mR M11 v0 2) (mR M11 v0 0) (mR M11 v0 8) (mR M11 v0 6) M11) fun r17 M16 =>
                    if mK M16 v0 = 12 then
                      bnd (f_X11_noteFault v0 r17 M16) fun r20 M19 =>
                      if r20 = 0 then
                        if mK M19 v0 = 12 then
                          if mK M19 (mR M19 v0 2) = 5 then
                            if mK M19 (mR M19 v0 8) = 6 then
                              if mK M19 (mR M19 v0 6) = 8 then
                                if okrB M19 [v0] = true then
                                  bnd (f_X7_addStaged (mR M19 v0 6) (mI M19 (mR M19 v0 2) 1) (mR M19 (mR M19 v0 2) 0) (mI M19 (mR M19 v0 8) 1) M19) fun _ M26 =>
                                  some (.inr (0 : Int32), M26)
                                else none
                              else none
                            else none
                          else none
                        else none
                      else
                        some (.inr r17, M19)
                    else none
                  else none
                else none
              else
                f_X11_add_30 v0 M11
          else none
        else none
      else none
    else none
  else none
theorem s_X11_add_30 (v0 : Nat) (M : Mem) (r : ((Nat ⊕ Int32) × Mem)) (hf : f_X11_add_30 v0 M = some r) : G mi_X11_add 38 (oX oI r.1) r.2 30 [some (aR v0), none, none] [] M 1 6 := by
  unfold f_X11_add_30 at hf
  refine g_aload_n (pc' := 31) dX11_add_30 rfl rfl ?_
  obtain ⟨h1, hf⟩ := chk_s hf
  obtain ⟨r3, M2, e3, hf⟩ := bnd_some hf
  refine g_callVi (pc' := 34) (k' := 1) (u' := 6) (fr2 := 1) (As := []) (b := v0) (st := []) cf_X11_refuse q_547 (by omega) (ci := 11) rfl rfl (by decide) dX11_add_31 rfl rfl rfl (Nat.le_of_ble_eq_true rfl) (Or.inl rfl) (by show 1 + 0 ≤ 1; omega) (by show 6 + 0 ≤ 6; omega) (by show 1 ≤ 2; omega) (by show 6 ≤ 11; omega) h1 (s_X11_refuse v0 M _ e3) ?_
  cases hf
  exact g_ireturn dX11_add_34 rfl (Nat.le_of_ble_eq_true rfl) (Nat.le_of_ble_eq_true rfl)
theorem s_X11_add (v0 : Nat) (v1 : Int32) (M : Mem) (r : ((Nat ⊕ Int32) × Mem)) (hf : f_X11_add v0 v1 M = some r) : Sem mi_X11_add (38) [aR v0, aI v1] M (oX oI r.1) r.2 := by
  unfold f_X11_add at hf
  refine sem_of (by decide) rfl rfl rfl (Nat.le_of_ble_eq_true rfl) (lv := [some (aR v0), some (aI v1), none]) rfl ?_
  refine g_aload_n (pc' := 1) dX11_add_0 rfl rfl ?_
  refine g_iload_n (pc' := 2) dX11_add_1 rfl rfl ?_
  obtain ⟨h1, hf⟩ := chk_s hf
  rcases bndX_some hf with ⟨e, M8, e3, rfl⟩ | ⟨_, M2, e3, hf⟩
  · exact g_callVX (fr2 := 6) (As := [aI v1]) (b := v0) (st := []) cf_X11_needTape q_178 (by omega) (ci := 11) rfl rfl (by decide) dX11_add_2 rfl rfl (Nat.le_of_ble_eq_true rfl) (Or.inl rfl) rfl (by show 0 + 1 ≤ 2; omega) (by show 0 + 6 ≤ 11; omega) h1 (s_X11_needTape v0 v1 M _ e3)
  · refine g_callVv (pc' := 5) (k' := 1) (u' := 6) (fr2 := 6) (As := [aI v1]) (b := v0) (st := []) cf_X11_needTape q_178 (by omega) (ci := 11) rfl rfl (by decide) dX11_add_2 rfl rfl rfl (Nat.le_of_ble_eq_true rfl) (Or.inl rfl) (by show 0 + 1 ≤ 1; omega) (by show 0 + 6 ≤ 6; omega) (by show 1 ≤ 2; omega) (by show 6 ≤ 11; omega) h1 (s_X11_needTape v0 v1 M _ e3) ?_
    refine g_aload_n (pc' := 6) dX11_add_5 rfl rfl ?_
    obtain ⟨h4, hf⟩ := chk_s hf
    refine g_getR (pc' := 9) 11 0 rfl rfl (by decide) inX11 (by decide) rfl rfl q_16 dX11_add_6 rfl h4 ?_
    refine g_iload_n (pc' := 10) dX11_add_9 rfl rfl ?_
    obtain ⟨h5, hf⟩ := chk_s hf
    obtain ⟨_, M6, e7, hf⟩ := bnd_some hf
    refine g_callVv (pc' := 13) (k' := 1) (u' := 6) (fr2 := 3) (As := [aI v1]) (b := (mR M2 v0 0)) (st := []) cf_X9_open q_184 (by omega) (ci := 9) rfl rfl (by decide) dX11_add_10 rfl rfl rfl (Nat.le_of_ble_eq_true rfl) (Or.inl rfl) (by show 1 + 0 ≤ 1; omega) (by show 6 + 0 ≤ 6; omega) (by show 1 ≤ 2; omega) (by show 6 ≤ 11; omega) h5 (s_X9_open (mR M2 v0 0) v1 M2 _ e7) ?_
    refine g_aload_n (pc' := 14) dX11_add_13 rfl rfl ?_
    obtain ⟨h8, hf⟩ := chk_s hf
    refine g_getR (pc' := 17) 11 8 rfl rfl (by decide) inX11 (by decide) rfl rfl q_45 dX11_add_14 rfl h8 ?_
    obtain ⟨h9, hf⟩ := chk_s hf
    refine g_getI (pc' := 20) 5 0 rfl rfl (by decide) inX5 (by decide) rfl rfl q_474 dX11_add_17 rfl h9 ?_
    refine g_if_eq (pc' := 23) 30 dX11_add_20 rfl (by decide) (fun c10 => ?_) (fun c10 => ?_)
    · have hf := ite_t c10 hf
      refine g_mask [true, false, true] rfl ?_
      refine g_widen (k' := 1) (u' := 6) (by omega) (by omega) ?_
      exact s_X11_add_30 v0 M6 _ hf
    · have hf := ite_f c10 hf
      refine g_aload_n (pc' := 24) dX11_add_23 rfl rfl ?_
      obtain ⟨r12, M11, e12, hf⟩ := bnd_some hf
      refine g_callVi (pc' := 27) (k' := 1) (u' := 6) (fr2 := 6) (As := []) (b := v0) (st := []) cf_X11_isWrong q_478 (by omega) (ci := 11) rfl rfl (by decide) dX11_add_24 rfl rfl rfl (Nat.le_of_ble_eq_true rfl) (Or.inl rfl) (by show 1 + 0 ≤ 1; omega) (by show 6 + 0 ≤ 6; omega) (by show 1 ≤ 2; omega) (by show 6 ≤ 11; omega) h8 (s_X11_isWrong v0 M6 _ e12) ?_
      refine g_if_eq (pc' := 30) 35 dX11_add_27 rfl (by decide) (fun c13 => ?_) (fun c13 => ?_)
      · have hf := ite_t c13 hf
        refine g_aload_n (pc' := 36) dX11_add_35 rfl rfl ?_
        obtain ⟨h14, hf⟩ := chk_s hf
        refine g_getR (pc' := 39) 11 2 rfl rfl (by decide) inX11 (by decide) rfl rfl q_24 dX11_add_36 rfl h14 ?_
        refine g_aload_n (pc' := 40) dX11_add_39 rfl rfl ?_
        refine g_getR (pc' := 43) 11 0 rfl rfl (by decide) inX11 (by decide) rfl rfl q_16 dX11_add_40 rfl h14 ?_
        refine g_aload_n (pc' := 44) dX11_add_43 rfl rfl ?_
        refine g_getR (pc' := 47) 11 8 rfl rfl (by decide) inX11 (by decide) rfl rfl q_45 dX11_add_44 rfl h14 ?_
        refine g_aload_n (pc' := 48) dX11_add_47 rfl rfl ?_
        refine g_getR (pc' := 51) 11 6 rfl rfl (by decide) inX11 (by decide) rfl rfl q_40 dX11_add_48 rfl h14 ?_
        obtain ⟨h15, hf⟩ := chk_s hf
        obtain ⟨r17, M16, e17, hf⟩ := bnd_some hf
        refine g_callVi (pc' := 54) (k' := 1) (u' := 6) (fr2 := 37) (As := [aR (mR M11 v0 0), aR (mR M11 v0 8), aR (mR M11 v0 6)]) (b := (mR M11 v0 2)) (st := []) cf_X4_read q_552 (by omega) (ci := 4) rfl rfl (by decide) dX11_add_51 rfl rfl rfl (Nat.le_of_ble_eq_true rfl) (Or.inl rfl) (by show 1 + 0 ≤ 1; omega) (by show 6 + 0 ≤ 6; omega) (by show 1 ≤ 2; omega) (by show 6 ≤ 11; omega) h15 (s_X4_read (mR M11 v0 2) (mR M11 v0 0) (mR M11 v0 8) (mR M11 v0 6) M11 _ e17) ?_
        refine g_istore_n (pc' := 55) (lv' := [some (aR v0), some (aI v1), some (aI r17)]) dX11_add_54 rfl rfl (by decide) rfl ?_
        refine g_aload_n (pc' := 56) dX11_add_55 rfl rfl ?_
        refine g_iload_n (pc' := 57) dX11_add_56 rfl rfl ?_
        obtain ⟨h18, hf⟩ := chk_s hf
        obtain ⟨r20, M19, e20, hf⟩ := bnd_some hf
        refine g_callVi (pc' := 60) (k' := 1) (u' := 6) (fr2 := 1) (As := [aI r17]) (b := v0) (st := []) cf_X11_noteFault q_335 (by omega) (ci := 11) rfl rfl (by decide) dX11_add_57 rfl rfl rfl (Nat.le_of_ble_eq_true rfl) (Or.inl rfl) (by show 1 + 0 ≤ 1; omega) (by show 6 + 0 ≤ 6; omega) (by show 1 ≤ 2; omega) (by show 6 ≤ 11; omega) h18 (s_X11_noteFault v0 r17 M16 _ e20) ?_
        refine g_if_eq (pc' := 63) 65 dX11_add_60 rfl (by decide) (fun c21 => ?_) (fun c21 => ?_)
        · have hf := ite_t c21 hf
          refine g_aload_n (pc' := 66) dX11_add_65 rfl rfl ?_
          obtain ⟨h22, hf⟩ := chk_s hf
          refine g_getR (pc' := 69) 11 6 rfl rfl (by decide) inX11 (by decide) rfl rfl q_40 dX11_add_66 rfl h22 ?_
          refine g_aload_n (pc' := 70) dX11_add_69 rfl rfl ?_
          refine g_getR (pc' := 73) 11 2 rfl rfl (by decide) inX11 (by decide) rfl rfl q_24 dX11_add_70 rfl h22 ?_
          obtain ⟨h23, hf⟩ := chk_s hf
          refine g_getI (pc' := 76) 4 1 rfl rfl (by decide) inX4 (by decide) rfl rfl q_475 dX11_add_73 rfl h23 ?_
          refine g_aload_n (pc' := 77) dX11_add_76 rfl rfl ?_
          refine g_getR (pc' := 80) 11 2 rfl rfl (by decide) inX11 (by decide) rfl rfl q_24 dX11_add_77 rfl h22 ?_
          refine g_getR (pc' := 83) 4 0 rfl rfl (by decide) inX4 (by decide) rfl rfl q_476 dX11_add_80 rfl h23 ?_
          refine g_aload_n (pc' := 84) dX11_add_83 rfl rfl ?_
          refine g_getR (pc' := 87) 11 8 rfl rfl (by decide) inX11 (by decide) rfl rfl q_45 dX11_add_84 rfl h22 ?_
          obtain ⟨h24, hf⟩ := chk_s hf
          refine g_getI (pc' := 90) 5 1 rfl rfl (by decide) inX5 (by decide) rfl rfl q_477 dX11_add_87 rfl h24 ?_
          obtain ⟨h25, hf⟩ := chk_s hf
          obtain ⟨ha28, hf⟩ := chk_s hf
          obtain ⟨_, M26, e27, hf⟩ := bnd_some hf
          refine g_callVv (pc' := 93) (k' := 2) (u' := 11) (fr2 := 2) (As := [aI (mI M19 (mR M19 v0 2) 1), aR (mR M19 (mR M19 v0 2) 0), aI (mI M19 (mR M19 v0 8) 1)]) (b := (mR M19 v0 6)) (st := []) cf_X7_addStaged q_621 (by omega) (ci := 7) rfl rfl (by decide) dX11_add_90 rfl rfl rfl (Nat.le_of_ble_eq_true rfl) (Or.inr ⟨by decide, okrB_ok ha28 rfl⟩) (by show 1 + 1 ≤ 2; omega) (by show 6 + 5 ≤ 11; omega) (by show 2 ≤ 2; omega) (by show 11 ≤ 11; omega) h25 (s_X7_addStaged (mR M19 v0 6) (mI M19 (mR M19 v0 2) 1) (mR M19 (mR M19 v0 2) 0) (mI M19 (mR M19 v0 8) 1) M19 _ e27) ?_
          refine g_iconst (pc' := 94) (0 : Int32) dX11_add_93 rfl (by decide) ?_
          cases hf
          exact g_ireturn dX11_add_94 rfl (Nat.le_of_ble_eq_true rfl) (Nat.le_of_ble_eq_true rfl)
        · have hf := ite_f c21 hf
          refine g_iload_n (pc' := 64) dX11_add_63 rfl rfl ?_
          cases hf
          exact g_ireturn dX11_add_64 rfl (Nat.le_of_ble_eq_true rfl) (Nat.le_of_ble_eq_true rfl)
      · have hf := ite_f c13 hf
        refine g_mask [true, false, true] rfl ?_
        refine g_widen (k' := 1) (u' := 6) (by omega) (by omega) ?_
        exact s_X11_add_30 v0 M11 _ hf
def f_X11_view (v0 : Nat) (v1 : Int32) (M : Mem) : Option ((Nat ⊕ Int32) × Mem) :=
  if mK M v0 = 12 then
    bndX (f_X11_needTape v0 v1 M) fun _ M2 =>
    if mK M2 v0 = 12 then
      if mK M2 (mR M2 v0 0) = 10 then
        bnd (f_X9_open (mR M2 v0 0) v1 M2) fun _ M6 =>
        if mK M6 v0 = 12 then
          if mK M6 (mR M6 v0 1) = 7 then
            bnd (f_X6_read (mR M6 v0 1) (mR M6 v0 0) (mR M6 v0 10) (mR M6 v0 8) (1 : Int32) M6) fun r11 M10 =>
            if mK M10 v0 = 12 then
              bnd (f_X11_noteFault v0 r11 M10) fun r14 M13 =>
              if r14 = 0 then
                if mK M13 v0 = 12 then
                  if okrB M13 [mR M13 v0 10] = true then
                    ap (sR M13 v0 9 (mR M13 v0 10)) fun M17 =>
                    if mK M17 v0 = 12 then
                      if okrB M17 [mR M13 v0 9] = true then
                        ap (sR M17 v0 10 (mR M13 v0 9)) fun M20 =>
                        some (.inr (0 : Int32), M20)
                      else none
                    else none
                  else none
                else none
              else
                some (.inr r11, M13)
            else none
          else none
        else none
      else none
    else none
  else none
theorem s_X11_view (v0 : Nat) (v1 : Int32) (M : Mem) (r : ((Nat ⊕ Int32) × Mem)) (hf : f_X11_view v0 v1 M = some r) : Sem mi_X11_view (9) [aR v0, aI v1] M (oX oI r.1) r.2 := by
  unfold f_X11_view at hf
  refine sem_of (by decide) rfl rfl rfl (Nat.le_of_ble_eq_true rfl) (lv := [some (aR v0), some (aI v1), none, none]) rfl ?_
  refine g_aload_n (pc' := 1) dX11_view_0 rfl rfl ?_
  refine g_iload_n (pc' := 2) dX11_view_1 rfl rfl ?_
  obtain ⟨h1, hf⟩ := chk_s hf
  rcases bndX_some hf with ⟨e, M8, e3, rfl⟩ | ⟨_, M2, e3, hf⟩
  · exact g_callVX (fr2 := 6) (As := [aI v1]) (b := v0) (st := []) cf_X11_needTape q_178 (by omega) (ci := 11) rfl rfl (by decide) dX11_view_2 rfl rfl (Nat.le_of_ble_eq_true rfl) (Or.inl rfl) rfl (by show 0 + 1 ≤ 1; omega) (by show 0 + 6 ≤ 6; omega) h1 (s_X11_needTape v0 v1 M _ e3)
  · refine g_callVv (pc' := 5) (k' := 1) (u' := 6) (fr2 := 6) (As := [aI v1]) (b := v0) (st := []) cf_X11_needTape q_178 (by omega) (ci := 11) rfl rfl (by decide) dX11_view_2 rfl rfl rfl (Nat.le_of_ble_eq_true rfl) (Or.inl rfl) (by show 0 + 1 ≤ 1; omega) (by show 0 + 6 ≤ 6; omega) (by show 1 ≤ 1; omega) (by show 6 ≤ 6; omega) h1 (s_X11_needTape v0 v1 M _ e3) ?_
    refine g_aload_n (pc' := 6) dX11_view_5 rfl rfl ?_
    obtain ⟨h4, hf⟩ := chk_s hf
    refine g_getR (pc' := 9) 11 0 rfl rfl (by decide) inX11 (by decide) rfl rfl q_16 dX11_view_6 rfl h4 ?_
    refine g_iload_n (pc' := 10) dX11_view_9 rfl rfl ?_
    obtain ⟨h5, hf⟩ := chk_s hf
    obtain ⟨_, M6, e7, hf⟩ := bnd_some hf
    refine g_callVv (pc' := 13) (k' := 1) (u' := 6) (fr2 := 3) (As := [aI v1]) (b := (mR M2 v0 0)) (st := []) cf_X9_open q_184 (by omega) (ci := 9) rfl rfl (by decide) dX11_view_10 rfl rfl rfl (Nat.le_of_ble_eq_true rfl) (Or.inl rfl) (by show 1 + 0 ≤ 1; omega) (by show 6 + 0 ≤ 6; omega) (by show 1 ≤ 1; omega) (by show 6 ≤ 6; omega) h5 (s_X9_open (mR M2 v0 0) v1 M2 _ e7) ?_
    refine g_aload_n (pc' := 14) dX11_view_13 rfl rfl ?_
    obtain ⟨h8, hf⟩ := chk_s hf
    refine g_getR (pc' := 17) 11 1 rfl rfl (by decide) inX11 (by decide) rfl rfl q_20 dX11_view_14 rfl h8 ?_
    refine g_aload_n (pc' := 18) dX11_view_17 rfl rfl ?_
    refine g_getR (pc' := 21) 11 0 rfl rfl (by decide) inX11 (by decide) rfl rfl q_16 dX11_view_18 rfl h8 ?_
    refine g_aload_n (pc' := 22) dX11_view_21 rfl rfl ?_
    refine g_getR (pc' := 25) 11 10 rfl rfl (by decide) inX11 (by decide) rfl rfl q_47 dX11_view_22 rfl h8 ?_
    refine g_aload_n (pc' := 26) dX11_view_25 rfl rfl ?_
    refine g_getR (pc' := 29) 11 8 rfl rfl (by decide) inX11 (by decide) rfl rfl q_45 dX11_view_26 rfl h8 ?_
    refine g_iconst (pc' := 30) (1 : Int32) dX11_view_29 rfl (by decide) ?_
    obtain ⟨h9, hf⟩ := chk_s hf
    obtain ⟨r11, M10, e11, hf⟩ := bnd_some hf
    refine g_callVi (pc' := 33) (k' := 1) (u' := 6) (fr2 := 8) (As := [aR (mR M6 v0 0), aR (mR M6 v0 10), aR (mR M6 v0 8), aI (1 : Int32)]) (b := (mR M6 v0 1)) (st := []) cf_X6_read q_205 (by omega) (ci := 6) rfl rfl (by decide) dX11_view_30 rfl rfl rfl (Nat.le_of_ble_eq_true rfl) (Or.inl rfl) (by show 1 + 0 ≤ 1; omega) (by show 6 + 0 ≤ 6; omega) (by show 1 ≤ 1; omega) (by show 6 ≤ 6; omega) h9 (s_X6_read (mR M6 v0 1) (mR M6 v0 0) (mR M6 v0 10) (mR M6 v0 8) (1 : Int32) M6 _ e11) ?_
    refine g_istore_n (pc' := 34) (lv' := [some (aR v0), some (aI v1), some (aI r11), none]) dX11_view_33 rfl rfl (by decide) rfl ?_
    refine g_aload_n (pc' := 35) dX11_view_34 rfl rfl ?_
    refine g_iload_n (pc' := 36) dX11_view_35 rfl rfl ?_
    obtain ⟨h12, hf⟩ := chk_s hf
    obtain ⟨r14, M13, e14, hf⟩ := bnd_some hf
    refine g_callVi (pc' := 39) (k' := 1) (u' := 6) (fr2 := 1) (As := [aI r11]) (b := v0) (st := []) cf_X11_noteFault q_335 (by omega) (ci := 11) rfl rfl (by decide) dX11_view_36 rfl rfl rfl (Nat.le_of_ble_eq_true rfl) (Or.inl rfl) (by show 1 + 0 ≤ 1; omega) (by show 6 + 0 ≤ 6; omega) (by show 1 ≤ 1; omega) (by show 6 ≤ 6; omega) h12 (s_X11_noteFault v0 r11 M10 _ e14) ?_
    refine g_if_eq (pc' := 42) 44 dX11_view_39 rfl (by decide) (fun c15 => ?_) (fun c15 => ?_)
    · have hf := ite_t c15 hf
      refine g_aload_n (pc' := 45) dX11_view_44 rfl rfl ?_
      obtain ⟨h16, hf⟩ := chk_s hf
      refine g_getR (pc' := 48) 11 9 rfl rfl (by decide) inX11 (by decide) rfl rfl q_46 dX11_view_45 rfl h16 ?_
      refine g_astore_n (pc' := 49) (lv' := [some (aR v0), some (aI v1), some (aI r11), some (aR (mR M13 v0 9))]) dX11_view_48 rfl rfl (by decide) rfl ?_
      refine g_aload_n (pc' := 50) dX11_view_49 rfl rfl ?_
      refine g_aload_n (pc' := 51) dX11_view_50 rfl rfl ?_
      refine g_getR (pc' := 54) 11 10 rfl rfl (by decide) inX11 (by decide) rfl rfl q_47 dX11_view_51 rfl h16 ?_
      obtain ⟨hr18, hf⟩ := chk_s hf
      refine g_putR (pc' := 57) 11 9 rfl rfl (by decide) inX11 tyX11_ok nmX11 (by decide) rfl rfl rfl (Or.inl ⟨_, rfl⟩) (okrB_1 hr18) q_46 dX11_view_54 rfl h16 (gM fun M17 hM17 => ?_)
      have hf := ap_eq hf hM17
      refine g_aload_n (pc' := 58) dX11_view_57 rfl rfl ?_
      refine g_aload_n (pc' := 59) dX11_view_58 rfl rfl ?_
      obtain ⟨h19, hf⟩ := chk_s hf
      obtain ⟨hr21, hf⟩ := chk_s hf
      refine g_putR (pc' := 62) 11 10 rfl rfl (by decide) inX11 tyX11_ok nmX11 (by decide) rfl rfl rfl (Or.inl ⟨_, rfl⟩) (okrB_1 hr21) q_47 dX11_view_59 rfl h19 (gM fun M20 hM20 => ?_)
      have hf := ap_eq hf hM20
      refine g_iconst (pc' := 63) (0 : Int32) dX11_view_62 rfl (by decide) ?_
      cases hf
      exact g_ireturn dX11_view_63 rfl (Nat.le_of_ble_eq_true rfl) (Nat.le_of_ble_eq_true rfl)
    · have hf := ite_f c15 hf
      refine g_iload_n (pc' := 43) dX11_view_42 rfl rfl ?_
      cases hf
      exact g_ireturn dX11_view_43 rfl (Nat.le_of_ble_eq_true rfl) (Nat.le_of_ble_eq_true rfl)
def f_X11_pipe (v0 : Nat) (v1 : Int32) (M : Mem) : Option ((Nat ⊕ Int32) × Mem) :=
  if mK M v0 = 12 then
    bndX (f_X11_needTape v0 v1 M) fun _ M2 =>
    if mK M2 v0 = 12 then
      if mK M2 (mR M2 v0 0) = 10 then
        bnd (f_X9_open (mR M2 v0 0) v1 M2) fun _ M6 =>
        if mK M6 v0 = 12 then
          if mK M6 (mR M6 v0 12) = 4 then
            bnd (f_X3_read (mR M6 v0 12) (mR M6 v0 0) M6) fun r11 M10 =>
            if mK M10 v0 = 12 then
              bnd (f_X11_noteFault v0 r11 M10) fun r14 M13 =>
              if r14 = 0 then
                if mK M13 v0 = 12 then
                  if okrB M13 [mR M13 v0 12] = true then
                    ap (sR M13 v0 11 (mR M13 v0 12)) fun M17 =>
                    if mK M17 v0 = 12 then
                      if okrB M17 [mR M13 v0 11] = true then
                        ap (sR M17 v0 12 (mR M13 v0 11)) fun M20 =>
                        some (.inr (0 : Int32), M20)
                      else none
                    else none
                  else none
                else none
              else
                some (.inr r11, M13)
            else none
          else none
        else none
      else none
    else none
  else none
theorem s_X11_pipe (v0 : Nat) (v1 : Int32) (M : Mem) (r : ((Nat ⊕ Int32) × Mem)) (hf : f_X11_pipe v0 v1 M = some r) : Sem mi_X11_pipe (9) [aR v0, aI v1] M (oX oI r.1) r.2 := by
  unfold f_X11_pipe at hf
  refine sem_of (by decide) rfl rfl rfl (Nat.le_of_ble_eq_true rfl) (lv := [some (aR v0), some (aI v1), none, none]) rfl ?_
  refine g_aload_n (pc' := 1) dX11_pipe_0 rfl rfl ?_
  refine g_iload_n (pc' := 2) dX11_pipe_1 rfl rfl ?_
  obtain ⟨h1, hf⟩ := chk_s hf
  rcases bndX_some hf with ⟨e, M8, e3, rfl⟩ | ⟨_, M2, e3, hf⟩
  · exact g_callVX (fr2 := 6) (As := [aI v1]) (b := v0) (st := []) cf_X11_needTape q_178 (by omega) (ci := 11) rfl rfl (by decide) dX11_pipe_2 rfl rfl (Nat.le_of_ble_eq_true rfl) (Or.inl rfl) rfl (by show 0 + 1 ≤ 1; omega) (by show 0 + 6 ≤ 6; omega) h1 (s_X11_needTape v0 v1 M _ e3)
  · refine g_callVv (pc' := 5) (k' := 1) (u' := 6) (fr2 := 6) (As := [aI v1]) (b := v0) (st := []) cf_X11_needTape q_178 (by omega) (ci := 11) rfl rfl (by decide) dX11_pipe_2 rfl rfl rfl (Nat.le_of_ble_eq_true rfl) (Or.inl rfl) (by show 0 + 1 ≤ 1; omega) (by show 0 + 6 ≤ 6; omega) (by show 1 ≤ 1; omega) (by show 6 ≤ 6; omega) h1 (s_X11_needTape v0 v1 M _ e3) ?_
    refine g_aload_n (pc' := 6) dX11_pipe_5 rfl rfl ?_
    obtain ⟨h4, hf⟩ := chk_s hf
    refine g_getR (pc' := 9) 11 0 rfl rfl (by decide) inX11 (by decide) rfl rfl q_16 dX11_pipe_6 rfl h4 ?_
    refine g_iload_n (pc' := 10) dX11_pipe_9 rfl rfl ?_
    obtain ⟨h5, hf⟩ := chk_s hf
    obtain ⟨_, M6, e7, hf⟩ := bnd_some hf
    refine g_callVv (pc' := 13) (k' := 1) (u' := 6) (fr2 := 3) (As := [aI v1]) (b := (mR M2 v0 0)) (st := []) cf_X9_open q_184 (by omega) (ci := 9) rfl rfl (by decide) dX11_pipe_10 rfl rfl rfl (Nat.le_of_ble_eq_true rfl) (Or.inl rfl) (by show 1 + 0 ≤ 1; omega) (by show 6 + 0 ≤ 6; omega) (by show 1 ≤ 1; omega) (by show 6 ≤ 6; omega) h5 (s_X9_open (mR M2 v0 0) v1 M2 _ e7) ?_
    refine g_aload_n (pc' := 14) dX11_pipe_13 rfl rfl ?_
    obtain ⟨h8, hf⟩ := chk_s hf
    refine g_getR (pc' := 17) 11 12 rfl rfl (by decide) inX11 (by decide) rfl rfl q_52 dX11_pipe_14 rfl h8 ?_
    refine g_aload_n (pc' := 18) dX11_pipe_17 rfl rfl ?_
    refine g_getR (pc' := 21) 11 0 rfl rfl (by decide) inX11 (by decide) rfl rfl q_16 dX11_pipe_18 rfl h8 ?_
    obtain ⟨h9, hf⟩ := chk_s hf
    obtain ⟨r11, M10, e11, hf⟩ := bnd_some hf
    refine g_callVi (pc' := 24) (k' := 1) (u' := 6) (fr2 := 8) (As := [aR (mR M6 v0 0)]) (b := (mR M6 v0 12)) (st := []) cf_X3_read q_760 (by omega) (ci := 3) rfl rfl (by decide) dX11_pipe_21 rfl rfl rfl (Nat.le_of_ble_eq_true rfl) (Or.inl rfl) (by show 1 + 0 ≤ 1; omega) (by show 6 + 0 ≤ 6; omega) (by show 1 ≤ 1; omega) (by show 6 ≤ 6; omega) h9 (s_X3_read (mR M6 v0 12) (mR M6 v0 0) M6 _ e11) ?_
    refine g_istore_n (pc' := 25) (lv' := [some (aR v0), some (aI v1), some (aI r11), none]) dX11_pipe_24 rfl rfl (by decide) rfl ?_
    refine g_aload_n (pc' := 26) dX11_pipe_25 rfl rfl ?_
    refine g_iload_n (pc' := 27) dX11_pipe_26 rfl rfl ?_
    obtain ⟨h12, hf⟩ := chk_s hf
    obtain ⟨r14, M13, e14, hf⟩ := bnd_some hf
    refine g_callVi (pc' := 30) (k' := 1) (u' := 6) (fr2 := 1) (As := [aI r11]) (b := v0) (st := []) cf_X11_noteFault q_335 (by omega) (ci := 11) rfl rfl (by decide) dX11_pipe_27 rfl rfl rfl (Nat.le_of_ble_eq_true rfl) (Or.inl rfl) (by show 1 + 0 ≤ 1; omega) (by show 6 + 0 ≤ 6; omega) (by show 1 ≤ 1; omega) (by show 6 ≤ 6; omega) h12 (s_X11_noteFault v0 r11 M10 _ e14) ?_
    refine g_if_eq (pc' := 33) 35 dX11_pipe_30 rfl (by decide) (fun c15 => ?_) (fun c15 => ?_)
    · have hf := ite_t c15 hf
      refine g_aload_n (pc' := 36) dX11_pipe_35 rfl rfl ?_
      obtain ⟨h16, hf⟩ := chk_s hf
      refine g_getR (pc' := 39) 11 11 rfl rfl (by decide) inX11 (by decide) rfl rfl q_51 dX11_pipe_36 rfl h16 ?_
      refine g_astore_n (pc' := 40) (lv' := [some (aR v0), some (aI v1), some (aI r11), some (aR (mR M13 v0 11))]) dX11_pipe_39 rfl rfl (by decide) rfl ?_
      refine g_aload_n (pc' := 41) dX11_pipe_40 rfl rfl ?_
      refine g_aload_n (pc' := 42) dX11_pipe_41 rfl rfl ?_
      refine g_getR (pc' := 45) 11 12 rfl rfl (by decide) inX11 (by decide) rfl rfl q_52 dX11_pipe_42 rfl h16 ?_
      obtain ⟨hr18, hf⟩ := chk_s hf
      refine g_putR (pc' := 48) 11 11 rfl rfl (by decide) inX11 tyX11_ok nmX11 (by decide) rfl rfl rfl (Or.inl ⟨_, rfl⟩) (okrB_1 hr18) q_51 dX11_pipe_45 rfl h16 (gM fun M17 hM17 => ?_)
      have hf := ap_eq hf hM17
      refine g_aload_n (pc' := 49) dX11_pipe_48 rfl rfl ?_
      refine g_aload_n (pc' := 50) dX11_pipe_49 rfl rfl ?_
      obtain ⟨h19, hf⟩ := chk_s hf
      obtain ⟨hr21, hf⟩ := chk_s hf
      refine g_putR (pc' := 53) 11 12 rfl rfl (by decide) inX11 tyX11_ok nmX11 (by decide) rfl rfl rfl (Or.inl ⟨_, rfl⟩) (okrB_1 hr21) q_52 dX11_pipe_50 rfl h19 (gM fun M20 hM20 => ?_)
      have hf := ap_eq hf hM20
      refine g_iconst (pc' := 54) (0 : Int32) dX11_pipe_53 rfl (by decide) ?_
      cases hf
      exact g_ireturn dX11_pipe_54 rfl (Nat.le_of_ble_eq_true rfl) (Nat.le_of_ble_eq_true rfl)
    · have hf := ite_f c15 hf
      refine g_iload_n (pc' := 34) dX11_pipe_33 rfl rfl ?_
      cases hf
      exact g_ireturn dX11_pipe_34 rfl (Nat.le_of_ble_eq_true rfl) (Nat.le_of_ble_eq_true rfl)
def f_X11_fault (v0 : Nat) (M : Mem) : Option (Int32 × Mem) :=
  if mK M v0 = 12 then
    some (mI M v0 14, M)
  else none
theorem s_X11_fault (v0 : Nat) (M : Mem) (r : (Int32 × Mem)) (hf : f_X11_fault v0 M = some r) : Sem mi_X11_fault (1) [aR v0] M (oI r.1) r.2 := by
  unfold f_X11_fault at hf
  refine sem_of (by decide) rfl rfl rfl (Nat.le_of_ble_eq_true rfl) (lv := [some (aR v0)]) rfl ?_
  refine g_aload_n (pc' := 1) dX11_fault_0 rfl rfl ?_
  obtain ⟨h1, hf⟩ := chk_s hf
  refine g_getI (pc' := 4) 11 14 rfl rfl (by decide) inX11 (by decide) rfl rfl q_54 dX11_fault_1 rfl h1 ?_
  cases hf
  exact g_ireturn dX11_fault_4 rfl (Nat.le_of_ble_eq_true rfl) (Nat.le_of_ble_eq_true rfl)
def f_X11_countChecked_12  (M : Mem) : Option ((Nat ⊕ Int32) × Mem) :=
  some (.inl 1, M)
def f_X11_countChecked (v0 : Nat) (v1 : Int32) (M : Mem) : Option ((Nat ⊕ Int32) × Mem) :=
  if v1 < (9 : Int32) then
    f_X11_countChecked_12 M
  else
    if v1 ≤ (13 : Int32) then
      if mK M v0 = 12 then
        if mK M (mR M v0 3) = 2 then
          bnd (f_X1_run (mR M v0 3) (mR M v0 8) (mR M v0 6) M) fun r6 M5 =>
          if v1 = (9 : Int32) then
            some (.inr r6, M5)
          else
            if v1 = (10 : Int32) then
              if mK M5 v0 = 12 then
                if mK M5 (mR M5 v0 3) = 2 then
                  some (.inr (mI M5 (mR M5 v0 3) 1), M5)
                else none
              else none
            else
              if v1 = (11 : Int32) then
                if mK M5 v0 = 12 then
                  if mK M5 (mR M5 v0 3) = 2 then
                    some (.inr (mI M5 (mR M5 v0 3) 2), M5)
                  else none
                else none
              else
                if mK M5 v0 = 12 then
                  if mK M5 (mR M5 v0 3) = 2 then
                    bnd (f_X1_weigh (mR M5 v0 3) M5) fun _ M12 =>
                    if v1 = (12 : Int32) then
                      if mK M12 v0 = 12 then
                        if mK M12 (mR M12 v0 3) = 2 then
                          some (.inr (mI M12 (mR M12 v0 3) 3), M12)
                        else none
                      else none
                    else
                      if mK M12 v0 = 12 then
                        if mK M12 (mR M12 v0 3) = 2 then
                          some (.inr (mI M12 (mR M12 v0 3) 4), M12)
                        else none
                      else none
                  else none
                else none
        else none
      else none
    else
      f_X11_countChecked_12 M
theorem s_X11_countChecked_12  (M : Mem) (r : ((Nat ⊕ Int32) × Mem)) (hf : f_X11_countChecked_12  M = some r) : G mi_X11_countChecked 6 (oX oI r.1) r.2 12 [none, none, none] [] M 0 0 := by
  unfold f_X11_countChecked_12 at hf
  cases hf
  exact g_throwN (xi := 1) rfl dX11_countChecked_12 dX11_countChecked_15 dX11_countChecked_16 dX11_countChecked_18 dX11_countChecked_21 rfl rfl (by omega) (Nat.le_of_ble_eq_true rfl) (by show 0 + 1 ≤ 1; omega) (by show 0 + 6 ≤ 6; omega)
theorem s_X11_countChecked (v0 : Nat) (v1 : Int32) (M : Mem) (r : ((Nat ⊕ Int32) × Mem)) (hf : f_X11_countChecked v0 v1 M = some r) : Sem mi_X11_countChecked (6) [aR v0, aI v1] M (oX oI r.1) r.2 := by
  unfold f_X11_countChecked at hf
  refine sem_of (by decide) rfl rfl rfl (Nat.le_of_ble_eq_true rfl) (lv := [some (aR v0), some (aI v1), none]) rfl ?_
  refine g_iload_n (pc' := 1) dX11_countChecked_0 rfl rfl ?_
  refine g_bipush (pc' := 3) (9 : Int32) dX11_countChecked_1 rfl (by decide) ?_
  refine g_icmp_lt (pc' := 6) 12 dX11_countChecked_3 rfl (by decide) (fun c1 => ?_) (fun c1 => ?_)
  · have hf := ite_t c1 hf
    refine g_mask [false, false, true] rfl ?_
    exact s_X11_countChecked_12 M _ hf
  · have hf := ite_f c1 hf
    refine g_iload_n (pc' := 7) dX11_countChecked_6 rfl rfl ?_
    refine g_bipush (pc' := 9) (13 : Int32) dX11_countChecked_7 rfl (by decide) ?_
    refine g_icmp_le (pc' := 12) 22 dX11_countChecked_9 rfl (by decide) (fun c2 => ?_) (fun c2 => ?_)
    · have hf := ite_t c2 hf
      refine g_aload_n (pc' := 23) dX11_countChecked_22 rfl rfl ?_
      obtain ⟨h3, hf⟩ := chk_s hf
      refine g_getR (pc' := 26) 11 3 rfl rfl (by decide) inX11 (by decide) rfl rfl q_28 dX11_countChecked_23 rfl h3 ?_
      refine g_aload_n (pc' := 27) dX11_countChecked_26 rfl rfl ?_
      refine g_getR (pc' := 30) 11 8 rfl rfl (by decide) inX11 (by decide) rfl rfl q_45 dX11_countChecked_27 rfl h3 ?_
      refine g_aload_n (pc' := 31) dX11_countChecked_30 rfl rfl ?_
      refine g_getR (pc' := 34) 11 6 rfl rfl (by decide) inX11 (by decide) rfl rfl q_40 dX11_countChecked_31 rfl h3 ?_
      obtain ⟨h4, hf⟩ := chk_s hf
      obtain ⟨r6, M5, e6, hf⟩ := bnd_some hf
      refine g_callVi (pc' := 37) (k' := 0) (u' := 0) (fr2 := 5) (As := [aR (mR M v0 8), aR (mR M v0 6)]) (b := (mR M v0 3)) (st := []) cf_X1_run q_482 (by omega) (ci := 1) rfl rfl (by decide) dX11_countChecked_34 rfl rfl rfl (Nat.le_of_ble_eq_true rfl) (Or.inl rfl) (by show 0 + 0 ≤ 0; omega) (by show 0 + 0 ≤ 0; omega) (by show 0 ≤ 1; omega) (by show 0 ≤ 6; omega) h4 (s_X1_run (mR M v0 3) (mR M v0 8) (mR M v0 6) M _ e6) ?_
      refine g_istore_n (pc' := 38) (lv' := [some (aR v0), some (aI v1), some (aI r6)]) dX11_countChecked_37 rfl rfl (by decide) rfl ?_
      refine g_iload_n (pc' := 39) dX11_countChecked_38 rfl rfl ?_
      refine g_bipush (pc' := 41) (9 : Int32) dX11_countChecked_39 rfl (by decide) ?_
      refine g_icmp_ne (pc' := 44) 46 dX11_countChecked_41 rfl (by decide) (fun c7 => ?_) (fun c7 => ?_)
      · have hf := ite_f c7 hf
        refine g_iload_n (pc' := 47) dX11_countChecked_46 rfl rfl ?_
        refine g_bipush (pc' := 49) (10 : Int32) dX11_countChecked_47 rfl (by decide) ?_
        refine g_icmp_ne (pc' := 52) 60 dX11_countChecked_49 rfl (by decide) (fun c8 => ?_) (fun c8 => ?_)
        · have hf := ite_f c8 hf
          refine g_iload_n (pc' := 61) dX11_countChecked_60 rfl rfl ?_
          refine g_bipush (pc' := 63) (11 : Int32) dX11_countChecked_61 rfl (by decide) ?_
          refine g_icmp_ne (pc' := 66) 74 dX11_countChecked_63 rfl (by decide) (fun c9 => ?_) (fun c9 => ?_)
          · have hf := ite_f c9 hf
            refine g_aload_n (pc' := 75) dX11_countChecked_74 rfl rfl ?_
            obtain ⟨h10, hf⟩ := chk_s hf
            refine g_getR (pc' := 78) 11 3 rfl rfl (by decide) inX11 (by decide) rfl rfl q_28 dX11_countChecked_75 rfl h10 ?_
            obtain ⟨h11, hf⟩ := chk_s hf
            obtain ⟨_, M12, e13, hf⟩ := bnd_some hf
            refine g_callVv (pc' := 81) (k' := 0) (u' := 0) (fr2 := 5) (As := []) (b := (mR M5 v0 3)) (st := []) cf_X1_weigh q_837 (by omega) (ci := 1) rfl rfl (by decide) dX11_countChecked_78 rfl rfl rfl (Nat.le_of_ble_eq_true rfl) (Or.inl rfl) (by show 0 + 0 ≤ 0; omega) (by show 0 + 0 ≤ 0; omega) (by show 0 ≤ 1; omega) (by show 0 ≤ 6; omega) h11 (s_X1_weigh (mR M5 v0 3) M5 _ e13) ?_
            refine g_iload_n (pc' := 82) dX11_countChecked_81 rfl rfl ?_
            refine g_bipush (pc' := 84) (12 : Int32) dX11_countChecked_82 rfl (by decide) ?_
            refine g_icmp_ne (pc' := 87) 97 dX11_countChecked_84 rfl (by decide) (fun c14 => ?_) (fun c14 => ?_)
            · have hf := ite_f c14 hf
              refine g_aload_n (pc' := 98) dX11_countChecked_97 rfl rfl ?_
              obtain ⟨h15, hf⟩ := chk_s hf
              refine g_getR (pc' := 101) 11 3 rfl rfl (by decide) inX11 (by decide) rfl rfl q_28 dX11_countChecked_98 rfl h15 ?_
              obtain ⟨h16, hf⟩ := chk_s hf
              refine g_getI (pc' := 104) 1 4 rfl rfl (by decide) inX1 (by decide) rfl rfl q_836 dX11_countChecked_101 rfl h16 ?_
              cases hf
              exact g_ireturn dX11_countChecked_104 rfl (Nat.le_of_ble_eq_true rfl) (Nat.le_of_ble_eq_true rfl)
            · have hf := ite_t c14 hf
              refine g_aload_n (pc' := 88) dX11_countChecked_87 rfl rfl ?_
              obtain ⟨h17, hf⟩ := chk_s hf
              refine g_getR (pc' := 91) 11 3 rfl rfl (by decide) inX11 (by decide) rfl rfl q_28 dX11_countChecked_88 rfl h17 ?_
              obtain ⟨h18, hf⟩ := chk_s hf
              refine g_getI (pc' := 94) 1 3 rfl rfl (by decide) inX1 (by decide) rfl rfl q_835 dX11_countChecked_91 rfl h18 ?_
              refine g_goto (pc' := 104) dX11_countChecked_94 (by decide) ?_
              cases hf
              exact g_ireturn dX11_countChecked_104 rfl (Nat.le_of_ble_eq_true rfl) (Nat.le_of_ble_eq_true rfl)
          · have hf := ite_t c9 hf
            refine g_aload_n (pc' := 67) dX11_countChecked_66 rfl rfl ?_
            obtain ⟨h19, hf⟩ := chk_s hf
            refine g_getR (pc' := 70) 11 3 rfl rfl (by decide) inX11 (by decide) rfl rfl q_28 dX11_countChecked_67 rfl h19 ?_
            obtain ⟨h20, hf⟩ := chk_s hf
            refine g_getI (pc' := 73) 1 2 rfl rfl (by decide) inX1 (by decide) rfl rfl q_834 dX11_countChecked_70 rfl h20 ?_
            cases hf
            exact g_ireturn dX11_countChecked_73 rfl (Nat.le_of_ble_eq_true rfl) (Nat.le_of_ble_eq_true rfl)
        · have hf := ite_t c8 hf
          refine g_aload_n (pc' := 53) dX11_countChecked_52 rfl rfl ?_
          obtain ⟨h21, hf⟩ := chk_s hf
          refine g_getR (pc' := 56) 11 3 rfl rfl (by decide) inX11 (by decide) rfl rfl q_28 dX11_countChecked_53 rfl h21 ?_
          obtain ⟨h22, hf⟩ := chk_s hf
          refine g_getI (pc' := 59) 1 1 rfl rfl (by decide) inX1 (by decide) rfl rfl q_833 dX11_countChecked_56 rfl h22 ?_
          cases hf
          exact g_ireturn dX11_countChecked_59 rfl (Nat.le_of_ble_eq_true rfl) (Nat.le_of_ble_eq_true rfl)
      · have hf := ite_t c7 hf
        refine g_iload_n (pc' := 45) dX11_countChecked_44 rfl rfl ?_
        cases hf
        exact g_ireturn dX11_countChecked_45 rfl (Nat.le_of_ble_eq_true rfl) (Nat.le_of_ble_eq_true rfl)
    · have hf := ite_f c2 hf
      refine g_mask [false, false, true] rfl ?_
      exact s_X11_countChecked_12 M _ hf
def f_X11_count_213 (v0 : Nat) (v1 : Int32) (M : Mem) : Option ((Nat ⊕ Int32) × Mem) :=
  if mK M v0 = 12 then
    bndX (f_X11_countChecked v0 v1 M) fun r3 M2 =>
    some (.inr r3, M2)
  else none
def f_X11_count (v0 : Nat) (v1 : Int32) (M : Mem) : Option ((Nat ⊕ Int32) × Mem) :=
  if v1 = (0 : Int32) then
    if mK M v0 = 12 then
      if mK M (mR M v0 8) = 6 then
        some (.inr (mI M (mR M v0 8) 0), M)
      else none
    else none
  else
  if v1 = (1 : Int32) then
    if mK M v0 = 12 then
      if mK M (mR M v0 8) = 6 then
        some (.inr (mI M (mR M v0 8) 1), M)
      else none
    else none
  else
  if v1 = (2 : Int32) then
    if mK M v0 = 12 then
      if mK M (mR M v0 6) = 8 then
        some (.inr (mI M (mR M v0 6) 1), M)
      else none
    else none
  else
  if v1 = (3 : Int32) then
    if mK M v0 = 12 then
      if mK M (mR M v0 8) = 6 then
        if mK M (mR M v0 6) = 8 then
          bnd (f_X7_entriesOfAll (mR M v0 6) (mI M (mR M v0 8) 1) M) fun r15 M14 =>
          some (.inr r15, M14)
        else none
      else none
    else none
  else
  if v1 = (4 : Int32) then
    if mK M v0 = 12 then
      if mK M (mR M v0 8) = 6 then
        bnd (f_X5_greatestOfLeaves (mR M v0 8) (mR M (mR M v0 8) 5) M) fun r20 M19 =>
        some (.inr r20, M19)
      else none
    else none
  else
  if v1 = (5 : Int32) then
    if mK M v0 = 12 then
      if mK M (mR M v0 8) = 6 then
        bnd (f_X5_greatestOfLeaves (mR M v0 8) (mR M (mR M v0 8) 6) M) fun r25 M24 =>
        some (.inr r25, M24)
      else none
    else none
  else
  if v1 = (6 : Int32) then
    if mK M v0 = 12 then
      if mK M (mR M v0 9) = 6 then
        some (.inr (mI M (mR M v0 9) 0), M)
      else none
    else none
  else
  if v1 = (7 : Int32) then
    if mK M v0 = 12 then
      if mK M (mR M v0 11) = 4 then
        some (.inr (mI M (mR M v0 11) 0), M)
      else none
    else none
  else
  if v1 = (8 : Int32) then
    if mK M v0 = 12 then
      if mK M (mR M v0 8) = 6 then
        bnd (f_X5_cover (mR M v0 8) M) fun r36 M35 =>
        some (.inr r36, M35)
      else none
    else none
  else
  if v1 = (9 : Int32) then
    f_X11_count_213 v0 v1 M
  else
  if v1 = (10 : Int32) then
    f_X11_count_213 v0 v1 M
  else
  if v1 = (11 : Int32) then
    f_X11_count_213 v0 v1 M
  else
  if v1 = (12 : Int32) then
    f_X11_count_213 v0 v1 M
  else
  if v1 = (13 : Int32) then
    f_X11_count_213 v0 v1 M
  else
  if v1 = (14 : Int32) then
    if mK M v0 = 12 then
      if mK M (mR M v0 6) = 8 then
        some (.inr (mI M (mR M v0 6) 3), M)
      else none
    else none
  else
  if v1 = (15 : Int32) then
    if mK M v0 = 12 then
      if mK M (mR M v0 0) = 10 then
        some (.inr (mI M (mR M v0 0) 1), M)
      else none
    else none
  else
  if v1 = (16 : Int32) then
    if mK M v0 = 12 then
      if mK M (mR M v0 6) = 8 then
        some (.inr (mI M (mR M v0 6) 4), M)
      else none
    else none
  else
  if v1 = (17 : Int32) then
    if mK M v0 = 12 then
      if mK M (mR M v0 6) = 8 then
        some (.inr (mI M (mR M v0 6) 5), M)
      else none
    else none
  else
  f_X11_count_213 v0 v1 M
theorem s_X11_count_213 (v0 : Nat) (v1 : Int32) (M : Mem) (r : ((Nat ⊕ Int32) × Mem)) (hf : f_X11_count_213 v0 v1 M = some r) : G mi_X11_count 7 (oX oI r.1) r.2 213 [some (aR v0), some (aI v1)] [] M 0 0 := by
  unfold f_X11_count_213 at hf
  refine g_aload_n (pc' := 214) dX11_count_213 rfl rfl ?_
  refine g_iload_n (pc' := 215) dX11_count_214 rfl rfl ?_
  obtain ⟨h1, hf⟩ := chk_s hf
  rcases bndX_some hf with ⟨e, M8, e3, rfl⟩ | ⟨r3, M2, e3, hf⟩
  · exact g_callVX (fr2 := 6) (As := [aI v1]) (b := v0) (st := []) cf_X11_countChecked q_827 (by omega) (ci := 11) rfl rfl (by decide) dX11_count_215 rfl rfl (Nat.le_of_ble_eq_true rfl) (Or.inl rfl) rfl (by show 0 + 1 ≤ 1; omega) (by show 0 + 6 ≤ 6; omega) h1 (s_X11_countChecked v0 v1 M _ e3)
  · refine g_callVi (pc' := 218) (k' := 1) (u' := 6) (fr2 := 6) (As := [aI v1]) (b := v0) (st := []) cf_X11_countChecked q_827 (by omega) (ci := 11) rfl rfl (by decide) dX11_count_215 rfl rfl rfl (Nat.le_of_ble_eq_true rfl) (Or.inl rfl) (by show 0 + 1 ≤ 1; omega) (by show 0 + 6 ≤ 6; omega) (by show 1 ≤ 1; omega) (by show 6 ≤ 6; omega) h1 (s_X11_countChecked v0 v1 M _ e3) ?_
    cases hf
    exact g_ireturn dX11_count_218 rfl (Nat.le_of_ble_eq_true rfl) (Nat.le_of_ble_eq_true rfl)
theorem s_X11_count (v0 : Nat) (v1 : Int32) (M : Mem) (r : ((Nat ⊕ Int32) × Mem)) (hf : f_X11_count v0 v1 M = some r) : Sem mi_X11_count (7) [aR v0, aI v1] M (oX oI r.1) r.2 := by
  unfold f_X11_count at hf
  refine sem_of (by decide) rfl rfl rfl (Nat.le_of_ble_eq_true rfl) (lv := [some (aR v0), some (aI v1)]) rfl ?_
  refine g_iload_n (pc' := 1) dX11_count_0 rfl rfl ?_
  by_cases c1 : v1 = (0 : Int32)
  · have hf := ite_t c1 hf
    refine g_tsw (pc' := 88) (0 : Int32) dX11_count_1 c1 (by decide) (by decide) rfl (by decide) ?_
    refine g_aload_n (pc' := 89) dX11_count_88 rfl rfl ?_
    obtain ⟨h2, hf⟩ := chk_s hf
    refine g_getR (pc' := 92) 11 8 rfl rfl (by decide) inX11 (by decide) rfl rfl q_45 dX11_count_89 rfl h2 ?_
    obtain ⟨h3, hf⟩ := chk_s hf
    refine g_getI (pc' := 95) 5 0 rfl rfl (by decide) inX5 (by decide) rfl rfl q_474 dX11_count_92 rfl h3 ?_
    cases hf
    exact g_ireturn dX11_count_95 rfl (Nat.le_of_ble_eq_true rfl) (Nat.le_of_ble_eq_true rfl)
  have hf := ite_f c1 hf
  by_cases c4 : v1 = (1 : Int32)
  · have hf := ite_t c4 hf
    refine g_tsw (pc' := 96) (1 : Int32) dX11_count_1 c4 (by decide) (by decide) rfl (by decide) ?_
    refine g_aload_n (pc' := 97) dX11_count_96 rfl rfl ?_
    obtain ⟨h5, hf⟩ := chk_s hf
    refine g_getR (pc' := 100) 11 8 rfl rfl (by decide) inX11 (by decide) rfl rfl q_45 dX11_count_97 rfl h5 ?_
    obtain ⟨h6, hf⟩ := chk_s hf
    refine g_getI (pc' := 103) 5 1 rfl rfl (by decide) inX5 (by decide) rfl rfl q_477 dX11_count_100 rfl h6 ?_
    cases hf
    exact g_ireturn dX11_count_103 rfl (Nat.le_of_ble_eq_true rfl) (Nat.le_of_ble_eq_true rfl)
  have hf := ite_f c4 hf
  by_cases c7 : v1 = (2 : Int32)
  · have hf := ite_t c7 hf
    refine g_tsw (pc' := 104) (2 : Int32) dX11_count_1 c7 (by decide) (by decide) rfl (by decide) ?_
    refine g_aload_n (pc' := 105) dX11_count_104 rfl rfl ?_
    obtain ⟨h8, hf⟩ := chk_s hf
    refine g_getR (pc' := 108) 11 6 rfl rfl (by decide) inX11 (by decide) rfl rfl q_40 dX11_count_105 rfl h8 ?_
    obtain ⟨h9, hf⟩ := chk_s hf
    refine g_getI (pc' := 111) 7 1 rfl rfl (by decide) inX7 (by decide) rfl rfl q_796 dX11_count_108 rfl h9 ?_
    cases hf
    exact g_ireturn dX11_count_111 rfl (Nat.le_of_ble_eq_true rfl) (Nat.le_of_ble_eq_true rfl)
  have hf := ite_f c7 hf
  by_cases c10 : v1 = (3 : Int32)
  · have hf := ite_t c10 hf
    refine g_tsw (pc' := 112) (3 : Int32) dX11_count_1 c10 (by decide) (by decide) rfl (by decide) ?_
    refine g_aload_n (pc' := 113) dX11_count_112 rfl rfl ?_
    obtain ⟨h11, hf⟩ := chk_s hf
    refine g_getR (pc' := 116) 11 6 rfl rfl (by decide) inX11 (by decide) rfl rfl q_40 dX11_count_113 rfl h11 ?_
    refine g_aload_n (pc' := 117) dX11_count_116 rfl rfl ?_
    refine g_getR (pc' := 120) 11 8 rfl rfl (by decide) inX11 (by decide) rfl rfl q_45 dX11_count_117 rfl h11 ?_
    obtain ⟨h12, hf⟩ := chk_s hf
    refine g_getI (pc' := 123) 5 1 rfl rfl (by decide) inX5 (by decide) rfl rfl q_477 dX11_count_120 rfl h12 ?_
    obtain ⟨h13, hf⟩ := chk_s hf
    obtain ⟨r15, M14, e15, hf⟩ := bnd_some hf
    refine g_callVi (pc' := 126) (k' := 0) (u' := 0) (fr2 := 1) (As := [aI (mI M (mR M v0 8) 1)]) (b := (mR M v0 6)) (st := []) cf_X7_entriesOfAll q_801 (by omega) (ci := 7) rfl rfl (by decide) dX11_count_123 rfl rfl rfl (Nat.le_of_ble_eq_true rfl) (Or.inl rfl) (by show 0 + 0 ≤ 0; omega) (by show 0 + 0 ≤ 0; omega) (by show 0 ≤ 1; omega) (by show 0 ≤ 6; omega) h13 (s_X7_entriesOfAll (mR M v0 6) (mI M (mR M v0 8) 1) M _ e15) ?_
    cases hf
    exact g_ireturn dX11_count_126 rfl (Nat.le_of_ble_eq_true rfl) (Nat.le_of_ble_eq_true rfl)
  have hf := ite_f c10 hf
  by_cases c16 : v1 = (4 : Int32)
  · have hf := ite_t c16 hf
    refine g_tsw (pc' := 127) (4 : Int32) dX11_count_1 c16 (by decide) (by decide) rfl (by decide) ?_
    refine g_aload_n (pc' := 128) dX11_count_127 rfl rfl ?_
    obtain ⟨h17, hf⟩ := chk_s hf
    refine g_getR (pc' := 131) 11 8 rfl rfl (by decide) inX11 (by decide) rfl rfl q_45 dX11_count_128 rfl h17 ?_
    refine g_aload_n (pc' := 132) dX11_count_131 rfl rfl ?_
    refine g_getR (pc' := 135) 11 8 rfl rfl (by decide) inX11 (by decide) rfl rfl q_45 dX11_count_132 rfl h17 ?_
    obtain ⟨h18, hf⟩ := chk_s hf
    refine g_getR (pc' := 138) 5 5 rfl rfl (by decide) inX5 (by decide) rfl rfl q_797 dX11_count_135 rfl h18 ?_
    obtain ⟨r20, M19, e20, hf⟩ := bnd_some hf
    refine g_callVi (pc' := 141) (k' := 0) (u' := 0) (fr2 := 1) (As := [aR (mR M (mR M v0 8) 5)]) (b := (mR M v0 8)) (st := []) cf_X5_greatestOfLeaves q_805 (by omega) (ci := 5) rfl rfl (by decide) dX11_count_138 rfl rfl rfl (Nat.le_of_ble_eq_true rfl) (Or.inl rfl) (by show 0 + 0 ≤ 0; omega) (by show 0 + 0 ≤ 0; omega) (by show 0 ≤ 1; omega) (by show 0 ≤ 6; omega) h18 (s_X5_greatestOfLeaves (mR M v0 8) (mR M (mR M v0 8) 5) M _ e20) ?_
    cases hf
    exact g_ireturn dX11_count_141 rfl (Nat.le_of_ble_eq_true rfl) (Nat.le_of_ble_eq_true rfl)
  have hf := ite_f c16 hf
  by_cases c21 : v1 = (5 : Int32)
  · have hf := ite_t c21 hf
    refine g_tsw (pc' := 142) (5 : Int32) dX11_count_1 c21 (by decide) (by decide) rfl (by decide) ?_
    refine g_aload_n (pc' := 143) dX11_count_142 rfl rfl ?_
    obtain ⟨h22, hf⟩ := chk_s hf
    refine g_getR (pc' := 146) 11 8 rfl rfl (by decide) inX11 (by decide) rfl rfl q_45 dX11_count_143 rfl h22 ?_
    refine g_aload_n (pc' := 147) dX11_count_146 rfl rfl ?_
    refine g_getR (pc' := 150) 11 8 rfl rfl (by decide) inX11 (by decide) rfl rfl q_45 dX11_count_147 rfl h22 ?_
    obtain ⟨h23, hf⟩ := chk_s hf
    refine g_getR (pc' := 153) 5 6 rfl rfl (by decide) inX5 (by decide) rfl rfl q_798 dX11_count_150 rfl h23 ?_
    obtain ⟨r25, M24, e25, hf⟩ := bnd_some hf
    refine g_callVi (pc' := 156) (k' := 0) (u' := 0) (fr2 := 1) (As := [aR (mR M (mR M v0 8) 6)]) (b := (mR M v0 8)) (st := []) cf_X5_greatestOfLeaves q_805 (by omega) (ci := 5) rfl rfl (by decide) dX11_count_153 rfl rfl rfl (Nat.le_of_ble_eq_true rfl) (Or.inl rfl) (by show 0 + 0 ≤ 0; omega) (by show 0 + 0 ≤ 0; omega) (by show 0 ≤ 1; omega) (by show 0 ≤ 6; omega) h23 (s_X5_greatestOfLeaves (mR M v0 8) (mR M (mR M v0 8) 6) M _ e25) ?_
    cases hf
    exact g_ireturn dX11_count_156 rfl (Nat.le_of_ble_eq_true rfl) (Nat.le_of_ble_eq_true rfl)
  have hf := ite_f c21 hf
  by_cases c26 : v1 = (6 : Int32)
  · have hf := ite_t c26 hf
    refine g_tsw (pc' := 157) (6 : Int32) dX11_count_1 c26 (by decide) (by decide) rfl (by decide) ?_
    refine g_aload_n (pc' := 158) dX11_count_157 rfl rfl ?_
    obtain ⟨h27, hf⟩ := chk_s hf
    refine g_getR (pc' := 161) 11 9 rfl rfl (by decide) inX11 (by decide) rfl rfl q_46 dX11_count_158 rfl h27 ?_
    obtain ⟨h28, hf⟩ := chk_s hf
    refine g_getI (pc' := 164) 5 0 rfl rfl (by decide) inX5 (by decide) rfl rfl q_474 dX11_count_161 rfl h28 ?_
    cases hf
    exact g_ireturn dX11_count_164 rfl (Nat.le_of_ble_eq_true rfl) (Nat.le_of_ble_eq_true rfl)
  have hf := ite_f c26 hf
  by_cases c29 : v1 = (7 : Int32)
  · have hf := ite_t c29 hf
    refine g_tsw (pc' := 165) (7 : Int32) dX11_count_1 c29 (by decide) (by decide) rfl (by decide) ?_
    refine g_aload_n (pc' := 166) dX11_count_165 rfl rfl ?_
    obtain ⟨h30, hf⟩ := chk_s hf
    refine g_getR (pc' := 169) 11 11 rfl rfl (by decide) inX11 (by decide) rfl rfl q_51 dX11_count_166 rfl h30 ?_
    obtain ⟨h31, hf⟩ := chk_s hf
    refine g_getI (pc' := 172) 3 0 rfl rfl (by decide) inX3 (by decide) rfl rfl q_799 dX11_count_169 rfl h31 ?_
    cases hf
    exact g_ireturn dX11_count_172 rfl (Nat.le_of_ble_eq_true rfl) (Nat.le_of_ble_eq_true rfl)
  have hf := ite_f c29 hf
  by_cases c32 : v1 = (8 : Int32)
  · have hf := ite_t c32 hf
    refine g_tsw (pc' := 173) (8 : Int32) dX11_count_1 c32 (by decide) (by decide) rfl (by decide) ?_
    refine g_aload_n (pc' := 174) dX11_count_173 rfl rfl ?_
    obtain ⟨h33, hf⟩ := chk_s hf
    refine g_getR (pc' := 177) 11 8 rfl rfl (by decide) inX11 (by decide) rfl rfl q_45 dX11_count_174 rfl h33 ?_
    obtain ⟨h34, hf⟩ := chk_s hf
    obtain ⟨r36, M35, e36, hf⟩ := bnd_some hf
    refine g_callVi (pc' := 180) (k' := 0) (u' := 0) (fr2 := 2) (As := []) (b := (mR M v0 8)) (st := []) cf_X5_cover q_812 (by omega) (ci := 5) rfl rfl (by decide) dX11_count_177 rfl rfl rfl (Nat.le_of_ble_eq_true rfl) (Or.inl rfl) (by show 0 + 0 ≤ 0; omega) (by show 0 + 0 ≤ 0; omega) (by show 0 ≤ 1; omega) (by show 0 ≤ 6; omega) h34 (s_X5_cover (mR M v0 8) M _ e36) ?_
    cases hf
    exact g_ireturn dX11_count_180 rfl (Nat.le_of_ble_eq_true rfl) (Nat.le_of_ble_eq_true rfl)
  have hf := ite_f c32 hf
  by_cases c37 : v1 = (9 : Int32)
  · have hf := ite_t c37 hf
    refine g_tsw (pc' := 213) (9 : Int32) dX11_count_1 c37 (by decide) (by decide) rfl (by decide) ?_
    exact s_X11_count_213 v0 v1 M _ hf
  have hf := ite_f c37 hf
  by_cases c38 : v1 = (10 : Int32)
  · have hf := ite_t c38 hf
    refine g_tsw (pc' := 213) (10 : Int32) dX11_count_1 c38 (by decide) (by decide) rfl (by decide) ?_
    exact s_X11_count_213 v0 v1 M _ hf
  have hf := ite_f c38 hf
  by_cases c39 : v1 = (11 : Int32)
  · have hf := ite_t c39 hf
    refine g_tsw (pc' := 213) (11 : Int32) dX11_count_1 c39 (by decide) (by decide) rfl (by decide) ?_
    exact s_X11_count_213 v0 v1 M _ hf
  have hf := ite_f c39 hf
  by_cases c40 : v1 = (12 : Int32)
  · have hf := ite_t c40 hf
    refine g_tsw (pc' := 213) (12 : Int32) dX11_count_1 c40 (by decide) (by decide) rfl (by decide) ?_
    exact s_X11_count_213 v0 v1 M _ hf
  have hf := ite_f c40 hf
  by_cases c41 : v1 = (13 : Int32)
  · have hf := ite_t c41 hf
    refine g_tsw (pc' := 213) (13 : Int32) dX11_count_1 c41 (by decide) (by decide) rfl (by decide) ?_
    exact s_X11_count_213 v0 v1 M _ hf
  have hf := ite_f c41 hf
  by_cases c42 : v1 = (14 : Int32)
  · have hf := ite_t c42 hf
    refine g_tsw (pc' := 181) (14 : Int32) dX11_count_1 c42 (by decide) (by decide) rfl (by decide) ?_
    refine g_aload_n (pc' := 182) dX11_count_181 rfl rfl ?_
    obtain ⟨h43, hf⟩ := chk_s hf
    refine g_getR (pc' := 185) 11 6 rfl rfl (by decide) inX11 (by decide) rfl rfl q_40 dX11_count_182 rfl h43 ?_
    obtain ⟨h44, hf⟩ := chk_s hf
    refine g_getI (pc' := 188) 7 3 rfl rfl (by decide) inX7 (by decide) rfl rfl q_800 dX11_count_185 rfl h44 ?_
    cases hf
    exact g_ireturn dX11_count_188 rfl (Nat.le_of_ble_eq_true rfl) (Nat.le_of_ble_eq_true rfl)
  have hf := ite_f c42 hf
  by_cases c45 : v1 = (15 : Int32)
  · have hf := ite_t c45 hf
    refine g_tsw (pc' := 189) (15 : Int32) dX11_count_1 c45 (by decide) (by decide) rfl (by decide) ?_
    refine g_aload_n (pc' := 190) dX11_count_189 rfl rfl ?_
    obtain ⟨h46, hf⟩ := chk_s hf
    refine g_getR (pc' := 193) 11 0 rfl rfl (by decide) inX11 (by decide) rfl rfl q_16 dX11_count_190 rfl h46 ?_
    obtain ⟨h47, hf⟩ := chk_s hf
    refine g_getI (pc' := 196) 9 1 rfl rfl (by decide) inX9 (by decide) rfl rfl q_157 dX11_count_193 rfl h47 ?_
    cases hf
    exact g_ireturn dX11_count_196 rfl (Nat.le_of_ble_eq_true rfl) (Nat.le_of_ble_eq_true rfl)
  have hf := ite_f c45 hf
  by_cases c48 : v1 = (16 : Int32)
  · have hf := ite_t c48 hf
    refine g_tsw (pc' := 197) (16 : Int32) dX11_count_1 c48 (by decide) (by decide) rfl (by decide) ?_
    refine g_aload_n (pc' := 198) dX11_count_197 rfl rfl ?_
    obtain ⟨h49, hf⟩ := chk_s hf
    refine g_getR (pc' := 201) 11 6 rfl rfl (by decide) inX11 (by decide) rfl rfl q_40 dX11_count_198 rfl h49 ?_
    obtain ⟨h50, hf⟩ := chk_s hf
    refine g_getI (pc' := 204) 7 4 rfl rfl (by decide) inX7 (by decide) rfl rfl q_340 dX11_count_201 rfl h50 ?_
    cases hf
    exact g_ireturn dX11_count_204 rfl (Nat.le_of_ble_eq_true rfl) (Nat.le_of_ble_eq_true rfl)
  have hf := ite_f c48 hf
  by_cases c51 : v1 = (17 : Int32)
  · have hf := ite_t c51 hf
    refine g_tsw (pc' := 205) (17 : Int32) dX11_count_1 c51 (by decide) (by decide) rfl (by decide) ?_
    refine g_aload_n (pc' := 206) dX11_count_205 rfl rfl ?_
    obtain ⟨h52, hf⟩ := chk_s hf
    refine g_getR (pc' := 209) 11 6 rfl rfl (by decide) inX11 (by decide) rfl rfl q_40 dX11_count_206 rfl h52 ?_
    obtain ⟨h53, hf⟩ := chk_s hf
    refine g_getI (pc' := 212) 7 5 rfl rfl (by decide) inX7 (by decide) rfl rfl q_551 dX11_count_209 rfl h53 ?_
    cases hf
    exact g_ireturn dX11_count_212 rfl (Nat.le_of_ble_eq_true rfl) (Nat.le_of_ble_eq_true rfl)
  have hf := ite_f c51 hf
  have nc1 := nei c1 (z := 0) (by decide)
  have nc4 := nei c4 (z := 1) (by decide)
  have nc7 := nei c7 (z := 2) (by decide)
  have nc10 := nei c10 (z := 3) (by decide)
  have nc16 := nei c16 (z := 4) (by decide)
  have nc21 := nei c21 (z := 5) (by decide)
  have nc26 := nei c26 (z := 6) (by decide)
  have nc29 := nei c29 (z := 7) (by decide)
  have nc32 := nei c32 (z := 8) (by decide)
  have nc37 := nei c37 (z := 9) (by decide)
  have nc38 := nei c38 (z := 10) (by decide)
  have nc39 := nei c39 (z := 11) (by decide)
  have nc40 := nei c40 (z := 12) (by decide)
  have nc41 := nei c41 (z := 13) (by decide)
  have nc42 := nei c42 (z := 14) (by decide)
  have nc45 := nei c45 (z := 15) (by decide)
  have nc48 := nei c48 (z := 16) (by decide)
  have nc51 := nei c51 (z := 17) (by decide)
  refine g_tableOut (pc' := 213) dX11_count_1 (by omega) (by decide) ?_
  exact s_X11_count_213 v0 v1 M _ hf
def f_X11_needField_15  (M : Mem) : Option ((Nat ⊕ Unit) × Mem) :=
  some (.inl 1, M)
def f_X11_needField (v0 : Nat) (v1 : Int32) (M : Mem) : Option ((Nat ⊕ Unit) × Mem) :=
  if v1 < 0 then
    f_X11_needField_15 M
  else
    if mK M v0 = 12 then
      if mK M (mR M v0 8) = 6 then
        if v1 < (mI M (mR M v0 8) 0) then
          some (.inr (), M)
        else
          f_X11_needField_15 M
      else none
    else none
theorem s_X11_needField_15  (M : Mem) (r : ((Nat ⊕ Unit) × Mem)) (hf : f_X11_needField_15  M = some r) : G mi_X11_needField 6 (oX oU r.1) r.2 15 [none, none] [] M 0 0 := by
  unfold f_X11_needField_15 at hf
  cases hf
  exact g_throwNW (xi := 2) rfl dX11_needField_15 dX11_needField_18 dX11_needField_19 dX11_needField_22 dX11_needField_25 rfl rfl (by omega) (Nat.le_of_ble_eq_true rfl) (by show 0 + 1 ≤ 1; omega) (by show 0 + 6 ≤ 6; omega)
theorem s_X11_needField (v0 : Nat) (v1 : Int32) (M : Mem) (r : ((Nat ⊕ Unit) × Mem)) (hf : f_X11_needField v0 v1 M = some r) : Sem mi_X11_needField (6) [aR v0, aI v1] M (oX oU r.1) r.2 := by
  unfold f_X11_needField at hf
  refine sem_of (by decide) rfl rfl rfl (Nat.le_of_ble_eq_true rfl) (lv := [some (aR v0), some (aI v1)]) rfl ?_
  refine g_iload_n (pc' := 1) dX11_needField_0 rfl rfl ?_
  refine g_if_lt (pc' := 4) 15 dX11_needField_1 rfl (by decide) (fun c1 => ?_) (fun c1 => ?_)
  · have hf := ite_t c1 hf
    refine g_mask [false, false] rfl ?_
    exact s_X11_needField_15 M _ hf
  · have hf := ite_f c1 hf
    refine g_iload_n (pc' := 5) dX11_needField_4 rfl rfl ?_
    refine g_aload_n (pc' := 6) dX11_needField_5 rfl rfl ?_
    obtain ⟨h2, hf⟩ := chk_s hf
    refine g_getR (pc' := 9) 11 8 rfl rfl (by decide) inX11 (by decide) rfl rfl q_45 dX11_needField_6 rfl h2 ?_
    obtain ⟨h3, hf⟩ := chk_s hf
    refine g_getI (pc' := 12) 5 0 rfl rfl (by decide) inX5 (by decide) rfl rfl q_474 dX11_needField_9 rfl h3 ?_
    refine g_icmp_lt (pc' := 15) 26 dX11_needField_12 rfl (by decide) (fun c4 => ?_) (fun c4 => ?_)
    · have hf := ite_t c4 hf
      cases hf
      exact g_return dX11_needField_26 rfl (Nat.le_of_ble_eq_true rfl) (Nat.le_of_ble_eq_true rfl)
    · have hf := ite_f c4 hf
      refine g_mask [false, false] rfl ?_
      exact s_X11_needField_15 M _ hf
def f_X11_field (v0 : Nat) (v1 : Int32) (v2 : Int32) (M : Mem) : Option ((Nat ⊕ Int32) × Mem) :=
  if mK M v0 = 12 then
    bndX (f_X11_needField v0 v1 M) fun _ M2 =>
    if v2 = (0 : Int32) then
      if mK M2 v0 = 12 then
        if mK M2 (mR M2 v0 8) = 6 then
          if mK M2 (mR M2 (mR M2 v0 8) 2) = 21 then
            if inB v1 (mN M2 (mR M2 (mR M2 v0 8) 2)) = true then
              some (.inr (mI M2 (mR M2 (mR M2 v0 8) 2) v1.toNatClampNeg), M2)
            else none
          else none
        else none
      else none
    else
    if v2 = (1 : Int32) then
      if mK M2 v0 = 12 then
        if mK M2 (mR M2 v0 8) = 6 then
          if mK M2 (mR M2 (mR M2 v0 8) 4) = 21 then
            if inB v1 (mN M2 (mR M2 (mR M2 v0 8) 4)) = true then
              some (.inr (mI M2 (mR M2 (mR M2 v0 8) 4) v1.toNatClampNeg), M2)
            else none
          else none
        else none
      else none
    else
    if v2 = (2 : Int32) then
      if mK M2 v0 = 12 then
        if mK M2 (mR M2 v0 8) = 6 then
          if mK M2 (mR M2 (mR M2 v0 8) 3) = 21 then
            if inB v1 (mN M2 (mR M2 (mR M2 v0 8) 3)) = true then
              some (.inr (mI M2 (mR M2 (mR M2 v0 8) 3) v1.toNatClampNeg), M2)
            else none
          else none
        else none
      else none
    else
    if v2 = (3 : Int32) then
      if mK M2 v0 = 12 then
        if mK M2 (mR M2 v0 8) = 6 then
          if mK M2 (mR M2 (mR M2 v0 8) 5) = 21 then
            if inB v1 (mN M2 (mR M2 (mR M2 v0 8) 5)) = true then
              some (.inr (mI M2 (mR M2 (mR M2 v0 8) 5) v1.toNatClampNeg), M2)
            else none
          else none
        else none
      else none
    else
    if v2 = (4 : Int32) then
      if mK M2 v0 = 12 then
        if mK M2 (mR M2 v0 8) = 6 then
          if mK M2 (mR M2 (mR M2 v0 8) 6) = 21 then
            if inB v1 (mN M2 (mR M2 (mR M2 v0 8) 6)) = true then
              some (.inr (mI M2 (mR M2 (mR M2 v0 8) 6) v1.toNatClampNeg), M2)
            else none
          else none
        else none
      else none
    else
    if v2 = (5 : Int32) then
      if mK M2 v0 = 12 then
        if mK M2 (mR M2 v0 8) = 6 then
          if mK M2 (mR M2 (mR M2 v0 8) 7) = 21 then
            if inB v1 (mN M2 (mR M2 (mR M2 v0 8) 7)) = true then
              some (.inr (mI M2 (mR M2 (mR M2 v0 8) 7) v1.toNatClampNeg), M2)
            else none
          else none
        else none
      else none
    else
    if v2 = (6 : Int32) then
      if mK M2 v0 = 12 then
        if mK M2 (mR M2 v0 8) = 6 then
          if mK M2 (mR M2 (mR M2 v0 8) 9) = 21 then
            if inB v1 (mN M2 (mR M2 (mR M2 v0 8) 9)) = true then
              some (.inr (mI M2 (mR M2 (mR M2 v0 8) 9) v1.toNatClampNeg), M2)
            else none
          else none
        else none
      else none
    else
    some (.inl 1, M2)
  else none
theorem s_X11_field (v0 : Nat) (v1 : Int32) (v2 : Int32) (M : Mem) (r : ((Nat ⊕ Int32) × Mem)) (hf : f_X11_field v0 v1 v2 M = some r) : Sem mi_X11_field (7) [aR v0, aI v1, aI v2] M (oX oI r.1) r.2 := by
  unfold f_X11_field at hf
  refine sem_of (by decide) rfl rfl rfl (Nat.le_of_ble_eq_true rfl) (lv := [some (aR v0), some (aI v1), some (aI v2)]) rfl ?_
  refine g_aload_n (pc' := 1) dX11_field_0 rfl rfl ?_
  refine g_iload_n (pc' := 2) dX11_field_1 rfl rfl ?_
  obtain ⟨h1, hf⟩ := chk_s hf
  rcases bndX_some hf with ⟨e, M8, e3, rfl⟩ | ⟨_, M2, e3, hf⟩
  · exact g_callVX (fr2 := 6) (As := [aI v1]) (b := v0) (st := []) cf_X11_needField q_920 (by omega) (ci := 11) rfl rfl (by decide) dX11_field_2 rfl rfl (Nat.le_of_ble_eq_true rfl) (Or.inl rfl) rfl (by show 0 + 1 ≤ 2; omega) (by show 0 + 6 ≤ 12; omega) h1 (s_X11_needField v0 v1 M _ e3)
  · refine g_callVv (pc' := 5) (k' := 1) (u' := 6) (fr2 := 6) (As := [aI v1]) (b := v0) (st := []) cf_X11_needField q_920 (by omega) (ci := 11) rfl rfl (by decide) dX11_field_2 rfl rfl rfl (Nat.le_of_ble_eq_true rfl) (Or.inl rfl) (by show 0 + 1 ≤ 1; omega) (by show 0 + 6 ≤ 6; omega) (by show 1 ≤ 2; omega) (by show 6 ≤ 12; omega) h1 (s_X11_needField v0 v1 M _ e3) ?_
    refine g_iload_n (pc' := 6) dX11_field_5 rfl rfl ?_
    by_cases c4 : v2 = (0 : Int32)
    · have hf := ite_t c4 hf
      refine g_tsw (pc' := 48) (0 : Int32) dX11_field_6 c4 (by decide) (by decide) rfl (by decide) ?_
      refine g_aload_n (pc' := 49) dX11_field_48 rfl rfl ?_
      obtain ⟨h5, hf⟩ := chk_s hf
      refine g_getR (pc' := 52) 11 8 rfl rfl (by decide) inX11 (by decide) rfl rfl q_45 dX11_field_49 rfl h5 ?_
      obtain ⟨h6, hf⟩ := chk_s hf
      refine g_getR (pc' := 55) 5 2 rfl rfl (by decide) inX5 (by decide) rfl rfl q_915 dX11_field_52 rfl h6 ?_
      refine g_iload_n (pc' := 56) dX11_field_55 rfl rfl ?_
      obtain ⟨h7, hf⟩ := chk_s hf
      obtain ⟨b8, hf⟩ := chk_s hf
      refine g_iald (pc' := 57) dX11_field_56 rfl h7 (inB_in b8) ?_
      cases hf
      exact g_ireturn dX11_field_57 rfl (Nat.le_of_ble_eq_true rfl) (Nat.le_of_ble_eq_true rfl)
    have hf := ite_f c4 hf
    by_cases c9 : v2 = (1 : Int32)
    · have hf := ite_t c9 hf
      refine g_tsw (pc' := 58) (1 : Int32) dX11_field_6 c9 (by decide) (by decide) rfl (by decide) ?_
      refine g_aload_n (pc' := 59) dX11_field_58 rfl rfl ?_
      obtain ⟨h10, hf⟩ := chk_s hf
      refine g_getR (pc' := 62) 11 8 rfl rfl (by decide) inX11 (by decide) rfl rfl q_45 dX11_field_59 rfl h10 ?_
      obtain ⟨h11, hf⟩ := chk_s hf
      refine g_getR (pc' := 65) 5 4 rfl rfl (by decide) inX5 (by decide) rfl rfl q_916 dX11_field_62 rfl h11 ?_
      refine g_iload_n (pc' := 66) dX11_field_65 rfl rfl ?_
      obtain ⟨h12, hf⟩ := chk_s hf
      obtain ⟨b13, hf⟩ := chk_s hf
      refine g_iald (pc' := 67) dX11_field_66 rfl h12 (inB_in b13) ?_
      cases hf
      exact g_ireturn dX11_field_67 rfl (Nat.le_of_ble_eq_true rfl) (Nat.le_of_ble_eq_true rfl)
    have hf := ite_f c9 hf
    by_cases c14 : v2 = (2 : Int32)
    · have hf := ite_t c14 hf
      refine g_tsw (pc' := 68) (2 : Int32) dX11_field_6 c14 (by decide) (by decide) rfl (by decide) ?_
      refine g_aload_n (pc' := 69) dX11_field_68 rfl rfl ?_
      obtain ⟨h15, hf⟩ := chk_s hf
      refine g_getR (pc' := 72) 11 8 rfl rfl (by decide) inX11 (by decide) rfl rfl q_45 dX11_field_69 rfl h15 ?_
      obtain ⟨h16, hf⟩ := chk_s hf
      refine g_getR (pc' := 75) 5 3 rfl rfl (by decide) inX5 (by decide) rfl rfl q_917 dX11_field_72 rfl h16 ?_
      refine g_iload_n (pc' := 76) dX11_field_75 rfl rfl ?_
      obtain ⟨h17, hf⟩ := chk_s hf
      obtain ⟨b18, hf⟩ := chk_s hf
      refine g_iald (pc' := 77) dX11_field_76 rfl h17 (inB_in b18) ?_
      cases hf
      exact g_ireturn dX11_field_77 rfl (Nat.le_of_ble_eq_true rfl) (Nat.le_of_ble_eq_true rfl)
    have hf := ite_f c14 hf
    by_cases c19 : v2 = (3 : Int32)
    · have hf := ite_t c19 hf
      refine g_tsw (pc' := 78) (3 : Int32) dX11_field_6 c19 (by decide) (by decide) rfl (by decide) ?_
      refine g_aload_n (pc' := 79) dX11_field_78 rfl rfl ?_
      obtain ⟨h20, hf⟩ := chk_s hf
      refine g_getR (pc' := 82) 11 8 rfl rfl (by decide) inX11 (by decide) rfl rfl q_45 dX11_field_79 rfl h20 ?_
      obtain ⟨h21, hf⟩ := chk_s hf
      refine g_getR (pc' := 85) 5 5 rfl rfl (by decide) inX5 (by decide) rfl rfl q_797 dX11_field_82 rfl h21 ?_
      refine g_iload_n (pc' := 86) dX11_field_85 rfl rfl ?_
      obtain ⟨h22, hf⟩ := chk_s hf
      obtain ⟨b23, hf⟩ := chk_s hf
      refine g_iald (pc' := 87) dX11_field_86 rfl h22 (inB_in b23) ?_
      cases hf
      exact g_ireturn dX11_field_87 rfl (Nat.le_of_ble_eq_true rfl) (Nat.le_of_ble_eq_true rfl)
    have hf := ite_f c19 hf
    by_cases c24 : v2 = (4 : Int32)
    · have hf := ite_t c24 hf
      refine g_tsw (pc' := 88) (4 : Int32) dX11_field_6 c24 (by decide) (by decide) rfl (by decide) ?_
      refine g_aload_n (pc' := 89) dX11_field_88 rfl rfl ?_
      obtain ⟨h25, hf⟩ := chk_s hf
      refine g_getR (pc' := 92) 11 8 rfl rfl (by decide) inX11 (by decide) rfl rfl q_45 dX11_field_89 rfl h25 ?_
      obtain ⟨h26, hf⟩ := chk_s hf
      refine g_getR (pc' := 95) 5 6 rfl rfl (by decide) inX5 (by decide) rfl rfl q_798 dX11_field_92 rfl h26 ?_
      refine g_iload_n (pc' := 96) dX11_field_95 rfl rfl ?_
      obtain ⟨h27, hf⟩ := chk_s hf
      obtain ⟨b28, hf⟩ := chk_s hf
      refine g_iald (pc' := 97) dX11_field_96 rfl h27 (inB_in b28) ?_
      cases hf
      exact g_ireturn dX11_field_97 rfl (Nat.le_of_ble_eq_true rfl) (Nat.le_of_ble_eq_true rfl)
    have hf := ite_f c24 hf
    by_cases c29 : v2 = (5 : Int32)
    · have hf := ite_t c29 hf
      refine g_tsw (pc' := 98) (5 : Int32) dX11_field_6 c29 (by decide) (by decide) rfl (by decide) ?_
      refine g_aload_n (pc' := 99) dX11_field_98 rfl rfl ?_
      obtain ⟨h30, hf⟩ := chk_s hf
      refine g_getR (pc' := 102) 11 8 rfl rfl (by decide) inX11 (by decide) rfl rfl q_45 dX11_field_99 rfl h30 ?_
      obtain ⟨h31, hf⟩ := chk_s hf
      refine g_getR (pc' := 105) 5 7 rfl rfl (by decide) inX5 (by decide) rfl rfl q_918 dX11_field_102 rfl h31 ?_
      refine g_iload_n (pc' := 106) dX11_field_105 rfl rfl ?_
      obtain ⟨h32, hf⟩ := chk_s hf
      obtain ⟨b33, hf⟩ := chk_s hf
      refine g_iald (pc' := 107) dX11_field_106 rfl h32 (inB_in b33) ?_
      cases hf
      exact g_ireturn dX11_field_107 rfl (Nat.le_of_ble_eq_true rfl) (Nat.le_of_ble_eq_true rfl)
    have hf := ite_f c29 hf
    by_cases c34 : v2 = (6 : Int32)
    · have hf := ite_t c34 hf
      refine g_tsw (pc' := 108) (6 : Int32) dX11_field_6 c34 (by decide) (by decide) rfl (by decide) ?_
      refine g_aload_n (pc' := 109) dX11_field_108 rfl rfl ?_
      obtain ⟨h35, hf⟩ := chk_s hf
      refine g_getR (pc' := 112) 11 8 rfl rfl (by decide) inX11 (by decide) rfl rfl q_45 dX11_field_109 rfl h35 ?_
      obtain ⟨h36, hf⟩ := chk_s hf
      refine g_getR (pc' := 115) 5 9 rfl rfl (by decide) inX5 (by decide) rfl rfl q_919 dX11_field_112 rfl h36 ?_
      refine g_iload_n (pc' := 116) dX11_field_115 rfl rfl ?_
      obtain ⟨h37, hf⟩ := chk_s hf
      obtain ⟨b38, hf⟩ := chk_s hf
      refine g_iald (pc' := 117) dX11_field_116 rfl h37 (inB_in b38) ?_
      cases hf
      exact g_ireturn dX11_field_117 rfl (Nat.le_of_ble_eq_true rfl) (Nat.le_of_ble_eq_true rfl)
    have hf := ite_f c34 hf
    have nc4 := nei c4 (z := 0) (by decide)
    have nc9 := nei c9 (z := 1) (by decide)
    have nc14 := nei c14 (z := 2) (by decide)
    have nc19 := nei c19 (z := 3) (by decide)
    have nc24 := nei c24 (z := 4) (by decide)
    have nc29 := nei c29 (z := 5) (by decide)
    have nc34 := nei c34 (z := 6) (by decide)
    refine g_tableOut (pc' := 118) dX11_field_6 (by omega) (by decide) ?_
    cases hf
    exact g_throwN (xi := 1) rfl dX11_field_118 dX11_field_121 dX11_field_122 dX11_field_124 dX11_field_127 rfl rfl (by omega) (Nat.le_of_ble_eq_true rfl) (by show 1 + 1 ≤ 2; omega) (by show 6 + 6 ≤ 12; omega)
