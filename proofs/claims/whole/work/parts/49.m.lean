abbrev mi_X12_tell : MI := (yX12_tell, Cond.code yX12_tell cX12_tell 6 (some .int), cX12_tell, 6, (some .int), [], 0, 0, 0, none)
theorem cf_X12_tell : CFv mi_X12_tell 4 := ⟨⟨rfl, q_1167, wall_i_LeafStripesModel, ⟨by decide, by decide, by decide +kernel⟩, by decide⟩, q_1165, q_1166⟩
abbrev mi_X12_length : MI := (yX12_length, Cond.code yX12_length cX12_length 3 (some .int), cX12_length, 3, (some .int), [], 0, 0, 0, none)
theorem cf_X12_length : CFv mi_X12_length 2 := ⟨⟨rfl, q_1163, wall_i_LeafStripesModel, ⟨by decide, by decide, by decide +kernel⟩, by decide⟩, q_1161, q_1162⟩
abbrev mi_X12_sign : MI := (yX12_sign, Cond.code yX12_sign cX12_sign 4 (some .int), cX12_sign, 4, (some .int), [], 0, 0, 0, none)
theorem cf_X12_sign : CFv mi_X12_sign 3 := ⟨⟨rfl, q_1214, wall_i_LeafStripesModel, ⟨by decide, by decide, by decide +kernel⟩, by decide⟩, q_1212, q_1213⟩
abbrev mi_X12_isSeen : MI := (yX12_isSeen, Cond.code yX12_isSeen cX12_isSeen 1 (some .boolean), cX12_isSeen, 1, (some .boolean), [], 0, 0, 0, none)
theorem cf_X12_isSeen : CFv mi_X12_isSeen 0 := ⟨⟨rfl, q_1249, wall_i_LeafStripesModel, ⟨by decide, by decide, by decide +kernel⟩, by decide⟩, q_1247, q_1248⟩
abbrev mi_X12_seen : MI := (yX12_seen, Cond.code yX12_seen cX12_seen 2 (some .int), cX12_seen, 2, (some .int), [], 0, 0, 0, none)
theorem cf_X12_seen : CFv mi_X12_seen 1 := ⟨⟨rfl, q_1245, wall_i_LeafStripesModel, ⟨by decide, by decide, by decide +kernel⟩, by decide⟩, q_1243, q_1244⟩
abbrev mi_X12_seenSign : MI := (yX12_seenSign, Cond.code yX12_seenSign cX12_seenSign 3 (some .int), cX12_seenSign, 3, (some .int), [], 0, 0, 0, none)
theorem cf_X12_seenSign : CFv mi_X12_seenSign 2 := ⟨⟨rfl, q_1260, wall_i_LeafStripesModel, ⟨by decide, by decide, by decide +kernel⟩, by decide⟩, q_1258, q_1259⟩
abbrev mi_X12_isNews : MI := (yX12_isNews, Cond.code yX12_isNews cX12_isNews 5 (some .boolean), cX12_isNews, 5, (some .boolean), [], 0, 0, 0, none)
theorem cf_X12_isNews : CFv mi_X12_isNews 2 := ⟨⟨rfl, q_1313, wall_i_LeafStripesModel, ⟨by decide, by decide, by decide +kernel⟩, by decide⟩, q_1311, q_1312⟩
abbrev mi_X12_folded : MI := (yX12_folded, Cond.code yX12_folded cX12_folded 7 (some .int), cX12_folded, 7, (some .int), [], 0, 0, 0, none)
theorem cf_X12_folded : CFv mi_X12_folded 5 := ⟨⟨rfl, q_1309, wall_i_LeafStripesModel, ⟨by decide, by decide, by decide +kernel⟩, by decide⟩, q_1307, q_1308⟩
abbrev mi_X12_fold : MI := (yX12_fold, Cond.code yX12_fold cX12_fold 6 (some .int), cX12_fold, 6, (some .int), [], 0, 0, 0, none)
theorem cf_X12_fold : CFv mi_X12_fold 2 := ⟨⟨rfl, q_1304, wall_i_LeafStripesModel, ⟨by decide, by decide, by decide +kernel⟩, by decide⟩, q_1302, q_1303⟩
abbrev mi_X12_picked : MI := (yX12_picked, Cond.code yX12_picked cX12_picked 11 (some .int), cX12_picked, 11, (some .int), [], 0, 0, 0, none)
theorem cf_X12_picked : CFv mi_X12_picked 3 := ⟨⟨rfl, q_1328, wall_i_LeafStripesModel, ⟨by decide, by decide, by decide +kernel⟩, by decide⟩, q_1326, q_1327⟩
abbrev mi_X12_pages : MI := (yX12_pages, Cond.code yX12_pages cX12_pages 7 (some .int), cX12_pages, 7, (some .int), [], 0, 0, 0, none)
theorem cf_X12_pages : CFv mi_X12_pages 2 := ⟨⟨rfl, q_1345, wall_i_LeafStripesModel, ⟨by decide, by decide, by decide +kernel⟩, by decide⟩, q_1343, q_1344⟩
abbrev mi_X12_pipe : MI := (yX12_pipe, Cond.code yX12_pipe cX12_pipe 4 (some .int), cX12_pipe, 4, (some .int), [], 0, 0, 0, none)
theorem cf_X12_pipe : CFv mi_X12_pipe 1 := ⟨⟨rfl, q_779, wall_i_LeafStripesModel, ⟨by decide, by decide, by decide +kernel⟩, by decide⟩, q_777, q_778⟩
def f_X12_tell_14 : Nat → Nat → Int32 → Int32 → Int32 → Int32 → Mem → Option (Int32 × Mem)
  | 0, _, _, _, _, _, _ => none
  | n + 1, v0, v1, v2, v3, v5, M =>
    if mK M v0 = 13 then
      if mK M (mR M v0 24) = 21 then
        if inB (0 : Int32) (mN M (mR M v0 24)) = true then
          if (mI M (mR M v0 24) (0 : Int32).toNatClampNeg) ≤ v5 then
            bnd (f_X12_tellValues 6 v0 v1 (-1 : Int32) v3 (0 : Int32) M) fun _ M5 =>
            if mK M5 v0 = 13 then
              bnd (f_X12_say v0 (59 : Int32) M5) fun _ M8 =>
              if mK M8 v0 = 13 then
                some (mI M8 v0 41, M8)
              else none
            else none
          else
            bnd (f_X12_firstOf v0 v5 v2 M) fun r12 M11 =>
            if mK M11 (mR M v0 39) = 21 then
              if inB v5 (mN M11 (mR M v0 39)) = true then
                ap (sI M11 (mR M v0 39) v5.toNatClampNeg r12) fun M15 =>
                if mK M15 v0 = 13 then
                  if mK M15 (mR M15 v0 39) = 21 then
                    if inB v5 (mN M15 (mR M15 v0 39)) = true then
                      bnd (f_X12_behindOf v0 v5 (mI M15 (mR M15 v0 39) v5.toNatClampNeg) M15) fun r20 M19 =>
                      if mK M19 (mR M15 v0 40) = 21 then
                        if inB v5 (mN M19 (mR M15 v0 40)) = true then
                          ap (sI M19 (mR M15 v0 40) v5.toNatClampNeg r20) fun M23 =>
                          f_X12_tell_14 n v0 v1 v2 v3 (v5 + 1) M23
                        else none
                      else none
                    else none
                  else none
                else none
              else none
            else none
        else none
      else none
    else none
def f_X12_tell (v0 : Nat) (v1 : Int32) (v2 : Int32) (v3 : Int32) (v4 : Int32) (M : Mem) : Option (Int32 × Mem) :=
  if mK M v0 = 13 then
    ap (sI M v0 41 (0 : Int32)) fun M2 =>
    if mK M2 v0 = 13 then
      ap (sI M2 v0 42 v4) fun M4 =>
      f_X12_tell_14 FUEL v0 v1 v2 v3 (0 : Int32) M4
    else none
  else none
theorem s_X12_tell_14 : ∀ (n : Nat) (v0 : Nat) (v1 : Int32) (v2 : Int32) (v3 : Int32) (v5 : Int32) (M : Mem) (r : (Int32 × Mem)), f_X12_tell_14 n v0 v1 v2 v3 v5 M = some r → G mi_X12_tell 37 (oI r.1) r.2 14 [some (aR v0), some (aI v1), some (aI v2), some (aI v3), none, some (aI v5)] [] M 0 0 := by
  intro n
  induction n with
  | zero => intro v0 v1 v2 v3 v5 M r hf; cases hf
  | succ n ih =>
    intro v0 v1 v2 v3 v5 M r hf
    unfold f_X12_tell_14 at hf
    refine g_iload (pc' := 16) dX12_tell_14 rfl rfl ?_
    refine g_aload_n (pc' := 17) dX12_tell_16 rfl rfl ?_
    obtain ⟨h1, hf⟩ := chk_s hf
    refine g_getR (pc' := 20) 12 24 rfl rfl (by decide) inX12 (by decide) rfl rfl q_136 dX12_tell_17 rfl h1 ?_
    refine g_iconst (pc' := 21) (0 : Int32) dX12_tell_20 rfl (by decide) ?_
    obtain ⟨h2, hf⟩ := chk_s hf
    obtain ⟨b3, hf⟩ := chk_s hf
    refine g_iald (pc' := 22) dX12_tell_21 rfl h2 (inB_in b3) ?_
    refine g_icmp_ge (pc' := 25) 65 dX12_tell_22 rfl (by decide) (fun c4 => ?_) (fun c4 => ?_)
    · have hf := ite_t c4 hf
      refine g_aload_n (pc' := 66) dX12_tell_65 rfl rfl ?_
      refine g_iload_n (pc' := 67) dX12_tell_66 rfl rfl ?_
      refine g_iconst (pc' := 68) (-1 : Int32) dX12_tell_67 rfl (by decide) ?_
      refine g_iload_n (pc' := 69) dX12_tell_68 rfl rfl ?_
      refine g_iconst (pc' := 70) (0 : Int32) dX12_tell_69 rfl (by decide) ?_
      obtain ⟨_, M5, e6, hf⟩ := bnd_some hf
      refine g_callVv (pc' := 73) (k' := 0) (u' := 0) (fr2 := 6 * 6 + 0) (As := [aI v1, aI (-1 : Int32), aI v3, aI (0 : Int32)]) (b := v0) (st := []) cf_X12_tellValues q_1170 (by omega) (ci := 12) rfl rfl (by decide) dX12_tell_70 rfl rfl rfl (Nat.le_of_ble_eq_true rfl) (Or.inl rfl) (Nat.le_refl _) (Nat.le_refl _) (Nat.le_refl _) (Nat.le_refl _) h1 (s_X12_tellValues 6 v0 v1 (-1 : Int32) v3 (0 : Int32) M _ e6) ?_
      refine g_aload_n (pc' := 74) dX12_tell_73 rfl rfl ?_
      refine g_bipush (pc' := 76) (59 : Int32) dX12_tell_74 rfl (by decide) ?_
      obtain ⟨h7, hf⟩ := chk_s hf
      obtain ⟨_, M8, e9, hf⟩ := bnd_some hf
      refine g_callVv (pc' := 79) (k' := 0) (u' := 0) (fr2 := 1) (As := [aI (59 : Int32)]) (b := v0) (st := []) cf_X12_say q_1178 (by omega) (ci := 12) rfl rfl (by decide) dX12_tell_76 rfl rfl rfl (Nat.le_of_ble_eq_true rfl) (Or.inl rfl) (Nat.le_refl _) (Nat.le_refl _) (Nat.le_refl _) (Nat.le_refl _) h7 (s_X12_say v0 (59 : Int32) M5 _ e9) ?_
      refine g_aload_n (pc' := 80) dX12_tell_79 rfl rfl ?_
      obtain ⟨h10, hf⟩ := chk_s hf
      refine g_getI (pc' := 83) 12 41 rfl rfl (by decide) inX12 (by decide) rfl rfl q_1168 dX12_tell_80 rfl h10 ?_
      cases hf
      exact g_ireturn dX12_tell_83 rfl (Nat.le_of_ble_eq_true rfl) (Nat.le_of_ble_eq_true rfl)
    · have hf := ite_f c4 hf
      refine g_aload_n (pc' := 26) dX12_tell_25 rfl rfl ?_
      refine g_getR (pc' := 29) 12 39 rfl rfl (by decide) inX12 (by decide) rfl rfl q_145 dX12_tell_26 rfl h1 ?_
      refine g_iload (pc' := 31) dX12_tell_29 rfl rfl ?_
      refine g_aload_n (pc' := 32) dX12_tell_31 rfl rfl ?_
      refine g_iload (pc' := 34) dX12_tell_32 rfl rfl ?_
      refine g_iload_n (pc' := 35) dX12_tell_34 rfl rfl ?_
      obtain ⟨r12, M11, e12, hf⟩ := bnd_some hf
      refine g_callVi (pc' := 38) (k' := 0) (u' := 0) (fr2 := 2) (As := [aI v5, aI v2]) (b := v0) (st := [aI v5, aR (mR M v0 39)]) cf_X12_firstOf q_1038 (by omega) (ci := 12) rfl rfl (by decide) dX12_tell_35 rfl rfl rfl (Nat.le_of_ble_eq_true rfl) (Or.inl rfl) (Nat.le_refl _) (Nat.le_refl _) (Nat.le_refl _) (Nat.le_refl _) h1 (s_X12_firstOf v0 v5 v2 M _ e12) ?_
      obtain ⟨h13, hf⟩ := chk_s hf
      obtain ⟨b14, hf⟩ := chk_s hf
      refine g_iast (pc' := 39) dX12_tell_38 rfl h13 (inB_in b14) (gM fun M15 hM15 => ?_)
      have hf := ap_eq hf hM15
      refine g_aload_n (pc' := 40) dX12_tell_39 rfl rfl ?_
      obtain ⟨h16, hf⟩ := chk_s hf
      refine g_getR (pc' := 43) 12 40 rfl rfl (by decide) inX12 (by decide) rfl rfl q_146 dX12_tell_40 rfl h16 ?_
      refine g_iload (pc' := 45) dX12_tell_43 rfl rfl ?_
      refine g_aload_n (pc' := 46) dX12_tell_45 rfl rfl ?_
      refine g_iload (pc' := 48) dX12_tell_46 rfl rfl ?_
      refine g_aload_n (pc' := 49) dX12_tell_48 rfl rfl ?_
      refine g_getR (pc' := 52) 12 39 rfl rfl (by decide) inX12 (by decide) rfl rfl q_145 dX12_tell_49 rfl h16 ?_
      refine g_iload (pc' := 54) dX12_tell_52 rfl rfl ?_
      obtain ⟨h17, hf⟩ := chk_s hf
      obtain ⟨b18, hf⟩ := chk_s hf
      refine g_iald (pc' := 55) dX12_tell_54 rfl h17 (inB_in b18) ?_
      obtain ⟨r20, M19, e20, hf⟩ := bnd_some hf
      refine g_callVi (pc' := 58) (k' := 0) (u' := 0) (fr2 := 3) (As := [aI v5, aI (mI M15 (mR M15 v0 39) v5.toNatClampNeg)]) (b := v0) (st := [aI v5, aR (mR M15 v0 40)]) cf_X12_behindOf q_1042 (by omega) (ci := 12) rfl rfl (by decide) dX12_tell_55 rfl rfl rfl (Nat.le_of_ble_eq_true rfl) (Or.inl rfl) (Nat.le_refl _) (Nat.le_refl _) (Nat.le_refl _) (Nat.le_refl _) h16 (s_X12_behindOf v0 v5 (mI M15 (mR M15 v0 39) v5.toNatClampNeg) M15 _ e20) ?_
      obtain ⟨h21, hf⟩ := chk_s hf
      obtain ⟨b22, hf⟩ := chk_s hf
      refine g_iast (pc' := 59) dX12_tell_58 rfl h21 (inB_in b22) (gM fun M23 hM23 => ?_)
      have hf := ap_eq hf hM23
      refine g_iinc (pc' := 62) (lv' := [some (aR v0), some (aI v1), some (aI v2), some (aI v3), none, some (aI (v5 + 1))]) (v5 + 1) dX12_tell_59 rfl rfl (by rfl) rfl (by decide) rfl ?_
      refine g_goto (pc' := 14) dX12_tell_62 (by decide) ?_
      refine g_widen (k' := 0) (u' := 0) (by omega) (by omega) ?_
      exact ih v0 v1 v2 v3 (v5 + 1) M23 _ hf
theorem s_X12_tell (v0 : Nat) (v1 : Int32) (v2 : Int32) (v3 : Int32) (v4 : Int32) (M : Mem) (r : (Int32 × Mem)) (hf : f_X12_tell v0 v1 v2 v3 v4 M = some r) : Sem mi_X12_tell (37) [aR v0, aI v1, aI v2, aI v3, aI v4] M (oI r.1) r.2 := by
  unfold f_X12_tell at hf
  refine sem_of (by decide) rfl rfl rfl (Nat.le_of_ble_eq_true rfl) (lv := [some (aR v0), some (aI v1), some (aI v2), some (aI v3), some (aI v4), none]) rfl ?_
  refine g_aload_n (pc' := 1) dX12_tell_0 rfl rfl ?_
  refine g_iconst (pc' := 2) (0 : Int32) dX12_tell_1 rfl (by decide) ?_
  obtain ⟨h1, hf⟩ := chk_s hf
  refine g_putI (pc' := 5) 12 41 rfl rfl (by decide) inX12 tyX12_ok nmX12 (by decide) rfl rfl rfl rfl q_1168 dX12_tell_2 rfl h1 (gM fun M2 hM2 => ?_)
  have hf := ap_eq hf hM2
  refine g_aload_n (pc' := 6) dX12_tell_5 rfl rfl ?_
  refine g_iload (pc' := 8) dX12_tell_6 rfl rfl ?_
  obtain ⟨h3, hf⟩ := chk_s hf
  refine g_putI (pc' := 11) 12 42 rfl rfl (by decide) inX12 tyX12_ok nmX12 (by decide) rfl rfl rfl rfl q_1169 dX12_tell_8 rfl h3 (gM fun M4 hM4 => ?_)
  have hf := ap_eq hf hM4
  refine g_iconst (pc' := 12) (0 : Int32) dX12_tell_11 rfl (by decide) ?_
  refine g_istore (pc' := 14) (lv' := [some (aR v0), some (aI v1), some (aI v2), some (aI v3), some (aI v4), some (aI (0 : Int32))]) dX12_tell_12 rfl rfl (by decide) rfl ?_
  refine g_mask [true, true, true, true, false, true] rfl ?_
  exact s_X12_tell_14 FUEL v0 v1 v2 v3 (0 : Int32) M4 _ hf
def f_X12_length (v0 : Nat) (v1 : Int32) (v2 : Int32) (M : Mem) : Option (Int32 × Mem) :=
  if mK M v0 = 13 then
    ap (sI M v0 2 (0 : Int32)) fun M2 =>
    if mK M2 v0 = 13 then
      bnd (f_X12_isRecord v0 v1 M2) fun r5 M4 =>
      if r5 = 0 then
        if mK M4 v0 = 13 then
          bnd (f_X12_fail v0 (1 : Int32) M4) fun r23 M22 =>
          some (r23, M22)
        else none
      else
        if mK M4 v0 = 13 then
          bnd (f_X12_isSet v0 v2 M4) fun r9 M8 =>
          if r9 = 0 then
            if mK M8 v0 = 13 then
              bnd (f_X12_fail v0 (2 : Int32) M8) fun r20 M19 =>
              some (r20, M19)
            else none
          else
            if mK M8 v0 = 13 then
              bnd (f_X12_checked v0 M8) fun r13 M12 =>
              if r13 = 0 then
                if mK M12 v0 = 13 then
                  bnd (f_X12_tell v0 (0 : Int32) v1 v2 (-1 : Int32) M12) fun r17 M16 =>
                  some (r17, M16)
                else none
              else
                some ((-1 : Int32), M12)
            else none
        else none
    else none
  else none
theorem s_X12_length (v0 : Nat) (v1 : Int32) (v2 : Int32) (M : Mem) (r : (Int32 × Mem)) (hf : f_X12_length v0 v1 v2 M = some r) : Sem mi_X12_length (38) [aR v0, aI v1, aI v2] M (oI r.1) r.2 := by
  unfold f_X12_length at hf
  refine sem_of (by decide) rfl rfl rfl (Nat.le_of_ble_eq_true rfl) (lv := [some (aR v0), some (aI v1), some (aI v2)]) rfl ?_
  refine g_aload_n (pc' := 1) dX12_length_0 rfl rfl ?_
  refine g_iconst (pc' := 2) (0 : Int32) dX12_length_1 rfl (by decide) ?_
  obtain ⟨h1, hf⟩ := chk_s hf
  refine g_putI (pc' := 5) 12 2 rfl rfl (by decide) inX12 tyX12_ok nmX12 (by decide) rfl rfl rfl rfl q_167 dX12_length_2 rfl h1 (gM fun M2 hM2 => ?_)
  have hf := ap_eq hf hM2
  refine g_aload_n (pc' := 6) dX12_length_5 rfl rfl ?_
  refine g_iload_n (pc' := 7) dX12_length_6 rfl rfl ?_
  obtain ⟨h3, hf⟩ := chk_s hf
  obtain ⟨r5, M4, e5, hf⟩ := bnd_some hf
  refine g_callVi (pc' := 10) (k' := 0) (u' := 0) (fr2 := 2) (As := [aI v1]) (b := v0) (st := []) cf_X12_isRecord q_1034 (by omega) (ci := 12) rfl rfl (by decide) dX12_length_7 rfl rfl rfl (Nat.le_of_ble_eq_true rfl) (Or.inl rfl) (Nat.le_refl _) (Nat.le_refl _) (Nat.le_refl _) (Nat.le_refl _) h3 (s_X12_isRecord v0 v1 M2 _ e5) ?_
  refine g_if_ne (pc' := 13) 19 dX12_length_10 rfl (by decide) (fun c6 => ?_) (fun c6 => ?_)
  · have hf := ite_f c6 hf
    refine g_aload_n (pc' := 20) dX12_length_19 rfl rfl ?_
    refine g_iload_n (pc' := 21) dX12_length_20 rfl rfl ?_
    obtain ⟨h7, hf⟩ := chk_s hf
    obtain ⟨r9, M8, e9, hf⟩ := bnd_some hf
    refine g_callVi (pc' := 24) (k' := 0) (u' := 0) (fr2 := 1) (As := [aI v2]) (b := v0) (st := []) cf_X12_isSet q_1070 (by omega) (ci := 12) rfl rfl (by decide) dX12_length_21 rfl rfl rfl (Nat.le_of_ble_eq_true rfl) (Or.inl rfl) (Nat.le_refl _) (Nat.le_refl _) (Nat.le_refl _) (Nat.le_refl _) h7 (s_X12_isSet v0 v2 M4 _ e9) ?_
    refine g_if_ne (pc' := 27) 33 dX12_length_24 rfl (by decide) (fun c10 => ?_) (fun c10 => ?_)
    · have hf := ite_f c10 hf
      refine g_aload_n (pc' := 34) dX12_length_33 rfl rfl ?_
      obtain ⟨h11, hf⟩ := chk_s hf
      obtain ⟨r13, M12, e13, hf⟩ := bnd_some hf
      refine g_callVi (pc' := 37) (k' := 0) (u' := 0) (fr2 := 4) (As := []) (b := v0) (st := []) cf_X12_checked q_648 (by omega) (ci := 12) rfl rfl (by decide) dX12_length_34 rfl rfl rfl (Nat.le_of_ble_eq_true rfl) (Or.inl rfl) (Nat.le_refl _) (Nat.le_refl _) (Nat.le_refl _) (Nat.le_refl _) h11 (s_X12_checked v0 M8 _ e13) ?_
      refine g_if_eq (pc' := 40) 44 dX12_length_37 rfl (by decide) (fun c14 => ?_) (fun c14 => ?_)
      · have hf := ite_t c14 hf
        refine g_aload_n (pc' := 45) dX12_length_44 rfl rfl ?_
        refine g_iconst (pc' := 46) (0 : Int32) dX12_length_45 rfl (by decide) ?_
        refine g_iload_n (pc' := 47) dX12_length_46 rfl rfl ?_
        refine g_iload_n (pc' := 48) dX12_length_47 rfl rfl ?_
        refine g_iconst (pc' := 49) (-1 : Int32) dX12_length_48 rfl (by decide) ?_
        obtain ⟨h15, hf⟩ := chk_s hf
        obtain ⟨r17, M16, e17, hf⟩ := bnd_some hf
        refine g_callVi (pc' := 52) (k' := 0) (u' := 0) (fr2 := 37) (As := [aI (0 : Int32), aI v1, aI v2, aI (-1 : Int32)]) (b := v0) (st := []) cf_X12_tell q_1164 (by omega) (ci := 12) rfl rfl (by decide) dX12_length_49 rfl rfl rfl (Nat.le_of_ble_eq_true rfl) (Or.inl rfl) (Nat.le_refl _) (Nat.le_refl _) (Nat.le_refl _) (Nat.le_refl _) h15 (s_X12_tell v0 (0 : Int32) v1 v2 (-1 : Int32) M12 _ e17) ?_
        cases hf
        exact g_ireturn dX12_length_52 rfl (Nat.le_of_ble_eq_true rfl) (Nat.le_of_ble_eq_true rfl)
      · have hf := ite_f c14 hf
        refine g_iconst (pc' := 41) (-1 : Int32) dX12_length_40 rfl (by decide) ?_
        refine g_goto (pc' := 52) dX12_length_41 (by decide) ?_
        cases hf
        exact g_ireturn dX12_length_52 rfl (Nat.le_of_ble_eq_true rfl) (Nat.le_of_ble_eq_true rfl)
    · have hf := ite_t c10 hf
      refine g_aload_n (pc' := 28) dX12_length_27 rfl rfl ?_
      refine g_iconst (pc' := 29) (2 : Int32) dX12_length_28 rfl (by decide) ?_
      obtain ⟨h18, hf⟩ := chk_s hf
      obtain ⟨r20, M19, e20, hf⟩ := bnd_some hf
      refine g_callVi (pc' := 32) (k' := 0) (u' := 0) (fr2 := 1) (As := [aI (2 : Int32)]) (b := v0) (st := []) cf_X12_fail q_904 (by omega) (ci := 12) rfl rfl (by decide) dX12_length_29 rfl rfl rfl (Nat.le_of_ble_eq_true rfl) (Or.inl rfl) (Nat.le_refl _) (Nat.le_refl _) (Nat.le_refl _) (Nat.le_refl _) h18 (s_X12_fail v0 (2 : Int32) M8 _ e20) ?_
      cases hf
      exact g_ireturn dX12_length_32 rfl (Nat.le_of_ble_eq_true rfl) (Nat.le_of_ble_eq_true rfl)
  · have hf := ite_t c6 hf
    refine g_aload_n (pc' := 14) dX12_length_13 rfl rfl ?_
    refine g_iconst (pc' := 15) (1 : Int32) dX12_length_14 rfl (by decide) ?_
    obtain ⟨h21, hf⟩ := chk_s hf
    obtain ⟨r23, M22, e23, hf⟩ := bnd_some hf
    refine g_callVi (pc' := 18) (k' := 0) (u' := 0) (fr2 := 1) (As := [aI (1 : Int32)]) (b := v0) (st := []) cf_X12_fail q_904 (by omega) (ci := 12) rfl rfl (by decide) dX12_length_15 rfl rfl rfl (Nat.le_of_ble_eq_true rfl) (Or.inl rfl) (Nat.le_refl _) (Nat.le_refl _) (Nat.le_refl _) (Nat.le_refl _) h21 (s_X12_fail v0 (1 : Int32) M4 _ e23) ?_
    cases hf
    exact g_ireturn dX12_length_18 rfl (Nat.le_of_ble_eq_true rfl) (Nat.le_of_ble_eq_true rfl)
def f_X12_sign_63 (v0 : Nat) (M : Mem) : Option (Int32 × Mem) :=
  if mK M v0 = 13 then
    bnd (f_X12_fail v0 (1 : Int32) M) fun r3 M2 =>
    some (r3, M2)
  else none
def f_X12_sign (v0 : Nat) (v1 : Int32) (v2 : Int32) (v3 : Int32) (M : Mem) : Option (Int32 × Mem) :=
  if mK M v0 = 13 then
    ap (sI M v0 2 (0 : Int32)) fun M2 =>
    if mK M2 v0 = 13 then
      bnd (f_X12_isRecord v0 v1 M2) fun r5 M4 =>
      if r5 = 0 then
        if mK M4 v0 = 13 then
          bnd (f_X12_fail v0 (1 : Int32) M4) fun r26 M25 =>
          some (r26, M25)
        else none
      else
        if mK M4 v0 = 13 then
          bnd (f_X12_isSet v0 v2 M4) fun r9 M8 =>
          if r9 = 0 then
            if mK M8 v0 = 13 then
              bnd (f_X12_fail v0 (2 : Int32) M8) fun r23 M22 =>
              some (r23, M22)
            else none
          else
            if mK M8 v0 = 13 then
              bnd (f_X12_checked v0 M8) fun r13 M12 =>
              if r13 = 0 then
                if v3 < 0 then
                  f_X12_sign_63 v0 M12
                else
                  if mK M12 v0 = 13 then
                    bnd (f_X12_tell v0 (0 : Int32) v1 v2 v3 M12) fun r18 M17 =>
                    if r18 ≤ v3 then
                      f_X12_sign_63 v0 M17
                    else
                      if mK M17 v0 = 13 then
                        some (mI M17 v0 43, M17)
                      else none
                  else none
              else
                f_X12_sign_63 v0 M12
            else none
        else none
    else none
  else none
theorem s_X12_sign_63 (v0 : Nat) (M : Mem) (r : (Int32 × Mem)) (hf : f_X12_sign_63 v0 M = some r) : G mi_X12_sign 38 (oI r.1) r.2 63 [some (aR v0), none, none, none] [] M 0 0 := by
  unfold f_X12_sign_63 at hf
  refine g_aload_n (pc' := 64) dX12_sign_63 rfl rfl ?_
  refine g_iconst (pc' := 65) (1 : Int32) dX12_sign_64 rfl (by decide) ?_
  obtain ⟨h1, hf⟩ := chk_s hf
  obtain ⟨r3, M2, e3, hf⟩ := bnd_some hf
  refine g_callVi (pc' := 68) (k' := 0) (u' := 0) (fr2 := 1) (As := [aI (1 : Int32)]) (b := v0) (st := []) cf_X12_fail q_904 (by omega) (ci := 12) rfl rfl (by decide) dX12_sign_65 rfl rfl rfl (Nat.le_of_ble_eq_true rfl) (Or.inl rfl) (Nat.le_refl _) (Nat.le_refl _) (Nat.le_refl _) (Nat.le_refl _) h1 (s_X12_fail v0 (1 : Int32) M _ e3) ?_
  cases hf
  exact g_ireturn dX12_sign_68 rfl (Nat.le_of_ble_eq_true rfl) (Nat.le_of_ble_eq_true rfl)
theorem s_X12_sign (v0 : Nat) (v1 : Int32) (v2 : Int32) (v3 : Int32) (M : Mem) (r : (Int32 × Mem)) (hf : f_X12_sign v0 v1 v2 v3 M = some r) : Sem mi_X12_sign (38) [aR v0, aI v1, aI v2, aI v3] M (oI r.1) r.2 := by
  unfold f_X12_sign at hf
  refine sem_of (by decide) rfl rfl rfl (Nat.le_of_ble_eq_true rfl) (lv := [some (aR v0), some (aI v1), some (aI v2), some (aI v3)]) rfl ?_
  refine g_aload_n (pc' := 1) dX12_sign_0 rfl rfl ?_
  refine g_iconst (pc' := 2) (0 : Int32) dX12_sign_1 rfl (by decide) ?_
  obtain ⟨h1, hf⟩ := chk_s hf
  refine g_putI (pc' := 5) 12 2 rfl rfl (by decide) inX12 tyX12_ok nmX12 (by decide) rfl rfl rfl rfl q_167 dX12_sign_2 rfl h1 (gM fun M2 hM2 => ?_)
  have hf := ap_eq hf hM2
  refine g_aload_n (pc' := 6) dX12_sign_5 rfl rfl ?_
  refine g_iload_n (pc' := 7) dX12_sign_6 rfl rfl ?_
  obtain ⟨h3, hf⟩ := chk_s hf
  obtain ⟨r5, M4, e5, hf⟩ := bnd_some hf
  refine g_callVi (pc' := 10) (k' := 0) (u' := 0) (fr2 := 2) (As := [aI v1]) (b := v0) (st := []) cf_X12_isRecord q_1034 (by omega) (ci := 12) rfl rfl (by decide) dX12_sign_7 rfl rfl rfl (Nat.le_of_ble_eq_true rfl) (Or.inl rfl) (Nat.le_refl _) (Nat.le_refl _) (Nat.le_refl _) (Nat.le_refl _) h3 (s_X12_isRecord v0 v1 M2 _ e5) ?_
  refine g_if_ne (pc' := 13) 19 dX12_sign_10 rfl (by decide) (fun c6 => ?_) (fun c6 => ?_)
  · have hf := ite_f c6 hf
    refine g_aload_n (pc' := 20) dX12_sign_19 rfl rfl ?_
    refine g_iload_n (pc' := 21) dX12_sign_20 rfl rfl ?_
    obtain ⟨h7, hf⟩ := chk_s hf
    obtain ⟨r9, M8, e9, hf⟩ := bnd_some hf
    refine g_callVi (pc' := 24) (k' := 0) (u' := 0) (fr2 := 1) (As := [aI v2]) (b := v0) (st := []) cf_X12_isSet q_1070 (by omega) (ci := 12) rfl rfl (by decide) dX12_sign_21 rfl rfl rfl (Nat.le_of_ble_eq_true rfl) (Or.inl rfl) (Nat.le_refl _) (Nat.le_refl _) (Nat.le_refl _) (Nat.le_refl _) h7 (s_X12_isSet v0 v2 M4 _ e9) ?_
    refine g_if_ne (pc' := 27) 33 dX12_sign_24 rfl (by decide) (fun c10 => ?_) (fun c10 => ?_)
    · have hf := ite_f c10 hf
      refine g_aload_n (pc' := 34) dX12_sign_33 rfl rfl ?_
      obtain ⟨h11, hf⟩ := chk_s hf
      obtain ⟨r13, M12, e13, hf⟩ := bnd_some hf
      refine g_callVi (pc' := 37) (k' := 0) (u' := 0) (fr2 := 4) (As := []) (b := v0) (st := []) cf_X12_checked q_648 (by omega) (ci := 12) rfl rfl (by decide) dX12_sign_34 rfl rfl rfl (Nat.le_of_ble_eq_true rfl) (Or.inl rfl) (Nat.le_refl _) (Nat.le_refl _) (Nat.le_refl _) (Nat.le_refl _) h11 (s_X12_checked v0 M8 _ e13) ?_
      refine g_if_ne (pc' := 40) 63 dX12_sign_37 rfl (by decide) (fun c14 => ?_) (fun c14 => ?_)
      · have hf := ite_f c14 hf
        refine g_mask [true, false, false, false] rfl ?_
        refine g_widen (k' := 0) (u' := 0) (by omega) (by omega) ?_
        exact s_X12_sign_63 v0 M12 _ hf
      · have hf := ite_t c14 hf
        refine g_iload_n (pc' := 41) dX12_sign_40 rfl rfl ?_
        refine g_if_lt (pc' := 44) 63 dX12_sign_41 rfl (by decide) (fun c15 => ?_) (fun c15 => ?_)
        · have hf := ite_t c15 hf
          refine g_mask [true, false, false, false] rfl ?_
          refine g_widen (k' := 0) (u' := 0) (by omega) (by omega) ?_
          exact s_X12_sign_63 v0 M12 _ hf
        · have hf := ite_f c15 hf
          refine g_iload_n (pc' := 45) dX12_sign_44 rfl rfl ?_
          refine g_aload_n (pc' := 46) dX12_sign_45 rfl rfl ?_
          refine g_iconst (pc' := 47) (0 : Int32) dX12_sign_46 rfl (by decide) ?_
          refine g_iload_n (pc' := 48) dX12_sign_47 rfl rfl ?_
          refine g_iload_n (pc' := 49) dX12_sign_48 rfl rfl ?_
          refine g_iload_n (pc' := 50) dX12_sign_49 rfl rfl ?_
          obtain ⟨h16, hf⟩ := chk_s hf
          obtain ⟨r18, M17, e18, hf⟩ := bnd_some hf
          refine g_callVi (pc' := 53) (k' := 0) (u' := 0) (fr2 := 37) (As := [aI (0 : Int32), aI v1, aI v2, aI v3]) (b := v0) (st := [aI v3]) cf_X12_tell q_1164 (by omega) (ci := 12) rfl rfl (by decide) dX12_sign_50 rfl rfl rfl (Nat.le_of_ble_eq_true rfl) (Or.inl rfl) (Nat.le_refl _) (Nat.le_refl _) (Nat.le_refl _) (Nat.le_refl _) h16 (s_X12_tell v0 (0 : Int32) v1 v2 v3 M12 _ e18) ?_
          refine g_icmp_ge (pc' := 56) 63 dX12_sign_53 rfl (by decide) (fun c19 => ?_) (fun c19 => ?_)
          · have hf := ite_t c19 hf
            refine g_mask [true, false, false, false] rfl ?_
            refine g_widen (k' := 0) (u' := 0) (by omega) (by omega) ?_
            exact s_X12_sign_63 v0 M17 _ hf
          · have hf := ite_f c19 hf
            refine g_aload_n (pc' := 57) dX12_sign_56 rfl rfl ?_
            obtain ⟨h20, hf⟩ := chk_s hf
            refine g_getI (pc' := 60) 12 43 rfl rfl (by decide) inX12 (by decide) rfl rfl q_1182 dX12_sign_57 rfl h20 ?_
            refine g_goto (pc' := 68) dX12_sign_60 (by decide) ?_
            cases hf
            exact g_ireturn dX12_sign_68 rfl (Nat.le_of_ble_eq_true rfl) (Nat.le_of_ble_eq_true rfl)
    · have hf := ite_t c10 hf
      refine g_aload_n (pc' := 28) dX12_sign_27 rfl rfl ?_
      refine g_iconst (pc' := 29) (2 : Int32) dX12_sign_28 rfl (by decide) ?_
      obtain ⟨h21, hf⟩ := chk_s hf
      obtain ⟨r23, M22, e23, hf⟩ := bnd_some hf
      refine g_callVi (pc' := 32) (k' := 0) (u' := 0) (fr2 := 1) (As := [aI (2 : Int32)]) (b := v0) (st := []) cf_X12_fail q_904 (by omega) (ci := 12) rfl rfl (by decide) dX12_sign_29 rfl rfl rfl (Nat.le_of_ble_eq_true rfl) (Or.inl rfl) (Nat.le_refl _) (Nat.le_refl _) (Nat.le_refl _) (Nat.le_refl _) h21 (s_X12_fail v0 (2 : Int32) M8 _ e23) ?_
      cases hf
      exact g_ireturn dX12_sign_32 rfl (Nat.le_of_ble_eq_true rfl) (Nat.le_of_ble_eq_true rfl)
  · have hf := ite_t c6 hf
    refine g_aload_n (pc' := 14) dX12_sign_13 rfl rfl ?_
    refine g_iconst (pc' := 15) (1 : Int32) dX12_sign_14 rfl (by decide) ?_
    obtain ⟨h24, hf⟩ := chk_s hf
    obtain ⟨r26, M25, e26, hf⟩ := bnd_some hf
    refine g_callVi (pc' := 18) (k' := 0) (u' := 0) (fr2 := 1) (As := [aI (1 : Int32)]) (b := v0) (st := []) cf_X12_fail q_904 (by omega) (ci := 12) rfl rfl (by decide) dX12_sign_15 rfl rfl rfl (Nat.le_of_ble_eq_true rfl) (Or.inl rfl) (Nat.le_refl _) (Nat.le_refl _) (Nat.le_refl _) (Nat.le_refl _) h24 (s_X12_fail v0 (1 : Int32) M4 _ e26) ?_
    cases hf
    exact g_ireturn dX12_sign_18 rfl (Nat.le_of_ble_eq_true rfl) (Nat.le_of_ble_eq_true rfl)
def f_X12_isSeen (v0 : Nat) (M : Mem) : Option (Int32 × Mem) :=
  if mK M v0 = 13 then
    if mK M (mR M v0 23) = 21 then
      if inB (1 : Int32) (mN M (mR M v0 23)) = true then
        if (mI M (mR M v0 23) (1 : Int32).toNatClampNeg) ≤ 0 then
          some ((0 : Int32), M)
        else
          bnd (f_X12_checked v0 M) fun r6 M5 =>
          if r6 = 0 then
            some ((1 : Int32), M5)
          else
            some ((0 : Int32), M5)
      else none
    else none
  else none
theorem s_X12_isSeen (v0 : Nat) (M : Mem) (r : (Int32 × Mem)) (hf : f_X12_isSeen v0 M = some r) : Sem mi_X12_isSeen (5) [aR v0] M (oI r.1) r.2 := by
  unfold f_X12_isSeen at hf
  refine sem_of (by decide) rfl rfl rfl (Nat.le_of_ble_eq_true rfl) (lv := [some (aR v0)]) rfl ?_
  refine g_aload_n (pc' := 1) dX12_isSeen_0 rfl rfl ?_
  obtain ⟨h1, hf⟩ := chk_s hf
  refine g_getR (pc' := 4) 12 23 rfl rfl (by decide) inX12 (by decide) rfl rfl q_135 dX12_isSeen_1 rfl h1 ?_
  refine g_iconst (pc' := 5) (1 : Int32) dX12_isSeen_4 rfl (by decide) ?_
  obtain ⟨h2, hf⟩ := chk_s hf
  obtain ⟨b3, hf⟩ := chk_s hf
  refine g_iald (pc' := 6) dX12_isSeen_5 rfl h2 (inB_in b3) ?_
  refine g_if_le (pc' := 9) 20 dX12_isSeen_6 rfl (by decide) (fun c4 => ?_) (fun c4 => ?_)
  · have hf := ite_t c4 hf
    refine g_iconst (pc' := 21) (0 : Int32) dX12_isSeen_20 rfl (by decide) ?_
    cases hf
    exact g_zreturn dX12_isSeen_21 rfl (Or.inl rfl) (Nat.le_of_ble_eq_true rfl) (Nat.le_of_ble_eq_true rfl)
  · have hf := ite_f c4 hf
    refine g_aload_n (pc' := 10) dX12_isSeen_9 rfl rfl ?_
    obtain ⟨r6, M5, e6, hf⟩ := bnd_some hf
    refine g_callVi (pc' := 13) (k' := 0) (u' := 0) (fr2 := 4) (As := []) (b := v0) (st := []) cf_X12_checked q_648 (by omega) (ci := 12) rfl rfl (by decide) dX12_isSeen_10 rfl rfl rfl (Nat.le_of_ble_eq_true rfl) (Or.inl rfl) (Nat.le_refl _) (Nat.le_refl _) (Nat.le_refl _) (Nat.le_refl _) h1 (s_X12_checked v0 M _ e6) ?_
    refine g_if_ne (pc' := 16) 20 dX12_isSeen_13 rfl (by decide) (fun c7 => ?_) (fun c7 => ?_)
    · have hf := ite_f c7 hf
      refine g_iconst (pc' := 21) (0 : Int32) dX12_isSeen_20 rfl (by decide) ?_
      cases hf
      exact g_zreturn dX12_isSeen_21 rfl (Or.inl rfl) (Nat.le_of_ble_eq_true rfl) (Nat.le_of_ble_eq_true rfl)
    · have hf := ite_t c7 hf
      refine g_iconst (pc' := 17) (1 : Int32) dX12_isSeen_16 rfl (by decide) ?_
      refine g_goto (pc' := 21) dX12_isSeen_17 (by decide) ?_
      cases hf
      exact g_zreturn dX12_isSeen_21 rfl (Or.inr rfl) (Nat.le_of_ble_eq_true rfl) (Nat.le_of_ble_eq_true rfl)
def f_X12_seen (v0 : Nat) (v1 : Int32) (M : Mem) : Option (Int32 × Mem) :=
  if mK M v0 = 13 then
    ap (sI M v0 2 (0 : Int32)) fun M2 =>
    if mK M2 v0 = 13 then
      bnd (f_X12_isRecord v0 v1 M2) fun r5 M4 =>
      if r5 = 0 then
        if mK M4 v0 = 13 then
          bnd (f_X12_fail v0 (1 : Int32) M4) fun r16 M15 =>
          some (r16, M15)
        else none
      else
        if mK M4 v0 = 13 then
          bnd (f_X12_isSeen v0 M4) fun r9 M8 =>
          if r9 = 0 then
            some ((-1 : Int32), M8)
          else
            if mK M8 v0 = 13 then
              bnd (f_X12_tell v0 (16 : Int32) v1 (0 : Int32) (-1 : Int32) M8) fun r13 M12 =>
              some (r13, M12)
            else none
        else none
    else none
  else none
theorem s_X12_seen (v0 : Nat) (v1 : Int32) (M : Mem) (r : (Int32 × Mem)) (hf : f_X12_seen v0 v1 M = some r) : Sem mi_X12_seen (38) [aR v0, aI v1] M (oI r.1) r.2 := by
  unfold f_X12_seen at hf
  refine sem_of (by decide) rfl rfl rfl (Nat.le_of_ble_eq_true rfl) (lv := [some (aR v0), some (aI v1)]) rfl ?_
  refine g_aload_n (pc' := 1) dX12_seen_0 rfl rfl ?_
  refine g_iconst (pc' := 2) (0 : Int32) dX12_seen_1 rfl (by decide) ?_
  obtain ⟨h1, hf⟩ := chk_s hf
  refine g_putI (pc' := 5) 12 2 rfl rfl (by decide) inX12 tyX12_ok nmX12 (by decide) rfl rfl rfl rfl q_167 dX12_seen_2 rfl h1 (gM fun M2 hM2 => ?_)
  have hf := ap_eq hf hM2
  refine g_aload_n (pc' := 6) dX12_seen_5 rfl rfl ?_
  refine g_iload_n (pc' := 7) dX12_seen_6 rfl rfl ?_
  obtain ⟨h3, hf⟩ := chk_s hf
  obtain ⟨r5, M4, e5, hf⟩ := bnd_some hf
  refine g_callVi (pc' := 10) (k' := 0) (u' := 0) (fr2 := 2) (As := [aI v1]) (b := v0) (st := []) cf_X12_isRecord q_1034 (by omega) (ci := 12) rfl rfl (by decide) dX12_seen_7 rfl rfl rfl (Nat.le_of_ble_eq_true rfl) (Or.inl rfl) (Nat.le_refl _) (Nat.le_refl _) (Nat.le_refl _) (Nat.le_refl _) h3 (s_X12_isRecord v0 v1 M2 _ e5) ?_
  refine g_if_ne (pc' := 13) 19 dX12_seen_10 rfl (by decide) (fun c6 => ?_) (fun c6 => ?_)
  · have hf := ite_f c6 hf
    refine g_aload_n (pc' := 20) dX12_seen_19 rfl rfl ?_
    obtain ⟨h7, hf⟩ := chk_s hf
    obtain ⟨r9, M8, e9, hf⟩ := bnd_some hf
    refine g_callVi (pc' := 23) (k' := 0) (u' := 0) (fr2 := 5) (As := []) (b := v0) (st := []) cf_X12_isSeen q_1246 (by omega) (ci := 12) rfl rfl (by decide) dX12_seen_20 rfl rfl rfl (Nat.le_of_ble_eq_true rfl) (Or.inl rfl) (Nat.le_refl _) (Nat.le_refl _) (Nat.le_refl _) (Nat.le_refl _) h7 (s_X12_isSeen v0 M4 _ e9) ?_
    refine g_if_eq (pc' := 26) 38 dX12_seen_23 rfl (by decide) (fun c10 => ?_) (fun c10 => ?_)
    · have hf := ite_t c10 hf
      refine g_iconst (pc' := 39) (-1 : Int32) dX12_seen_38 rfl (by decide) ?_
      cases hf
      exact g_ireturn dX12_seen_39 rfl (Nat.le_of_ble_eq_true rfl) (Nat.le_of_ble_eq_true rfl)
    · have hf := ite_f c10 hf
      refine g_aload_n (pc' := 27) dX12_seen_26 rfl rfl ?_
      refine g_bipush (pc' := 29) (16 : Int32) dX12_seen_27 rfl (by decide) ?_
      refine g_iload_n (pc' := 30) dX12_seen_29 rfl rfl ?_
      refine g_iconst (pc' := 31) (0 : Int32) dX12_seen_30 rfl (by decide) ?_
      refine g_iconst (pc' := 32) (-1 : Int32) dX12_seen_31 rfl (by decide) ?_
      obtain ⟨h11, hf⟩ := chk_s hf
      obtain ⟨r13, M12, e13, hf⟩ := bnd_some hf
      refine g_callVi (pc' := 35) (k' := 0) (u' := 0) (fr2 := 37) (As := [aI (16 : Int32), aI v1, aI (0 : Int32), aI (-1 : Int32)]) (b := v0) (st := []) cf_X12_tell q_1164 (by omega) (ci := 12) rfl rfl (by decide) dX12_seen_32 rfl rfl rfl (Nat.le_of_ble_eq_true rfl) (Or.inl rfl) (Nat.le_refl _) (Nat.le_refl _) (Nat.le_refl _) (Nat.le_refl _) h11 (s_X12_tell v0 (16 : Int32) v1 (0 : Int32) (-1 : Int32) M8 _ e13) ?_
      refine g_goto (pc' := 39) dX12_seen_35 (by decide) ?_
      cases hf
      exact g_ireturn dX12_seen_39 rfl (Nat.le_of_ble_eq_true rfl) (Nat.le_of_ble_eq_true rfl)
  · have hf := ite_t c6 hf
    refine g_aload_n (pc' := 14) dX12_seen_13 rfl rfl ?_
    refine g_iconst (pc' := 15) (1 : Int32) dX12_seen_14 rfl (by decide) ?_
    obtain ⟨h14, hf⟩ := chk_s hf
    obtain ⟨r16, M15, e16, hf⟩ := bnd_some hf
    refine g_callVi (pc' := 18) (k' := 0) (u' := 0) (fr2 := 1) (As := [aI (1 : Int32)]) (b := v0) (st := []) cf_X12_fail q_904 (by omega) (ci := 12) rfl rfl (by decide) dX12_seen_15 rfl rfl rfl (Nat.le_of_ble_eq_true rfl) (Or.inl rfl) (Nat.le_refl _) (Nat.le_refl _) (Nat.le_refl _) (Nat.le_refl _) h14 (s_X12_fail v0 (1 : Int32) M4 _ e16) ?_
    cases hf
    exact g_ireturn dX12_seen_18 rfl (Nat.le_of_ble_eq_true rfl) (Nat.le_of_ble_eq_true rfl)
def f_X12_seenSign_44 (v0 : Nat) (M : Mem) : Option (Int32 × Mem) :=
  if mK M v0 = 13 then
    bnd (f_X12_fail v0 (1 : Int32) M) fun r3 M2 =>
    some (r3, M2)
  else none
def f_X12_seenSign (v0 : Nat) (v1 : Int32) (v2 : Int32) (M : Mem) : Option (Int32 × Mem) :=
  if mK M v0 = 13 then
    ap (sI M v0 2 (0 : Int32)) fun M2 =>
    if mK M2 v0 = 13 then
      bnd (f_X12_isRecord v0 v1 M2) fun r5 M4 =>
      if r5 = 0 then
        f_X12_seenSign_44 v0 M4
      else
        if mK M4 v0 = 13 then
          bnd (f_X12_isSeen v0 M4) fun r9 M8 =>
          if r9 = 0 then
            f_X12_seenSign_44 v0 M8
          else
            if v2 < 0 then
              f_X12_seenSign_44 v0 M8
            else
              if mK M8 v0 = 13 then
                bnd (f_X12_tell v0 (16 : Int32) v1 (0 : Int32) v2 M8) fun r14 M13 =>
                if r14 ≤ v2 then
                  f_X12_seenSign_44 v0 M13
                else
                  if mK M13 v0 = 13 then
                    some (mI M13 v0 43, M13)
                  else none
              else none
        else none
    else none
  else none
theorem s_X12_seenSign_44 (v0 : Nat) (M : Mem) (r : (Int32 × Mem)) (hf : f_X12_seenSign_44 v0 M = some r) : G mi_X12_seenSign 38 (oI r.1) r.2 44 [some (aR v0), none, none] [] M 0 0 := by
  unfold f_X12_seenSign_44 at hf
  refine g_aload_n (pc' := 45) dX12_seenSign_44 rfl rfl ?_
  refine g_iconst (pc' := 46) (1 : Int32) dX12_seenSign_45 rfl (by decide) ?_
  obtain ⟨h1, hf⟩ := chk_s hf
  obtain ⟨r3, M2, e3, hf⟩ := bnd_some hf
  refine g_callVi (pc' := 49) (k' := 0) (u' := 0) (fr2 := 1) (As := [aI (1 : Int32)]) (b := v0) (st := []) cf_X12_fail q_904 (by omega) (ci := 12) rfl rfl (by decide) dX12_seenSign_46 rfl rfl rfl (Nat.le_of_ble_eq_true rfl) (Or.inl rfl) (Nat.le_refl _) (Nat.le_refl _) (Nat.le_refl _) (Nat.le_refl _) h1 (s_X12_fail v0 (1 : Int32) M _ e3) ?_
  cases hf
  exact g_ireturn dX12_seenSign_49 rfl (Nat.le_of_ble_eq_true rfl) (Nat.le_of_ble_eq_true rfl)
theorem s_X12_seenSign (v0 : Nat) (v1 : Int32) (v2 : Int32) (M : Mem) (r : (Int32 × Mem)) (hf : f_X12_seenSign v0 v1 v2 M = some r) : Sem mi_X12_seenSign (38) [aR v0, aI v1, aI v2] M (oI r.1) r.2 := by
  unfold f_X12_seenSign at hf
  refine sem_of (by decide) rfl rfl rfl (Nat.le_of_ble_eq_true rfl) (lv := [some (aR v0), some (aI v1), some (aI v2)]) rfl ?_
  refine g_aload_n (pc' := 1) dX12_seenSign_0 rfl rfl ?_
  refine g_iconst (pc' := 2) (0 : Int32) dX12_seenSign_1 rfl (by decide) ?_
  obtain ⟨h1, hf⟩ := chk_s hf
  refine g_putI (pc' := 5) 12 2 rfl rfl (by decide) inX12 tyX12_ok nmX12 (by decide) rfl rfl rfl rfl q_167 dX12_seenSign_2 rfl h1 (gM fun M2 hM2 => ?_)
  have hf := ap_eq hf hM2
  refine g_aload_n (pc' := 6) dX12_seenSign_5 rfl rfl ?_
  refine g_iload_n (pc' := 7) dX12_seenSign_6 rfl rfl ?_
  obtain ⟨h3, hf⟩ := chk_s hf
  obtain ⟨r5, M4, e5, hf⟩ := bnd_some hf
  refine g_callVi (pc' := 10) (k' := 0) (u' := 0) (fr2 := 2) (As := [aI v1]) (b := v0) (st := []) cf_X12_isRecord q_1034 (by omega) (ci := 12) rfl rfl (by decide) dX12_seenSign_7 rfl rfl rfl (Nat.le_of_ble_eq_true rfl) (Or.inl rfl) (Nat.le_refl _) (Nat.le_refl _) (Nat.le_refl _) (Nat.le_refl _) h3 (s_X12_isRecord v0 v1 M2 _ e5) ?_
  refine g_if_eq (pc' := 13) 44 dX12_seenSign_10 rfl (by decide) (fun c6 => ?_) (fun c6 => ?_)
  · have hf := ite_t c6 hf
    refine g_mask [true, false, false] rfl ?_
    refine g_widen (k' := 0) (u' := 0) (by omega) (by omega) ?_
    exact s_X12_seenSign_44 v0 M4 _ hf
  · have hf := ite_f c6 hf
    refine g_aload_n (pc' := 14) dX12_seenSign_13 rfl rfl ?_
    obtain ⟨h7, hf⟩ := chk_s hf
    obtain ⟨r9, M8, e9, hf⟩ := bnd_some hf
    refine g_callVi (pc' := 17) (k' := 0) (u' := 0) (fr2 := 5) (As := []) (b := v0) (st := []) cf_X12_isSeen q_1246 (by omega) (ci := 12) rfl rfl (by decide) dX12_seenSign_14 rfl rfl rfl (Nat.le_of_ble_eq_true rfl) (Or.inl rfl) (Nat.le_refl _) (Nat.le_refl _) (Nat.le_refl _) (Nat.le_refl _) h7 (s_X12_isSeen v0 M4 _ e9) ?_
    refine g_if_eq (pc' := 20) 44 dX12_seenSign_17 rfl (by decide) (fun c10 => ?_) (fun c10 => ?_)
    · have hf := ite_t c10 hf
      refine g_mask [true, false, false] rfl ?_
      refine g_widen (k' := 0) (u' := 0) (by omega) (by omega) ?_
      exact s_X12_seenSign_44 v0 M8 _ hf
    · have hf := ite_f c10 hf
      refine g_iload_n (pc' := 21) dX12_seenSign_20 rfl rfl ?_
      refine g_if_lt (pc' := 24) 44 dX12_seenSign_21 rfl (by decide) (fun c11 => ?_) (fun c11 => ?_)
      · have hf := ite_t c11 hf
        refine g_mask [true, false, false] rfl ?_
        refine g_widen (k' := 0) (u' := 0) (by omega) (by omega) ?_
        exact s_X12_seenSign_44 v0 M8 _ hf
      · have hf := ite_f c11 hf
        refine g_iload_n (pc' := 25) dX12_seenSign_24 rfl rfl ?_
        refine g_aload_n (pc' := 26) dX12_seenSign_25 rfl rfl ?_
        refine g_bipush (pc' := 28) (16 : Int32) dX12_seenSign_26 rfl (by decide) ?_
        refine g_iload_n (pc' := 29) dX12_seenSign_28 rfl rfl ?_
        refine g_iconst (pc' := 30) (0 : Int32) dX12_seenSign_29 rfl (by decide) ?_
        refine g_iload_n (pc' := 31) dX12_seenSign_30 rfl rfl ?_
        obtain ⟨h12, hf⟩ := chk_s hf
        obtain ⟨r14, M13, e14, hf⟩ := bnd_some hf
        refine g_callVi (pc' := 34) (k' := 0) (u' := 0) (fr2 := 37) (As := [aI (16 : Int32), aI v1, aI (0 : Int32), aI v2]) (b := v0) (st := [aI v2]) cf_X12_tell q_1164 (by omega) (ci := 12) rfl rfl (by decide) dX12_seenSign_31 rfl rfl rfl (Nat.le_of_ble_eq_true rfl) (Or.inl rfl) (Nat.le_refl _) (Nat.le_refl _) (Nat.le_refl _) (Nat.le_refl _) h12 (s_X12_tell v0 (16 : Int32) v1 (0 : Int32) v2 M8 _ e14) ?_
        refine g_icmp_ge (pc' := 37) 44 dX12_seenSign_34 rfl (by decide) (fun c15 => ?_) (fun c15 => ?_)
        · have hf := ite_t c15 hf
          refine g_mask [true, false, false] rfl ?_
          refine g_widen (k' := 0) (u' := 0) (by omega) (by omega) ?_
          exact s_X12_seenSign_44 v0 M13 _ hf
        · have hf := ite_f c15 hf
          refine g_aload_n (pc' := 38) dX12_seenSign_37 rfl rfl ?_
          obtain ⟨h16, hf⟩ := chk_s hf
          refine g_getI (pc' := 41) 12 43 rfl rfl (by decide) inX12 (by decide) rfl rfl q_1182 dX12_seenSign_38 rfl h16 ?_
          refine g_goto (pc' := 49) dX12_seenSign_41 (by decide) ?_
          cases hf
          exact g_ireturn dX12_seenSign_49 rfl (Nat.le_of_ble_eq_true rfl) (Nat.le_of_ble_eq_true rfl)
def f_X12_isNews_46 (k5 : Nat → Int32 → Int32 → Int32 → Int32 → Mem → Option (Int32 × Mem)) (v0 : Nat) (v1 : Int32) (v2 : Int32) (v4 : Int32) (w0 : Int32) (M : Mem) : Option (Int32 × Mem) :=
  k5 v0 v1 v2 w0 (v4 + 1) M
def f_X12_isNews_41 (k5 : Nat → Int32 → Int32 → Int32 → Int32 → Mem → Option (Int32 × Mem)) (v0 : Nat) (v1 : Int32) (v2 : Int32) (v4 : Int32) (M : Mem) : Option (Int32 × Mem) :=
  f_X12_isNews_46 k5 v0 v1 v2 v4 (1 : Int32) M
def f_X12_isNews_5 : Nat → Nat → Int32 → Int32 → Int32 → Int32 → Mem → Option (Int32 × Mem)
  | 0, _, _, _, _, _, _ => none
  | n + 1, v0, v1, v2, v3, v4, M =>
    if v2 ≤ v4 then
      if zB v3 = true then
      some (v3, M)
      else none
    else
      if v3 = 0 then
        if zB v3 = true then
        some (v3, M)
        else none
      else
        if mK M v0 = 13 then
          bnd (f_X12_hasValue v0 v1 v4 M) fun r5 M4 =>
          if r5 = 0 then
            f_X12_isNews_41 (f_X12_isNews_5 n) v0 v1 v2 v4 M4
          else
            if mK M4 v0 = 13 then
              bnd (f_X12_valueAt v0 v1 v4 M4) fun r9 M8 =>
              if mK M8 v0 = 13 then
                bnd (f_X12_valueAt v0 v1 v2 M8) fun r12 M11 =>
                if r9 = r12 then
                  f_X12_isNews_46 (f_X12_isNews_5 n) v0 v1 v2 v4 (0 : Int32) M11
                else
                  f_X12_isNews_41 (f_X12_isNews_5 n) v0 v1 v2 v4 M11
              else none
            else none
        else none
def f_X12_isNews (v0 : Nat) (v1 : Int32) (v2 : Int32) (M : Mem) : Option (Int32 × Mem) :=
  f_X12_isNews_5 FUEL v0 v1 v2 (1 : Int32) (0 : Int32) M
theorem s_X12_isNews_46 (k5 : Nat → Int32 → Int32 → Int32 → Int32 → Mem → Option (Int32 × Mem)) (hk5 : ∀ (v0 : Nat) (v1 : Int32) (v2 : Int32) (v3 : Int32) (v4 : Int32) (M : Mem) (r : (Int32 × Mem)), k5 v0 v1 v2 v3 v4 M = some r → G mi_X12_isNews 3 (oI r.1) r.2 5 [some (aR v0), some (aI v1), some (aI v2), some (aI v3), some (aI v4)] [] M 0 0) (v0 : Nat) (v1 : Int32) (v2 : Int32) (v4 : Int32) (w0 : Int32) (M : Mem) (r : (Int32 × Mem)) (hf : f_X12_isNews_46 k5 v0 v1 v2 v4 w0 M = some r) : G mi_X12_isNews 3 (oI r.1) r.2 46 [some (aR v0), some (aI v1), some (aI v2), none, some (aI v4)] [aI w0] M 0 0 := by
  unfold f_X12_isNews_46 at hf
  refine g_istore_n (pc' := 47) (lv' := [some (aR v0), some (aI v1), some (aI v2), some (aI w0), some (aI v4)]) dX12_isNews_46 rfl rfl (by decide) rfl ?_
  refine g_iinc (pc' := 50) (lv' := [some (aR v0), some (aI v1), some (aI v2), some (aI w0), some (aI (v4 + 1))]) (v4 + 1) dX12_isNews_47 rfl rfl (by rfl) rfl (by decide) rfl ?_
  refine g_goto (pc' := 5) dX12_isNews_50 (by decide) ?_
  exact hk5 v0 v1 v2 w0 (v4 + 1) M _ hf
theorem s_X12_isNews_41 (k5 : Nat → Int32 → Int32 → Int32 → Int32 → Mem → Option (Int32 × Mem)) (hk5 : ∀ (v0 : Nat) (v1 : Int32) (v2 : Int32) (v3 : Int32) (v4 : Int32) (M : Mem) (r : (Int32 × Mem)), k5 v0 v1 v2 v3 v4 M = some r → G mi_X12_isNews 3 (oI r.1) r.2 5 [some (aR v0), some (aI v1), some (aI v2), some (aI v3), some (aI v4)] [] M 0 0) (v0 : Nat) (v1 : Int32) (v2 : Int32) (v4 : Int32) (M : Mem) (r : (Int32 × Mem)) (hf : f_X12_isNews_41 k5 v0 v1 v2 v4 M = some r) : G mi_X12_isNews 3 (oI r.1) r.2 41 [some (aR v0), some (aI v1), some (aI v2), none, some (aI v4)] [] M 0 0 := by
  unfold f_X12_isNews_41 at hf
  refine g_iconst (pc' := 42) (1 : Int32) dX12_isNews_41 rfl (by decide) ?_
  refine g_goto (pc' := 46) dX12_isNews_42 (by decide) ?_
  exact s_X12_isNews_46 k5 hk5 v0 v1 v2 v4 (1 : Int32) M _ hf
theorem s_X12_isNews_5 : ∀ (n : Nat) (v0 : Nat) (v1 : Int32) (v2 : Int32) (v3 : Int32) (v4 : Int32) (M : Mem) (r : (Int32 × Mem)), f_X12_isNews_5 n v0 v1 v2 v3 v4 M = some r → G mi_X12_isNews 3 (oI r.1) r.2 5 [some (aR v0), some (aI v1), some (aI v2), some (aI v3), some (aI v4)] [] M 0 0 := by
  intro n
  induction n with
  | zero => intro v0 v1 v2 v3 v4 M r hf; cases hf
  | succ n ih =>
    intro v0 v1 v2 v3 v4 M r hf
    unfold f_X12_isNews_5 at hf
    refine g_iload (pc' := 7) dX12_isNews_5 rfl rfl ?_
    refine g_iload_n (pc' := 8) dX12_isNews_7 rfl rfl ?_
    refine g_icmp_ge (pc' := 11) 53 dX12_isNews_8 rfl (by decide) (fun c1 => ?_) (fun c1 => ?_)
    · have hf := ite_t c1 hf
      refine g_iload_n (pc' := 54) dX12_isNews_53 rfl rfl ?_
      obtain ⟨hz, hf⟩ := chk_s hf
      cases hf
      exact g_zreturn dX12_isNews_54 rfl (zB_ok hz) (Nat.le_of_ble_eq_true rfl) (Nat.le_of_ble_eq_true rfl)
    · have hf := ite_f c1 hf
      refine g_iload_n (pc' := 12) dX12_isNews_11 rfl rfl ?_
      refine g_if_eq (pc' := 15) 53 dX12_isNews_12 rfl (by decide) (fun c2 => ?_) (fun c2 => ?_)
      · have hf := ite_t c2 hf
        refine g_iload_n (pc' := 54) dX12_isNews_53 rfl rfl ?_
        obtain ⟨hz, hf⟩ := chk_s hf
        cases hf
        exact g_zreturn dX12_isNews_54 rfl (zB_ok hz) (Nat.le_of_ble_eq_true rfl) (Nat.le_of_ble_eq_true rfl)
      · have hf := ite_f c2 hf
        refine g_aload_n (pc' := 16) dX12_isNews_15 rfl rfl ?_
        refine g_iload_n (pc' := 17) dX12_isNews_16 rfl rfl ?_
        refine g_iload (pc' := 19) dX12_isNews_17 rfl rfl ?_
        obtain ⟨h3, hf⟩ := chk_s hf
        obtain ⟨r5, M4, e5, hf⟩ := bnd_some hf
        refine g_callVi (pc' := 22) (k' := 0) (u' := 0) (fr2 := 2) (As := [aI v1, aI v4]) (b := v0) (st := []) cf_X12_hasValue q_1010 (by omega) (ci := 12) rfl rfl (by decide) dX12_isNews_19 rfl rfl rfl (Nat.le_of_ble_eq_true rfl) (Or.inl rfl) (Nat.le_refl _) (Nat.le_refl _) (Nat.le_refl _) (Nat.le_refl _) h3 (s_X12_hasValue v0 v1 v4 M _ e5) ?_
        refine g_if_eq (pc' := 25) 41 dX12_isNews_22 rfl (by decide) (fun c6 => ?_) (fun c6 => ?_)
        · have hf := ite_t c6 hf
          refine g_mask [true, true, true, false, true] rfl ?_
          refine g_widen (k' := 0) (u' := 0) (by omega) (by omega) ?_
          exact s_X12_isNews_41 (f_X12_isNews_5 n) ih v0 v1 v2 v4 M4 _ hf
        · have hf := ite_f c6 hf
          refine g_aload_n (pc' := 26) dX12_isNews_25 rfl rfl ?_
          refine g_iload_n (pc' := 27) dX12_isNews_26 rfl rfl ?_
          refine g_iload (pc' := 29) dX12_isNews_27 rfl rfl ?_
          obtain ⟨h7, hf⟩ := chk_s hf
          obtain ⟨r9, M8, e9, hf⟩ := bnd_some hf
          refine g_callVi (pc' := 32) (k' := 0) (u' := 0) (fr2 := 1) (As := [aI v1, aI v4]) (b := v0) (st := []) cf_X12_valueAt q_896 (by omega) (ci := 12) rfl rfl (by decide) dX12_isNews_29 rfl rfl rfl (Nat.le_of_ble_eq_true rfl) (Or.inl rfl) (Nat.le_refl _) (Nat.le_refl _) (Nat.le_refl _) (Nat.le_refl _) h7 (s_X12_valueAt v0 v1 v4 M4 _ e9) ?_
          refine g_aload_n (pc' := 33) dX12_isNews_32 rfl rfl ?_
          refine g_iload_n (pc' := 34) dX12_isNews_33 rfl rfl ?_
          refine g_iload_n (pc' := 35) dX12_isNews_34 rfl rfl ?_
          obtain ⟨h10, hf⟩ := chk_s hf
          obtain ⟨r12, M11, e12, hf⟩ := bnd_some hf
          refine g_callVi (pc' := 38) (k' := 0) (u' := 0) (fr2 := 1) (As := [aI v1, aI v2]) (b := v0) (st := [aI r9]) cf_X12_valueAt q_896 (by omega) (ci := 12) rfl rfl (by decide) dX12_isNews_35 rfl rfl rfl (Nat.le_of_ble_eq_true rfl) (Or.inl rfl) (Nat.le_refl _) (Nat.le_refl _) (Nat.le_refl _) (Nat.le_refl _) h10 (s_X12_valueAt v0 v1 v2 M8 _ e12) ?_
          refine g_icmp_eq (pc' := 41) 45 dX12_isNews_38 rfl (by decide) (fun c13 => ?_) (fun c13 => ?_)
          · have hf := ite_t c13 hf
            refine g_iconst (pc' := 46) (0 : Int32) dX12_isNews_45 rfl (by decide) ?_
            refine g_mask [true, true, true, false, true] rfl ?_
            refine g_widen (k' := 0) (u' := 0) (by omega) (by omega) ?_
            exact s_X12_isNews_46 (f_X12_isNews_5 n) ih v0 v1 v2 v4 (0 : Int32) M11 _ hf
          · have hf := ite_f c13 hf
            refine g_mask [true, true, true, false, true] rfl ?_
            refine g_widen (k' := 0) (u' := 0) (by omega) (by omega) ?_
            exact s_X12_isNews_41 (f_X12_isNews_5 n) ih v0 v1 v2 v4 M11 _ hf
theorem s_X12_isNews (v0 : Nat) (v1 : Int32) (v2 : Int32) (M : Mem) (r : (Int32 × Mem)) (hf : f_X12_isNews v0 v1 v2 M = some r) : Sem mi_X12_isNews (3) [aR v0, aI v1, aI v2] M (oI r.1) r.2 := by
  unfold f_X12_isNews at hf
  refine sem_of (by decide) rfl rfl rfl (Nat.le_of_ble_eq_true rfl) (lv := [some (aR v0), some (aI v1), some (aI v2), none, none]) rfl ?_
  refine g_iconst (pc' := 1) (1 : Int32) dX12_isNews_0 rfl (by decide) ?_
  refine g_istore_n (pc' := 2) (lv' := [some (aR v0), some (aI v1), some (aI v2), some (aI (1 : Int32)), none]) dX12_isNews_1 rfl rfl (by decide) rfl ?_
  refine g_iconst (pc' := 3) (0 : Int32) dX12_isNews_2 rfl (by decide) ?_
  refine g_istore (pc' := 5) (lv' := [some (aR v0), some (aI v1), some (aI v2), some (aI (1 : Int32)), some (aI (0 : Int32))]) dX12_isNews_3 rfl rfl (by decide) rfl ?_
  exact s_X12_isNews_5 FUEL v0 v1 v2 (1 : Int32) (0 : Int32) M _ hf
def f_X12_folded_117 (v3 : Int32) (v6 : Int32) (M : Mem) : Option (Int32 × Mem) :=
  some ((((7 : Int32) * v3) + v6) - (((7 : Int32) * v3) + v6) / (1000 : Int32) * (1000 : Int32), M)
def f_X12_folded_110 (w0 : Int32) (w1 : Int32) (M : Mem) : Option (Int32 × Mem) :=
  some (w0 + w1, M)
def f_X12_folded (v0 : Nat) (v1 : Int32) (v2 : Int32) (v3 : Int32) (v4 : Int32) (v5 : Int32) (M : Mem) : Option (Int32 × Mem) :=
  if mK M v0 = 13 then
    bnd (f_X12_valueAt v0 v4 v5 M) fun r3 M2 =>
    if v1 = (0 : Int32) then
      some (v3 + (1 : Int32), M2)
    else
    if v1 = (1 : Int32) then
      some (v3 + r3, M2)
    else
    if v1 = (2 : Int32) then
      if v2 = 0 then
        some (r3, M2)
      else
        some (if r3 < v3 then r3 else v3, M2)
    else
    if v1 = (3 : Int32) then
      if v2 = 0 then
        some (r3, M2)
      else
        some (if v3 < r3 then r3 else v3, M2)
    else
    if v1 = (4 : Int32) then
      if mK M2 v0 = 13 then
        bnd (f_X12_isNews v0 v4 v5 M2) fun r13 M12 =>
        if r13 = 0 then
          f_X12_folded_110 v3 (0 : Int32) M12
        else
          f_X12_folded_110 v3 (1 : Int32) M12
      else none
    else
    if v1 = (5 : Int32) then
      f_X12_folded_117 v3 r3 M2
    else
    if v1 = (6 : Int32) then
      some (r3 - v3, M2)
    else
    f_X12_folded_117 v3 r3 M2
  else none
theorem s_X12_folded_117 (v3 : Int32) (v6 : Int32) (M : Mem) (r : (Int32 × Mem)) (hf : f_X12_folded_117 v3 v6 M = some r) : G mi_X12_folded 4 (oI r.1) r.2 117 [none, none, none, some (aI v3), none, none, some (aI v6)] [] M 0 0 := by
  unfold f_X12_folded_117 at hf
  refine g_bipush (pc' := 119) (7 : Int32) dX12_folded_117 rfl (by decide) ?_
  refine g_iload_n (pc' := 120) dX12_folded_119 rfl rfl ?_
  refine g_imul (pc' := 121) dX12_folded_120 rfl ?_
  refine g_iload (pc' := 123) dX12_folded_121 rfl rfl ?_
  refine g_iadd (pc' := 124) dX12_folded_123 rfl ?_
  refine g_sipush (pc' := 127) (1000 : Int32) dX12_folded_124 rfl (by decide) ?_
  refine g_irem (pc' := 128) dX12_folded_127 rfl (by decide) ?_
  cases hf
  exact g_ireturn dX12_folded_128 rfl (Nat.le_of_ble_eq_true rfl) (Nat.le_of_ble_eq_true rfl)
theorem s_X12_folded_110 (w0 : Int32) (w1 : Int32) (M : Mem) (r : (Int32 × Mem)) (hf : f_X12_folded_110 w0 w1 M = some r) : G mi_X12_folded 4 (oI r.1) r.2 110 [none, none, none, none, none, none, none] [aI w1, aI w0] M 0 0 := by
  unfold f_X12_folded_110 at hf
  refine g_iadd (pc' := 111) dX12_folded_110 rfl ?_
  cases hf
  exact g_ireturn dX12_folded_111 rfl (Nat.le_of_ble_eq_true rfl) (Nat.le_of_ble_eq_true rfl)
theorem s_X12_folded (v0 : Nat) (v1 : Int32) (v2 : Int32) (v3 : Int32) (v4 : Int32) (v5 : Int32) (M : Mem) (r : (Int32 × Mem)) (hf : f_X12_folded v0 v1 v2 v3 v4 v5 M = some r) : Sem mi_X12_folded (4) [aR v0, aI v1, aI v2, aI v3, aI v4, aI v5] M (oI r.1) r.2 := by
  unfold f_X12_folded at hf
  refine sem_of (by decide) rfl rfl rfl (Nat.le_of_ble_eq_true rfl) (lv := [some (aR v0), some (aI v1), some (aI v2), some (aI v3), some (aI v4), some (aI v5), none]) rfl ?_
  refine g_aload_n (pc' := 1) dX12_folded_0 rfl rfl ?_
  refine g_iload (pc' := 3) dX12_folded_1 rfl rfl ?_
  refine g_iload (pc' := 5) dX12_folded_3 rfl rfl ?_
  obtain ⟨h1, hf⟩ := chk_s hf
  obtain ⟨r3, M2, e3, hf⟩ := bnd_some hf
  refine g_callVi (pc' := 8) (k' := 0) (u' := 0) (fr2 := 1) (As := [aI v4, aI v5]) (b := v0) (st := []) cf_X12_valueAt q_896 (by omega) (ci := 12) rfl rfl (by decide) dX12_folded_5 rfl rfl rfl (Nat.le_of_ble_eq_true rfl) (Or.inl rfl) (Nat.le_refl _) (Nat.le_refl _) (Nat.le_refl _) (Nat.le_refl _) h1 (s_X12_valueAt v0 v4 v5 M _ e3) ?_
  refine g_istore (pc' := 10) (lv' := [some (aR v0), some (aI v1), some (aI v2), some (aI v3), some (aI v4), some (aI v5), some (aI r3)]) dX12_folded_8 rfl rfl (by decide) rfl ?_
  refine g_iload_n (pc' := 11) dX12_folded_10 rfl rfl ?_
  by_cases c4 : v1 = (0 : Int32)
  · have hf := ite_t c4 hf
    refine g_tsw (pc' := 52) (0 : Int32) dX12_folded_11 c4 (by decide) (by decide) rfl (by decide) ?_
    refine g_iload_n (pc' := 53) dX12_folded_52 rfl rfl ?_
    refine g_iconst (pc' := 54) (1 : Int32) dX12_folded_53 rfl (by decide) ?_
    refine g_iadd (pc' := 55) dX12_folded_54 rfl ?_
    cases hf
    exact g_ireturn dX12_folded_55 rfl (Nat.le_of_ble_eq_true rfl) (Nat.le_of_ble_eq_true rfl)
  have hf := ite_f c4 hf
  by_cases c5 : v1 = (1 : Int32)
  · have hf := ite_t c5 hf
    refine g_tsw (pc' := 56) (1 : Int32) dX12_folded_11 c5 (by decide) (by decide) rfl (by decide) ?_
    refine g_iload_n (pc' := 57) dX12_folded_56 rfl rfl ?_
    refine g_iload (pc' := 59) dX12_folded_57 rfl rfl ?_
    refine g_iadd (pc' := 60) dX12_folded_59 rfl ?_
    cases hf
    exact g_ireturn dX12_folded_60 rfl (Nat.le_of_ble_eq_true rfl) (Nat.le_of_ble_eq_true rfl)
  have hf := ite_f c5 hf
  by_cases c6 : v1 = (2 : Int32)
  · have hf := ite_t c6 hf
    refine g_tsw (pc' := 61) (2 : Int32) dX12_folded_11 c6 (by decide) (by decide) rfl (by decide) ?_
    refine g_iload_n (pc' := 62) dX12_folded_61 rfl rfl ?_
    refine g_if_ne (pc' := 65) 70 dX12_folded_62 rfl (by decide) (fun c7 => ?_) (fun c7 => ?_)
    · have hf := ite_f c7 hf
      refine g_iload_n (pc' := 71) dX12_folded_70 rfl rfl ?_
      refine g_iload (pc' := 73) dX12_folded_71 rfl rfl ?_
      refine g_min (pc' := 76) q_386 q_387 wall_i_java_lang_Math q_389 (by omega) (Nat.le_of_ble_eq_true rfl) (Nat.le_of_ble_eq_true rfl) (Nat.le_of_ble_eq_true rfl) dX12_folded_73 rfl ?_
      cases hf
      exact g_ireturn dX12_folded_76 rfl (Nat.le_of_ble_eq_true rfl) (Nat.le_of_ble_eq_true rfl)
    · have hf := ite_t c7 hf
      refine g_iload (pc' := 67) dX12_folded_65 rfl rfl ?_
      refine g_goto (pc' := 76) dX12_folded_67 (by decide) ?_
      cases hf
      exact g_ireturn dX12_folded_76 rfl (Nat.le_of_ble_eq_true rfl) (Nat.le_of_ble_eq_true rfl)
  have hf := ite_f c6 hf
  by_cases c8 : v1 = (3 : Int32)
  · have hf := ite_t c8 hf
    refine g_tsw (pc' := 77) (3 : Int32) dX12_folded_11 c8 (by decide) (by decide) rfl (by decide) ?_
    refine g_iload_n (pc' := 78) dX12_folded_77 rfl rfl ?_
    refine g_if_ne (pc' := 81) 86 dX12_folded_78 rfl (by decide) (fun c9 => ?_) (fun c9 => ?_)
    · have hf := ite_f c9 hf
      refine g_iload_n (pc' := 87) dX12_folded_86 rfl rfl ?_
      refine g_iload (pc' := 89) dX12_folded_87 rfl rfl ?_
      refine g_max (pc' := 92) q_873 q_810 wall_i_java_lang_Math q_811 (by omega) (Nat.le_of_ble_eq_true rfl) (Nat.le_of_ble_eq_true rfl) (Nat.le_of_ble_eq_true rfl) dX12_folded_89 rfl ?_
      cases hf
      exact g_ireturn dX12_folded_92 rfl (Nat.le_of_ble_eq_true rfl) (Nat.le_of_ble_eq_true rfl)
    · have hf := ite_t c9 hf
      refine g_iload (pc' := 83) dX12_folded_81 rfl rfl ?_
      refine g_goto (pc' := 92) dX12_folded_83 (by decide) ?_
      cases hf
      exact g_ireturn dX12_folded_92 rfl (Nat.le_of_ble_eq_true rfl) (Nat.le_of_ble_eq_true rfl)
  have hf := ite_f c8 hf
  by_cases c10 : v1 = (4 : Int32)
  · have hf := ite_t c10 hf
    refine g_tsw (pc' := 93) (4 : Int32) dX12_folded_11 c10 (by decide) (by decide) rfl (by decide) ?_
    refine g_iload_n (pc' := 94) dX12_folded_93 rfl rfl ?_
    refine g_aload_n (pc' := 95) dX12_folded_94 rfl rfl ?_
    refine g_iload (pc' := 97) dX12_folded_95 rfl rfl ?_
    refine g_iload (pc' := 99) dX12_folded_97 rfl rfl ?_
    obtain ⟨h11, hf⟩ := chk_s hf
    obtain ⟨r13, M12, e13, hf⟩ := bnd_some hf
    refine g_callVi (pc' := 102) (k' := 0) (u' := 0) (fr2 := 3) (As := [aI v4, aI v5]) (b := v0) (st := [aI v3]) cf_X12_isNews q_1310 (by omega) (ci := 12) rfl rfl (by decide) dX12_folded_99 rfl rfl rfl (Nat.le_of_ble_eq_true rfl) (Or.inl rfl) (Nat.le_refl _) (Nat.le_refl _) (Nat.le_refl _) (Nat.le_refl _) h11 (s_X12_isNews v0 v4 v5 M2 _ e13) ?_
    refine g_if_eq (pc' := 105) 109 dX12_folded_102 rfl (by decide) (fun c14 => ?_) (fun c14 => ?_)
    · have hf := ite_t c14 hf
      refine g_iconst (pc' := 110) (0 : Int32) dX12_folded_109 rfl (by decide) ?_
      refine g_mask [false, false, false, false, false, false, false] rfl ?_
      refine g_widen (k' := 0) (u' := 0) (by omega) (by omega) ?_
      exact s_X12_folded_110 v3 (0 : Int32) M12 _ hf
    · have hf := ite_f c14 hf
      refine g_iconst (pc' := 106) (1 : Int32) dX12_folded_105 rfl (by decide) ?_
      refine g_goto (pc' := 110) dX12_folded_106 (by decide) ?_
      refine g_mask [false, false, false, false, false, false, false] rfl ?_
      refine g_widen (k' := 0) (u' := 0) (by omega) (by omega) ?_
      exact s_X12_folded_110 v3 (1 : Int32) M12 _ hf
  have hf := ite_f c10 hf
  by_cases c15 : v1 = (5 : Int32)
  · have hf := ite_t c15 hf
    refine g_tsw (pc' := 117) (5 : Int32) dX12_folded_11 c15 (by decide) (by decide) rfl (by decide) ?_
    refine g_mask [false, false, false, true, false, false, true] rfl ?_
    refine g_widen (k' := 0) (u' := 0) (by omega) (by omega) ?_
    exact s_X12_folded_117 v3 r3 M2 _ hf
  have hf := ite_f c15 hf
  by_cases c16 : v1 = (6 : Int32)
  · have hf := ite_t c16 hf
    refine g_tsw (pc' := 112) (6 : Int32) dX12_folded_11 c16 (by decide) (by decide) rfl (by decide) ?_
    refine g_iload (pc' := 114) dX12_folded_112 rfl rfl ?_
    refine g_iload_n (pc' := 115) dX12_folded_114 rfl rfl ?_
    refine g_isub (pc' := 116) dX12_folded_115 rfl ?_
    cases hf
    exact g_ireturn dX12_folded_116 rfl (Nat.le_of_ble_eq_true rfl) (Nat.le_of_ble_eq_true rfl)
  have hf := ite_f c16 hf
  have nc4 := nei c4 (z := 0) (by decide)
  have nc5 := nei c5 (z := 1) (by decide)
  have nc6 := nei c6 (z := 2) (by decide)
  have nc8 := nei c8 (z := 3) (by decide)
  have nc10 := nei c10 (z := 4) (by decide)
  have nc15 := nei c15 (z := 5) (by decide)
  have nc16 := nei c16 (z := 6) (by decide)
  refine g_tableOut (pc' := 117) dX12_folded_11 (by omega) (by decide) ?_
  refine g_mask [false, false, false, true, false, false, true] rfl ?_
  refine g_widen (k' := 0) (u' := 0) (by omega) (by omega) ?_
  exact s_X12_folded_117 v3 r3 M2 _ hf
def f_X12_fold_118  (M : Mem) : Option (Int32 × Mem) :=
  some ((-1 : Int32), M)
def f_X12_fold_84 (k39 : Nat → Int32 → Int32 → Int32 → Int32 → Int32 → Mem → Option (Int32 × Mem)) (v0 : Nat) (v1 : Int32) (v2 : Int32) (v3 : Int32) (v4 : Int32) (v5 : Int32) (M : Mem) : Option (Int32 × Mem) :=
  k39 v0 v1 v2 v3 v4 (v5 + 1) M
def f_X12_fold_81 (k39 : Nat → Int32 → Int32 → Int32 → Int32 → Int32 → Mem → Option (Int32 × Mem)) (v0 : Nat) (v1 : Int32) (v2 : Int32) (v3 : Int32) (v4 : Int32) (v5 : Int32) (M : Mem) : Option (Int32 × Mem) :=
  f_X12_fold_84 k39 v0 v1 v2 (v3 + 1) v4 v5 M
def f_X12_fold_39 : Nat → Nat → Int32 → Int32 → Int32 → Int32 → Int32 → Mem → Option (Int32 × Mem)
  | 0, _, _, _, _, _, _, _ => none
  | n + 1, v0, v1, v2, v3, v4, v5, M =>
    if mK M v0 = 13 then
      if mK M (mR M v0 28) = 21 then
        if inB v1 (mN M (mR M v0 28)) = true then
          if (mI M (mR M v0 28) v1.toNatClampNeg) ≤ v5 then
            if v2 = (5 : Int32) then
              some ((mI M (mR M v0 28) v1.toNatClampNeg) - v3, M)
            else
              if v3 = 0 then
                if v2 = (2 : Int32) then
                  f_X12_fold_118 M
                else
                  if v2 = (3 : Int32) then
                    f_X12_fold_118 M
                  else
                    some (v4, M)
              else
                some (v4, M)
          else
            bnd (f_X12_hasValue v0 v1 v5 M) fun r10 M9 =>
            if r10 = 0 then
              f_X12_fold_84 (f_X12_fold_39 n) v0 v1 v2 v3 v4 v5 M9
            else
              if v2 = (5 : Int32) then
                f_X12_fold_81 (f_X12_fold_39 n) v0 v1 v2 v3 v4 v5 M9
              else
                if mK M9 v0 = 13 then
                  bnd (f_X12_folded v0 v2 v3 v4 v1 v5 M9) fun r15 M14 =>
                  f_X12_fold_81 (f_X12_fold_39 n) v0 v1 v2 v3 r15 v5 M14
                else none
        else none
      else none
    else none
def f_X12_fold_25 (v0 : Nat) (M : Mem) : Option (Int32 × Mem) :=
  if mK M v0 = 13 then
    bnd (f_X12_fail v0 (1 : Int32) M) fun r3 M2 =>
    some (r3, M2)
  else none
def f_X12_fold (v0 : Nat) (v1 : Int32) (v2 : Int32) (M : Mem) : Option (Int32 × Mem) :=
  if mK M v0 = 13 then
    ap (sI M v0 2 (0 : Int32)) fun M2 =>
    if mK M2 v0 = 13 then
      bnd (f_X12_isLeaf v0 v1 M2) fun r5 M4 =>
      if r5 = 0 then
        f_X12_fold_25 v0 M4
      else
        bnd (f_X12_isIn v2.toInt64 (0 : Int64) (7 : Int64) M4) fun r8 M7 =>
        if r8 = 0 then
          f_X12_fold_25 v0 M7
        else
          f_X12_fold_39 FUEL v0 v1 v2 (0 : Int32) (0 : Int32) (0 : Int32) M7
    else none
  else none
theorem s_X12_fold_118  (M : Mem) (r : (Int32 × Mem)) (hf : f_X12_fold_118  M = some r) : G mi_X12_fold 5 (oI r.1) r.2 118 [none, none, none, none, none, none] [] M 0 0 := by
  unfold f_X12_fold_118 at hf
  refine g_iconst (pc' := 119) (-1 : Int32) dX12_fold_118 rfl (by decide) ?_
  refine g_goto (pc' := 124) dX12_fold_119 (by decide) ?_
  cases hf
  exact g_ireturn dX12_fold_124 rfl (Nat.le_of_ble_eq_true rfl) (Nat.le_of_ble_eq_true rfl)
theorem s_X12_fold_84 (k39 : Nat → Int32 → Int32 → Int32 → Int32 → Int32 → Mem → Option (Int32 × Mem)) (hk39 : ∀ (v0 : Nat) (v1 : Int32) (v2 : Int32) (v3 : Int32) (v4 : Int32) (v5 : Int32) (M : Mem) (r : (Int32 × Mem)), k39 v0 v1 v2 v3 v4 v5 M = some r → G mi_X12_fold 5 (oI r.1) r.2 39 [some (aR v0), some (aI v1), some (aI v2), some (aI v3), some (aI v4), some (aI v5)] [] M 0 0) (v0 : Nat) (v1 : Int32) (v2 : Int32) (v3 : Int32) (v4 : Int32) (v5 : Int32) (M : Mem) (r : (Int32 × Mem)) (hf : f_X12_fold_84 k39 v0 v1 v2 v3 v4 v5 M = some r) : G mi_X12_fold 5 (oI r.1) r.2 84 [some (aR v0), some (aI v1), some (aI v2), some (aI v3), some (aI v4), some (aI v5)] [] M 0 0 := by
  unfold f_X12_fold_84 at hf
  refine g_iinc (pc' := 87) (lv' := [some (aR v0), some (aI v1), some (aI v2), some (aI v3), some (aI v4), some (aI (v5 + 1))]) (v5 + 1) dX12_fold_84 rfl rfl (by rfl) rfl (by decide) rfl ?_
  refine g_goto (pc' := 39) dX12_fold_87 (by decide) ?_
  exact hk39 v0 v1 v2 v3 v4 (v5 + 1) M _ hf
theorem s_X12_fold_81 (k39 : Nat → Int32 → Int32 → Int32 → Int32 → Int32 → Mem → Option (Int32 × Mem)) (hk39 : ∀ (v0 : Nat) (v1 : Int32) (v2 : Int32) (v3 : Int32) (v4 : Int32) (v5 : Int32) (M : Mem) (r : (Int32 × Mem)), k39 v0 v1 v2 v3 v4 v5 M = some r → G mi_X12_fold 5 (oI r.1) r.2 39 [some (aR v0), some (aI v1), some (aI v2), some (aI v3), some (aI v4), some (aI v5)] [] M 0 0) (v0 : Nat) (v1 : Int32) (v2 : Int32) (v3 : Int32) (v4 : Int32) (v5 : Int32) (M : Mem) (r : (Int32 × Mem)) (hf : f_X12_fold_81 k39 v0 v1 v2 v3 v4 v5 M = some r) : G mi_X12_fold 5 (oI r.1) r.2 81 [some (aR v0), some (aI v1), some (aI v2), some (aI v3), some (aI v4), some (aI v5)] [] M 0 0 := by
  unfold f_X12_fold_81 at hf
  refine g_iinc (pc' := 84) (lv' := [some (aR v0), some (aI v1), some (aI v2), some (aI (v3 + 1)), some (aI v4), some (aI v5)]) (v3 + 1) dX12_fold_81 rfl rfl (by rfl) rfl (by decide) rfl ?_
  exact s_X12_fold_84 k39 hk39 v0 v1 v2 (v3 + 1) v4 v5 M _ hf
theorem s_X12_fold_39 : ∀ (n : Nat) (v0 : Nat) (v1 : Int32) (v2 : Int32) (v3 : Int32) (v4 : Int32) (v5 : Int32) (M : Mem) (r : (Int32 × Mem)), f_X12_fold_39 n v0 v1 v2 v3 v4 v5 M = some r → G mi_X12_fold 5 (oI r.1) r.2 39 [some (aR v0), some (aI v1), some (aI v2), some (aI v3), some (aI v4), some (aI v5)] [] M 0 0 := by
  intro n
  induction n with
  | zero => intro v0 v1 v2 v3 v4 v5 M r hf; cases hf
  | succ n ih =>
    intro v0 v1 v2 v3 v4 v5 M r hf
    unfold f_X12_fold_39 at hf
    refine g_iload (pc' := 41) dX12_fold_39 rfl rfl ?_
    refine g_aload_n (pc' := 42) dX12_fold_41 rfl rfl ?_
    obtain ⟨h1, hf⟩ := chk_s hf
    refine g_getR (pc' := 45) 12 28 rfl rfl (by decide) inX12 (by decide) rfl rfl q_139 dX12_fold_42 rfl h1 ?_
    refine g_iload_n (pc' := 46) dX12_fold_45 rfl rfl ?_
    obtain ⟨h2, hf⟩ := chk_s hf
    obtain ⟨b3, hf⟩ := chk_s hf
    refine g_iald (pc' := 47) dX12_fold_46 rfl h2 (inB_in b3) ?_
    refine g_icmp_ge (pc' := 50) 90 dX12_fold_47 rfl (by decide) (fun c4 => ?_) (fun c4 => ?_)
    · have hf := ite_t c4 hf
      refine g_iload_n (pc' := 91) dX12_fold_90 rfl rfl ?_
      refine g_iconst (pc' := 92) (5 : Int32) dX12_fold_91 rfl (by decide) ?_
      refine g_icmp_ne (pc' := 95) 104 dX12_fold_92 rfl (by decide) (fun c5 => ?_) (fun c5 => ?_)
      · have hf := ite_f c5 hf
        refine g_iload_n (pc' := 105) dX12_fold_104 rfl rfl ?_
        refine g_if_ne (pc' := 108) 122 dX12_fold_105 rfl (by decide) (fun c6 => ?_) (fun c6 => ?_)
        · have hf := ite_f c6 hf
          refine g_iload (pc' := 124) dX12_fold_122 rfl rfl ?_
          cases hf
          exact g_ireturn dX12_fold_124 rfl (Nat.le_of_ble_eq_true rfl) (Nat.le_of_ble_eq_true rfl)
        · have hf := ite_t c6 hf
          refine g_iload_n (pc' := 109) dX12_fold_108 rfl rfl ?_
          refine g_iconst (pc' := 110) (2 : Int32) dX12_fold_109 rfl (by decide) ?_
          refine g_icmp_eq (pc' := 113) 118 dX12_fold_110 rfl (by decide) (fun c7 => ?_) (fun c7 => ?_)
          · have hf := ite_t c7 hf
            refine g_mask [false, false, false, false, false, false] rfl ?_
            exact s_X12_fold_118 M _ hf
          · have hf := ite_f c7 hf
            refine g_iload_n (pc' := 114) dX12_fold_113 rfl rfl ?_
            refine g_iconst (pc' := 115) (3 : Int32) dX12_fold_114 rfl (by decide) ?_
            refine g_icmp_ne (pc' := 118) 122 dX12_fold_115 rfl (by decide) (fun c8 => ?_) (fun c8 => ?_)
            · have hf := ite_f c8 hf
              refine g_iload (pc' := 124) dX12_fold_122 rfl rfl ?_
              cases hf
              exact g_ireturn dX12_fold_124 rfl (Nat.le_of_ble_eq_true rfl) (Nat.le_of_ble_eq_true rfl)
            · have hf := ite_t c8 hf
              refine g_mask [false, false, false, false, false, false] rfl ?_
              exact s_X12_fold_118 M _ hf
      · have hf := ite_t c5 hf
        refine g_aload_n (pc' := 96) dX12_fold_95 rfl rfl ?_
        refine g_getR (pc' := 99) 12 28 rfl rfl (by decide) inX12 (by decide) rfl rfl q_139 dX12_fold_96 rfl h1 ?_
        refine g_iload_n (pc' := 100) dX12_fold_99 rfl rfl ?_
        refine g_iald (pc' := 101) dX12_fold_100 rfl h2 (inB_in b3) ?_
        refine g_iload_n (pc' := 102) dX12_fold_101 rfl rfl ?_
        refine g_isub (pc' := 103) dX12_fold_102 rfl ?_
        cases hf
        exact g_ireturn dX12_fold_103 rfl (Nat.le_of_ble_eq_true rfl) (Nat.le_of_ble_eq_true rfl)
    · have hf := ite_f c4 hf
      refine g_aload_n (pc' := 51) dX12_fold_50 rfl rfl ?_
      refine g_iload_n (pc' := 52) dX12_fold_51 rfl rfl ?_
      refine g_iload (pc' := 54) dX12_fold_52 rfl rfl ?_
      obtain ⟨r10, M9, e10, hf⟩ := bnd_some hf
      refine g_callVi (pc' := 57) (k' := 0) (u' := 0) (fr2 := 2) (As := [aI v1, aI v5]) (b := v0) (st := []) cf_X12_hasValue q_1010 (by omega) (ci := 12) rfl rfl (by decide) dX12_fold_54 rfl rfl rfl (Nat.le_of_ble_eq_true rfl) (Or.inl rfl) (Nat.le_refl _) (Nat.le_refl _) (Nat.le_refl _) (Nat.le_refl _) h1 (s_X12_hasValue v0 v1 v5 M _ e10) ?_
      refine g_if_ne (pc' := 60) 63 dX12_fold_57 rfl (by decide) (fun c11 => ?_) (fun c11 => ?_)
      · have hf := ite_f c11 hf
        refine g_iload_n (pc' := 64) dX12_fold_63 rfl rfl ?_
        refine g_iconst (pc' := 65) (5 : Int32) dX12_fold_64 rfl (by decide) ?_
        refine g_icmp_eq (pc' := 68) 81 dX12_fold_65 rfl (by decide) (fun c12 => ?_) (fun c12 => ?_)
        · have hf := ite_t c12 hf
          refine g_widen (k' := 0) (u' := 0) (by omega) (by omega) ?_
          exact s_X12_fold_81 (f_X12_fold_39 n) ih v0 v1 v2 v3 v4 v5 M9 _ hf
        · have hf := ite_f c12 hf
          refine g_aload_n (pc' := 69) dX12_fold_68 rfl rfl ?_
          refine g_iload_n (pc' := 70) dX12_fold_69 rfl rfl ?_
          refine g_iload_n (pc' := 71) dX12_fold_70 rfl rfl ?_
          refine g_iload (pc' := 73) dX12_fold_71 rfl rfl ?_
          refine g_iload_n (pc' := 74) dX12_fold_73 rfl rfl ?_
          refine g_iload (pc' := 76) dX12_fold_74 rfl rfl ?_
          obtain ⟨h13, hf⟩ := chk_s hf
          obtain ⟨r15, M14, e15, hf⟩ := bnd_some hf
          refine g_callVi (pc' := 79) (k' := 0) (u' := 0) (fr2 := 4) (As := [aI v2, aI v3, aI v4, aI v1, aI v5]) (b := v0) (st := []) cf_X12_folded q_1306 (by omega) (ci := 12) rfl rfl (by decide) dX12_fold_76 rfl rfl rfl (Nat.le_of_ble_eq_true rfl) (Or.inl rfl) (Nat.le_refl _) (Nat.le_refl _) (Nat.le_refl _) (Nat.le_refl _) h13 (s_X12_folded v0 v2 v3 v4 v1 v5 M9 _ e15) ?_
          refine g_istore (pc' := 81) (lv' := [some (aR v0), some (aI v1), some (aI v2), some (aI v3), some (aI r15), some (aI v5)]) dX12_fold_79 rfl rfl (by decide) rfl ?_
          refine g_widen (k' := 0) (u' := 0) (by omega) (by omega) ?_
          exact s_X12_fold_81 (f_X12_fold_39 n) ih v0 v1 v2 v3 r15 v5 M14 _ hf
      · have hf := ite_t c11 hf
        refine g_goto (pc' := 84) dX12_fold_60 (by decide) ?_
        refine g_widen (k' := 0) (u' := 0) (by omega) (by omega) ?_
        exact s_X12_fold_84 (f_X12_fold_39 n) ih v0 v1 v2 v3 v4 v5 M9 _ hf
theorem s_X12_fold_25 (v0 : Nat) (M : Mem) (r : (Int32 × Mem)) (hf : f_X12_fold_25 v0 M = some r) : G mi_X12_fold 5 (oI r.1) r.2 25 [some (aR v0), none, none, none, none, none] [] M 0 0 := by
  unfold f_X12_fold_25 at hf
  refine g_aload_n (pc' := 26) dX12_fold_25 rfl rfl ?_
  refine g_iconst (pc' := 27) (1 : Int32) dX12_fold_26 rfl (by decide) ?_
  obtain ⟨h1, hf⟩ := chk_s hf
  obtain ⟨r3, M2, e3, hf⟩ := bnd_some hf
  refine g_callVi (pc' := 30) (k' := 0) (u' := 0) (fr2 := 1) (As := [aI (1 : Int32)]) (b := v0) (st := []) cf_X12_fail q_904 (by omega) (ci := 12) rfl rfl (by decide) dX12_fold_27 rfl rfl rfl (Nat.le_of_ble_eq_true rfl) (Or.inl rfl) (Nat.le_refl _) (Nat.le_refl _) (Nat.le_refl _) (Nat.le_refl _) h1 (s_X12_fail v0 (1 : Int32) M _ e3) ?_
  cases hf
  exact g_ireturn dX12_fold_30 rfl (Nat.le_of_ble_eq_true rfl) (Nat.le_of_ble_eq_true rfl)
theorem s_X12_fold (v0 : Nat) (v1 : Int32) (v2 : Int32) (M : Mem) (r : (Int32 × Mem)) (hf : f_X12_fold v0 v1 v2 M = some r) : Sem mi_X12_fold (5) [aR v0, aI v1, aI v2] M (oI r.1) r.2 := by
  unfold f_X12_fold at hf
  refine sem_of (by decide) rfl rfl rfl (Nat.le_of_ble_eq_true rfl) (lv := [some (aR v0), some (aI v1), some (aI v2), none, none, none]) rfl ?_
  refine g_aload_n (pc' := 1) dX12_fold_0 rfl rfl ?_
  refine g_iconst (pc' := 2) (0 : Int32) dX12_fold_1 rfl (by decide) ?_
  obtain ⟨h1, hf⟩ := chk_s hf
  refine g_putI (pc' := 5) 12 2 rfl rfl (by decide) inX12 tyX12_ok nmX12 (by decide) rfl rfl rfl rfl q_167 dX12_fold_2 rfl h1 (gM fun M2 hM2 => ?_)
  have hf := ap_eq hf hM2
  refine g_aload_n (pc' := 6) dX12_fold_5 rfl rfl ?_
  refine g_iload_n (pc' := 7) dX12_fold_6 rfl rfl ?_
  obtain ⟨h3, hf⟩ := chk_s hf
  obtain ⟨r5, M4, e5, hf⟩ := bnd_some hf
  refine g_callVi (pc' := 10) (k' := 0) (u' := 0) (fr2 := 2) (As := [aI v1]) (b := v0) (st := []) cf_X12_isLeaf q_974 (by omega) (ci := 12) rfl rfl (by decide) dX12_fold_7 rfl rfl rfl (Nat.le_of_ble_eq_true rfl) (Or.inl rfl) (Nat.le_refl _) (Nat.le_refl _) (Nat.le_refl _) (Nat.le_refl _) h3 (s_X12_isLeaf v0 v1 M2 _ e5) ?_
  refine g_if_eq (pc' := 13) 25 dX12_fold_10 rfl (by decide) (fun c6 => ?_) (fun c6 => ?_)
  · have hf := ite_t c6 hf
    refine g_mask [true, false, false, true, true, true] rfl ?_
    refine g_widen (k' := 0) (u' := 0) (by omega) (by omega) ?_
    exact s_X12_fold_25 v0 M4 _ hf
  · have hf := ite_f c6 hf
    refine g_iload_n (pc' := 14) dX12_fold_13 rfl rfl ?_
    refine g_i2l (pc' := 15) dX12_fold_14 rfl ?_
    refine g_lconst (pc' := 16) (0 : Int64) dX12_fold_15 rfl (by decide) ?_
    refine g_ldc2 (pc' := 19) (v := (7 : Int64)) dX12_fold_16 rfl q_1305 ?_
    obtain ⟨r8, M7, e8, hf⟩ := bnd_some hf
    refine g_callSi (pc' := 22) (k' := 0) (u' := 0) (fr2 := 1) (As := [aL v2.toInt64, aL (0 : Int64), aL (7 : Int64)]) (st := []) cf_X12_isIn q_932 (by omega) dX12_fold_19 rfl rfl rfl (Nat.le_of_ble_eq_true rfl) (Or.inl rfl) (Nat.le_refl _) (Nat.le_refl _) (Nat.le_refl _) (Nat.le_refl _) (s_X12_isIn v2.toInt64 (0 : Int64) (7 : Int64) M4 _ e8) ?_
    refine g_if_ne (pc' := 25) 31 dX12_fold_22 rfl (by decide) (fun c9 => ?_) (fun c9 => ?_)
    · have hf := ite_f c9 hf
      refine g_iconst (pc' := 32) (0 : Int32) dX12_fold_31 rfl (by decide) ?_
      refine g_istore_n (pc' := 33) (lv' := [some (aR v0), some (aI v1), some (aI v2), some (aI (0 : Int32)), none, none]) dX12_fold_32 rfl rfl (by decide) rfl ?_
      refine g_iconst (pc' := 34) (0 : Int32) dX12_fold_33 rfl (by decide) ?_
      refine g_istore (pc' := 36) (lv' := [some (aR v0), some (aI v1), some (aI v2), some (aI (0 : Int32)), some (aI (0 : Int32)), none]) dX12_fold_34 rfl rfl (by decide) rfl ?_
      refine g_iconst (pc' := 37) (0 : Int32) dX12_fold_36 rfl (by decide) ?_
      refine g_istore (pc' := 39) (lv' := [some (aR v0), some (aI v1), some (aI v2), some (aI (0 : Int32)), some (aI (0 : Int32)), some (aI (0 : Int32))]) dX12_fold_37 rfl rfl (by decide) rfl ?_
      refine g_widen (k' := 0) (u' := 0) (by omega) (by omega) ?_
      exact s_X12_fold_39 FUEL v0 v1 v2 (0 : Int32) (0 : Int32) (0 : Int32) M7 _ hf
    · have hf := ite_t c9 hf
      refine g_mask [true, false, false, true, true, true] rfl ?_
      refine g_widen (k' := 0) (u' := 0) (by omega) (by omega) ?_
      exact s_X12_fold_25 v0 M7 _ hf
def f_X12_picked_212 (k37 : Nat → Int32 → Int32 → Int32 → Int32 → Int32 → Mem → Option (Int32 × Mem)) (v0 : Nat) (v1 : Int32) (v2 : Int32) (v3 : Int32) (v5 : Int32) (w0 : Int32) (w1 : Int32) (M : Mem) : Option (Int32 × Mem) :=
  k37 v0 v1 v2 v3 (w0 ||| w1) (v5 + 1) M
def f_X12_picked_211 (k37 : Nat → Int32 → Int32 → Int32 → Int32 → Int32 → Mem → Option (Int32 × Mem)) (v0 : Nat) (v1 : Int32) (v2 : Int32) (v3 : Int32) (v5 : Int32) (w0 : Int32) (M : Mem) : Option (Int32 × Mem) :=
  f_X12_picked_212 k37 v0 v1 v2 v3 v5 w0 (0 : Int32) M
def f_X12_picked_184 (k37 : Nat → Int32 → Int32 → Int32 → Int32 → Int32 → Mem → Option (Int32 × Mem)) (v0 : Nat) (v1 : Int32) (v2 : Int32) (v3 : Int32) (v4 : Int32) (v5 : Int32) (v6 : Int32) (w0 : Int32) (M : Mem) : Option (Int32 × Mem) :=
  if w0 = 0 then
    f_X12_picked_211 k37 v0 v1 v2 v3 v5 v4 M
  else
    if mK M v0 = 13 then
      if mK M (mR M v0 28) = 21 then
        if inB v1 (mN M (mR M v0 28)) = true then
          if (mI M (mR M v0 28) v1.toNatClampNeg) ≤ v6 then
            f_X12_picked_211 k37 v0 v1 v2 v3 v5 v4 M
          else
            f_X12_picked_212 k37 v0 v1 v2 v3 v5 v4 ((1 : Int32) <<< (v5 &&& 31)) M
        else none
      else none
    else none
def f_X12_picked_164 (k37 : Nat → Int32 → Int32 → Int32 → Int32 → Int32 → Mem → Option (Int32 × Mem)) (v0 : Nat) (v1 : Int32) (v2 : Int32) (v3 : Int32) (v4 : Int32) (v5 : Int32) (v6 : Int32) (v7 : Int32) (v8 : Int32) (M : Mem) : Option (Int32 × Mem) :=
  if v2 = (3 : Int32) then
    if v7 = 0 then
      f_X12_picked_184 k37 v0 v1 v2 v3 v4 v5 v6 (1 : Int32) M
    else
      f_X12_picked_184 k37 v0 v1 v2 v3 v4 v5 v6 (0 : Int32) M
  else
    f_X12_picked_184 k37 v0 v1 v2 v3 v4 v5 v6 v8 M
def f_X12_picked_158 (k37 : Nat → Int32 → Int32 → Int32 → Int32 → Int32 → Mem → Option (Int32 × Mem)) (k65 : Nat → Int32 → Int32 → Int32 → Int32 → Int32 → Int32 → Int32 → Int32 → Int32 → Mem → Option (Int32 × Mem)) (v0 : Nat) (v1 : Int32) (v2 : Int32) (v3 : Int32) (v4 : Int32) (v5 : Int32) (v6 : Int32) (v7 : Int32) (v8 : Int32) (v9 : Int32) (M : Mem) : Option (Int32 × Mem) :=
  k65 v0 v1 v2 v3 v4 v5 v6 v7 v8 (v9 + 1) M
def f_X12_picked_156 (k37 : Nat → Int32 → Int32 → Int32 → Int32 → Int32 → Mem → Option (Int32 × Mem)) (k65 : Nat → Int32 → Int32 → Int32 → Int32 → Int32 → Int32 → Int32 → Int32 → Int32 → Mem → Option (Int32 × Mem)) (v0 : Nat) (v1 : Int32) (v2 : Int32) (v3 : Int32) (v4 : Int32) (v5 : Int32) (v6 : Int32) (v7 : Int32) (v9 : Int32) (w0 : Int32) (M : Mem) : Option (Int32 × Mem) :=
  f_X12_picked_158 k37 k65 v0 v1 v2 v3 v4 v5 v6 v7 w0 v9 M
def f_X12_picked_155 (k37 : Nat → Int32 → Int32 → Int32 → Int32 → Int32 → Mem → Option (Int32 × Mem)) (k65 : Nat → Int32 → Int32 → Int32 → Int32 → Int32 → Int32 → Int32 → Int32 → Int32 → Mem → Option (Int32 × Mem)) (v0 : Nat) (v1 : Int32) (v2 : Int32) (v3 : Int32) (v4 : Int32) (v5 : Int32) (v6 : Int32) (v7 : Int32) (v9 : Int32) (M : Mem) : Option (Int32 × Mem) :=
  f_X12_picked_156 k37 k65 v0 v1 v2 v3 v4 v5 v6 v7 v9 (0 : Int32) M
def f_X12_picked_151 (k37 : Nat → Int32 → Int32 → Int32 → Int32 → Int32 → Mem → Option (Int32 × Mem)) (k65 : Nat → Int32 → Int32 → Int32 → Int32 → Int32 → Int32 → Int32 → Int32 → Int32 → Mem → Option (Int32 × Mem)) (v0 : Nat) (v1 : Int32) (v2 : Int32) (v3 : Int32) (v4 : Int32) (v5 : Int32) (v6 : Int32) (v7 : Int32) (v9 : Int32) (M : Mem) : Option (Int32 × Mem) :=
  f_X12_picked_156 k37 k65 v0 v1 v2 v3 v4 v5 v6 v7 v9 (1 : Int32) M
def f_X12_picked_65 (k37 : Nat → Int32 → Int32 → Int32 → Int32 → Int32 → Mem → Option (Int32 × Mem)) : Nat → Nat → Int32 → Int32 → Int32 → Int32 → Int32 → Int32 → Int32 → Int32 → Int32 → Mem → Option (Int32 × Mem)
  | 0, _, _, _, _, _, _, _, _, _, _, _ => none
  | n + 1, v0, v1, v2, v3, v4, v5, v6, v7, v8, v9, M =>
    if mK M v0 = 13 then
      if mK M (mR M v0 28) = 21 then
        if inB v1 (mN M (mR M v0 28)) = true then
          if (mI M (mR M v0 28) v1.toNatClampNeg) ≤ v6 then
            f_X12_picked_164 k37 v0 v1 v2 v3 v4 v5 v6 v7 v8 M
          else
            bnd (f_X12_behindOf v0 v1 v6 M) fun r6 M5 =>
            if r6 ≤ v9 then
              f_X12_picked_164 k37 v0 v1 v2 v3 v4 v5 v6 v7 v8 M5
            else
              if mK M5 v0 = 13 then
                bnd (f_X12_hasValue v0 v1 v9 M5) fun r10 M9 =>
                if r10 = 0 then
                  f_X12_picked_158 k37 (f_X12_picked_65 k37 n) v0 v1 v2 v3 v4 v5 v6 v7 v8 v9 M9
                else
                  if mK M9 v0 = 13 then
                    bnd (f_X12_valueAt v0 v1 v9 M9) fun r14 M13 =>
                    if v8 = 0 then
                      if v2 = 0 then
                        if r14 = v3 then
                          f_X12_picked_151 k37 (f_X12_picked_65 k37 n) v0 v1 v2 v3 v4 v5 v6 (1 : Int32) v9 M13
                        else
                          f_X12_picked_155 k37 (f_X12_picked_65 k37 n) v0 v1 v2 v3 v4 v5 v6 (1 : Int32) v9 M13
                      else
                        if v2 = (1 : Int32) then
                          if v3 ≤ r14 then
                            f_X12_picked_155 k37 (f_X12_picked_65 k37 n) v0 v1 v2 v3 v4 v5 v6 (1 : Int32) v9 M13
                          else
                            f_X12_picked_151 k37 (f_X12_picked_65 k37 n) v0 v1 v2 v3 v4 v5 v6 (1 : Int32) v9 M13
                        else
                          if r14 ≤ v3 then
                            f_X12_picked_155 k37 (f_X12_picked_65 k37 n) v0 v1 v2 v3 v4 v5 v6 (1 : Int32) v9 M13
                          else
                            f_X12_picked_151 k37 (f_X12_picked_65 k37 n) v0 v1 v2 v3 v4 v5 v6 (1 : Int32) v9 M13
                    else
                      f_X12_picked_151 k37 (f_X12_picked_65 k37 n) v0 v1 v2 v3 v4 v5 v6 (1 : Int32) v9 M13
                  else none
              else none
        else none
      else none
    else none
def f_X12_picked_37 : Nat → Nat → Int32 → Int32 → Int32 → Int32 → Int32 → Mem → Option (Int32 × Mem)
  | 0, _, _, _, _, _, _, _ => none
  | n + 1, v0, v1, v2, v3, v4, v5, M =>
    if mK M v0 = 13 then
      if (mI M v0 30) ≤ v5 then
        some (v4, M)
      else
        bnd (f_X12_firstOf v0 v1 v5 M) fun r4 M3 =>
        f_X12_picked_65 (f_X12_picked_37 n) FUEL v0 v1 v2 v3 v4 v5 r4 (0 : Int32) (0 : Int32) r4 M3
    else none
def f_X12_picked_25 (v0 : Nat) (M : Mem) : Option (Int32 × Mem) :=
  if mK M v0 = 13 then
    bnd (f_X12_fail v0 (1 : Int32) M) fun r3 M2 =>
    some (r3, M2)
  else none
def f_X12_picked (v0 : Nat) (v1 : Int32) (v2 : Int32) (v3 : Int32) (M : Mem) : Option (Int32 × Mem) :=
  if mK M v0 = 13 then
    ap (sI M v0 2 (0 : Int32)) fun M2 =>
    if mK M2 v0 = 13 then
      bnd (f_X12_isLeaf v0 v1 M2) fun r5 M4 =>
      if r5 = 0 then
        f_X12_picked_25 v0 M4
      else
        bnd (f_X12_isIn v2.toInt64 (0 : Int64) (3 : Int64) M4) fun r8 M7 =>
        if r8 = 0 then
          f_X12_picked_25 v0 M7
        else
          f_X12_picked_37 FUEL v0 v1 v2 v3 (0 : Int32) (0 : Int32) M7
    else none
  else none
theorem s_X12_picked_212 (k37 : Nat → Int32 → Int32 → Int32 → Int32 → Int32 → Mem → Option (Int32 × Mem)) (hk37 : ∀ (v0 : Nat) (v1 : Int32) (v2 : Int32) (v3 : Int32) (v4 : Int32) (v5 : Int32) (M : Mem) (r : (Int32 × Mem)), k37 v0 v1 v2 v3 v4 v5 M = some r → G mi_X12_picked 4 (oI r.1) r.2 37 [some (aR v0), some (aI v1), some (aI v2), some (aI v3), some (aI v4), some (aI v5), none, none, none, none, none] [] M 0 0) (v0 : Nat) (v1 : Int32) (v2 : Int32) (v3 : Int32) (v5 : Int32) (w0 : Int32) (w1 : Int32) (M : Mem) (r : (Int32 × Mem)) (hf : f_X12_picked_212 k37 v0 v1 v2 v3 v5 w0 w1 M = some r) : G mi_X12_picked 4 (oI r.1) r.2 212 [some (aR v0), some (aI v1), some (aI v2), some (aI v3), none, some (aI v5), none, none, none, none, none] [aI w1, aI w0] M 0 0 := by
  unfold f_X12_picked_212 at hf
  refine g_ior (pc' := 213) dX12_picked_212 rfl ?_
  refine g_istore (pc' := 215) (lv' := [some (aR v0), some (aI v1), some (aI v2), some (aI v3), some (aI (w0 ||| w1)), some (aI v5), none, none, none, none, none]) dX12_picked_213 rfl rfl (by decide) rfl ?_
  refine g_iinc (pc' := 218) (lv' := [some (aR v0), some (aI v1), some (aI v2), some (aI v3), some (aI (w0 ||| w1)), some (aI (v5 + 1)), none, none, none, none, none]) (v5 + 1) dX12_picked_215 rfl rfl (by rfl) rfl (by decide) rfl ?_
  refine g_goto (pc' := 37) dX12_picked_218 (by decide) ?_
  exact hk37 v0 v1 v2 v3 (w0 ||| w1) (v5 + 1) M _ hf
theorem s_X12_picked_211 (k37 : Nat → Int32 → Int32 → Int32 → Int32 → Int32 → Mem → Option (Int32 × Mem)) (hk37 : ∀ (v0 : Nat) (v1 : Int32) (v2 : Int32) (v3 : Int32) (v4 : Int32) (v5 : Int32) (M : Mem) (r : (Int32 × Mem)), k37 v0 v1 v2 v3 v4 v5 M = some r → G mi_X12_picked 4 (oI r.1) r.2 37 [some (aR v0), some (aI v1), some (aI v2), some (aI v3), some (aI v4), some (aI v5), none, none, none, none, none] [] M 0 0) (v0 : Nat) (v1 : Int32) (v2 : Int32) (v3 : Int32) (v5 : Int32) (w0 : Int32) (M : Mem) (r : (Int32 × Mem)) (hf : f_X12_picked_211 k37 v0 v1 v2 v3 v5 w0 M = some r) : G mi_X12_picked 4 (oI r.1) r.2 211 [some (aR v0), some (aI v1), some (aI v2), some (aI v3), none, some (aI v5), none, none, none, none, none] [aI w0] M 0 0 := by
  unfold f_X12_picked_211 at hf
  refine g_iconst (pc' := 212) (0 : Int32) dX12_picked_211 rfl (by decide) ?_
  exact s_X12_picked_212 k37 hk37 v0 v1 v2 v3 v5 w0 (0 : Int32) M _ hf
theorem s_X12_picked_184 (k37 : Nat → Int32 → Int32 → Int32 → Int32 → Int32 → Mem → Option (Int32 × Mem)) (hk37 : ∀ (v0 : Nat) (v1 : Int32) (v2 : Int32) (v3 : Int32) (v4 : Int32) (v5 : Int32) (M : Mem) (r : (Int32 × Mem)), k37 v0 v1 v2 v3 v4 v5 M = some r → G mi_X12_picked 4 (oI r.1) r.2 37 [some (aR v0), some (aI v1), some (aI v2), some (aI v3), some (aI v4), some (aI v5), none, none, none, none, none] [] M 0 0) (v0 : Nat) (v1 : Int32) (v2 : Int32) (v3 : Int32) (v4 : Int32) (v5 : Int32) (v6 : Int32) (w0 : Int32) (M : Mem) (r : (Int32 × Mem)) (hf : f_X12_picked_184 k37 v0 v1 v2 v3 v4 v5 v6 w0 M = some r) : G mi_X12_picked 4 (oI r.1) r.2 184 [some (aR v0), some (aI v1), some (aI v2), some (aI v3), some (aI v4), some (aI v5), some (aI v6), none, none, none, none] [aI w0] M 0 0 := by
  unfold f_X12_picked_184 at hf
  refine g_istore (pc' := 186) (lv' := [some (aR v0), some (aI v1), some (aI v2), some (aI v3), some (aI v4), some (aI v5), some (aI v6), none, none, some (aI w0), none]) dX12_picked_184 rfl rfl (by decide) rfl ?_
  refine g_iload (pc' := 188) dX12_picked_186 rfl rfl ?_
  refine g_iload (pc' := 190) dX12_picked_188 rfl rfl ?_
  refine g_if_eq (pc' := 193) 211 dX12_picked_190 rfl (by decide) (fun c1 => ?_) (fun c1 => ?_)
  · have hf := ite_t c1 hf
    refine g_mask [true, true, true, true, false, true, false, true, true, false, true] rfl ?_
    exact s_X12_picked_211 k37 hk37 v0 v1 v2 v3 v5 v4 M _ hf
  · have hf := ite_f c1 hf
    refine g_iload (pc' := 195) dX12_picked_193 rfl rfl ?_
    refine g_aload_n (pc' := 196) dX12_picked_195 rfl rfl ?_
    obtain ⟨h2, hf⟩ := chk_s hf
    refine g_getR (pc' := 199) 12 28 rfl rfl (by decide) inX12 (by decide) rfl rfl q_139 dX12_picked_196 rfl h2 ?_
    refine g_iload_n (pc' := 200) dX12_picked_199 rfl rfl ?_
    obtain ⟨h3, hf⟩ := chk_s hf
    obtain ⟨b4, hf⟩ := chk_s hf
    refine g_iald (pc' := 201) dX12_picked_200 rfl h3 (inB_in b4) ?_
    refine g_icmp_ge (pc' := 204) 211 dX12_picked_201 rfl (by decide) (fun c5 => ?_) (fun c5 => ?_)
    · have hf := ite_t c5 hf
      refine g_mask [true, true, true, true, false, true, false, true, true, false, true] rfl ?_
      exact s_X12_picked_211 k37 hk37 v0 v1 v2 v3 v5 v4 M _ hf
    · have hf := ite_f c5 hf
      refine g_iconst (pc' := 205) (1 : Int32) dX12_picked_204 rfl (by decide) ?_
      refine g_iload (pc' := 207) dX12_picked_205 rfl rfl ?_
      refine g_ishl (pc' := 208) dX12_picked_207 rfl ?_
      refine g_goto (pc' := 212) dX12_picked_208 (by decide) ?_
      refine g_mask [true, true, true, true, false, true, false, true, true, false, true] rfl ?_
      exact s_X12_picked_212 k37 hk37 v0 v1 v2 v3 v5 v4 ((1 : Int32) <<< (v5 &&& 31)) M _ hf
theorem s_X12_picked_164 (k37 : Nat → Int32 → Int32 → Int32 → Int32 → Int32 → Mem → Option (Int32 × Mem)) (hk37 : ∀ (v0 : Nat) (v1 : Int32) (v2 : Int32) (v3 : Int32) (v4 : Int32) (v5 : Int32) (M : Mem) (r : (Int32 × Mem)), k37 v0 v1 v2 v3 v4 v5 M = some r → G mi_X12_picked 4 (oI r.1) r.2 37 [some (aR v0), some (aI v1), some (aI v2), some (aI v3), some (aI v4), some (aI v5), none, none, none, none, none] [] M 0 0) (v0 : Nat) (v1 : Int32) (v2 : Int32) (v3 : Int32) (v4 : Int32) (v5 : Int32) (v6 : Int32) (v7 : Int32) (v8 : Int32) (M : Mem) (r : (Int32 × Mem)) (hf : f_X12_picked_164 k37 v0 v1 v2 v3 v4 v5 v6 v7 v8 M = some r) : G mi_X12_picked 4 (oI r.1) r.2 164 [some (aR v0), some (aI v1), some (aI v2), some (aI v3), some (aI v4), some (aI v5), some (aI v6), some (aI v7), some (aI v8), none, none] [] M 0 0 := by
  unfold f_X12_picked_164 at hf
  refine g_iload_n (pc' := 165) dX12_picked_164 rfl rfl ?_
  refine g_iconst (pc' := 166) (3 : Int32) dX12_picked_165 rfl (by decide) ?_
  refine g_icmp_ne (pc' := 169) 182 dX12_picked_166 rfl (by decide) (fun c1 => ?_) (fun c1 => ?_)
  · have hf := ite_f c1 hf
    refine g_iload (pc' := 184) dX12_picked_182 rfl rfl ?_
    refine g_mask [true, true, true, true, true, true, true, false, false, true, true] rfl ?_
    exact s_X12_picked_184 k37 hk37 v0 v1 v2 v3 v4 v5 v6 v8 M _ hf
  · have hf := ite_t c1 hf
    refine g_iload (pc' := 171) dX12_picked_169 rfl rfl ?_
    refine g_if_ne (pc' := 174) 178 dX12_picked_171 rfl (by decide) (fun c2 => ?_) (fun c2 => ?_)
    · have hf := ite_f c2 hf
      refine g_iconst (pc' := 179) (0 : Int32) dX12_picked_178 rfl (by decide) ?_
      refine g_goto (pc' := 184) dX12_picked_179 (by decide) ?_
      refine g_mask [true, true, true, true, true, true, true, false, false, true, true] rfl ?_
      exact s_X12_picked_184 k37 hk37 v0 v1 v2 v3 v4 v5 v6 (0 : Int32) M _ hf
    · have hf := ite_t c2 hf
      refine g_iconst (pc' := 175) (1 : Int32) dX12_picked_174 rfl (by decide) ?_
      refine g_goto (pc' := 184) dX12_picked_175 (by decide) ?_
      refine g_mask [true, true, true, true, true, true, true, false, false, true, true] rfl ?_
      exact s_X12_picked_184 k37 hk37 v0 v1 v2 v3 v4 v5 v6 (1 : Int32) M _ hf
theorem s_X12_picked_158 (k37 : Nat → Int32 → Int32 → Int32 → Int32 → Int32 → Mem → Option (Int32 × Mem)) (k65 : Nat → Int32 → Int32 → Int32 → Int32 → Int32 → Int32 → Int32 → Int32 → Int32 → Mem → Option (Int32 × Mem)) (hk37 : ∀ (v0 : Nat) (v1 : Int32) (v2 : Int32) (v3 : Int32) (v4 : Int32) (v5 : Int32) (M : Mem) (r : (Int32 × Mem)), k37 v0 v1 v2 v3 v4 v5 M = some r → G mi_X12_picked 4 (oI r.1) r.2 37 [some (aR v0), some (aI v1), some (aI v2), some (aI v3), some (aI v4), some (aI v5), none, none, none, none, none] [] M 0 0) (hk65 : ∀ (v0 : Nat) (v1 : Int32) (v2 : Int32) (v3 : Int32) (v4 : Int32) (v5 : Int32) (v6 : Int32) (v7 : Int32) (v8 : Int32) (v9 : Int32) (M : Mem) (r : (Int32 × Mem)), k65 v0 v1 v2 v3 v4 v5 v6 v7 v8 v9 M = some r → G mi_X12_picked 4 (oI r.1) r.2 65 [some (aR v0), some (aI v1), some (aI v2), some (aI v3), some (aI v4), some (aI v5), some (aI v6), some (aI v7), some (aI v8), some (aI v9), none] [] M 0 0) (v0 : Nat) (v1 : Int32) (v2 : Int32) (v3 : Int32) (v4 : Int32) (v5 : Int32) (v6 : Int32) (v7 : Int32) (v8 : Int32) (v9 : Int32) (M : Mem) (r : (Int32 × Mem)) (hf : f_X12_picked_158 k37 k65 v0 v1 v2 v3 v4 v5 v6 v7 v8 v9 M = some r) : G mi_X12_picked 4 (oI r.1) r.2 158 [some (aR v0), some (aI v1), some (aI v2), some (aI v3), some (aI v4), some (aI v5), some (aI v6), some (aI v7), some (aI v8), some (aI v9), none] [] M 0 0 := by
  unfold f_X12_picked_158 at hf
  refine g_iinc (pc' := 161) (lv' := [some (aR v0), some (aI v1), some (aI v2), some (aI v3), some (aI v4), some (aI v5), some (aI v6), some (aI v7), some (aI v8), some (aI (v9 + 1)), none]) (v9 + 1) dX12_picked_158 rfl rfl (by rfl) rfl (by decide) rfl ?_
  refine g_goto (pc' := 65) dX12_picked_161 (by decide) ?_
  exact hk65 v0 v1 v2 v3 v4 v5 v6 v7 v8 (v9 + 1) M _ hf
theorem s_X12_picked_156 (k37 : Nat → Int32 → Int32 → Int32 → Int32 → Int32 → Mem → Option (Int32 × Mem)) (k65 : Nat → Int32 → Int32 → Int32 → Int32 → Int32 → Int32 → Int32 → Int32 → Int32 → Mem → Option (Int32 × Mem)) (hk37 : ∀ (v0 : Nat) (v1 : Int32) (v2 : Int32) (v3 : Int32) (v4 : Int32) (v5 : Int32) (M : Mem) (r : (Int32 × Mem)), k37 v0 v1 v2 v3 v4 v5 M = some r → G mi_X12_picked 4 (oI r.1) r.2 37 [some (aR v0), some (aI v1), some (aI v2), some (aI v3), some (aI v4), some (aI v5), none, none, none, none, none] [] M 0 0) (hk65 : ∀ (v0 : Nat) (v1 : Int32) (v2 : Int32) (v3 : Int32) (v4 : Int32) (v5 : Int32) (v6 : Int32) (v7 : Int32) (v8 : Int32) (v9 : Int32) (M : Mem) (r : (Int32 × Mem)), k65 v0 v1 v2 v3 v4 v5 v6 v7 v8 v9 M = some r → G mi_X12_picked 4 (oI r.1) r.2 65 [some (aR v0), some (aI v1), some (aI v2), some (aI v3), some (aI v4), some (aI v5), some (aI v6), some (aI v7), some (aI v8), some (aI v9), none] [] M 0 0) (v0 : Nat) (v1 : Int32) (v2 : Int32) (v3 : Int32) (v4 : Int32) (v5 : Int32) (v6 : Int32) (v7 : Int32) (v9 : Int32) (w0 : Int32) (M : Mem) (r : (Int32 × Mem)) (hf : f_X12_picked_156 k37 k65 v0 v1 v2 v3 v4 v5 v6 v7 v9 w0 M = some r) : G mi_X12_picked 4 (oI r.1) r.2 156 [some (aR v0), some (aI v1), some (aI v2), some (aI v3), some (aI v4), some (aI v5), some (aI v6), some (aI v7), none, some (aI v9), none] [aI w0] M 0 0 := by
  unfold f_X12_picked_156 at hf
  refine g_istore (pc' := 158) (lv' := [some (aR v0), some (aI v1), some (aI v2), some (aI v3), some (aI v4), some (aI v5), some (aI v6), some (aI v7), some (aI w0), some (aI v9), none]) dX12_picked_156 rfl rfl (by decide) rfl ?_
  exact s_X12_picked_158 k37 k65 hk37 hk65 v0 v1 v2 v3 v4 v5 v6 v7 w0 v9 M _ hf
theorem s_X12_picked_155 (k37 : Nat → Int32 → Int32 → Int32 → Int32 → Int32 → Mem → Option (Int32 × Mem)) (k65 : Nat → Int32 → Int32 → Int32 → Int32 → Int32 → Int32 → Int32 → Int32 → Int32 → Mem → Option (Int32 × Mem)) (hk37 : ∀ (v0 : Nat) (v1 : Int32) (v2 : Int32) (v3 : Int32) (v4 : Int32) (v5 : Int32) (M : Mem) (r : (Int32 × Mem)), k37 v0 v1 v2 v3 v4 v5 M = some r → G mi_X12_picked 4 (oI r.1) r.2 37 [some (aR v0), some (aI v1), some (aI v2), some (aI v3), some (aI v4), some (aI v5), none, none, none, none, none] [] M 0 0) (hk65 : ∀ (v0 : Nat) (v1 : Int32) (v2 : Int32) (v3 : Int32) (v4 : Int32) (v5 : Int32) (v6 : Int32) (v7 : Int32) (v8 : Int32) (v9 : Int32) (M : Mem) (r : (Int32 × Mem)), k65 v0 v1 v2 v3 v4 v5 v6 v7 v8 v9 M = some r → G mi_X12_picked 4 (oI r.1) r.2 65 [some (aR v0), some (aI v1), some (aI v2), some (aI v3), some (aI v4), some (aI v5), some (aI v6), some (aI v7), some (aI v8), some (aI v9), none] [] M 0 0) (v0 : Nat) (v1 : Int32) (v2 : Int32) (v3 : Int32) (v4 : Int32) (v5 : Int32) (v6 : Int32) (v7 : Int32) (v9 : Int32) (M : Mem) (r : (Int32 × Mem)) (hf : f_X12_picked_155 k37 k65 v0 v1 v2 v3 v4 v5 v6 v7 v9 M = some r) : G mi_X12_picked 4 (oI r.1) r.2 155 [some (aR v0), some (aI v1), some (aI v2), some (aI v3), some (aI v4), some (aI v5), some (aI v6), some (aI v7), none, some (aI v9), none] [] M 0 0 := by
  unfold f_X12_picked_155 at hf
  refine g_iconst (pc' := 156) (0 : Int32) dX12_picked_155 rfl (by decide) ?_
  exact s_X12_picked_156 k37 k65 hk37 hk65 v0 v1 v2 v3 v4 v5 v6 v7 v9 (0 : Int32) M _ hf
theorem s_X12_picked_151 (k37 : Nat → Int32 → Int32 → Int32 → Int32 → Int32 → Mem → Option (Int32 × Mem)) (k65 : Nat → Int32 → Int32 → Int32 → Int32 → Int32 → Int32 → Int32 → Int32 → Int32 → Mem → Option (Int32 × Mem)) (hk37 : ∀ (v0 : Nat) (v1 : Int32) (v2 : Int32) (v3 : Int32) (v4 : Int32) (v5 : Int32) (M : Mem) (r : (Int32 × Mem)), k37 v0 v1 v2 v3 v4 v5 M = some r → G mi_X12_picked 4 (oI r.1) r.2 37 [some (aR v0), some (aI v1), some (aI v2), some (aI v3), some (aI v4), some (aI v5), none, none, none, none, none] [] M 0 0) (hk65 : ∀ (v0 : Nat) (v1 : Int32) (v2 : Int32) (v3 : Int32) (v4 : Int32) (v5 : Int32) (v6 : Int32) (v7 : Int32) (v8 : Int32) (v9 : Int32) (M : Mem) (r : (Int32 × Mem)), k65 v0 v1 v2 v3 v4 v5 v6 v7 v8 v9 M = some r → G mi_X12_picked 4 (oI r.1) r.2 65 [some (aR v0), some (aI v1), some (aI v2), some (aI v3), some (aI v4), some (aI v5), some (aI v6), some (aI v7), some (aI v8), some (aI v9), none] [] M 0 0) (v0 : Nat) (v1 : Int32) (v2 : Int32) (v3 : Int32) (v4 : Int32) (v5 : Int32) (v6 : Int32) (v7 : Int32) (v9 : Int32) (M : Mem) (r : (Int32 × Mem)) (hf : f_X12_picked_151 k37 k65 v0 v1 v2 v3 v4 v5 v6 v7 v9 M = some r) : G mi_X12_picked 4 (oI r.1) r.2 151 [some (aR v0), some (aI v1), some (aI v2), some (aI v3), some (aI v4), some (aI v5), some (aI v6), some (aI v7), none, some (aI v9), none] [] M 0 0 := by
  unfold f_X12_picked_151 at hf
  refine g_iconst (pc' := 152) (1 : Int32) dX12_picked_151 rfl (by decide) ?_
  refine g_goto (pc' := 156) dX12_picked_152 (by decide) ?_
  exact s_X12_picked_156 k37 k65 hk37 hk65 v0 v1 v2 v3 v4 v5 v6 v7 v9 (1 : Int32) M _ hf
theorem s_X12_picked_65 (k37 : Nat → Int32 → Int32 → Int32 → Int32 → Int32 → Mem → Option (Int32 × Mem)) (hk37 : ∀ (v0 : Nat) (v1 : Int32) (v2 : Int32) (v3 : Int32) (v4 : Int32) (v5 : Int32) (M : Mem) (r : (Int32 × Mem)), k37 v0 v1 v2 v3 v4 v5 M = some r → G mi_X12_picked 4 (oI r.1) r.2 37 [some (aR v0), some (aI v1), some (aI v2), some (aI v3), some (aI v4), some (aI v5), none, none, none, none, none] [] M 0 0) : ∀ (n : Nat) (v0 : Nat) (v1 : Int32) (v2 : Int32) (v3 : Int32) (v4 : Int32) (v5 : Int32) (v6 : Int32) (v7 : Int32) (v8 : Int32) (v9 : Int32) (M : Mem) (r : (Int32 × Mem)), f_X12_picked_65 k37 n v0 v1 v2 v3 v4 v5 v6 v7 v8 v9 M = some r → G mi_X12_picked 4 (oI r.1) r.2 65 [some (aR v0), some (aI v1), some (aI v2), some (aI v3), some (aI v4), some (aI v5), some (aI v6), some (aI v7), some (aI v8), some (aI v9), none] [] M 0 0 := by
  intro n
  induction n with
  | zero => intro v0 v1 v2 v3 v4 v5 v6 v7 v8 v9 M r hf; cases hf
  | succ n ih =>
    intro v0 v1 v2 v3 v4 v5 v6 v7 v8 v9 M r hf
    unfold f_X12_picked_65 at hf
    refine g_iload (pc' := 67) dX12_picked_65 rfl rfl ?_
    refine g_aload_n (pc' := 68) dX12_picked_67 rfl rfl ?_
    obtain ⟨h1, hf⟩ := chk_s hf
    refine g_getR (pc' := 71) 12 28 rfl rfl (by decide) inX12 (by decide) rfl rfl q_139 dX12_picked_68 rfl h1 ?_
    refine g_iload_n (pc' := 72) dX12_picked_71 rfl rfl ?_
    obtain ⟨h2, hf⟩ := chk_s hf
    obtain ⟨b3, hf⟩ := chk_s hf
    refine g_iald (pc' := 73) dX12_picked_72 rfl h2 (inB_in b3) ?_
    refine g_icmp_ge (pc' := 76) 164 dX12_picked_73 rfl (by decide) (fun c4 => ?_) (fun c4 => ?_)
    · have hf := ite_t c4 hf
      refine g_mask [true, true, true, true, true, true, true, true, true, false, true] rfl ?_
      exact s_X12_picked_164 k37 hk37 v0 v1 v2 v3 v4 v5 v6 v7 v8 M _ hf
    · have hf := ite_f c4 hf
      refine g_iload (pc' := 78) dX12_picked_76 rfl rfl ?_
      refine g_aload_n (pc' := 79) dX12_picked_78 rfl rfl ?_
      refine g_iload_n (pc' := 80) dX12_picked_79 rfl rfl ?_
      refine g_iload (pc' := 82) dX12_picked_80 rfl rfl ?_
      obtain ⟨r6, M5, e6, hf⟩ := bnd_some hf
      refine g_callVi (pc' := 85) (k' := 0) (u' := 0) (fr2 := 3) (As := [aI v1, aI v6]) (b := v0) (st := [aI v9]) cf_X12_behindOf q_1042 (by omega) (ci := 12) rfl rfl (by decide) dX12_picked_82 rfl rfl rfl (Nat.le_of_ble_eq_true rfl) (Or.inl rfl) (Nat.le_refl _) (Nat.le_refl _) (Nat.le_refl _) (Nat.le_refl _) h1 (s_X12_behindOf v0 v1 v6 M _ e6) ?_
      refine g_icmp_ge (pc' := 88) 164 dX12_picked_85 rfl (by decide) (fun c7 => ?_) (fun c7 => ?_)
      · have hf := ite_t c7 hf
        refine g_mask [true, true, true, true, true, true, true, true, true, false, true] rfl ?_
        refine g_widen (k' := 0) (u' := 0) (by omega) (by omega) ?_
        exact s_X12_picked_164 k37 hk37 v0 v1 v2 v3 v4 v5 v6 v7 v8 M5 _ hf
      · have hf := ite_f c7 hf
        refine g_aload_n (pc' := 89) dX12_picked_88 rfl rfl ?_
        refine g_iload_n (pc' := 90) dX12_picked_89 rfl rfl ?_
        refine g_iload (pc' := 92) dX12_picked_90 rfl rfl ?_
        obtain ⟨h8, hf⟩ := chk_s hf
        obtain ⟨r10, M9, e10, hf⟩ := bnd_some hf
        refine g_callVi (pc' := 95) (k' := 0) (u' := 0) (fr2 := 2) (As := [aI v1, aI v9]) (b := v0) (st := []) cf_X12_hasValue q_1010 (by omega) (ci := 12) rfl rfl (by decide) dX12_picked_92 rfl rfl rfl (Nat.le_of_ble_eq_true rfl) (Or.inl rfl) (Nat.le_refl _) (Nat.le_refl _) (Nat.le_refl _) (Nat.le_refl _) h8 (s_X12_hasValue v0 v1 v9 M5 _ e10) ?_
        refine g_if_ne (pc' := 98) 101 dX12_picked_95 rfl (by decide) (fun c11 => ?_) (fun c11 => ?_)
        · have hf := ite_f c11 hf
          refine g_aload_n (pc' := 102) dX12_picked_101 rfl rfl ?_
          refine g_iload_n (pc' := 103) dX12_picked_102 rfl rfl ?_
          refine g_iload (pc' := 105) dX12_picked_103 rfl rfl ?_
          obtain ⟨h12, hf⟩ := chk_s hf
          obtain ⟨r14, M13, e14, hf⟩ := bnd_some hf
          refine g_callVi (pc' := 108) (k' := 0) (u' := 0) (fr2 := 1) (As := [aI v1, aI v9]) (b := v0) (st := []) cf_X12_valueAt q_896 (by omega) (ci := 12) rfl rfl (by decide) dX12_picked_105 rfl rfl rfl (Nat.le_of_ble_eq_true rfl) (Or.inl rfl) (Nat.le_refl _) (Nat.le_refl _) (Nat.le_refl _) (Nat.le_refl _) h12 (s_X12_valueAt v0 v1 v9 M9 _ e14) ?_
          refine g_istore (pc' := 110) (lv' := [some (aR v0), some (aI v1), some (aI v2), some (aI v3), some (aI v4), some (aI v5), some (aI v6), some (aI v7), some (aI v8), some (aI v9), some (aI r14)]) dX12_picked_108 rfl rfl (by decide) rfl ?_
          refine g_iconst (pc' := 111) (1 : Int32) dX12_picked_110 rfl (by decide) ?_
          refine g_istore (pc' := 113) (lv' := [some (aR v0), some (aI v1), some (aI v2), some (aI v3), some (aI v4), some (aI v5), some (aI v6), some (aI (1 : Int32)), some (aI v8), some (aI v9), some (aI r14)]) dX12_picked_111 rfl rfl (by decide) rfl ?_
          refine g_iload (pc' := 115) dX12_picked_113 rfl rfl ?_
          refine g_if_ne (pc' := 118) 151 dX12_picked_115 rfl (by decide) (fun c15 => ?_) (fun c15 => ?_)
          · have hf := ite_f c15 hf
            refine g_mask [true, true, true, true, true, true, true, true, false, true, false] rfl ?_
            refine g_widen (k' := 0) (u' := 0) (by omega) (by omega) ?_
            exact s_X12_picked_151 k37 (f_X12_picked_65 k37 n) hk37 ih v0 v1 v2 v3 v4 v5 v6 (1 : Int32) v9 M13 _ hf
          · have hf := ite_t c15 hf
            refine g_iload_n (pc' := 119) dX12_picked_118 rfl rfl ?_
            refine g_if_ne (pc' := 122) 131 dX12_picked_119 rfl (by decide) (fun c16 => ?_) (fun c16 => ?_)
            · have hf := ite_f c16 hf
              refine g_iload_n (pc' := 132) dX12_picked_131 rfl rfl ?_
              refine g_iconst (pc' := 133) (1 : Int32) dX12_picked_132 rfl (by decide) ?_
              refine g_icmp_ne (pc' := 136) 145 dX12_picked_133 rfl (by decide) (fun c17 => ?_) (fun c17 => ?_)
              · have hf := ite_f c17 hf
                refine g_iload (pc' := 147) dX12_picked_145 rfl rfl ?_
                refine g_iload_n (pc' := 148) dX12_picked_147 rfl rfl ?_
                refine g_icmp_le (pc' := 151) 155 dX12_picked_148 rfl (by decide) (fun c18 => ?_) (fun c18 => ?_)
                · have hf := ite_t c18 hf
                  refine g_mask [true, true, true, true, true, true, true, true, false, true, false] rfl ?_
                  refine g_widen (k' := 0) (u' := 0) (by omega) (by omega) ?_
                  exact s_X12_picked_155 k37 (f_X12_picked_65 k37 n) hk37 ih v0 v1 v2 v3 v4 v5 v6 (1 : Int32) v9 M13 _ hf
                · have hf := ite_f c18 hf
                  refine g_mask [true, true, true, true, true, true, true, true, false, true, false] rfl ?_
                  refine g_widen (k' := 0) (u' := 0) (by omega) (by omega) ?_
                  exact s_X12_picked_151 k37 (f_X12_picked_65 k37 n) hk37 ih v0 v1 v2 v3 v4 v5 v6 (1 : Int32) v9 M13 _ hf
              · have hf := ite_t c17 hf
                refine g_iload (pc' := 138) dX12_picked_136 rfl rfl ?_
                refine g_iload_n (pc' := 139) dX12_picked_138 rfl rfl ?_
                refine g_icmp_ge (pc' := 142) 155 dX12_picked_139 rfl (by decide) (fun c19 => ?_) (fun c19 => ?_)
                · have hf := ite_t c19 hf
                  refine g_mask [true, true, true, true, true, true, true, true, false, true, false] rfl ?_
                  refine g_widen (k' := 0) (u' := 0) (by omega) (by omega) ?_
                  exact s_X12_picked_155 k37 (f_X12_picked_65 k37 n) hk37 ih v0 v1 v2 v3 v4 v5 v6 (1 : Int32) v9 M13 _ hf
                · have hf := ite_f c19 hf
                  refine g_goto (pc' := 151) dX12_picked_142 (by decide) ?_
                  refine g_mask [true, true, true, true, true, true, true, true, false, true, false] rfl ?_
                  refine g_widen (k' := 0) (u' := 0) (by omega) (by omega) ?_
                  exact s_X12_picked_151 k37 (f_X12_picked_65 k37 n) hk37 ih v0 v1 v2 v3 v4 v5 v6 (1 : Int32) v9 M13 _ hf
            · have hf := ite_t c16 hf
              refine g_iload (pc' := 124) dX12_picked_122 rfl rfl ?_
              refine g_iload_n (pc' := 125) dX12_picked_124 rfl rfl ?_
              refine g_icmp_ne (pc' := 128) 155 dX12_picked_125 rfl (by decide) (fun c20 => ?_) (fun c20 => ?_)
              · have hf := ite_f c20 hf
                refine g_mask [true, true, true, true, true, true, true, true, false, true, false] rfl ?_
                refine g_widen (k' := 0) (u' := 0) (by omega) (by omega) ?_
                exact s_X12_picked_155 k37 (f_X12_picked_65 k37 n) hk37 ih v0 v1 v2 v3 v4 v5 v6 (1 : Int32) v9 M13 _ hf
              · have hf := ite_t c20 hf
                refine g_goto (pc' := 151) dX12_picked_128 (by decide) ?_
                refine g_mask [true, true, true, true, true, true, true, true, false, true, false] rfl ?_
                refine g_widen (k' := 0) (u' := 0) (by omega) (by omega) ?_
                exact s_X12_picked_151 k37 (f_X12_picked_65 k37 n) hk37 ih v0 v1 v2 v3 v4 v5 v6 (1 : Int32) v9 M13 _ hf
        · have hf := ite_t c11 hf
          refine g_goto (pc' := 158) dX12_picked_98 (by decide) ?_
          refine g_widen (k' := 0) (u' := 0) (by omega) (by omega) ?_
          exact s_X12_picked_158 k37 (f_X12_picked_65 k37 n) hk37 ih v0 v1 v2 v3 v4 v5 v6 v7 v8 v9 M9 _ hf
theorem s_X12_picked_37 : ∀ (n : Nat) (v0 : Nat) (v1 : Int32) (v2 : Int32) (v3 : Int32) (v4 : Int32) (v5 : Int32) (M : Mem) (r : (Int32 × Mem)), f_X12_picked_37 n v0 v1 v2 v3 v4 v5 M = some r → G mi_X12_picked 4 (oI r.1) r.2 37 [some (aR v0), some (aI v1), some (aI v2), some (aI v3), some (aI v4), some (aI v5), none, none, none, none, none] [] M 0 0 := by
  intro n
  induction n with
  | zero => intro v0 v1 v2 v3 v4 v5 M r hf; cases hf
  | succ n ih =>
    intro v0 v1 v2 v3 v4 v5 M r hf
    unfold f_X12_picked_37 at hf
    refine g_iload (pc' := 39) dX12_picked_37 rfl rfl ?_
    refine g_aload_n (pc' := 40) dX12_picked_39 rfl rfl ?_
    obtain ⟨h1, hf⟩ := chk_s hf
    refine g_getI (pc' := 43) 12 30 rfl rfl (by decide) inX12 (by decide) rfl rfl q_364 dX12_picked_40 rfl h1 ?_
    refine g_icmp_ge (pc' := 46) 221 dX12_picked_43 rfl (by decide) (fun c2 => ?_) (fun c2 => ?_)
    · have hf := ite_t c2 hf
      refine g_iload (pc' := 223) dX12_picked_221 rfl rfl ?_
      cases hf
      exact g_ireturn dX12_picked_223 rfl (Nat.le_of_ble_eq_true rfl) (Nat.le_of_ble_eq_true rfl)
    · have hf := ite_f c2 hf
      refine g_aload_n (pc' := 47) dX12_picked_46 rfl rfl ?_
      refine g_iload_n (pc' := 48) dX12_picked_47 rfl rfl ?_
      refine g_iload (pc' := 50) dX12_picked_48 rfl rfl ?_
      obtain ⟨r4, M3, e4, hf⟩ := bnd_some hf
      refine g_callVi (pc' := 53) (k' := 0) (u' := 0) (fr2 := 2) (As := [aI v1, aI v5]) (b := v0) (st := []) cf_X12_firstOf q_1038 (by omega) (ci := 12) rfl rfl (by decide) dX12_picked_50 rfl rfl rfl (Nat.le_of_ble_eq_true rfl) (Or.inl rfl) (Nat.le_refl _) (Nat.le_refl _) (Nat.le_refl _) (Nat.le_refl _) h1 (s_X12_firstOf v0 v1 v5 M _ e4) ?_
      refine g_istore (pc' := 55) (lv' := [some (aR v0), some (aI v1), some (aI v2), some (aI v3), some (aI v4), some (aI v5), some (aI r4), none, none, none, none]) dX12_picked_53 rfl rfl (by decide) rfl ?_
      refine g_iconst (pc' := 56) (0 : Int32) dX12_picked_55 rfl (by decide) ?_
      refine g_istore (pc' := 58) (lv' := [some (aR v0), some (aI v1), some (aI v2), some (aI v3), some (aI v4), some (aI v5), some (aI r4), some (aI (0 : Int32)), none, none, none]) dX12_picked_56 rfl rfl (by decide) rfl ?_
      refine g_iconst (pc' := 59) (0 : Int32) dX12_picked_58 rfl (by decide) ?_
      refine g_istore (pc' := 61) (lv' := [some (aR v0), some (aI v1), some (aI v2), some (aI v3), some (aI v4), some (aI v5), some (aI r4), some (aI (0 : Int32)), some (aI (0 : Int32)), none, none]) dX12_picked_59 rfl rfl (by decide) rfl ?_
      refine g_iload (pc' := 63) dX12_picked_61 rfl rfl ?_
      refine g_istore (pc' := 65) (lv' := [some (aR v0), some (aI v1), some (aI v2), some (aI v3), some (aI v4), some (aI v5), some (aI r4), some (aI (0 : Int32)), some (aI (0 : Int32)), some (aI r4), none]) dX12_picked_63 rfl rfl (by decide) rfl ?_
      refine g_widen (k' := 0) (u' := 0) (by omega) (by omega) ?_
      exact s_X12_picked_65 (f_X12_picked_37 n) ih FUEL v0 v1 v2 v3 v4 v5 r4 (0 : Int32) (0 : Int32) r4 M3 _ hf
theorem s_X12_picked_25 (v0 : Nat) (M : Mem) (r : (Int32 × Mem)) (hf : f_X12_picked_25 v0 M = some r) : G mi_X12_picked 4 (oI r.1) r.2 25 [some (aR v0), none, none, none, none, none, none, none, none, none, none] [] M 0 0 := by
  unfold f_X12_picked_25 at hf
  refine g_aload_n (pc' := 26) dX12_picked_25 rfl rfl ?_
  refine g_iconst (pc' := 27) (1 : Int32) dX12_picked_26 rfl (by decide) ?_
  obtain ⟨h1, hf⟩ := chk_s hf
  obtain ⟨r3, M2, e3, hf⟩ := bnd_some hf
  refine g_callVi (pc' := 30) (k' := 0) (u' := 0) (fr2 := 1) (As := [aI (1 : Int32)]) (b := v0) (st := []) cf_X12_fail q_904 (by omega) (ci := 12) rfl rfl (by decide) dX12_picked_27 rfl rfl rfl (Nat.le_of_ble_eq_true rfl) (Or.inl rfl) (Nat.le_refl _) (Nat.le_refl _) (Nat.le_refl _) (Nat.le_refl _) h1 (s_X12_fail v0 (1 : Int32) M _ e3) ?_
  cases hf
  exact g_ireturn dX12_picked_30 rfl (Nat.le_of_ble_eq_true rfl) (Nat.le_of_ble_eq_true rfl)
theorem s_X12_picked (v0 : Nat) (v1 : Int32) (v2 : Int32) (v3 : Int32) (M : Mem) (r : (Int32 × Mem)) (hf : f_X12_picked v0 v1 v2 v3 M = some r) : Sem mi_X12_picked (4) [aR v0, aI v1, aI v2, aI v3] M (oI r.1) r.2 := by
  unfold f_X12_picked at hf
  refine sem_of (by decide) rfl rfl rfl (Nat.le_of_ble_eq_true rfl) (lv := [some (aR v0), some (aI v1), some (aI v2), some (aI v3), none, none, none, none, none, none, none]) rfl ?_
  refine g_aload_n (pc' := 1) dX12_picked_0 rfl rfl ?_
  refine g_iconst (pc' := 2) (0 : Int32) dX12_picked_1 rfl (by decide) ?_
  obtain ⟨h1, hf⟩ := chk_s hf
  refine g_putI (pc' := 5) 12 2 rfl rfl (by decide) inX12 tyX12_ok nmX12 (by decide) rfl rfl rfl rfl q_167 dX12_picked_2 rfl h1 (gM fun M2 hM2 => ?_)
  have hf := ap_eq hf hM2
  refine g_aload_n (pc' := 6) dX12_picked_5 rfl rfl ?_
  refine g_iload_n (pc' := 7) dX12_picked_6 rfl rfl ?_
  obtain ⟨h3, hf⟩ := chk_s hf
  obtain ⟨r5, M4, e5, hf⟩ := bnd_some hf
  refine g_callVi (pc' := 10) (k' := 0) (u' := 0) (fr2 := 2) (As := [aI v1]) (b := v0) (st := []) cf_X12_isLeaf q_974 (by omega) (ci := 12) rfl rfl (by decide) dX12_picked_7 rfl rfl rfl (Nat.le_of_ble_eq_true rfl) (Or.inl rfl) (Nat.le_refl _) (Nat.le_refl _) (Nat.le_refl _) (Nat.le_refl _) h3 (s_X12_isLeaf v0 v1 M2 _ e5) ?_
  refine g_if_eq (pc' := 13) 25 dX12_picked_10 rfl (by decide) (fun c6 => ?_) (fun c6 => ?_)
  · have hf := ite_t c6 hf
    refine g_mask [true, false, false, false, true, true, true, true, true, true, true] rfl ?_
    refine g_widen (k' := 0) (u' := 0) (by omega) (by omega) ?_
    exact s_X12_picked_25 v0 M4 _ hf
  · have hf := ite_f c6 hf
    refine g_iload_n (pc' := 14) dX12_picked_13 rfl rfl ?_
    refine g_i2l (pc' := 15) dX12_picked_14 rfl ?_
    refine g_lconst (pc' := 16) (0 : Int64) dX12_picked_15 rfl (by decide) ?_
    refine g_ldc2 (pc' := 19) (v := (3 : Int64)) dX12_picked_16 rfl q_1329 ?_
    obtain ⟨r8, M7, e8, hf⟩ := bnd_some hf
    refine g_callSi (pc' := 22) (k' := 0) (u' := 0) (fr2 := 1) (As := [aL v2.toInt64, aL (0 : Int64), aL (3 : Int64)]) (st := []) cf_X12_isIn q_932 (by omega) dX12_picked_19 rfl rfl rfl (Nat.le_of_ble_eq_true rfl) (Or.inl rfl) (Nat.le_refl _) (Nat.le_refl _) (Nat.le_refl _) (Nat.le_refl _) (s_X12_isIn v2.toInt64 (0 : Int64) (3 : Int64) M4 _ e8) ?_
    refine g_if_ne (pc' := 25) 31 dX12_picked_22 rfl (by decide) (fun c9 => ?_) (fun c9 => ?_)
    · have hf := ite_f c9 hf
      refine g_iconst (pc' := 32) (0 : Int32) dX12_picked_31 rfl (by decide) ?_
      refine g_istore (pc' := 34) (lv' := [some (aR v0), some (aI v1), some (aI v2), some (aI v3), some (aI (0 : Int32)), none, none, none, none, none, none]) dX12_picked_32 rfl rfl (by decide) rfl ?_
      refine g_iconst (pc' := 35) (0 : Int32) dX12_picked_34 rfl (by decide) ?_
      refine g_istore (pc' := 37) (lv' := [some (aR v0), some (aI v1), some (aI v2), some (aI v3), some (aI (0 : Int32)), some (aI (0 : Int32)), none, none, none, none, none]) dX12_picked_35 rfl rfl (by decide) rfl ?_
      refine g_widen (k' := 0) (u' := 0) (by omega) (by omega) ?_
      exact s_X12_picked_37 FUEL v0 v1 v2 v3 (0 : Int32) (0 : Int32) M7 _ hf
    · have hf := ite_t c9 hf
      refine g_mask [true, false, false, false, true, true, true, true, true, true, true] rfl ?_
      refine g_widen (k' := 0) (u' := 0) (by omega) (by omega) ?_
      exact s_X12_picked_25 v0 M7 _ hf
def f_X12_pages_95 (k51 : Nat → Int32 → Int32 → Int32 → Int32 → Int32 → Mem → Option (Int32 × Mem)) (v0 : Nat) (v1 : Int32) (v2 : Int32) (v3 : Int32) (v4 : Int32) (v5 : Int32) (v6 : Int32) (M : Mem) : Option (Int32 × Mem) :=
  if mK M v0 = 13 then
    bnd (f_X12_behindOf v0 v1 v5 M) fun r3 M2 =>
    k51 v0 v1 v2 v3 (v4 - v6) r3 M2
  else none
def f_X12_pages_51 : Nat → Nat → Int32 → Int32 → Int32 → Int32 → Int32 → Mem → Option (Int32 × Mem)
  | 0, _, _, _, _, _, _, _ => none
  | n + 1, v0, v1, v2, v3, v4, v5, M =>
    if mK M v0 = 13 then
      if mK M (mR M v0 28) = 21 then
        if inB v1 (mN M (mR M v0 28)) = true then
          if (mI M (mR M v0 28) v1.toNatClampNeg) ≤ v5 then
            some (v3, M)
          else
            bnd (f_X12_behindOf v0 v1 v5 M) fun r6 M5 =>
            if (r6 - v5) ≤ v2 then
              if (r6 - v5) ≤ v4 then
                f_X12_pages_95 (f_X12_pages_51 n) v0 v1 v2 v3 v4 v5 (r6 - v5) M5
              else
                f_X12_pages_95 (f_X12_pages_51 n) v0 v1 v2 (v3 + 1) v2 v5 (r6 - v5) M5
            else
              some ((-1 : Int32), M5)
        else none
      else none
    else none
def f_X12_pages (v0 : Nat) (v1 : Int32) (v2 : Int32) (M : Mem) : Option (Int32 × Mem) :=
  if mK M v0 = 13 then
    ap (sI M v0 2 (0 : Int32)) fun M2 =>
    if mK M2 v0 = 13 then
      bnd (f_X12_isLeaf v0 v1 M2) fun r5 M4 =>
      if r5 = 0 then
        if mK M4 v0 = 13 then
          bnd (f_X12_fail v0 (1 : Int32) M4) fun r18 M17 =>
          some (r18, M17)
        else none
      else
        bnd (f_X12_isIn v2.toInt64 (1 : Int64) (120 : Int64) M4) fun r8 M7 =>
        if r8 = 0 then
          if mK M7 v0 = 13 then
            bnd (f_X12_fail v0 (2 : Int32) M7) fun r15 M14 =>
            some (r15, M14)
          else none
        else
          if mK M7 v0 = 13 then
            bnd (f_X12_stepIn v0 v1 (0 : Int32) (0 : Int32) M7) fun r12 M11 =>
            f_X12_pages_51 FUEL v0 v1 v2 (0 : Int32) (0 : Int32) r12 M11
          else none
    else none
  else none
theorem s_X12_pages_95 (k51 : Nat → Int32 → Int32 → Int32 → Int32 → Int32 → Mem → Option (Int32 × Mem)) (hk51 : ∀ (v0 : Nat) (v1 : Int32) (v2 : Int32) (v3 : Int32) (v4 : Int32) (v5 : Int32) (M : Mem) (r : (Int32 × Mem)), k51 v0 v1 v2 v3 v4 v5 M = some r → G mi_X12_pages 4 (oI r.1) r.2 51 [some (aR v0), some (aI v1), some (aI v2), some (aI v3), some (aI v4), some (aI v5), none] [] M 0 0) (v0 : Nat) (v1 : Int32) (v2 : Int32) (v3 : Int32) (v4 : Int32) (v5 : Int32) (v6 : Int32) (M : Mem) (r : (Int32 × Mem)) (hf : f_X12_pages_95 k51 v0 v1 v2 v3 v4 v5 v6 M = some r) : G mi_X12_pages 4 (oI r.1) r.2 95 [some (aR v0), some (aI v1), some (aI v2), some (aI v3), some (aI v4), some (aI v5), some (aI v6)] [] M 0 0 := by
  unfold f_X12_pages_95 at hf
  refine g_iload (pc' := 97) dX12_pages_95 rfl rfl ?_
  refine g_iload (pc' := 99) dX12_pages_97 rfl rfl ?_
  refine g_isub (pc' := 100) dX12_pages_99 rfl ?_
  refine g_istore (pc' := 102) (lv' := [some (aR v0), some (aI v1), some (aI v2), some (aI v3), some (aI (v4 - v6)), some (aI v5), some (aI v6)]) dX12_pages_100 rfl rfl (by decide) rfl ?_
  refine g_aload_n (pc' := 103) dX12_pages_102 rfl rfl ?_
  refine g_iload_n (pc' := 104) dX12_pages_103 rfl rfl ?_
  refine g_iload (pc' := 106) dX12_pages_104 rfl rfl ?_
  obtain ⟨h1, hf⟩ := chk_s hf
  obtain ⟨r3, M2, e3, hf⟩ := bnd_some hf
  refine g_callVi (pc' := 109) (k' := 0) (u' := 0) (fr2 := 3) (As := [aI v1, aI v5]) (b := v0) (st := []) cf_X12_behindOf q_1042 (by omega) (ci := 12) rfl rfl (by decide) dX12_pages_106 rfl rfl rfl (Nat.le_of_ble_eq_true rfl) (Or.inl rfl) (Nat.le_refl _) (Nat.le_refl _) (Nat.le_refl _) (Nat.le_refl _) h1 (s_X12_behindOf v0 v1 v5 M _ e3) ?_
  refine g_istore (pc' := 111) (lv' := [some (aR v0), some (aI v1), some (aI v2), some (aI v3), some (aI (v4 - v6)), some (aI r3), some (aI v6)]) dX12_pages_109 rfl rfl (by decide) rfl ?_
  refine g_goto (pc' := 51) dX12_pages_111 (by decide) ?_
  refine g_mask [true, true, true, true, true, true, false] rfl ?_
  refine g_widen (k' := 0) (u' := 0) (by omega) (by omega) ?_
  exact hk51 v0 v1 v2 v3 (v4 - v6) r3 M2 _ hf
theorem s_X12_pages_51 : ∀ (n : Nat) (v0 : Nat) (v1 : Int32) (v2 : Int32) (v3 : Int32) (v4 : Int32) (v5 : Int32) (M : Mem) (r : (Int32 × Mem)), f_X12_pages_51 n v0 v1 v2 v3 v4 v5 M = some r → G mi_X12_pages 4 (oI r.1) r.2 51 [some (aR v0), some (aI v1), some (aI v2), some (aI v3), some (aI v4), some (aI v5), none] [] M 0 0 := by
  intro n
  induction n with
  | zero => intro v0 v1 v2 v3 v4 v5 M r hf; cases hf
  | succ n ih =>
    intro v0 v1 v2 v3 v4 v5 M r hf
    unfold f_X12_pages_51 at hf
    refine g_iload (pc' := 53) dX12_pages_51 rfl rfl ?_
    refine g_aload_n (pc' := 54) dX12_pages_53 rfl rfl ?_
    obtain ⟨h1, hf⟩ := chk_s hf
    refine g_getR (pc' := 57) 12 28 rfl rfl (by decide) inX12 (by decide) rfl rfl q_139 dX12_pages_54 rfl h1 ?_
    refine g_iload_n (pc' := 58) dX12_pages_57 rfl rfl ?_
    obtain ⟨h2, hf⟩ := chk_s hf
    obtain ⟨b3, hf⟩ := chk_s hf
    refine g_iald (pc' := 59) dX12_pages_58 rfl h2 (inB_in b3) ?_
    refine g_icmp_ge (pc' := 62) 114 dX12_pages_59 rfl (by decide) (fun c4 => ?_) (fun c4 => ?_)
    · have hf := ite_t c4 hf
      refine g_iload_n (pc' := 115) dX12_pages_114 rfl rfl ?_
      cases hf
      exact g_ireturn dX12_pages_115 rfl (Nat.le_of_ble_eq_true rfl) (Nat.le_of_ble_eq_true rfl)
    · have hf := ite_f c4 hf
      refine g_aload_n (pc' := 63) dX12_pages_62 rfl rfl ?_
      refine g_iload_n (pc' := 64) dX12_pages_63 rfl rfl ?_
      refine g_iload (pc' := 66) dX12_pages_64 rfl rfl ?_
      obtain ⟨r6, M5, e6, hf⟩ := bnd_some hf
      refine g_callVi (pc' := 69) (k' := 0) (u' := 0) (fr2 := 3) (As := [aI v1, aI v5]) (b := v0) (st := []) cf_X12_behindOf q_1042 (by omega) (ci := 12) rfl rfl (by decide) dX12_pages_66 rfl rfl rfl (Nat.le_of_ble_eq_true rfl) (Or.inl rfl) (Nat.le_refl _) (Nat.le_refl _) (Nat.le_refl _) (Nat.le_refl _) h1 (s_X12_behindOf v0 v1 v5 M _ e6) ?_
      refine g_iload (pc' := 71) dX12_pages_69 rfl rfl ?_
      refine g_isub (pc' := 72) dX12_pages_71 rfl ?_
      refine g_istore (pc' := 74) (lv' := [some (aR v0), some (aI v1), some (aI v2), some (aI v3), some (aI v4), some (aI v5), some (aI (r6 - v5))]) dX12_pages_72 rfl rfl (by decide) rfl ?_
      refine g_iload (pc' := 76) dX12_pages_74 rfl rfl ?_
      refine g_iload_n (pc' := 77) dX12_pages_76 rfl rfl ?_
      refine g_icmp_le (pc' := 80) 82 dX12_pages_77 rfl (by decide) (fun c7 => ?_) (fun c7 => ?_)
      · have hf := ite_t c7 hf
        refine g_iload (pc' := 84) dX12_pages_82 rfl rfl ?_
        refine g_iload (pc' := 86) dX12_pages_84 rfl rfl ?_
        refine g_icmp_le (pc' := 89) 95 dX12_pages_86 rfl (by decide) (fun c8 => ?_) (fun c8 => ?_)
        · have hf := ite_t c8 hf
          refine g_widen (k' := 0) (u' := 0) (by omega) (by omega) ?_
          exact s_X12_pages_95 (f_X12_pages_51 n) ih v0 v1 v2 v3 v4 v5 (r6 - v5) M5 _ hf
        · have hf := ite_f c8 hf
          refine g_iinc (pc' := 92) (lv' := [some (aR v0), some (aI v1), some (aI v2), some (aI (v3 + 1)), some (aI v4), some (aI v5), some (aI (r6 - v5))]) (v3 + 1) dX12_pages_89 rfl rfl (by rfl) rfl (by decide) rfl ?_
          refine g_iload_n (pc' := 93) dX12_pages_92 rfl rfl ?_
          refine g_istore (pc' := 95) (lv' := [some (aR v0), some (aI v1), some (aI v2), some (aI (v3 + 1)), some (aI v2), some (aI v5), some (aI (r6 - v5))]) dX12_pages_93 rfl rfl (by decide) rfl ?_
          refine g_widen (k' := 0) (u' := 0) (by omega) (by omega) ?_
          exact s_X12_pages_95 (f_X12_pages_51 n) ih v0 v1 v2 (v3 + 1) v2 v5 (r6 - v5) M5 _ hf
      · have hf := ite_f c7 hf
        refine g_iconst (pc' := 81) (-1 : Int32) dX12_pages_80 rfl (by decide) ?_
        cases hf
        exact g_ireturn dX12_pages_81 rfl (Nat.le_of_ble_eq_true rfl) (Nat.le_of_ble_eq_true rfl)
theorem s_X12_pages (v0 : Nat) (v1 : Int32) (v2 : Int32) (M : Mem) (r : (Int32 × Mem)) (hf : f_X12_pages v0 v1 v2 M = some r) : Sem mi_X12_pages (4) [aR v0, aI v1, aI v2] M (oI r.1) r.2 := by
  unfold f_X12_pages at hf
  refine sem_of (by decide) rfl rfl rfl (Nat.le_of_ble_eq_true rfl) (lv := [some (aR v0), some (aI v1), some (aI v2), none, none, none, none]) rfl ?_
  refine g_aload_n (pc' := 1) dX12_pages_0 rfl rfl ?_
  refine g_iconst (pc' := 2) (0 : Int32) dX12_pages_1 rfl (by decide) ?_
  obtain ⟨h1, hf⟩ := chk_s hf
  refine g_putI (pc' := 5) 12 2 rfl rfl (by decide) inX12 tyX12_ok nmX12 (by decide) rfl rfl rfl rfl q_167 dX12_pages_2 rfl h1 (gM fun M2 hM2 => ?_)
  have hf := ap_eq hf hM2
  refine g_aload_n (pc' := 6) dX12_pages_5 rfl rfl ?_
  refine g_iload_n (pc' := 7) dX12_pages_6 rfl rfl ?_
  obtain ⟨h3, hf⟩ := chk_s hf
  obtain ⟨r5, M4, e5, hf⟩ := bnd_some hf
  refine g_callVi (pc' := 10) (k' := 0) (u' := 0) (fr2 := 2) (As := [aI v1]) (b := v0) (st := []) cf_X12_isLeaf q_974 (by omega) (ci := 12) rfl rfl (by decide) dX12_pages_7 rfl rfl rfl (Nat.le_of_ble_eq_true rfl) (Or.inl rfl) (Nat.le_refl _) (Nat.le_refl _) (Nat.le_refl _) (Nat.le_refl _) h3 (s_X12_isLeaf v0 v1 M2 _ e5) ?_
  refine g_if_ne (pc' := 13) 19 dX12_pages_10 rfl (by decide) (fun c6 => ?_) (fun c6 => ?_)
  · have hf := ite_f c6 hf
    refine g_iload_n (pc' := 20) dX12_pages_19 rfl rfl ?_
    refine g_i2l (pc' := 21) dX12_pages_20 rfl ?_
    refine g_lconst (pc' := 22) (1 : Int64) dX12_pages_21 rfl (by decide) ?_
    refine g_ldc2 (pc' := 25) (v := (120 : Int64)) dX12_pages_22 rfl q_1346 ?_
    obtain ⟨r8, M7, e8, hf⟩ := bnd_some hf
    refine g_callSi (pc' := 28) (k' := 0) (u' := 0) (fr2 := 1) (As := [aL v2.toInt64, aL (1 : Int64), aL (120 : Int64)]) (st := []) cf_X12_isIn q_932 (by omega) dX12_pages_25 rfl rfl rfl (Nat.le_of_ble_eq_true rfl) (Or.inl rfl) (Nat.le_refl _) (Nat.le_refl _) (Nat.le_refl _) (Nat.le_refl _) (s_X12_isIn v2.toInt64 (1 : Int64) (120 : Int64) M4 _ e8) ?_
    refine g_if_ne (pc' := 31) 37 dX12_pages_28 rfl (by decide) (fun c9 => ?_) (fun c9 => ?_)
    · have hf := ite_f c9 hf
      refine g_iconst (pc' := 38) (0 : Int32) dX12_pages_37 rfl (by decide) ?_
      refine g_istore_n (pc' := 39) (lv' := [some (aR v0), some (aI v1), some (aI v2), some (aI (0 : Int32)), none, none, none]) dX12_pages_38 rfl rfl (by decide) rfl ?_
      refine g_iconst (pc' := 40) (0 : Int32) dX12_pages_39 rfl (by decide) ?_
      refine g_istore (pc' := 42) (lv' := [some (aR v0), some (aI v1), some (aI v2), some (aI (0 : Int32)), some (aI (0 : Int32)), none, none]) dX12_pages_40 rfl rfl (by decide) rfl ?_
      refine g_aload_n (pc' := 43) dX12_pages_42 rfl rfl ?_
      refine g_iload_n (pc' := 44) dX12_pages_43 rfl rfl ?_
      refine g_iconst (pc' := 45) (0 : Int32) dX12_pages_44 rfl (by decide) ?_
      refine g_iconst (pc' := 46) (0 : Int32) dX12_pages_45 rfl (by decide) ?_
      obtain ⟨h10, hf⟩ := chk_s hf
      obtain ⟨r12, M11, e12, hf⟩ := bnd_some hf
      refine g_callVi (pc' := 49) (k' := 0) (u' := 0) (fr2 := 2) (As := [aI v1, aI (0 : Int32), aI (0 : Int32)]) (b := v0) (st := []) cf_X12_stepIn q_690 (by omega) (ci := 12) rfl rfl (by decide) dX12_pages_46 rfl rfl rfl (Nat.le_of_ble_eq_true rfl) (Or.inl rfl) (Nat.le_refl _) (Nat.le_refl _) (Nat.le_refl _) (Nat.le_refl _) h10 (s_X12_stepIn v0 v1 (0 : Int32) (0 : Int32) M7 _ e12) ?_
      refine g_istore (pc' := 51) (lv' := [some (aR v0), some (aI v1), some (aI v2), some (aI (0 : Int32)), some (aI (0 : Int32)), some (aI r12), none]) dX12_pages_49 rfl rfl (by decide) rfl ?_
      refine g_widen (k' := 0) (u' := 0) (by omega) (by omega) ?_
      exact s_X12_pages_51 FUEL v0 v1 v2 (0 : Int32) (0 : Int32) r12 M11 _ hf
    · have hf := ite_t c9 hf
      refine g_aload_n (pc' := 32) dX12_pages_31 rfl rfl ?_
      refine g_iconst (pc' := 33) (2 : Int32) dX12_pages_32 rfl (by decide) ?_
      obtain ⟨h13, hf⟩ := chk_s hf
      obtain ⟨r15, M14, e15, hf⟩ := bnd_some hf
      refine g_callVi (pc' := 36) (k' := 0) (u' := 0) (fr2 := 1) (As := [aI (2 : Int32)]) (b := v0) (st := []) cf_X12_fail q_904 (by omega) (ci := 12) rfl rfl (by decide) dX12_pages_33 rfl rfl rfl (Nat.le_of_ble_eq_true rfl) (Or.inl rfl) (Nat.le_refl _) (Nat.le_refl _) (Nat.le_refl _) (Nat.le_refl _) h13 (s_X12_fail v0 (2 : Int32) M7 _ e15) ?_
      cases hf
      exact g_ireturn dX12_pages_36 rfl (Nat.le_of_ble_eq_true rfl) (Nat.le_of_ble_eq_true rfl)
  · have hf := ite_t c6 hf
    refine g_aload_n (pc' := 14) dX12_pages_13 rfl rfl ?_
    refine g_iconst (pc' := 15) (1 : Int32) dX12_pages_14 rfl (by decide) ?_
    obtain ⟨h16, hf⟩ := chk_s hf
    obtain ⟨r18, M17, e18, hf⟩ := bnd_some hf
    refine g_callVi (pc' := 18) (k' := 0) (u' := 0) (fr2 := 1) (As := [aI (1 : Int32)]) (b := v0) (st := []) cf_X12_fail q_904 (by omega) (ci := 12) rfl rfl (by decide) dX12_pages_15 rfl rfl rfl (Nat.le_of_ble_eq_true rfl) (Or.inl rfl) (Nat.le_refl _) (Nat.le_refl _) (Nat.le_refl _) (Nat.le_refl _) h16 (s_X12_fail v0 (1 : Int32) M4 _ e18) ?_
    cases hf
    exact g_ireturn dX12_pages_18 rfl (Nat.le_of_ble_eq_true rfl) (Nat.le_of_ble_eq_true rfl)
def f_X12_pipe_138 : Nat → Nat → Int32 → Int32 → Mem → Option (Int32 × Mem)
  | 0, _, _, _, _ => none
  | n + 1, v0, v2, v3, M =>
    if v2 ≤ v3 then
      some ((0 : Int32), M)
    else
      if mK M v0 = 13 then
        if mK M (mR M v0 44) = 21 then
          if inB ((8 : Int32) + v3) (mN M (mR M v0 44)) = true then
            if inB v3 (mN M (mR M v0 44)) = true then
              ap (sI M (mR M v0 44) v3.toNatClampNeg (mI M (mR M v0 44) ((8 : Int32) + v3).toNatClampNeg)) fun M6 =>
              if mK M6 v0 = 13 then
                if mK M6 (mR M6 v0 45) = 21 then
                  if inB ((8 : Int32) + v3) (mN M6 (mR M6 v0 45)) = true then
                    if inB v3 (mN M6 (mR M6 v0 45)) = true then
                      ap (sI M6 (mR M6 v0 45) v3.toNatClampNeg (mI M6 (mR M6 v0 45) ((8 : Int32) + v3).toNatClampNeg)) fun M11 =>
                      f_X12_pipe_138 n v0 v2 (v3 + 1) M11
                    else none
                  else none
                else none
              else none
            else none
          else none
        else none
      else none
def f_X12_pipe_119 (v0 : Nat) (v2 : Int32) (M : Mem) : Option (Int32 × Mem) :=
  if mK M v0 = 13 then
    bnd (f_X12_ended v0 M) fun r3 M2 =>
    if r3 = 0 then
      if mK M2 v0 = 13 then
        ap (sI M2 v0 47 v2) fun M6 =>
        f_X12_pipe_138 FUEL v0 v2 (0 : Int32) M6
      else none
    else
      if mK M2 v0 = 13 then
        some (mI M2 v0 12, M2)
      else none
  else none
def f_X12_pipe_103 (k16 : Nat → Int32 → Mem → Option (Int32 × Mem)) (v0 : Nat) (v2 : Int32) (w0 : Nat) (w1 : Int32) (w2 : Nat) (w3 : Int32) (M : Mem) : Option (Int32 × Mem) :=
  if mK M w2 = 13 then
    bnd (f_X12_readNumber w2 w3 M) fun r3 M2 =>
    if mK M2 w0 = 21 then
      if inB w1 (mN M2 w0) = true then
        ap (sI M2 w0 w1.toNatClampNeg r3) fun M6 =>
        if mK M6 v0 = 13 then
          bnd (f_X12_mark v0 (59 : Int32) M6) fun _ M8 =>
          k16 v0 (v2 + 1) M8
        else none
      else none
    else none
  else none
def f_X12_pipe_60 (k16 : Nat → Int32 → Mem → Option (Int32 × Mem)) (v0 : Nat) (v2 : Int32) (v3 : Int32) (M : Mem) : Option (Int32 × Mem) :=
  if mK M v0 = 13 then
    if (mI M v0 12) = 0 then
      bnd (f_X12_stepOn v0 M) fun _ M3 =>
      if mK M3 v0 = 13 then
        if mK M3 (mR M3 v0 44) = 21 then
          if inB ((8 : Int32) + v2) (mN M3 (mR M3 v0 44)) = true then
            ap (sI M3 (mR M3 v0 44) ((8 : Int32) + v2).toNatClampNeg v3) fun M8 =>
            if mK M8 v0 = 13 then
              if v3 = (2 : Int32) then
                f_X12_pipe_103 k16 v0 v2 (mR M8 v0 45) ((8 : Int32) + v2) v0 (1 : Int32) M8
              else
                f_X12_pipe_103 k16 v0 v2 (mR M8 v0 45) ((8 : Int32) + v2) v0 (0 : Int32) M8
            else none
          else none
        else none
      else none
    else
      f_X12_pipe_119 v0 v2 M
  else none
def f_X12_pipe_49 (k16 : Nat → Int32 → Mem → Option (Int32 × Mem)) (v0 : Nat) (v2 : Int32) (v3 : Int32) (M : Mem) : Option (Int32 × Mem) :=
  if v2 = (8 : Int32) then
    if mK M v0 = 13 then
      bnd (f_X12_wrong v0 (2 : Int32) M) fun _ M3 =>
      f_X12_pipe_60 k16 v0 v2 v3 M3
    else none
  else
    f_X12_pipe_60 k16 v0 v2 v3 M
def f_X12_pipe_16 : Nat → Nat → Int32 → Mem → Option (Int32 × Mem)
  | 0, _, _, _ => none
  | n + 1, v0, v2, M =>
    if mK M v0 = 13 then
      if (mI M v0 12) = 0 then
        if (mI M v0 8) = 0 then
          f_X12_pipe_119 v0 v2 M
        else
          bnd (f_X12_which v0 (mR M v0 1) M) fun r5 M4 =>
          if r5 = (-1 : Int32) then
            if mK M4 v0 = 13 then
              bnd (f_X12_wrong v0 (1 : Int32) M4) fun _ M8 =>
              f_X12_pipe_49 (f_X12_pipe_16 n) v0 v2 r5 M8
            else none
          else
            f_X12_pipe_49 (f_X12_pipe_16 n) v0 v2 r5 M4
      else
        f_X12_pipe_119 v0 v2 M
    else none
def f_X12_pipe (v0 : Nat) (v1 : Int32) (M : Mem) : Option (Int32 × Mem) :=
  if mK M v0 = 13 then
    bnd (f_X12_begin v0 v1 M) fun r3 M2 =>
    if r3 = 0 then
      some ((0 : Int32), M2)
    else
      if mK M2 v0 = 13 then
        bnd (f_X12_stepOn v0 M2) fun _ M6 =>
        f_X12_pipe_16 FUEL v0 (0 : Int32) M6
      else none
  else none
theorem s_X12_pipe_138 : ∀ (n : Nat) (v0 : Nat) (v2 : Int32) (v3 : Int32) (M : Mem) (r : (Int32 × Mem)), f_X12_pipe_138 n v0 v2 v3 M = some r → G mi_X12_pipe 7 (oI r.1) r.2 138 [some (aR v0), none, some (aI v2), some (aI v3)] [] M 0 0 := by
  intro n
  induction n with
  | zero => intro v0 v2 v3 M r hf; cases hf
  | succ n ih =>
    intro v0 v2 v3 M r hf
    unfold f_X12_pipe_138 at hf
    refine g_iload_n (pc' := 139) dX12_pipe_138 rfl rfl ?_
    refine g_iload_n (pc' := 140) dX12_pipe_139 rfl rfl ?_
    refine g_icmp_ge (pc' := 143) 179 dX12_pipe_140 rfl (by decide) (fun c1 => ?_) (fun c1 => ?_)
    · have hf := ite_t c1 hf
      refine g_iconst (pc' := 180) (0 : Int32) dX12_pipe_179 rfl (by decide) ?_
      cases hf
      exact g_ireturn dX12_pipe_180 rfl (Nat.le_of_ble_eq_true rfl) (Nat.le_of_ble_eq_true rfl)
    · have hf := ite_f c1 hf
      refine g_aload_n (pc' := 144) dX12_pipe_143 rfl rfl ?_
      obtain ⟨h2, hf⟩ := chk_s hf
      refine g_getR (pc' := 147) 12 44 rfl rfl (by decide) inX12 (by decide) rfl rfl q_147 dX12_pipe_144 rfl h2 ?_
      refine g_iload_n (pc' := 148) dX12_pipe_147 rfl rfl ?_
      refine g_aload_n (pc' := 149) dX12_pipe_148 rfl rfl ?_
      refine g_getR (pc' := 152) 12 44 rfl rfl (by decide) inX12 (by decide) rfl rfl q_147 dX12_pipe_149 rfl h2 ?_
      refine g_bipush (pc' := 154) (8 : Int32) dX12_pipe_152 rfl (by decide) ?_
      refine g_iload_n (pc' := 155) dX12_pipe_154 rfl rfl ?_
      refine g_iadd (pc' := 156) dX12_pipe_155 rfl ?_
      obtain ⟨h3, hf⟩ := chk_s hf
      obtain ⟨b4, hf⟩ := chk_s hf
      refine g_iald (pc' := 157) dX12_pipe_156 rfl h3 (inB_in b4) ?_
      obtain ⟨b5, hf⟩ := chk_s hf
      refine g_iast (pc' := 158) dX12_pipe_157 rfl h3 (inB_in b5) (gM fun M6 hM6 => ?_)
      have hf := ap_eq hf hM6
      refine g_aload_n (pc' := 159) dX12_pipe_158 rfl rfl ?_
      obtain ⟨h7, hf⟩ := chk_s hf
      refine g_getR (pc' := 162) 12 45 rfl rfl (by decide) inX12 (by decide) rfl rfl q_148 dX12_pipe_159 rfl h7 ?_
      refine g_iload_n (pc' := 163) dX12_pipe_162 rfl rfl ?_
      refine g_aload_n (pc' := 164) dX12_pipe_163 rfl rfl ?_
      refine g_getR (pc' := 167) 12 45 rfl rfl (by decide) inX12 (by decide) rfl rfl q_148 dX12_pipe_164 rfl h7 ?_
      refine g_bipush (pc' := 169) (8 : Int32) dX12_pipe_167 rfl (by decide) ?_
      refine g_iload_n (pc' := 170) dX12_pipe_169 rfl rfl ?_
      refine g_iadd (pc' := 171) dX12_pipe_170 rfl ?_
      obtain ⟨h8, hf⟩ := chk_s hf
      obtain ⟨b9, hf⟩ := chk_s hf
      refine g_iald (pc' := 172) dX12_pipe_171 rfl h8 (inB_in b9) ?_
      obtain ⟨b10, hf⟩ := chk_s hf
      refine g_iast (pc' := 173) dX12_pipe_172 rfl h8 (inB_in b10) (gM fun M11 hM11 => ?_)
      have hf := ap_eq hf hM11
      refine g_iinc (pc' := 176) (lv' := [some (aR v0), none, some (aI v2), some (aI (v3 + 1))]) (v3 + 1) dX12_pipe_173 rfl rfl (by rfl) rfl (by decide) rfl ?_
      refine g_goto (pc' := 138) dX12_pipe_176 (by decide) ?_
      exact ih v0 v2 (v3 + 1) M11 _ hf
theorem s_X12_pipe_119 (v0 : Nat) (v2 : Int32) (M : Mem) (r : (Int32 × Mem)) (hf : f_X12_pipe_119 v0 v2 M = some r) : G mi_X12_pipe 7 (oI r.1) r.2 119 [some (aR v0), none, some (aI v2), none] [] M 0 0 := by
  unfold f_X12_pipe_119 at hf
  refine g_aload_n (pc' := 120) dX12_pipe_119 rfl rfl ?_
  obtain ⟨h1, hf⟩ := chk_s hf
  obtain ⟨r3, M2, e3, hf⟩ := bnd_some hf
  refine g_callVi (pc' := 123) (k' := 0) (u' := 0) (fr2 := 1) (As := []) (b := v0) (st := []) cf_X12_ended q_455 (by omega) (ci := 12) rfl rfl (by decide) dX12_pipe_120 rfl rfl rfl (Nat.le_of_ble_eq_true rfl) (Or.inl rfl) (Nat.le_refl _) (Nat.le_refl _) (Nat.le_refl _) (Nat.le_refl _) h1 (s_X12_ended v0 M _ e3) ?_
  refine g_if_eq (pc' := 126) 131 dX12_pipe_123 rfl (by decide) (fun c4 => ?_) (fun c4 => ?_)
  · have hf := ite_t c4 hf
    refine g_aload_n (pc' := 132) dX12_pipe_131 rfl rfl ?_
    refine g_iload_n (pc' := 133) dX12_pipe_132 rfl rfl ?_
    obtain ⟨h5, hf⟩ := chk_s hf
    refine g_putI (pc' := 136) 12 47 rfl rfl (by decide) inX12 tyX12_ok nmX12 (by decide) rfl rfl rfl rfl q_363 dX12_pipe_133 rfl h5 (gM fun M6 hM6 => ?_)
    have hf := ap_eq hf hM6
    refine g_iconst (pc' := 137) (0 : Int32) dX12_pipe_136 rfl (by decide) ?_
    refine g_istore_n (pc' := 138) (lv' := [some (aR v0), none, some (aI v2), some (aI (0 : Int32))]) dX12_pipe_137 rfl rfl (by decide) rfl ?_
    refine g_widen (k' := 0) (u' := 0) (by omega) (by omega) ?_
    exact s_X12_pipe_138 FUEL v0 v2 (0 : Int32) M6 _ hf
  · have hf := ite_f c4 hf
    refine g_aload_n (pc' := 127) dX12_pipe_126 rfl rfl ?_
    obtain ⟨h7, hf⟩ := chk_s hf
    refine g_getI (pc' := 130) 12 12 rfl rfl (by decide) inX12 (by decide) rfl rfl q_362 dX12_pipe_127 rfl h7 ?_
    cases hf
    exact g_ireturn dX12_pipe_130 rfl (Nat.le_of_ble_eq_true rfl) (Nat.le_of_ble_eq_true rfl)
theorem s_X12_pipe_103 (k16 : Nat → Int32 → Mem → Option (Int32 × Mem)) (hk16 : ∀ (v0 : Nat) (v2 : Int32) (M : Mem) (r : (Int32 × Mem)), k16 v0 v2 M = some r → G mi_X12_pipe 7 (oI r.1) r.2 16 [some (aR v0), none, some (aI v2), none] [] M 0 0) (v0 : Nat) (v2 : Int32) (w0 : Nat) (w1 : Int32) (w2 : Nat) (w3 : Int32) (M : Mem) (r : (Int32 × Mem)) (hf : f_X12_pipe_103 k16 v0 v2 w0 w1 w2 w3 M = some r) : G mi_X12_pipe 7 (oI r.1) r.2 103 [some (aR v0), none, some (aI v2), none] [aI w3, aR w2, aI w1, aR w0] M 0 0 := by
  unfold f_X12_pipe_103 at hf
  obtain ⟨h1, hf⟩ := chk_s hf
  obtain ⟨r3, M2, e3, hf⟩ := bnd_some hf
  refine g_callVi (pc' := 106) (k' := 0) (u' := 0) (fr2 := 3) (As := [aI w3]) (b := w2) (st := [aI w1, aR w0]) cf_X12_readNumber q_725 (by omega) (ci := 12) rfl rfl (by decide) dX12_pipe_103 rfl rfl rfl (Nat.le_of_ble_eq_true rfl) (Or.inl rfl) (Nat.le_refl _) (Nat.le_refl _) (Nat.le_refl _) (Nat.le_refl _) h1 (s_X12_readNumber w2 w3 M _ e3) ?_
  obtain ⟨h4, hf⟩ := chk_s hf
  obtain ⟨b5, hf⟩ := chk_s hf
  refine g_iast (pc' := 107) dX12_pipe_106 rfl h4 (inB_in b5) (gM fun M6 hM6 => ?_)
  have hf := ap_eq hf hM6
  refine g_iinc (pc' := 110) (lv' := [some (aR v0), none, some (aI (v2 + 1)), none]) (v2 + 1) dX12_pipe_107 rfl rfl (by rfl) rfl (by decide) rfl ?_
  refine g_aload_n (pc' := 111) dX12_pipe_110 rfl rfl ?_
  refine g_bipush (pc' := 113) (59 : Int32) dX12_pipe_111 rfl (by decide) ?_
  obtain ⟨h7, hf⟩ := chk_s hf
  obtain ⟨_, M8, e9, hf⟩ := bnd_some hf
  refine g_callVv (pc' := 116) (k' := 0) (u' := 0) (fr2 := 3) (As := [aI (59 : Int32)]) (b := v0) (st := []) cf_X12_mark q_451 (by omega) (ci := 12) rfl rfl (by decide) dX12_pipe_113 rfl rfl rfl (Nat.le_of_ble_eq_true rfl) (Or.inl rfl) (Nat.le_refl _) (Nat.le_refl _) (Nat.le_refl _) (Nat.le_refl _) h7 (s_X12_mark v0 (59 : Int32) M6 _ e9) ?_
  refine g_goto (pc' := 16) dX12_pipe_116 (by decide) ?_
  refine g_widen (k' := 0) (u' := 0) (by omega) (by omega) ?_
  exact hk16 v0 (v2 + 1) M8 _ hf
theorem s_X12_pipe_60 (k16 : Nat → Int32 → Mem → Option (Int32 × Mem)) (hk16 : ∀ (v0 : Nat) (v2 : Int32) (M : Mem) (r : (Int32 × Mem)), k16 v0 v2 M = some r → G mi_X12_pipe 7 (oI r.1) r.2 16 [some (aR v0), none, some (aI v2), none] [] M 0 0) (v0 : Nat) (v2 : Int32) (v3 : Int32) (M : Mem) (r : (Int32 × Mem)) (hf : f_X12_pipe_60 k16 v0 v2 v3 M = some r) : G mi_X12_pipe 7 (oI r.1) r.2 60 [some (aR v0), none, some (aI v2), some (aI v3)] [] M 0 0 := by
  unfold f_X12_pipe_60 at hf
  refine g_aload_n (pc' := 61) dX12_pipe_60 rfl rfl ?_
  obtain ⟨h1, hf⟩ := chk_s hf
  refine g_getI (pc' := 64) 12 12 rfl rfl (by decide) inX12 (by decide) rfl rfl q_362 dX12_pipe_61 rfl h1 ?_
  refine g_if_eq (pc' := 67) 70 dX12_pipe_64 rfl (by decide) (fun c2 => ?_) (fun c2 => ?_)
  · have hf := ite_t c2 hf
    refine g_aload_n (pc' := 71) dX12_pipe_70 rfl rfl ?_
    obtain ⟨_, M3, e4, hf⟩ := bnd_some hf
    refine g_callVv (pc' := 74) (k' := 0) (u' := 0) (fr2 := 2) (As := []) (b := v0) (st := []) cf_X12_stepOn q_378 (by omega) (ci := 12) rfl rfl (by decide) dX12_pipe_71 rfl rfl rfl (Nat.le_of_ble_eq_true rfl) (Or.inl rfl) (Nat.le_refl _) (Nat.le_refl _) (Nat.le_refl _) (Nat.le_refl _) h1 (s_X12_stepOn v0 M _ e4) ?_
    refine g_aload_n (pc' := 75) dX12_pipe_74 rfl rfl ?_
    obtain ⟨h5, hf⟩ := chk_s hf
    refine g_getR (pc' := 78) 12 44 rfl rfl (by decide) inX12 (by decide) rfl rfl q_147 dX12_pipe_75 rfl h5 ?_
    refine g_bipush (pc' := 80) (8 : Int32) dX12_pipe_78 rfl (by decide) ?_
    refine g_iload_n (pc' := 81) dX12_pipe_80 rfl rfl ?_
    refine g_iadd (pc' := 82) dX12_pipe_81 rfl ?_
    refine g_iload_n (pc' := 83) dX12_pipe_82 rfl rfl ?_
    obtain ⟨h6, hf⟩ := chk_s hf
    obtain ⟨b7, hf⟩ := chk_s hf
    refine g_iast (pc' := 84) dX12_pipe_83 rfl h6 (inB_in b7) (gM fun M8 hM8 => ?_)
    have hf := ap_eq hf hM8
    refine g_aload_n (pc' := 85) dX12_pipe_84 rfl rfl ?_
    obtain ⟨h9, hf⟩ := chk_s hf
    refine g_getR (pc' := 88) 12 45 rfl rfl (by decide) inX12 (by decide) rfl rfl q_148 dX12_pipe_85 rfl h9 ?_
    refine g_bipush (pc' := 90) (8 : Int32) dX12_pipe_88 rfl (by decide) ?_
    refine g_iload_n (pc' := 91) dX12_pipe_90 rfl rfl ?_
    refine g_iadd (pc' := 92) dX12_pipe_91 rfl ?_
    refine g_aload_n (pc' := 93) dX12_pipe_92 rfl rfl ?_
    refine g_iload_n (pc' := 94) dX12_pipe_93 rfl rfl ?_
    refine g_iconst (pc' := 95) (2 : Int32) dX12_pipe_94 rfl (by decide) ?_
    refine g_icmp_ne (pc' := 98) 102 dX12_pipe_95 rfl (by decide) (fun c10 => ?_) (fun c10 => ?_)
    · have hf := ite_f c10 hf
      refine g_iconst (pc' := 103) (0 : Int32) dX12_pipe_102 rfl (by decide) ?_
      refine g_mask [true, true, true, false] rfl ?_
      refine g_widen (k' := 0) (u' := 0) (by omega) (by omega) ?_
      exact s_X12_pipe_103 k16 hk16 v0 v2 (mR M8 v0 45) ((8 : Int32) + v2) v0 (0 : Int32) M8 _ hf
    · have hf := ite_t c10 hf
      refine g_iconst (pc' := 99) (1 : Int32) dX12_pipe_98 rfl (by decide) ?_
      refine g_goto (pc' := 103) dX12_pipe_99 (by decide) ?_
      refine g_mask [true, true, true, false] rfl ?_
      refine g_widen (k' := 0) (u' := 0) (by omega) (by omega) ?_
      exact s_X12_pipe_103 k16 hk16 v0 v2 (mR M8 v0 45) ((8 : Int32) + v2) v0 (1 : Int32) M8 _ hf
  · have hf := ite_f c2 hf
    refine g_goto (pc' := 119) dX12_pipe_67 (by decide) ?_
    refine g_mask [true, true, true, false] rfl ?_
    exact s_X12_pipe_119 v0 v2 M _ hf
theorem s_X12_pipe_49 (k16 : Nat → Int32 → Mem → Option (Int32 × Mem)) (hk16 : ∀ (v0 : Nat) (v2 : Int32) (M : Mem) (r : (Int32 × Mem)), k16 v0 v2 M = some r → G mi_X12_pipe 7 (oI r.1) r.2 16 [some (aR v0), none, some (aI v2), none] [] M 0 0) (v0 : Nat) (v2 : Int32) (v3 : Int32) (M : Mem) (r : (Int32 × Mem)) (hf : f_X12_pipe_49 k16 v0 v2 v3 M = some r) : G mi_X12_pipe 7 (oI r.1) r.2 49 [some (aR v0), none, some (aI v2), some (aI v3)] [] M 0 0 := by
  unfold f_X12_pipe_49 at hf
  refine g_iload_n (pc' := 50) dX12_pipe_49 rfl rfl ?_
  refine g_bipush (pc' := 52) (8 : Int32) dX12_pipe_50 rfl (by decide) ?_
  refine g_icmp_ne (pc' := 55) 60 dX12_pipe_52 rfl (by decide) (fun c1 => ?_) (fun c1 => ?_)
  · have hf := ite_f c1 hf
    exact s_X12_pipe_60 k16 hk16 v0 v2 v3 M _ hf
  · have hf := ite_t c1 hf
    refine g_aload_n (pc' := 56) dX12_pipe_55 rfl rfl ?_
    refine g_iconst (pc' := 57) (2 : Int32) dX12_pipe_56 rfl (by decide) ?_
    obtain ⟨h2, hf⟩ := chk_s hf
    obtain ⟨_, M3, e4, hf⟩ := bnd_some hf
    refine g_callVv (pc' := 60) (k' := 0) (u' := 0) (fr2 := 1) (As := [aI (2 : Int32)]) (b := v0) (st := []) cf_X12_wrong q_426 (by omega) (ci := 12) rfl rfl (by decide) dX12_pipe_57 rfl rfl rfl (Nat.le_of_ble_eq_true rfl) (Or.inl rfl) (Nat.le_refl _) (Nat.le_refl _) (Nat.le_refl _) (Nat.le_refl _) h2 (s_X12_wrong v0 (2 : Int32) M _ e4) ?_
    refine g_widen (k' := 0) (u' := 0) (by omega) (by omega) ?_
    exact s_X12_pipe_60 k16 hk16 v0 v2 v3 M3 _ hf
theorem s_X12_pipe_16 : ∀ (n : Nat) (v0 : Nat) (v2 : Int32) (M : Mem) (r : (Int32 × Mem)), f_X12_pipe_16 n v0 v2 M = some r → G mi_X12_pipe 7 (oI r.1) r.2 16 [some (aR v0), none, some (aI v2), none] [] M 0 0 := by
  intro n
  induction n with
  | zero => intro v0 v2 M r hf; cases hf
  | succ n ih =>
    intro v0 v2 M r hf
    unfold f_X12_pipe_16 at hf
    refine g_aload_n (pc' := 17) dX12_pipe_16 rfl rfl ?_
    obtain ⟨h1, hf⟩ := chk_s hf
    refine g_getI (pc' := 20) 12 12 rfl rfl (by decide) inX12 (by decide) rfl rfl q_362 dX12_pipe_17 rfl h1 ?_
    refine g_if_ne (pc' := 23) 119 dX12_pipe_20 rfl (by decide) (fun c2 => ?_) (fun c2 => ?_)
    · have hf := ite_f c2 hf
      exact s_X12_pipe_119 v0 v2 M _ hf
    · have hf := ite_t c2 hf
      refine g_aload_n (pc' := 24) dX12_pipe_23 rfl rfl ?_
      refine g_getI (pc' := 27) 12 8 rfl rfl (by decide) inX12 (by decide) rfl rfl q_383 dX12_pipe_24 rfl h1 ?_
      refine g_if_eq (pc' := 30) 119 dX12_pipe_27 rfl (by decide) (fun c3 => ?_) (fun c3 => ?_)
      · have hf := ite_t c3 hf
        exact s_X12_pipe_119 v0 v2 M _ hf
      · have hf := ite_f c3 hf
        refine g_aload_n (pc' := 31) dX12_pipe_30 rfl rfl ?_
        refine g_aload_n (pc' := 32) dX12_pipe_31 rfl rfl ?_
        refine g_getR (pc' := 35) 12 1 rfl rfl (by decide) inX12 (by decide) rfl rfl q_123 dX12_pipe_32 rfl h1 ?_
        obtain ⟨r5, M4, e5, hf⟩ := bnd_some hf
        refine g_callVi (pc' := 38) (k' := 0) (u' := 0) (fr2 := 6) (As := [aR (mR M v0 1)]) (b := v0) (st := []) cf_X12_which q_416 (by omega) (ci := 12) rfl rfl (by decide) dX12_pipe_35 rfl rfl rfl (Nat.le_of_ble_eq_true rfl) (Or.inl rfl) (Nat.le_refl _) (Nat.le_refl _) (Nat.le_refl _) (Nat.le_refl _) h1 (s_X12_which v0 (mR M v0 1) M _ e5) ?_
        refine g_istore_n (pc' := 39) (lv' := [some (aR v0), none, some (aI v2), some (aI r5)]) dX12_pipe_38 rfl rfl (by decide) rfl ?_
        refine g_iload_n (pc' := 40) dX12_pipe_39 rfl rfl ?_
        refine g_iconst (pc' := 41) (-1 : Int32) dX12_pipe_40 rfl (by decide) ?_
        refine g_icmp_ne (pc' := 44) 49 dX12_pipe_41 rfl (by decide) (fun c6 => ?_) (fun c6 => ?_)
        · have hf := ite_f c6 hf
          refine g_widen (k' := 0) (u' := 0) (by omega) (by omega) ?_
          exact s_X12_pipe_49 (f_X12_pipe_16 n) ih v0 v2 r5 M4 _ hf
        · have hf := ite_t c6 hf
          refine g_aload_n (pc' := 45) dX12_pipe_44 rfl rfl ?_
          refine g_iconst (pc' := 46) (1 : Int32) dX12_pipe_45 rfl (by decide) ?_
          obtain ⟨h7, hf⟩ := chk_s hf
          obtain ⟨_, M8, e9, hf⟩ := bnd_some hf
          refine g_callVv (pc' := 49) (k' := 0) (u' := 0) (fr2 := 1) (As := [aI (1 : Int32)]) (b := v0) (st := []) cf_X12_wrong q_426 (by omega) (ci := 12) rfl rfl (by decide) dX12_pipe_46 rfl rfl rfl (Nat.le_of_ble_eq_true rfl) (Or.inl rfl) (Nat.le_refl _) (Nat.le_refl _) (Nat.le_refl _) (Nat.le_refl _) h7 (s_X12_wrong v0 (1 : Int32) M4 _ e9) ?_
          refine g_widen (k' := 0) (u' := 0) (by omega) (by omega) ?_
          exact s_X12_pipe_49 (f_X12_pipe_16 n) ih v0 v2 r5 M8 _ hf
theorem s_X12_pipe (v0 : Nat) (v1 : Int32) (M : Mem) (r : (Int32 × Mem)) (hf : f_X12_pipe v0 v1 M = some r) : Sem mi_X12_pipe (7) [aR v0, aI v1] M (oI r.1) r.2 := by
  unfold f_X12_pipe at hf
  refine sem_of (by decide) rfl rfl rfl (Nat.le_of_ble_eq_true rfl) (lv := [some (aR v0), some (aI v1), none, none]) rfl ?_
  refine g_aload_n (pc' := 1) dX12_pipe_0 rfl rfl ?_
  refine g_iload_n (pc' := 2) dX12_pipe_1 rfl rfl ?_
  obtain ⟨h1, hf⟩ := chk_s hf
  obtain ⟨r3, M2, e3, hf⟩ := bnd_some hf
  refine g_callVi (pc' := 5) (k' := 0) (u' := 0) (fr2 := 1) (As := [aI v1]) (b := v0) (st := []) cf_X12_begin q_367 (by omega) (ci := 12) rfl rfl (by decide) dX12_pipe_2 rfl rfl rfl (Nat.le_of_ble_eq_true rfl) (Or.inl rfl) (Nat.le_refl _) (Nat.le_refl _) (Nat.le_refl _) (Nat.le_refl _) h1 (s_X12_begin v0 v1 M _ e3) ?_
  refine g_if_ne (pc' := 8) 10 dX12_pipe_5 rfl (by decide) (fun c4 => ?_) (fun c4 => ?_)
  · have hf := ite_f c4 hf
    refine g_iconst (pc' := 11) (0 : Int32) dX12_pipe_10 rfl (by decide) ?_
    refine g_istore_n (pc' := 12) (lv' := [some (aR v0), some (aI v1), some (aI (0 : Int32)), none]) dX12_pipe_11 rfl rfl (by decide) rfl ?_
    refine g_aload_n (pc' := 13) dX12_pipe_12 rfl rfl ?_
    obtain ⟨h5, hf⟩ := chk_s hf
    obtain ⟨_, M6, e7, hf⟩ := bnd_some hf
    refine g_callVv (pc' := 16) (k' := 0) (u' := 0) (fr2 := 2) (As := []) (b := v0) (st := []) cf_X12_stepOn q_378 (by omega) (ci := 12) rfl rfl (by decide) dX12_pipe_13 rfl rfl rfl (Nat.le_of_ble_eq_true rfl) (Or.inl rfl) (Nat.le_refl _) (Nat.le_refl _) (Nat.le_refl _) (Nat.le_refl _) h5 (s_X12_stepOn v0 M2 _ e7) ?_
    refine g_mask [true, false, true, true] rfl ?_
    refine g_widen (k' := 0) (u' := 0) (by omega) (by omega) ?_
    exact s_X12_pipe_16 FUEL v0 (0 : Int32) M6 _ hf
  · have hf := ite_t c4 hf
    refine g_iconst (pc' := 9) (0 : Int32) dX12_pipe_8 rfl (by decide) ?_
    cases hf
    exact g_ireturn dX12_pipe_9 rfl (Nat.le_of_ble_eq_true rfl) (Nat.le_of_ble_eq_true rfl)
