abbrev mi_X12_levelBehind : MI := (yX12_levelBehind, Cond.code yX12_levelBehind cX12_levelBehind 5 (some .int), cX12_levelBehind, 5, (some .int), [], 0, 0, 0, none)
theorem cf_X12_levelBehind : CFv mi_X12_levelBehind 2 := ⟨⟨rfl, q_1081, wall_i_LeafStripesModel, ⟨by decide, by decide, by decide +kernel⟩, by decide⟩, q_1079, q_1080⟩
abbrev mi_X12_nextOf : MI := (yX12_nextOf, Cond.code yX12_nextOf cX12_nextOf 6 (some .int), cX12_nextOf, 6, (some .int), [], 0, 0, 0, none)
theorem cf_X12_nextOf : CFv mi_X12_nextOf 3 := ⟨⟨rfl, q_1077, wall_i_LeafStripesModel, ⟨by decide, by decide, by decide +kernel⟩, by decide⟩, q_1075, q_1076⟩
abbrev mi_X12_isSet : MI := (yX12_isSet, Cond.code yX12_isSet cX12_isSet 2 (some .boolean), cX12_isSet, 2, (some .boolean), [], 0, 0, 0, none)
theorem cf_X12_isSet : CFv mi_X12_isSet 1 := ⟨⟨rfl, q_1073, wall_i_LeafStripesModel, ⟨by decide, by decide, by decide +kernel⟩, by decide⟩, q_1071, q_1072⟩
abbrev mi_X12_next : MI := (yX12_next, Cond.code yX12_next cX12_next 4 (some .int), cX12_next, 4, (some .int), [], 0, 0, 0, none)
theorem cf_X12_next : CFv mi_X12_next 3 := ⟨⟨rfl, q_1068, wall_i_LeafStripesModel, ⟨by decide, by decide, by decide +kernel⟩, by decide⟩, q_1066, q_1067⟩
abbrev mi_X12_readsOf : MI := (yX12_readsOf, Cond.code yX12_readsOf cX12_readsOf 6 (some .int), cX12_readsOf, 6, (some .int), [], 0, 0, 0, none)
theorem cf_X12_readsOf : CFv mi_X12_readsOf 2 := ⟨⟨rfl, q_1234, wall_i_LeafStripesModel, ⟨by decide, by decide, by decide +kernel⟩, by decide⟩, q_1232, q_1233⟩
abbrev mi_X12_reads : MI := (yX12_reads, Cond.code yX12_reads cX12_reads 3 (some .int), cX12_reads, 3, (some .int), [], 0, 0, 0, none)
theorem cf_X12_reads : CFv mi_X12_reads 2 := ⟨⟨rfl, q_1230, wall_i_LeafStripesModel, ⟨by decide, by decide, by decide +kernel⟩, by decide⟩, q_1228, q_1229⟩
abbrev mi_X12_say : MI := (yX12_say, Cond.code yX12_say cX12_say 2 none, cX12_say, 2, none, [], 0, 0, 0, none)
theorem cf_X12_say : CFv mi_X12_say 1 := ⟨⟨rfl, q_1181, wall_i_LeafStripesModel, ⟨by decide, by decide, by decide +kernel⟩, by decide⟩, q_1179, q_1180⟩
abbrev mi_X12_sayNumber : MI := (yX12_sayNumber, Cond.code yX12_sayNumber cX12_sayNumber 3 none, cX12_sayNumber, 3, none, [], 0, 0, 0, none)
theorem cf_X12_sayNumber : CFv mi_X12_sayNumber 1 := ⟨⟨rfl, q_1201, wall_i_LeafStripesModel, ⟨by decide, by decide, by decide +kernel⟩, by decide⟩, q_1199, q_1200⟩
abbrev mi_X12_firstLeafIn : MI := (yX12_firstLeafIn, Cond.code yX12_firstLeafIn cX12_firstLeafIn 3 (some .int), cX12_firstLeafIn, 3, (some .int), [], 0, 0, 0, none)
theorem cf_X12_firstLeafIn : CFv mi_X12_firstLeafIn 1 := ⟨⟨rfl, q_1190, wall_i_LeafStripesModel, ⟨by decide, by decide, by decide +kernel⟩, by decide⟩, q_1188, q_1189⟩
abbrev mi_X12_isTold : MI := (yX12_isTold, Cond.code yX12_isTold cX12_isTold 4 (some .boolean), cX12_isTold, 4, (some .boolean), [], 0, 0, 0, none)
theorem cf_X12_isTold : CFv mi_X12_isTold 3 := ⟨⟨rfl, q_1177, wall_i_LeafStripesModel, ⟨by decide, by decide, by decide +kernel⟩, by decide⟩, q_1175, q_1176⟩
abbrev mi_X12_tellItem : MI := (yX12_tellItem, Cond.code yX12_tellItem cX12_tellItem 6 none, cX12_tellItem, 6, none, [], 0, 0, 0, none)
theorem cf_X12_tellItem : CFv mi_X12_tellItem 4 := ⟨⟨rfl, q_1197, wall_i_LeafStripesModel, ⟨by decide, by decide, by decide +kernel⟩, by decide⟩, q_1195, q_1196⟩
abbrev mi_X12_tellMany : MI := (yX12_tellMany, Cond.code yX12_tellMany cX12_tellMany 12 none, cX12_tellMany, 12, none, [], 0, 0, 0, none)
theorem cf_X12_tellMany : CFv mi_X12_tellMany 4 := ⟨⟨rfl, q_1202, wall_i_LeafStripesModel, ⟨by decide, by decide, by decide +kernel⟩, by decide⟩, q_1192, q_1193⟩
abbrev mi_X12_tellField : MI := (yX12_tellField, Cond.code yX12_tellField cX12_tellField 9 none, cX12_tellField, 9, none, [], 0, 0, 0, none)
theorem cf_X12_tellField : CFv mi_X12_tellField 4 := ⟨⟨rfl, q_1186, wall_i_LeafStripesModel, ⟨by decide, by decide, by decide +kernel⟩, by decide⟩, q_1184, q_1185⟩
abbrev mi_X12_tellValues : MI := (yX12_tellValues, Cond.code yX12_tellValues cX12_tellValues 8 none, cX12_tellValues, 8, none, [], 0, 0, 0, none)
theorem cf_X12_tellValues : CFv mi_X12_tellValues 4 := ⟨⟨rfl, q_1173, wall_i_LeafStripesModel, ⟨by decide, by decide, by decide +kernel⟩, by decide⟩, q_1171, q_1172⟩
def f_X12_levelBehind_28 (v0 : Nat) (v2 : Int32) (v3 : Int32) (M : Mem) : Option (Int32 × Mem) :=
  if mK M v0 = 13 then
    if mK M (mR M v0 24) = 21 then
      if inB (0 : Int32) (mN M (mR M v0 24)) = true then
        if v3 = (mI M (mR M v0 24) (0 : Int32).toNatClampNeg) then
          some ((0 : Int32), M)
        else
          bnd (f_X12_both v0 v2 v3 M) fun r6 M5 =>
          if r6 = (-1 : Int32) then
            some ((0 : Int32), M5)
          else
            if mK M5 v0 = 13 then
              if mK M5 (mR M5 v0 19) = 21 then
                if inB r6 (mN M5 (mR M5 v0 19)) = true then
                  some (mI M5 (mR M5 v0 19) r6.toNatClampNeg, M5)
                else none
              else none
            else none
      else none
    else none
  else none
def f_X12_levelBehind_4 : Nat → Nat → Int32 → Int32 → Int32 → Mem → Option (Int32 × Mem)
  | 0, _, _, _, _, _ => none
  | n + 1, v0, v1, v2, v3, M =>
    if mK M v0 = 13 then
      if mK M (mR M v0 24) = 21 then
        if inB (0 : Int32) (mN M (mR M v0 24)) = true then
          if (mI M (mR M v0 24) (0 : Int32).toNatClampNeg) ≤ v3 then
            f_X12_levelBehind_28 v0 v2 v3 M
          else
            bnd (f_X12_isOf v1 v3 M) fun r6 M5 =>
            if r6 = 0 then
              f_X12_levelBehind_4 n v0 v1 v2 (v3 + 1) M5
            else
              f_X12_levelBehind_28 v0 v2 v3 M5
        else none
      else none
    else none
def f_X12_levelBehind (v0 : Nat) (v1 : Int32) (v2 : Int32) (M : Mem) : Option (Int32 × Mem) :=
  f_X12_levelBehind_4 FUEL v0 v1 v2 (v2 + (1 : Int32)) M
theorem s_X12_levelBehind_28 (v0 : Nat) (v2 : Int32) (v3 : Int32) (M : Mem) (r : (Int32 × Mem)) (hf : f_X12_levelBehind_28 v0 v2 v3 M = some r) : G mi_X12_levelBehind 3 (oI r.1) r.2 28 [some (aR v0), none, some (aI v2), some (aI v3), none] [] M 0 0 := by
  unfold f_X12_levelBehind_28 at hf
  refine g_iload_n (pc' := 29) dX12_levelBehind_28 rfl rfl ?_
  refine g_aload_n (pc' := 30) dX12_levelBehind_29 rfl rfl ?_
  obtain ⟨h1, hf⟩ := chk_s hf
  refine g_getR (pc' := 33) 12 24 rfl rfl (by decide) inX12 (by decide) rfl rfl q_136 dX12_levelBehind_30 rfl h1 ?_
  refine g_iconst (pc' := 34) (0 : Int32) dX12_levelBehind_33 rfl (by decide) ?_
  obtain ⟨h2, hf⟩ := chk_s hf
  obtain ⟨b3, hf⟩ := chk_s hf
  refine g_iald (pc' := 35) dX12_levelBehind_34 rfl h2 (inB_in b3) ?_
  refine g_icmp_ne (pc' := 38) 40 dX12_levelBehind_35 rfl (by decide) (fun c4 => ?_) (fun c4 => ?_)
  · have hf := ite_f c4 hf
    refine g_aload_n (pc' := 41) dX12_levelBehind_40 rfl rfl ?_
    refine g_iload_n (pc' := 42) dX12_levelBehind_41 rfl rfl ?_
    refine g_iload_n (pc' := 43) dX12_levelBehind_42 rfl rfl ?_
    obtain ⟨r6, M5, e6, hf⟩ := bnd_some hf
    refine g_callVi (pc' := 46) (k' := 0) (u' := 0) (fr2 := 2) (As := [aI v2, aI v3]) (b := v0) (st := []) cf_X12_both q_682 (by omega) (ci := 12) rfl rfl (by decide) dX12_levelBehind_43 rfl rfl rfl (Nat.le_of_ble_eq_true rfl) (Or.inl rfl) (Nat.le_refl _) (Nat.le_refl _) (Nat.le_refl _) (Nat.le_refl _) h1 (s_X12_both v0 v2 v3 M _ e6) ?_
    refine g_istore (pc' := 48) (lv' := [some (aR v0), none, some (aI v2), some (aI v3), some (aI r6)]) dX12_levelBehind_46 rfl rfl (by decide) rfl ?_
    refine g_iload (pc' := 50) dX12_levelBehind_48 rfl rfl ?_
    refine g_iconst (pc' := 51) (-1 : Int32) dX12_levelBehind_50 rfl (by decide) ?_
    refine g_icmp_ne (pc' := 54) 58 dX12_levelBehind_51 rfl (by decide) (fun c7 => ?_) (fun c7 => ?_)
    · have hf := ite_f c7 hf
      refine g_aload_n (pc' := 59) dX12_levelBehind_58 rfl rfl ?_
      obtain ⟨h8, hf⟩ := chk_s hf
      refine g_getR (pc' := 62) 12 19 rfl rfl (by decide) inX12 (by decide) rfl rfl q_131 dX12_levelBehind_59 rfl h8 ?_
      refine g_iload (pc' := 64) dX12_levelBehind_62 rfl rfl ?_
      obtain ⟨h9, hf⟩ := chk_s hf
      obtain ⟨b10, hf⟩ := chk_s hf
      refine g_iald (pc' := 65) dX12_levelBehind_64 rfl h9 (inB_in b10) ?_
      cases hf
      exact g_ireturn dX12_levelBehind_65 rfl (Nat.le_of_ble_eq_true rfl) (Nat.le_of_ble_eq_true rfl)
    · have hf := ite_t c7 hf
      refine g_iconst (pc' := 55) (0 : Int32) dX12_levelBehind_54 rfl (by decide) ?_
      refine g_goto (pc' := 65) dX12_levelBehind_55 (by decide) ?_
      cases hf
      exact g_ireturn dX12_levelBehind_65 rfl (Nat.le_of_ble_eq_true rfl) (Nat.le_of_ble_eq_true rfl)
  · have hf := ite_t c4 hf
    refine g_iconst (pc' := 39) (0 : Int32) dX12_levelBehind_38 rfl (by decide) ?_
    cases hf
    exact g_ireturn dX12_levelBehind_39 rfl (Nat.le_of_ble_eq_true rfl) (Nat.le_of_ble_eq_true rfl)
theorem s_X12_levelBehind_4 : ∀ (n : Nat) (v0 : Nat) (v1 : Int32) (v2 : Int32) (v3 : Int32) (M : Mem) (r : (Int32 × Mem)), f_X12_levelBehind_4 n v0 v1 v2 v3 M = some r → G mi_X12_levelBehind 3 (oI r.1) r.2 4 [some (aR v0), some (aI v1), some (aI v2), some (aI v3), none] [] M 0 0 := by
  intro n
  induction n with
  | zero => intro v0 v1 v2 v3 M r hf; cases hf
  | succ n ih =>
    intro v0 v1 v2 v3 M r hf
    unfold f_X12_levelBehind_4 at hf
    refine g_iload_n (pc' := 5) dX12_levelBehind_4 rfl rfl ?_
    refine g_aload_n (pc' := 6) dX12_levelBehind_5 rfl rfl ?_
    obtain ⟨h1, hf⟩ := chk_s hf
    refine g_getR (pc' := 9) 12 24 rfl rfl (by decide) inX12 (by decide) rfl rfl q_136 dX12_levelBehind_6 rfl h1 ?_
    refine g_iconst (pc' := 10) (0 : Int32) dX12_levelBehind_9 rfl (by decide) ?_
    obtain ⟨h2, hf⟩ := chk_s hf
    obtain ⟨b3, hf⟩ := chk_s hf
    refine g_iald (pc' := 11) dX12_levelBehind_10 rfl h2 (inB_in b3) ?_
    refine g_icmp_ge (pc' := 14) 28 dX12_levelBehind_11 rfl (by decide) (fun c4 => ?_) (fun c4 => ?_)
    · have hf := ite_t c4 hf
      refine g_mask [true, false, true, true, true] rfl ?_
      exact s_X12_levelBehind_28 v0 v2 v3 M _ hf
    · have hf := ite_f c4 hf
      refine g_iload_n (pc' := 15) dX12_levelBehind_14 rfl rfl ?_
      refine g_iload_n (pc' := 16) dX12_levelBehind_15 rfl rfl ?_
      obtain ⟨r6, M5, e6, hf⟩ := bnd_some hf
      refine g_callSi (pc' := 19) (k' := 0) (u' := 0) (fr2 := 1) (As := [aI v1, aI v3]) (st := []) cf_X12_isOf q_885 (by omega) dX12_levelBehind_16 rfl rfl rfl (Nat.le_of_ble_eq_true rfl) (Or.inl rfl) (Nat.le_refl _) (Nat.le_refl _) (Nat.le_refl _) (Nat.le_refl _) (s_X12_isOf v1 v3 M _ e6) ?_
      refine g_if_ne (pc' := 22) 28 dX12_levelBehind_19 rfl (by decide) (fun c7 => ?_) (fun c7 => ?_)
      · have hf := ite_f c7 hf
        refine g_mask [true, false, true, true, true] rfl ?_
        refine g_widen (k' := 0) (u' := 0) (by omega) (by omega) ?_
        exact s_X12_levelBehind_28 v0 v2 v3 M5 _ hf
      · have hf := ite_t c7 hf
        refine g_iinc (pc' := 25) (lv' := [some (aR v0), some (aI v1), some (aI v2), some (aI (v3 + 1)), none]) (v3 + 1) dX12_levelBehind_22 rfl rfl (by rfl) rfl (by decide) rfl ?_
        refine g_goto (pc' := 4) dX12_levelBehind_25 (by decide) ?_
        refine g_widen (k' := 0) (u' := 0) (by omega) (by omega) ?_
        exact ih v0 v1 v2 (v3 + 1) M5 _ hf
theorem s_X12_levelBehind (v0 : Nat) (v1 : Int32) (v2 : Int32) (M : Mem) (r : (Int32 × Mem)) (hf : f_X12_levelBehind v0 v1 v2 M = some r) : Sem mi_X12_levelBehind (3) [aR v0, aI v1, aI v2] M (oI r.1) r.2 := by
  unfold f_X12_levelBehind at hf
  refine sem_of (by decide) rfl rfl rfl (Nat.le_of_ble_eq_true rfl) (lv := [some (aR v0), some (aI v1), some (aI v2), none, none]) rfl ?_
  refine g_iload_n (pc' := 1) dX12_levelBehind_0 rfl rfl ?_
  refine g_iconst (pc' := 2) (1 : Int32) dX12_levelBehind_1 rfl (by decide) ?_
  refine g_iadd (pc' := 3) dX12_levelBehind_2 rfl ?_
  refine g_istore_n (pc' := 4) (lv' := [some (aR v0), some (aI v1), some (aI v2), some (aI (v2 + (1 : Int32))), none]) dX12_levelBehind_3 rfl rfl (by decide) rfl ?_
  exact s_X12_levelBehind_4 FUEL v0 v1 v2 (v2 + (1 : Int32)) M _ hf
def f_X12_nextOf_71 : Nat → Nat → Int32 → Int32 → Mem → Option (Int32 × Mem)
  | 0, _, _, _, _ => none
  | n + 1, v0, v1, v4, M =>
    if mK M v0 = 13 then
      if mK M (mR M v0 24) = 21 then
        if inB (0 : Int32) (mN M (mR M v0 24)) = true then
          if (mI M (mR M v0 24) (0 : Int32).toNatClampNeg) ≤ v4 then
            some ((-1 : Int32), M)
          else
            bnd (f_X12_isOf v1 v4 M) fun r6 M5 =>
            if r6 = 0 then
              f_X12_nextOf_71 n v0 v1 (v4 + 1) M5
            else
              some (v4, M5)
        else none
      else none
    else none
def f_X12_nextOf_66 (v0 : Nat) (v1 : Int32) (v2 : Int32) (M : Mem) : Option (Int32 × Mem) :=
  f_X12_nextOf_71 FUEL v0 v1 (v2 + (1 : Int32)) M
def f_X12_nextOf_60 (k21 : Nat → Int32 → Int32 → Int32 → Int32 → Mem → Option (Int32 × Mem)) (v0 : Nat) (v1 : Int32) (v2 : Int32) (v4 : Int32) (v5 : Int32) (M : Mem) : Option (Int32 × Mem) :=
  k21 v0 v1 v2 v4 (v5 + 1) M
def f_X12_nextOf_21 : Nat → Nat → Int32 → Int32 → Int32 → Int32 → Mem → Option (Int32 × Mem)
  | 0, _, _, _, _, _, _ => none
  | n + 1, v0, v1, v2, v4, v5, M =>
    if mK M v0 = 13 then
      if mK M (mR M v0 24) = 21 then
        if inB (0 : Int32) (mN M (mR M v0 24)) = true then
          if (mI M (mR M v0 24) (0 : Int32).toNatClampNeg) ≤ v5 then
            f_X12_nextOf_66 v0 v1 v2 M
          else
            bnd (f_X12_isOf v1 v5 M) fun r6 M5 =>
            if r6 = 0 then
              f_X12_nextOf_60 (f_X12_nextOf_21 n) v0 v1 v2 v4 v5 M5
            else
              if mK M5 v0 = 13 then
                if mK M5 (mR M5 v0 25) = 21 then
                  if inB v5 (mN M5 (mR M5 v0 25)) = true then
                    bnd (f_X12_isInside v0 (mI M5 (mR M5 v0 25) v5.toNatClampNeg) v4 M5) fun r12 M11 =>
                    if r12 = 0 then
                      f_X12_nextOf_60 (f_X12_nextOf_21 n) v0 v1 v2 v4 v5 M11
                    else
                      some (v5, M11)
                  else none
                else none
              else none
        else none
      else none
    else none
def f_X12_nextOf (v0 : Nat) (v1 : Int32) (v2 : Int32) (v3 : Int32) (M : Mem) : Option (Int32 × Mem) :=
  if mK M v0 = 13 then
    bnd (f_X12_levelBehind v0 v1 v2 M) fun r3 M2 =>
    if v3 ≤ r3 then
      f_X12_nextOf_66 v0 v1 v2 M2
    else
      if mK M2 v0 = 13 then
        bnd (f_X12_oftenAround v0 v2 v3 M2) fun r7 M6 =>
        f_X12_nextOf_21 FUEL v0 v1 v2 r7 (0 : Int32) M6
      else none
  else none
theorem s_X12_nextOf_71 : ∀ (n : Nat) (v0 : Nat) (v1 : Int32) (v4 : Int32) (M : Mem) (r : (Int32 × Mem)), f_X12_nextOf_71 n v0 v1 v4 M = some r → G mi_X12_nextOf 4 (oI r.1) r.2 71 [some (aR v0), some (aI v1), none, none, some (aI v4), none] [] M 0 0 := by
  intro n
  induction n with
  | zero => intro v0 v1 v4 M r hf; cases hf
  | succ n ih =>
    intro v0 v1 v4 M r hf
    unfold f_X12_nextOf_71 at hf
    refine g_iload (pc' := 73) dX12_nextOf_71 rfl rfl ?_
    refine g_aload_n (pc' := 74) dX12_nextOf_73 rfl rfl ?_
    obtain ⟨h1, hf⟩ := chk_s hf
    refine g_getR (pc' := 77) 12 24 rfl rfl (by decide) inX12 (by decide) rfl rfl q_136 dX12_nextOf_74 rfl h1 ?_
    refine g_iconst (pc' := 78) (0 : Int32) dX12_nextOf_77 rfl (by decide) ?_
    obtain ⟨h2, hf⟩ := chk_s hf
    obtain ⟨b3, hf⟩ := chk_s hf
    refine g_iald (pc' := 79) dX12_nextOf_78 rfl h2 (inB_in b3) ?_
    refine g_icmp_ge (pc' := 82) 100 dX12_nextOf_79 rfl (by decide) (fun c4 => ?_) (fun c4 => ?_)
    · have hf := ite_t c4 hf
      refine g_iconst (pc' := 101) (-1 : Int32) dX12_nextOf_100 rfl (by decide) ?_
      cases hf
      exact g_ireturn dX12_nextOf_101 rfl (Nat.le_of_ble_eq_true rfl) (Nat.le_of_ble_eq_true rfl)
    · have hf := ite_f c4 hf
      refine g_iload_n (pc' := 83) dX12_nextOf_82 rfl rfl ?_
      refine g_iload (pc' := 85) dX12_nextOf_83 rfl rfl ?_
      obtain ⟨r6, M5, e6, hf⟩ := bnd_some hf
      refine g_callSi (pc' := 88) (k' := 0) (u' := 0) (fr2 := 1) (As := [aI v1, aI v4]) (st := []) cf_X12_isOf q_885 (by omega) dX12_nextOf_85 rfl rfl rfl (Nat.le_of_ble_eq_true rfl) (Or.inl rfl) (Nat.le_refl _) (Nat.le_refl _) (Nat.le_refl _) (Nat.le_refl _) (s_X12_isOf v1 v4 M _ e6) ?_
      refine g_if_eq (pc' := 91) 94 dX12_nextOf_88 rfl (by decide) (fun c7 => ?_) (fun c7 => ?_)
      · have hf := ite_t c7 hf
        refine g_iinc (pc' := 97) (lv' := [some (aR v0), some (aI v1), none, none, some (aI (v4 + 1)), none]) (v4 + 1) dX12_nextOf_94 rfl rfl (by rfl) rfl (by decide) rfl ?_
        refine g_goto (pc' := 71) dX12_nextOf_97 (by decide) ?_
        refine g_widen (k' := 0) (u' := 0) (by omega) (by omega) ?_
        exact ih v0 v1 (v4 + 1) M5 _ hf
      · have hf := ite_f c7 hf
        refine g_iload (pc' := 93) dX12_nextOf_91 rfl rfl ?_
        cases hf
        exact g_ireturn dX12_nextOf_93 rfl (Nat.le_of_ble_eq_true rfl) (Nat.le_of_ble_eq_true rfl)
theorem s_X12_nextOf_66 (v0 : Nat) (v1 : Int32) (v2 : Int32) (M : Mem) (r : (Int32 × Mem)) (hf : f_X12_nextOf_66 v0 v1 v2 M = some r) : G mi_X12_nextOf 4 (oI r.1) r.2 66 [some (aR v0), some (aI v1), some (aI v2), none, none, none] [] M 0 0 := by
  unfold f_X12_nextOf_66 at hf
  refine g_iload_n (pc' := 67) dX12_nextOf_66 rfl rfl ?_
  refine g_iconst (pc' := 68) (1 : Int32) dX12_nextOf_67 rfl (by decide) ?_
  refine g_iadd (pc' := 69) dX12_nextOf_68 rfl ?_
  refine g_istore (pc' := 71) (lv' := [some (aR v0), some (aI v1), some (aI v2), none, some (aI (v2 + (1 : Int32))), none]) dX12_nextOf_69 rfl rfl (by decide) rfl ?_
  refine g_mask [true, true, false, true, true, true] rfl ?_
  exact s_X12_nextOf_71 FUEL v0 v1 (v2 + (1 : Int32)) M _ hf
theorem s_X12_nextOf_60 (k21 : Nat → Int32 → Int32 → Int32 → Int32 → Mem → Option (Int32 × Mem)) (hk21 : ∀ (v0 : Nat) (v1 : Int32) (v2 : Int32) (v4 : Int32) (v5 : Int32) (M : Mem) (r : (Int32 × Mem)), k21 v0 v1 v2 v4 v5 M = some r → G mi_X12_nextOf 4 (oI r.1) r.2 21 [some (aR v0), some (aI v1), some (aI v2), none, some (aI v4), some (aI v5)] [] M 0 0) (v0 : Nat) (v1 : Int32) (v2 : Int32) (v4 : Int32) (v5 : Int32) (M : Mem) (r : (Int32 × Mem)) (hf : f_X12_nextOf_60 k21 v0 v1 v2 v4 v5 M = some r) : G mi_X12_nextOf 4 (oI r.1) r.2 60 [some (aR v0), some (aI v1), some (aI v2), none, some (aI v4), some (aI v5)] [] M 0 0 := by
  unfold f_X12_nextOf_60 at hf
  refine g_iinc (pc' := 63) (lv' := [some (aR v0), some (aI v1), some (aI v2), none, some (aI v4), some (aI (v5 + 1))]) (v5 + 1) dX12_nextOf_60 rfl rfl (by rfl) rfl (by decide) rfl ?_
  refine g_goto (pc' := 21) dX12_nextOf_63 (by decide) ?_
  exact hk21 v0 v1 v2 v4 (v5 + 1) M _ hf
theorem s_X12_nextOf_21 : ∀ (n : Nat) (v0 : Nat) (v1 : Int32) (v2 : Int32) (v4 : Int32) (v5 : Int32) (M : Mem) (r : (Int32 × Mem)), f_X12_nextOf_21 n v0 v1 v2 v4 v5 M = some r → G mi_X12_nextOf 4 (oI r.1) r.2 21 [some (aR v0), some (aI v1), some (aI v2), none, some (aI v4), some (aI v5)] [] M 0 0 := by
  intro n
  induction n with
  | zero => intro v0 v1 v2 v4 v5 M r hf; cases hf
  | succ n ih =>
    intro v0 v1 v2 v4 v5 M r hf
    unfold f_X12_nextOf_21 at hf
    refine g_iload (pc' := 23) dX12_nextOf_21 rfl rfl ?_
    refine g_aload_n (pc' := 24) dX12_nextOf_23 rfl rfl ?_
    obtain ⟨h1, hf⟩ := chk_s hf
    refine g_getR (pc' := 27) 12 24 rfl rfl (by decide) inX12 (by decide) rfl rfl q_136 dX12_nextOf_24 rfl h1 ?_
    refine g_iconst (pc' := 28) (0 : Int32) dX12_nextOf_27 rfl (by decide) ?_
    obtain ⟨h2, hf⟩ := chk_s hf
    obtain ⟨b3, hf⟩ := chk_s hf
    refine g_iald (pc' := 29) dX12_nextOf_28 rfl h2 (inB_in b3) ?_
    refine g_icmp_ge (pc' := 32) 66 dX12_nextOf_29 rfl (by decide) (fun c4 => ?_) (fun c4 => ?_)
    · have hf := ite_t c4 hf
      refine g_mask [true, true, true, true, false, false] rfl ?_
      exact s_X12_nextOf_66 v0 v1 v2 M _ hf
    · have hf := ite_f c4 hf
      refine g_iload_n (pc' := 33) dX12_nextOf_32 rfl rfl ?_
      refine g_iload (pc' := 35) dX12_nextOf_33 rfl rfl ?_
      obtain ⟨r6, M5, e6, hf⟩ := bnd_some hf
      refine g_callSi (pc' := 38) (k' := 0) (u' := 0) (fr2 := 1) (As := [aI v1, aI v5]) (st := []) cf_X12_isOf q_885 (by omega) dX12_nextOf_35 rfl rfl rfl (Nat.le_of_ble_eq_true rfl) (Or.inl rfl) (Nat.le_refl _) (Nat.le_refl _) (Nat.le_refl _) (Nat.le_refl _) (s_X12_isOf v1 v5 M _ e6) ?_
      refine g_if_eq (pc' := 41) 60 dX12_nextOf_38 rfl (by decide) (fun c7 => ?_) (fun c7 => ?_)
      · have hf := ite_t c7 hf
        refine g_widen (k' := 0) (u' := 0) (by omega) (by omega) ?_
        exact s_X12_nextOf_60 (f_X12_nextOf_21 n) ih v0 v1 v2 v4 v5 M5 _ hf
      · have hf := ite_f c7 hf
        refine g_aload_n (pc' := 42) dX12_nextOf_41 rfl rfl ?_
        refine g_aload_n (pc' := 43) dX12_nextOf_42 rfl rfl ?_
        obtain ⟨h8, hf⟩ := chk_s hf
        refine g_getR (pc' := 46) 12 25 rfl rfl (by decide) inX12 (by decide) rfl rfl q_137 dX12_nextOf_43 rfl h8 ?_
        refine g_iload (pc' := 48) dX12_nextOf_46 rfl rfl ?_
        obtain ⟨h9, hf⟩ := chk_s hf
        obtain ⟨b10, hf⟩ := chk_s hf
        refine g_iald (pc' := 49) dX12_nextOf_48 rfl h9 (inB_in b10) ?_
        refine g_iload (pc' := 51) dX12_nextOf_49 rfl rfl ?_
        obtain ⟨r12, M11, e12, hf⟩ := bnd_some hf
        refine g_callVi (pc' := 54) (k' := 0) (u' := 0) (fr2 := 1) (As := [aI (mI M5 (mR M5 v0 25) v5.toNatClampNeg), aI v4]) (b := v0) (st := []) cf_X12_isInside q_686 (by omega) (ci := 12) rfl rfl (by decide) dX12_nextOf_51 rfl rfl rfl (Nat.le_of_ble_eq_true rfl) (Or.inl rfl) (Nat.le_refl _) (Nat.le_refl _) (Nat.le_refl _) (Nat.le_refl _) h8 (s_X12_isInside v0 (mI M5 (mR M5 v0 25) v5.toNatClampNeg) v4 M5 _ e12) ?_
        refine g_if_eq (pc' := 57) 60 dX12_nextOf_54 rfl (by decide) (fun c13 => ?_) (fun c13 => ?_)
        · have hf := ite_t c13 hf
          refine g_widen (k' := 0) (u' := 0) (by omega) (by omega) ?_
          exact s_X12_nextOf_60 (f_X12_nextOf_21 n) ih v0 v1 v2 v4 v5 M11 _ hf
        · have hf := ite_f c13 hf
          refine g_iload (pc' := 59) dX12_nextOf_57 rfl rfl ?_
          cases hf
          exact g_ireturn dX12_nextOf_59 rfl (Nat.le_of_ble_eq_true rfl) (Nat.le_of_ble_eq_true rfl)
theorem s_X12_nextOf (v0 : Nat) (v1 : Int32) (v2 : Int32) (v3 : Int32) (M : Mem) (r : (Int32 × Mem)) (hf : f_X12_nextOf v0 v1 v2 v3 M = some r) : Sem mi_X12_nextOf (4) [aR v0, aI v1, aI v2, aI v3] M (oI r.1) r.2 := by
  unfold f_X12_nextOf at hf
  refine sem_of (by decide) rfl rfl rfl (Nat.le_of_ble_eq_true rfl) (lv := [some (aR v0), some (aI v1), some (aI v2), some (aI v3), none, none]) rfl ?_
  refine g_iload_n (pc' := 1) dX12_nextOf_0 rfl rfl ?_
  refine g_aload_n (pc' := 2) dX12_nextOf_1 rfl rfl ?_
  refine g_iload_n (pc' := 3) dX12_nextOf_2 rfl rfl ?_
  refine g_iload_n (pc' := 4) dX12_nextOf_3 rfl rfl ?_
  obtain ⟨h1, hf⟩ := chk_s hf
  obtain ⟨r3, M2, e3, hf⟩ := bnd_some hf
  refine g_callVi (pc' := 7) (k' := 0) (u' := 0) (fr2 := 3) (As := [aI v1, aI v2]) (b := v0) (st := [aI v3]) cf_X12_levelBehind q_1078 (by omega) (ci := 12) rfl rfl (by decide) dX12_nextOf_4 rfl rfl rfl (Nat.le_of_ble_eq_true rfl) (Or.inl rfl) (Nat.le_refl _) (Nat.le_refl _) (Nat.le_refl _) (Nat.le_refl _) h1 (s_X12_levelBehind v0 v1 v2 M _ e3) ?_
  refine g_icmp_le (pc' := 10) 66 dX12_nextOf_7 rfl (by decide) (fun c4 => ?_) (fun c4 => ?_)
  · have hf := ite_t c4 hf
    refine g_mask [true, true, true, false, true, true] rfl ?_
    refine g_widen (k' := 0) (u' := 0) (by omega) (by omega) ?_
    exact s_X12_nextOf_66 v0 v1 v2 M2 _ hf
  · have hf := ite_f c4 hf
    refine g_aload_n (pc' := 11) dX12_nextOf_10 rfl rfl ?_
    refine g_iload_n (pc' := 12) dX12_nextOf_11 rfl rfl ?_
    refine g_iload_n (pc' := 13) dX12_nextOf_12 rfl rfl ?_
    obtain ⟨h5, hf⟩ := chk_s hf
    obtain ⟨r7, M6, e7, hf⟩ := bnd_some hf
    refine g_callVi (pc' := 16) (k' := 0) (u' := 0) (fr2 := 1) (As := [aI v2, aI v3]) (b := v0) (st := []) cf_X12_oftenAround q_664 (by omega) (ci := 12) rfl rfl (by decide) dX12_nextOf_13 rfl rfl rfl (Nat.le_of_ble_eq_true rfl) (Or.inl rfl) (Nat.le_refl _) (Nat.le_refl _) (Nat.le_refl _) (Nat.le_refl _) h5 (s_X12_oftenAround v0 v2 v3 M2 _ e7) ?_
    refine g_istore (pc' := 18) (lv' := [some (aR v0), some (aI v1), some (aI v2), some (aI v3), some (aI r7), none]) dX12_nextOf_16 rfl rfl (by decide) rfl ?_
    refine g_iconst (pc' := 19) (0 : Int32) dX12_nextOf_18 rfl (by decide) ?_
    refine g_istore (pc' := 21) (lv' := [some (aR v0), some (aI v1), some (aI v2), some (aI v3), some (aI r7), some (aI (0 : Int32))]) dX12_nextOf_19 rfl rfl (by decide) rfl ?_
    refine g_mask [true, true, true, false, true, true] rfl ?_
    refine g_widen (k' := 0) (u' := 0) (by omega) (by omega) ?_
    exact s_X12_nextOf_21 FUEL v0 v1 v2 r7 (0 : Int32) M6 _ hf
def f_X12_isSet (v0 : Nat) (v1 : Int32) (M : Mem) : Option (Int32 × Mem) :=
  if v1 ≤ 0 then
    some ((0 : Int32), M)
  else
    if mK M v0 = 13 then
      if mK M (mR M v0 24) = 21 then
        if inB (0 : Int32) (mN M (mR M v0 24)) = true then
          if ((1 : Int32) <<< ((mI M (mR M v0 24) (0 : Int32).toNatClampNeg) &&& 31)) ≤ v1 then
            some ((0 : Int32), M)
          else
            some ((1 : Int32), M)
        else none
      else none
    else none
theorem s_X12_isSet (v0 : Nat) (v1 : Int32) (M : Mem) (r : (Int32 × Mem)) (hf : f_X12_isSet v0 v1 M = some r) : Sem mi_X12_isSet (1) [aR v0, aI v1] M (oI r.1) r.2 := by
  unfold f_X12_isSet at hf
  refine sem_of (by decide) rfl rfl rfl (Nat.le_of_ble_eq_true rfl) (lv := [some (aR v0), some (aI v1)]) rfl ?_
  refine g_iload_n (pc' := 1) dX12_isSet_0 rfl rfl ?_
  refine g_if_le (pc' := 4) 20 dX12_isSet_1 rfl (by decide) (fun c1 => ?_) (fun c1 => ?_)
  · have hf := ite_t c1 hf
    refine g_iconst (pc' := 21) (0 : Int32) dX12_isSet_20 rfl (by decide) ?_
    cases hf
    exact g_zreturn dX12_isSet_21 rfl (Or.inl rfl) (Nat.le_of_ble_eq_true rfl) (Nat.le_of_ble_eq_true rfl)
  · have hf := ite_f c1 hf
    refine g_iload_n (pc' := 5) dX12_isSet_4 rfl rfl ?_
    refine g_iconst (pc' := 6) (1 : Int32) dX12_isSet_5 rfl (by decide) ?_
    refine g_aload_n (pc' := 7) dX12_isSet_6 rfl rfl ?_
    obtain ⟨h2, hf⟩ := chk_s hf
    refine g_getR (pc' := 10) 12 24 rfl rfl (by decide) inX12 (by decide) rfl rfl q_136 dX12_isSet_7 rfl h2 ?_
    refine g_iconst (pc' := 11) (0 : Int32) dX12_isSet_10 rfl (by decide) ?_
    obtain ⟨h3, hf⟩ := chk_s hf
    obtain ⟨b4, hf⟩ := chk_s hf
    refine g_iald (pc' := 12) dX12_isSet_11 rfl h3 (inB_in b4) ?_
    refine g_ishl (pc' := 13) dX12_isSet_12 rfl ?_
    refine g_icmp_ge (pc' := 16) 20 dX12_isSet_13 rfl (by decide) (fun c5 => ?_) (fun c5 => ?_)
    · have hf := ite_t c5 hf
      refine g_iconst (pc' := 21) (0 : Int32) dX12_isSet_20 rfl (by decide) ?_
      cases hf
      exact g_zreturn dX12_isSet_21 rfl (Or.inl rfl) (Nat.le_of_ble_eq_true rfl) (Nat.le_of_ble_eq_true rfl)
    · have hf := ite_f c5 hf
      refine g_iconst (pc' := 17) (1 : Int32) dX12_isSet_16 rfl (by decide) ?_
      refine g_goto (pc' := 21) dX12_isSet_17 (by decide) ?_
      cases hf
      exact g_zreturn dX12_isSet_21 rfl (Or.inr rfl) (Nat.le_of_ble_eq_true rfl) (Nat.le_of_ble_eq_true rfl)
def f_X12_next_60 (v0 : Nat) (M : Mem) : Option (Int32 × Mem) :=
  if mK M v0 = 13 then
    bnd (f_X12_fail v0 (2 : Int32) M) fun r3 M2 =>
    some (r3, M2)
  else none
def f_X12_next_25 (v0 : Nat) (M : Mem) : Option (Int32 × Mem) :=
  if mK M v0 = 13 then
    bnd (f_X12_fail v0 (1 : Int32) M) fun r3 M2 =>
    some (r3, M2)
  else none
def f_X12_next (v0 : Nat) (v1 : Int32) (v2 : Int32) (v3 : Int32) (M : Mem) : Option (Int32 × Mem) :=
  if mK M v0 = 13 then
    ap (sI M v0 2 (0 : Int32)) fun M2 =>
    bnd (f_X12_isIn v2.toInt64 (0 : Int64) (31 : Int64) M2) fun r4 M3 =>
    if r4 = 0 then
      f_X12_next_25 v0 M3
    else
      bnd (f_X12_isOf v1 v2 M3) fun r7 M6 =>
      if r7 = 0 then
        f_X12_next_25 v0 M6
      else
        if mK M6 v0 = 13 then
          bnd (f_X12_isSet v0 v1 M6) fun r11 M10 =>
          if r11 = 0 then
            f_X12_next_60 v0 M10
          else
            if mK M10 v0 = 13 then
              if mK M10 (mR M10 v0 25) = 21 then
                if inB v2 (mN M10 (mR M10 v0 25)) = true then
                  if mK M10 (mR M10 v0 19) = 21 then
                    if inB (mI M10 (mR M10 v0 25) v2.toNatClampNeg) (mN M10 (mR M10 v0 19)) = true then
                      bnd (f_X12_isIn v3.toInt64 (0 : Int64) ((mI M10 (mR M10 v0 19) (mI M10 (mR M10 v0 25) v2.toNatClampNeg).toNatClampNeg).toInt64) M10) fun r19 M18 =>
                      if r19 = 0 then
                        f_X12_next_60 v0 M18
                      else
                        if mK M18 v0 = 13 then
                          bnd (f_X12_nextOf v0 v1 v2 v3 M18) fun r23 M22 =>
                          some (r23, M22)
                        else none
                    else none
                  else none
                else none
              else none
            else none
        else none
  else none
theorem s_X12_next_60 (v0 : Nat) (M : Mem) (r : (Int32 × Mem)) (hf : f_X12_next_60 v0 M = some r) : G mi_X12_next 5 (oI r.1) r.2 60 [some (aR v0), none, none, none] [] M 0 0 := by
  unfold f_X12_next_60 at hf
  refine g_aload_n (pc' := 61) dX12_next_60 rfl rfl ?_
  refine g_iconst (pc' := 62) (2 : Int32) dX12_next_61 rfl (by decide) ?_
  obtain ⟨h1, hf⟩ := chk_s hf
  obtain ⟨r3, M2, e3, hf⟩ := bnd_some hf
  refine g_callVi (pc' := 65) (k' := 0) (u' := 0) (fr2 := 1) (As := [aI (2 : Int32)]) (b := v0) (st := []) cf_X12_fail q_904 (by omega) (ci := 12) rfl rfl (by decide) dX12_next_62 rfl rfl rfl (Nat.le_of_ble_eq_true rfl) (Or.inl rfl) (Nat.le_refl _) (Nat.le_refl _) (Nat.le_refl _) (Nat.le_refl _) h1 (s_X12_fail v0 (2 : Int32) M _ e3) ?_
  cases hf
  exact g_ireturn dX12_next_65 rfl (Nat.le_of_ble_eq_true rfl) (Nat.le_of_ble_eq_true rfl)
theorem s_X12_next_25 (v0 : Nat) (M : Mem) (r : (Int32 × Mem)) (hf : f_X12_next_25 v0 M = some r) : G mi_X12_next 5 (oI r.1) r.2 25 [some (aR v0), none, none, none] [] M 0 0 := by
  unfold f_X12_next_25 at hf
  refine g_aload_n (pc' := 26) dX12_next_25 rfl rfl ?_
  refine g_iconst (pc' := 27) (1 : Int32) dX12_next_26 rfl (by decide) ?_
  obtain ⟨h1, hf⟩ := chk_s hf
  obtain ⟨r3, M2, e3, hf⟩ := bnd_some hf
  refine g_callVi (pc' := 30) (k' := 0) (u' := 0) (fr2 := 1) (As := [aI (1 : Int32)]) (b := v0) (st := []) cf_X12_fail q_904 (by omega) (ci := 12) rfl rfl (by decide) dX12_next_27 rfl rfl rfl (Nat.le_of_ble_eq_true rfl) (Or.inl rfl) (Nat.le_refl _) (Nat.le_refl _) (Nat.le_refl _) (Nat.le_refl _) h1 (s_X12_fail v0 (1 : Int32) M _ e3) ?_
  cases hf
  exact g_ireturn dX12_next_30 rfl (Nat.le_of_ble_eq_true rfl) (Nat.le_of_ble_eq_true rfl)
theorem s_X12_next (v0 : Nat) (v1 : Int32) (v2 : Int32) (v3 : Int32) (M : Mem) (r : (Int32 × Mem)) (hf : f_X12_next v0 v1 v2 v3 M = some r) : Sem mi_X12_next (5) [aR v0, aI v1, aI v2, aI v3] M (oI r.1) r.2 := by
  unfold f_X12_next at hf
  refine sem_of (by decide) rfl rfl rfl (Nat.le_of_ble_eq_true rfl) (lv := [some (aR v0), some (aI v1), some (aI v2), some (aI v3)]) rfl ?_
  refine g_aload_n (pc' := 1) dX12_next_0 rfl rfl ?_
  refine g_iconst (pc' := 2) (0 : Int32) dX12_next_1 rfl (by decide) ?_
  obtain ⟨h1, hf⟩ := chk_s hf
  refine g_putI (pc' := 5) 12 2 rfl rfl (by decide) inX12 tyX12_ok nmX12 (by decide) rfl rfl rfl rfl q_167 dX12_next_2 rfl h1 (gM fun M2 hM2 => ?_)
  have hf := ap_eq hf hM2
  refine g_iload_n (pc' := 6) dX12_next_5 rfl rfl ?_
  refine g_i2l (pc' := 7) dX12_next_6 rfl ?_
  refine g_lconst (pc' := 8) (0 : Int64) dX12_next_7 rfl (by decide) ?_
  refine g_ldc2 (pc' := 11) (v := (31 : Int64)) dX12_next_8 rfl q_1069 ?_
  obtain ⟨r4, M3, e4, hf⟩ := bnd_some hf
  refine g_callSi (pc' := 14) (k' := 0) (u' := 0) (fr2 := 1) (As := [aL v2.toInt64, aL (0 : Int64), aL (31 : Int64)]) (st := []) cf_X12_isIn q_932 (by omega) dX12_next_11 rfl rfl rfl (Nat.le_of_ble_eq_true rfl) (Or.inl rfl) (Nat.le_refl _) (Nat.le_refl _) (Nat.le_refl _) (Nat.le_refl _) (s_X12_isIn v2.toInt64 (0 : Int64) (31 : Int64) M2 _ e4) ?_
  refine g_if_eq (pc' := 17) 25 dX12_next_14 rfl (by decide) (fun c5 => ?_) (fun c5 => ?_)
  · have hf := ite_t c5 hf
    refine g_mask [true, false, false, false] rfl ?_
    refine g_widen (k' := 0) (u' := 0) (by omega) (by omega) ?_
    exact s_X12_next_25 v0 M3 _ hf
  · have hf := ite_f c5 hf
    refine g_iload_n (pc' := 18) dX12_next_17 rfl rfl ?_
    refine g_iload_n (pc' := 19) dX12_next_18 rfl rfl ?_
    obtain ⟨r7, M6, e7, hf⟩ := bnd_some hf
    refine g_callSi (pc' := 22) (k' := 0) (u' := 0) (fr2 := 1) (As := [aI v1, aI v2]) (st := []) cf_X12_isOf q_885 (by omega) dX12_next_19 rfl rfl rfl (Nat.le_of_ble_eq_true rfl) (Or.inl rfl) (Nat.le_refl _) (Nat.le_refl _) (Nat.le_refl _) (Nat.le_refl _) (s_X12_isOf v1 v2 M3 _ e7) ?_
    refine g_if_ne (pc' := 25) 31 dX12_next_22 rfl (by decide) (fun c8 => ?_) (fun c8 => ?_)
    · have hf := ite_f c8 hf
      refine g_aload_n (pc' := 32) dX12_next_31 rfl rfl ?_
      refine g_iload_n (pc' := 33) dX12_next_32 rfl rfl ?_
      obtain ⟨h9, hf⟩ := chk_s hf
      obtain ⟨r11, M10, e11, hf⟩ := bnd_some hf
      refine g_callVi (pc' := 36) (k' := 0) (u' := 0) (fr2 := 1) (As := [aI v1]) (b := v0) (st := []) cf_X12_isSet q_1070 (by omega) (ci := 12) rfl rfl (by decide) dX12_next_33 rfl rfl rfl (Nat.le_of_ble_eq_true rfl) (Or.inl rfl) (Nat.le_refl _) (Nat.le_refl _) (Nat.le_refl _) (Nat.le_refl _) h9 (s_X12_isSet v0 v1 M6 _ e11) ?_
      refine g_if_eq (pc' := 39) 60 dX12_next_36 rfl (by decide) (fun c12 => ?_) (fun c12 => ?_)
      · have hf := ite_t c12 hf
        refine g_mask [true, false, false, false] rfl ?_
        refine g_widen (k' := 0) (u' := 0) (by omega) (by omega) ?_
        exact s_X12_next_60 v0 M10 _ hf
      · have hf := ite_f c12 hf
        refine g_iload_n (pc' := 40) dX12_next_39 rfl rfl ?_
        refine g_i2l (pc' := 41) dX12_next_40 rfl ?_
        refine g_lconst (pc' := 42) (0 : Int64) dX12_next_41 rfl (by decide) ?_
        refine g_aload_n (pc' := 43) dX12_next_42 rfl rfl ?_
        obtain ⟨h13, hf⟩ := chk_s hf
        refine g_getR (pc' := 46) 12 19 rfl rfl (by decide) inX12 (by decide) rfl rfl q_131 dX12_next_43 rfl h13 ?_
        refine g_aload_n (pc' := 47) dX12_next_46 rfl rfl ?_
        refine g_getR (pc' := 50) 12 25 rfl rfl (by decide) inX12 (by decide) rfl rfl q_137 dX12_next_47 rfl h13 ?_
        refine g_iload_n (pc' := 51) dX12_next_50 rfl rfl ?_
        obtain ⟨h14, hf⟩ := chk_s hf
        obtain ⟨b15, hf⟩ := chk_s hf
        refine g_iald (pc' := 52) dX12_next_51 rfl h14 (inB_in b15) ?_
        obtain ⟨h16, hf⟩ := chk_s hf
        obtain ⟨b17, hf⟩ := chk_s hf
        refine g_iald (pc' := 53) dX12_next_52 rfl h16 (inB_in b17) ?_
        refine g_i2l (pc' := 54) dX12_next_53 rfl ?_
        obtain ⟨r19, M18, e19, hf⟩ := bnd_some hf
        refine g_callSi (pc' := 57) (k' := 0) (u' := 0) (fr2 := 1) (As := [aL v3.toInt64, aL (0 : Int64), aL ((mI M10 (mR M10 v0 19) (mI M10 (mR M10 v0 25) v2.toNatClampNeg).toNatClampNeg).toInt64)]) (st := []) cf_X12_isIn q_932 (by omega) dX12_next_54 rfl rfl rfl (Nat.le_of_ble_eq_true rfl) (Or.inl rfl) (Nat.le_refl _) (Nat.le_refl _) (Nat.le_refl _) (Nat.le_refl _) (s_X12_isIn v3.toInt64 (0 : Int64) ((mI M10 (mR M10 v0 19) (mI M10 (mR M10 v0 25) v2.toNatClampNeg).toNatClampNeg).toInt64) M10 _ e19) ?_
        refine g_if_ne (pc' := 60) 66 dX12_next_57 rfl (by decide) (fun c20 => ?_) (fun c20 => ?_)
        · have hf := ite_f c20 hf
          refine g_aload_n (pc' := 67) dX12_next_66 rfl rfl ?_
          refine g_iload_n (pc' := 68) dX12_next_67 rfl rfl ?_
          refine g_iload_n (pc' := 69) dX12_next_68 rfl rfl ?_
          refine g_iload_n (pc' := 70) dX12_next_69 rfl rfl ?_
          obtain ⟨h21, hf⟩ := chk_s hf
          obtain ⟨r23, M22, e23, hf⟩ := bnd_some hf
          refine g_callVi (pc' := 73) (k' := 0) (u' := 0) (fr2 := 4) (As := [aI v1, aI v2, aI v3]) (b := v0) (st := []) cf_X12_nextOf q_1074 (by omega) (ci := 12) rfl rfl (by decide) dX12_next_70 rfl rfl rfl (Nat.le_of_ble_eq_true rfl) (Or.inl rfl) (Nat.le_refl _) (Nat.le_refl _) (Nat.le_refl _) (Nat.le_refl _) h21 (s_X12_nextOf v0 v1 v2 v3 M18 _ e23) ?_
          cases hf
          exact g_ireturn dX12_next_73 rfl (Nat.le_of_ble_eq_true rfl) (Nat.le_of_ble_eq_true rfl)
        · have hf := ite_t c20 hf
          refine g_mask [true, false, false, false] rfl ?_
          refine g_widen (k' := 0) (u' := 0) (by omega) (by omega) ?_
          exact s_X12_next_60 v0 M18 _ hf
    · have hf := ite_t c8 hf
      refine g_mask [true, false, false, false] rfl ?_
      refine g_widen (k' := 0) (u' := 0) (by omega) (by omega) ?_
      exact s_X12_next_25 v0 M6 _ hf
def f_X12_readsOf_108 (k54 : Nat → Int32 → Int32 → Int32 → Mem → Option (Int32 × Mem)) (v0 : Nat) (v2 : Int32) (v3 : Int32) (v4 : Int32) (w0 : Int32) (M : Mem) : Option (Int32 × Mem) :=
  if mK M v0 = 13 then
    bnd (f_X12_nextOf v0 v2 v4 w0 M) fun r3 M2 =>
    k54 v0 v2 v3 r3 M2
  else none
def f_X12_readsOf_54 : Nat → Nat → Int32 → Int32 → Int32 → Mem → Option (Int32 × Mem)
  | 0, _, _, _, _, _ => none
  | n + 1, v0, v2, v3, v4, M =>
    if v4 = (-1 : Int32) then
      some (v3, M)
    else
      if mK M v0 = 13 then
        if mK M (mR M v0 38) = 21 then
          if inB v4 (mN M (mR M v0 38)) = true then
            ap (sI M (mR M v0 38) v4.toNatClampNeg ((mI M (mR M v0 38) v4.toNatClampNeg) + (1 : Int32))) fun M5 =>
            if mK M5 v0 = 13 then
              if mK M5 (mR M5 v0 38) = 21 then
                if inB v4 (mN M5 (mR M5 v0 38)) = true then
                  if mK M5 (mR M5 v0 28) = 21 then
                    if inB v4 (mN M5 (mR M5 v0 28)) = true then
                      if (mI M5 (mR M5 v0 28) v4.toNatClampNeg) ≤ (mI M5 (mR M5 v0 38) v4.toNatClampNeg) then
                        f_X12_readsOf_108 (f_X12_readsOf_54 n) v0 v2 (v3 + 1) v4 (0 : Int32) M5
                      else
                        bnd (f_X12_repAt v0 v4 (mI M5 (mR M5 v0 38) v4.toNatClampNeg) M5) fun r13 M12 =>
                        f_X12_readsOf_108 (f_X12_readsOf_54 n) v0 v2 (v3 + 1) v4 r13 M12
                    else none
                  else none
                else none
              else none
            else none
          else none
        else none
      else none
def f_X12_readsOf_39 : Nat → Nat → Int32 → Int32 → Int32 → Mem → Option (Int32 × Mem)
  | 0, _, _, _, _, _ => none
  | n + 1, v0, v2, v3, v4, M =>
    bnd (f_X12_isOf v2 v4 M) fun r2 M1 =>
    if r2 = 0 then
      f_X12_readsOf_39 n v0 v2 v3 (v4 + 1) M1
    else
      f_X12_readsOf_54 FUEL v0 v2 v3 v4 M1
def f_X12_readsOf_5 : Nat → Nat → Int32 → Int32 → Int32 → Int32 → Mem → Option (Int32 × Mem)
  | 0, _, _, _, _, _, _ => none
  | n + 1, v0, v1, v2, v3, v4, M =>
    if mK M v0 = 13 then
      if mK M (mR M v0 24) = 21 then
        if inB (0 : Int32) (mN M (mR M v0 24)) = true then
          if (mI M (mR M v0 24) (0 : Int32).toNatClampNeg) ≤ v4 then
            f_X12_readsOf_39 FUEL v0 v2 v3 (0 : Int32) M
          else
            bnd (f_X12_firstOf v0 v4 v1 M) fun r6 M5 =>
            if mK M5 (mR M v0 38) = 21 then
              if inB v4 (mN M5 (mR M v0 38)) = true then
                ap (sI M5 (mR M v0 38) v4.toNatClampNeg r6) fun M9 =>
                f_X12_readsOf_5 n v0 v1 v2 v3 (v4 + 1) M9
              else none
            else none
        else none
      else none
    else none
def f_X12_readsOf (v0 : Nat) (v1 : Int32) (v2 : Int32) (M : Mem) : Option (Int32 × Mem) :=
  f_X12_readsOf_5 FUEL v0 v1 v2 (0 : Int32) (0 : Int32) M
theorem s_X12_readsOf_108 (k54 : Nat → Int32 → Int32 → Int32 → Mem → Option (Int32 × Mem)) (hk54 : ∀ (v0 : Nat) (v2 : Int32) (v3 : Int32) (v4 : Int32) (M : Mem) (r : (Int32 × Mem)), k54 v0 v2 v3 v4 M = some r → G mi_X12_readsOf 5 (oI r.1) r.2 54 [some (aR v0), none, some (aI v2), some (aI v3), some (aI v4), none] [] M 0 0) (v0 : Nat) (v2 : Int32) (v3 : Int32) (v4 : Int32) (w0 : Int32) (M : Mem) (r : (Int32 × Mem)) (hf : f_X12_readsOf_108 k54 v0 v2 v3 v4 w0 M = some r) : G mi_X12_readsOf 5 (oI r.1) r.2 108 [some (aR v0), none, some (aI v2), some (aI v3), some (aI v4), none] [aI w0] M 0 0 := by
  unfold f_X12_readsOf_108 at hf
  refine g_istore (pc' := 110) (lv' := [some (aR v0), none, some (aI v2), some (aI v3), some (aI v4), some (aI w0)]) dX12_readsOf_108 rfl rfl (by decide) rfl ?_
  refine g_aload_n (pc' := 111) dX12_readsOf_110 rfl rfl ?_
  refine g_iload_n (pc' := 112) dX12_readsOf_111 rfl rfl ?_
  refine g_iload (pc' := 114) dX12_readsOf_112 rfl rfl ?_
  refine g_iload (pc' := 116) dX12_readsOf_114 rfl rfl ?_
  obtain ⟨h1, hf⟩ := chk_s hf
  obtain ⟨r3, M2, e3, hf⟩ := bnd_some hf
  refine g_callVi (pc' := 119) (k' := 0) (u' := 0) (fr2 := 4) (As := [aI v2, aI v4, aI w0]) (b := v0) (st := []) cf_X12_nextOf q_1074 (by omega) (ci := 12) rfl rfl (by decide) dX12_readsOf_116 rfl rfl rfl (Nat.le_of_ble_eq_true rfl) (Or.inl rfl) (Nat.le_refl _) (Nat.le_refl _) (Nat.le_refl _) (Nat.le_refl _) h1 (s_X12_nextOf v0 v2 v4 w0 M _ e3) ?_
  refine g_istore (pc' := 121) (lv' := [some (aR v0), none, some (aI v2), some (aI v3), some (aI r3), some (aI w0)]) dX12_readsOf_119 rfl rfl (by decide) rfl ?_
  refine g_goto (pc' := 54) dX12_readsOf_121 (by decide) ?_
  refine g_mask [true, true, true, true, true, false] rfl ?_
  refine g_widen (k' := 0) (u' := 0) (by omega) (by omega) ?_
  exact hk54 v0 v2 v3 r3 M2 _ hf
theorem s_X12_readsOf_54 : ∀ (n : Nat) (v0 : Nat) (v2 : Int32) (v3 : Int32) (v4 : Int32) (M : Mem) (r : (Int32 × Mem)), f_X12_readsOf_54 n v0 v2 v3 v4 M = some r → G mi_X12_readsOf 5 (oI r.1) r.2 54 [some (aR v0), none, some (aI v2), some (aI v3), some (aI v4), none] [] M 0 0 := by
  intro n
  induction n with
  | zero => intro v0 v2 v3 v4 M r hf; cases hf
  | succ n ih =>
    intro v0 v2 v3 v4 M r hf
    unfold f_X12_readsOf_54 at hf
    refine g_iload (pc' := 56) dX12_readsOf_54 rfl rfl ?_
    refine g_iconst (pc' := 57) (-1 : Int32) dX12_readsOf_56 rfl (by decide) ?_
    refine g_icmp_eq (pc' := 60) 124 dX12_readsOf_57 rfl (by decide) (fun c1 => ?_) (fun c1 => ?_)
    · have hf := ite_t c1 hf
      refine g_iload_n (pc' := 125) dX12_readsOf_124 rfl rfl ?_
      cases hf
      exact g_ireturn dX12_readsOf_125 rfl (Nat.le_of_ble_eq_true rfl) (Nat.le_of_ble_eq_true rfl)
    · have hf := ite_f c1 hf
      refine g_iinc (pc' := 63) (lv' := [some (aR v0), none, some (aI v2), some (aI (v3 + 1)), some (aI v4), none]) (v3 + 1) dX12_readsOf_60 rfl rfl (by rfl) rfl (by decide) rfl ?_
      refine g_aload_n (pc' := 64) dX12_readsOf_63 rfl rfl ?_
      obtain ⟨h2, hf⟩ := chk_s hf
      refine g_getR (pc' := 67) 12 38 rfl rfl (by decide) inX12 (by decide) rfl rfl q_144 dX12_readsOf_64 rfl h2 ?_
      refine g_iload (pc' := 69) dX12_readsOf_67 rfl rfl ?_
      refine g_dup2 (pc' := 70) dX12_readsOf_69 rfl rfl rfl ?_
      obtain ⟨h3, hf⟩ := chk_s hf
      obtain ⟨b4, hf⟩ := chk_s hf
      refine g_iald (pc' := 71) dX12_readsOf_70 rfl h3 (inB_in b4) ?_
      refine g_iconst (pc' := 72) (1 : Int32) dX12_readsOf_71 rfl (by decide) ?_
      refine g_iadd (pc' := 73) dX12_readsOf_72 rfl ?_
      refine g_iast (pc' := 74) dX12_readsOf_73 rfl h3 (inB_in b4) (gM fun M5 hM5 => ?_)
      have hf := ap_eq hf hM5
      refine g_aload_n (pc' := 75) dX12_readsOf_74 rfl rfl ?_
      obtain ⟨h6, hf⟩ := chk_s hf
      refine g_getR (pc' := 78) 12 38 rfl rfl (by decide) inX12 (by decide) rfl rfl q_144 dX12_readsOf_75 rfl h6 ?_
      refine g_iload (pc' := 80) dX12_readsOf_78 rfl rfl ?_
      obtain ⟨h7, hf⟩ := chk_s hf
      obtain ⟨b8, hf⟩ := chk_s hf
      refine g_iald (pc' := 81) dX12_readsOf_80 rfl h7 (inB_in b8) ?_
      refine g_aload_n (pc' := 82) dX12_readsOf_81 rfl rfl ?_
      refine g_getR (pc' := 85) 12 28 rfl rfl (by decide) inX12 (by decide) rfl rfl q_139 dX12_readsOf_82 rfl h6 ?_
      refine g_iload (pc' := 87) dX12_readsOf_85 rfl rfl ?_
      obtain ⟨h9, hf⟩ := chk_s hf
      obtain ⟨b10, hf⟩ := chk_s hf
      refine g_iald (pc' := 88) dX12_readsOf_87 rfl h9 (inB_in b10) ?_
      refine g_icmp_ge (pc' := 91) 107 dX12_readsOf_88 rfl (by decide) (fun c11 => ?_) (fun c11 => ?_)
      · have hf := ite_t c11 hf
        refine g_iconst (pc' := 108) (0 : Int32) dX12_readsOf_107 rfl (by decide) ?_
        exact s_X12_readsOf_108 (f_X12_readsOf_54 n) ih v0 v2 (v3 + 1) v4 (0 : Int32) M5 _ hf
      · have hf := ite_f c11 hf
        refine g_aload_n (pc' := 92) dX12_readsOf_91 rfl rfl ?_
        refine g_iload (pc' := 94) dX12_readsOf_92 rfl rfl ?_
        refine g_aload_n (pc' := 95) dX12_readsOf_94 rfl rfl ?_
        refine g_getR (pc' := 98) 12 38 rfl rfl (by decide) inX12 (by decide) rfl rfl q_144 dX12_readsOf_95 rfl h6 ?_
        refine g_iload (pc' := 100) dX12_readsOf_98 rfl rfl ?_
        refine g_iald (pc' := 101) dX12_readsOf_100 rfl h7 (inB_in b8) ?_
        obtain ⟨r13, M12, e13, hf⟩ := bnd_some hf
        refine g_callVi (pc' := 104) (k' := 0) (u' := 0) (fr2 := 1) (As := [aI v4, aI (mI M5 (mR M5 v0 38) v4.toNatClampNeg)]) (b := v0) (st := []) cf_X12_repAt q_656 (by omega) (ci := 12) rfl rfl (by decide) dX12_readsOf_101 rfl rfl rfl (Nat.le_of_ble_eq_true rfl) (Or.inl rfl) (Nat.le_refl _) (Nat.le_refl _) (Nat.le_refl _) (Nat.le_refl _) h6 (s_X12_repAt v0 v4 (mI M5 (mR M5 v0 38) v4.toNatClampNeg) M5 _ e13) ?_
        refine g_goto (pc' := 108) dX12_readsOf_104 (by decide) ?_
        refine g_widen (k' := 0) (u' := 0) (by omega) (by omega) ?_
        exact s_X12_readsOf_108 (f_X12_readsOf_54 n) ih v0 v2 (v3 + 1) v4 r13 M12 _ hf
theorem s_X12_readsOf_39 : ∀ (n : Nat) (v0 : Nat) (v2 : Int32) (v3 : Int32) (v4 : Int32) (M : Mem) (r : (Int32 × Mem)), f_X12_readsOf_39 n v0 v2 v3 v4 M = some r → G mi_X12_readsOf 5 (oI r.1) r.2 39 [some (aR v0), none, some (aI v2), some (aI v3), some (aI v4), none] [] M 0 0 := by
  intro n
  induction n with
  | zero => intro v0 v2 v3 v4 M r hf; cases hf
  | succ n ih =>
    intro v0 v2 v3 v4 M r hf
    unfold f_X12_readsOf_39 at hf
    refine g_iload_n (pc' := 40) dX12_readsOf_39 rfl rfl ?_
    refine g_iload (pc' := 42) dX12_readsOf_40 rfl rfl ?_
    obtain ⟨r2, M1, e2, hf⟩ := bnd_some hf
    refine g_callSi (pc' := 45) (k' := 0) (u' := 0) (fr2 := 1) (As := [aI v2, aI v4]) (st := []) cf_X12_isOf q_885 (by omega) dX12_readsOf_42 rfl rfl rfl (Nat.le_of_ble_eq_true rfl) (Or.inl rfl) (Nat.le_refl _) (Nat.le_refl _) (Nat.le_refl _) (Nat.le_refl _) (s_X12_isOf v2 v4 M _ e2) ?_
    refine g_if_ne (pc' := 48) 54 dX12_readsOf_45 rfl (by decide) (fun c3 => ?_) (fun c3 => ?_)
    · have hf := ite_f c3 hf
      refine g_widen (k' := 0) (u' := 0) (by omega) (by omega) ?_
      exact s_X12_readsOf_54 FUEL v0 v2 v3 v4 M1 _ hf
    · have hf := ite_t c3 hf
      refine g_iinc (pc' := 51) (lv' := [some (aR v0), none, some (aI v2), some (aI v3), some (aI (v4 + 1)), none]) (v4 + 1) dX12_readsOf_48 rfl rfl (by rfl) rfl (by decide) rfl ?_
      refine g_goto (pc' := 39) dX12_readsOf_51 (by decide) ?_
      refine g_widen (k' := 0) (u' := 0) (by omega) (by omega) ?_
      exact ih v0 v2 v3 (v4 + 1) M1 _ hf
theorem s_X12_readsOf_5 : ∀ (n : Nat) (v0 : Nat) (v1 : Int32) (v2 : Int32) (v3 : Int32) (v4 : Int32) (M : Mem) (r : (Int32 × Mem)), f_X12_readsOf_5 n v0 v1 v2 v3 v4 M = some r → G mi_X12_readsOf 5 (oI r.1) r.2 5 [some (aR v0), some (aI v1), some (aI v2), some (aI v3), some (aI v4), none] [] M 0 0 := by
  intro n
  induction n with
  | zero => intro v0 v1 v2 v3 v4 M r hf; cases hf
  | succ n ih =>
    intro v0 v1 v2 v3 v4 M r hf
    unfold f_X12_readsOf_5 at hf
    refine g_iload (pc' := 7) dX12_readsOf_5 rfl rfl ?_
    refine g_aload_n (pc' := 8) dX12_readsOf_7 rfl rfl ?_
    obtain ⟨h1, hf⟩ := chk_s hf
    refine g_getR (pc' := 11) 12 24 rfl rfl (by decide) inX12 (by decide) rfl rfl q_136 dX12_readsOf_8 rfl h1 ?_
    refine g_iconst (pc' := 12) (0 : Int32) dX12_readsOf_11 rfl (by decide) ?_
    obtain ⟨h2, hf⟩ := chk_s hf
    obtain ⟨b3, hf⟩ := chk_s hf
    refine g_iald (pc' := 13) dX12_readsOf_12 rfl h2 (inB_in b3) ?_
    refine g_icmp_ge (pc' := 16) 36 dX12_readsOf_13 rfl (by decide) (fun c4 => ?_) (fun c4 => ?_)
    · have hf := ite_t c4 hf
      refine g_iconst (pc' := 37) (0 : Int32) dX12_readsOf_36 rfl (by decide) ?_
      refine g_istore (pc' := 39) (lv' := [some (aR v0), some (aI v1), some (aI v2), some (aI v3), some (aI (0 : Int32)), none]) dX12_readsOf_37 rfl rfl (by decide) rfl ?_
      refine g_mask [true, false, true, true, true, true] rfl ?_
      exact s_X12_readsOf_39 FUEL v0 v2 v3 (0 : Int32) M _ hf
    · have hf := ite_f c4 hf
      refine g_aload_n (pc' := 17) dX12_readsOf_16 rfl rfl ?_
      refine g_getR (pc' := 20) 12 38 rfl rfl (by decide) inX12 (by decide) rfl rfl q_144 dX12_readsOf_17 rfl h1 ?_
      refine g_iload (pc' := 22) dX12_readsOf_20 rfl rfl ?_
      refine g_aload_n (pc' := 23) dX12_readsOf_22 rfl rfl ?_
      refine g_iload (pc' := 25) dX12_readsOf_23 rfl rfl ?_
      refine g_iload_n (pc' := 26) dX12_readsOf_25 rfl rfl ?_
      obtain ⟨r6, M5, e6, hf⟩ := bnd_some hf
      refine g_callVi (pc' := 29) (k' := 0) (u' := 0) (fr2 := 2) (As := [aI v4, aI v1]) (b := v0) (st := [aI v4, aR (mR M v0 38)]) cf_X12_firstOf q_1038 (by omega) (ci := 12) rfl rfl (by decide) dX12_readsOf_26 rfl rfl rfl (Nat.le_of_ble_eq_true rfl) (Or.inl rfl) (Nat.le_refl _) (Nat.le_refl _) (Nat.le_refl _) (Nat.le_refl _) h1 (s_X12_firstOf v0 v4 v1 M _ e6) ?_
      obtain ⟨h7, hf⟩ := chk_s hf
      obtain ⟨b8, hf⟩ := chk_s hf
      refine g_iast (pc' := 30) dX12_readsOf_29 rfl h7 (inB_in b8) (gM fun M9 hM9 => ?_)
      have hf := ap_eq hf hM9
      refine g_iinc (pc' := 33) (lv' := [some (aR v0), some (aI v1), some (aI v2), some (aI v3), some (aI (v4 + 1)), none]) (v4 + 1) dX12_readsOf_30 rfl rfl (by rfl) rfl (by decide) rfl ?_
      refine g_goto (pc' := 5) dX12_readsOf_33 (by decide) ?_
      refine g_widen (k' := 0) (u' := 0) (by omega) (by omega) ?_
      exact ih v0 v1 v2 v3 (v4 + 1) M9 _ hf
theorem s_X12_readsOf (v0 : Nat) (v1 : Int32) (v2 : Int32) (M : Mem) (r : (Int32 × Mem)) (hf : f_X12_readsOf v0 v1 v2 M = some r) : Sem mi_X12_readsOf (5) [aR v0, aI v1, aI v2] M (oI r.1) r.2 := by
  unfold f_X12_readsOf at hf
  refine sem_of (by decide) rfl rfl rfl (Nat.le_of_ble_eq_true rfl) (lv := [some (aR v0), some (aI v1), some (aI v2), none, none, none]) rfl ?_
  refine g_iconst (pc' := 1) (0 : Int32) dX12_readsOf_0 rfl (by decide) ?_
  refine g_istore_n (pc' := 2) (lv' := [some (aR v0), some (aI v1), some (aI v2), some (aI (0 : Int32)), none, none]) dX12_readsOf_1 rfl rfl (by decide) rfl ?_
  refine g_iconst (pc' := 3) (0 : Int32) dX12_readsOf_2 rfl (by decide) ?_
  refine g_istore (pc' := 5) (lv' := [some (aR v0), some (aI v1), some (aI v2), some (aI (0 : Int32)), some (aI (0 : Int32)), none]) dX12_readsOf_3 rfl rfl (by decide) rfl ?_
  exact s_X12_readsOf_5 FUEL v0 v1 v2 (0 : Int32) (0 : Int32) M _ hf
def f_X12_reads (v0 : Nat) (v1 : Int32) (v2 : Int32) (M : Mem) : Option (Int32 × Mem) :=
  if mK M v0 = 13 then
    ap (sI M v0 2 (0 : Int32)) fun M2 =>
    if mK M2 v0 = 13 then
      bnd (f_X12_isRecord v0 v1 M2) fun r5 M4 =>
      if r5 = 0 then
        if mK M4 v0 = 13 then
          bnd (f_X12_fail v0 (1 : Int32) M4) fun r23 M22 =>
          some (r23, M22)
        else none
      else
        if mK M4 v0 = 13 then
          bnd (f_X12_isSet v0 v2 M4) fun r9 M8 =>
          if r9 = 0 then
            if mK M8 v0 = 13 then
              bnd (f_X12_fail v0 (2 : Int32) M8) fun r20 M19 =>
              some (r20, M19)
            else none
          else
            if mK M8 v0 = 13 then
              bnd (f_X12_checked v0 M8) fun r13 M12 =>
              if r13 = 0 then
                if mK M12 v0 = 13 then
                  bnd (f_X12_readsOf v0 v1 v2 M12) fun r17 M16 =>
                  some (r17, M16)
                else none
              else
                some ((-1 : Int32), M12)
            else none
        else none
    else none
  else none
theorem s_X12_reads (v0 : Nat) (v1 : Int32) (v2 : Int32) (M : Mem) (r : (Int32 × Mem)) (hf : f_X12_reads v0 v1 v2 M = some r) : Sem mi_X12_reads (6) [aR v0, aI v1, aI v2] M (oI r.1) r.2 := by
  unfold f_X12_reads at hf
  refine sem_of (by decide) rfl rfl rfl (Nat.le_of_ble_eq_true rfl) (lv := [some (aR v0), some (aI v1), some (aI v2)]) rfl ?_
  refine g_aload_n (pc' := 1) dX12_reads_0 rfl rfl ?_
  refine g_iconst (pc' := 2) (0 : Int32) dX12_reads_1 rfl (by decide) ?_
  obtain ⟨h1, hf⟩ := chk_s hf
  refine g_putI (pc' := 5) 12 2 rfl rfl (by decide) inX12 tyX12_ok nmX12 (by decide) rfl rfl rfl rfl q_167 dX12_reads_2 rfl h1 (gM fun M2 hM2 => ?_)
  have hf := ap_eq hf hM2
  refine g_aload_n (pc' := 6) dX12_reads_5 rfl rfl ?_
  refine g_iload_n (pc' := 7) dX12_reads_6 rfl rfl ?_
  obtain ⟨h3, hf⟩ := chk_s hf
  obtain ⟨r5, M4, e5, hf⟩ := bnd_some hf
  refine g_callVi (pc' := 10) (k' := 0) (u' := 0) (fr2 := 2) (As := [aI v1]) (b := v0) (st := []) cf_X12_isRecord q_1034 (by omega) (ci := 12) rfl rfl (by decide) dX12_reads_7 rfl rfl rfl (Nat.le_of_ble_eq_true rfl) (Or.inl rfl) (Nat.le_refl _) (Nat.le_refl _) (Nat.le_refl _) (Nat.le_refl _) h3 (s_X12_isRecord v0 v1 M2 _ e5) ?_
  refine g_if_ne (pc' := 13) 19 dX12_reads_10 rfl (by decide) (fun c6 => ?_) (fun c6 => ?_)
  · have hf := ite_f c6 hf
    refine g_aload_n (pc' := 20) dX12_reads_19 rfl rfl ?_
    refine g_iload_n (pc' := 21) dX12_reads_20 rfl rfl ?_
    obtain ⟨h7, hf⟩ := chk_s hf
    obtain ⟨r9, M8, e9, hf⟩ := bnd_some hf
    refine g_callVi (pc' := 24) (k' := 0) (u' := 0) (fr2 := 1) (As := [aI v2]) (b := v0) (st := []) cf_X12_isSet q_1070 (by omega) (ci := 12) rfl rfl (by decide) dX12_reads_21 rfl rfl rfl (Nat.le_of_ble_eq_true rfl) (Or.inl rfl) (Nat.le_refl _) (Nat.le_refl _) (Nat.le_refl _) (Nat.le_refl _) h7 (s_X12_isSet v0 v2 M4 _ e9) ?_
    refine g_if_ne (pc' := 27) 33 dX12_reads_24 rfl (by decide) (fun c10 => ?_) (fun c10 => ?_)
    · have hf := ite_f c10 hf
      refine g_aload_n (pc' := 34) dX12_reads_33 rfl rfl ?_
      obtain ⟨h11, hf⟩ := chk_s hf
      obtain ⟨r13, M12, e13, hf⟩ := bnd_some hf
      refine g_callVi (pc' := 37) (k' := 0) (u' := 0) (fr2 := 4) (As := []) (b := v0) (st := []) cf_X12_checked q_648 (by omega) (ci := 12) rfl rfl (by decide) dX12_reads_34 rfl rfl rfl (Nat.le_of_ble_eq_true rfl) (Or.inl rfl) (Nat.le_refl _) (Nat.le_refl _) (Nat.le_refl _) (Nat.le_refl _) h11 (s_X12_checked v0 M8 _ e13) ?_
      refine g_if_eq (pc' := 40) 44 dX12_reads_37 rfl (by decide) (fun c14 => ?_) (fun c14 => ?_)
      · have hf := ite_t c14 hf
        refine g_aload_n (pc' := 45) dX12_reads_44 rfl rfl ?_
        refine g_iload_n (pc' := 46) dX12_reads_45 rfl rfl ?_
        refine g_iload_n (pc' := 47) dX12_reads_46 rfl rfl ?_
        obtain ⟨h15, hf⟩ := chk_s hf
        obtain ⟨r17, M16, e17, hf⟩ := bnd_some hf
        refine g_callVi (pc' := 50) (k' := 0) (u' := 0) (fr2 := 5) (As := [aI v1, aI v2]) (b := v0) (st := []) cf_X12_readsOf q_1231 (by omega) (ci := 12) rfl rfl (by decide) dX12_reads_47 rfl rfl rfl (Nat.le_of_ble_eq_true rfl) (Or.inl rfl) (Nat.le_refl _) (Nat.le_refl _) (Nat.le_refl _) (Nat.le_refl _) h15 (s_X12_readsOf v0 v1 v2 M12 _ e17) ?_
        cases hf
        exact g_ireturn dX12_reads_50 rfl (Nat.le_of_ble_eq_true rfl) (Nat.le_of_ble_eq_true rfl)
      · have hf := ite_f c14 hf
        refine g_iconst (pc' := 41) (-1 : Int32) dX12_reads_40 rfl (by decide) ?_
        refine g_goto (pc' := 50) dX12_reads_41 (by decide) ?_
        cases hf
        exact g_ireturn dX12_reads_50 rfl (Nat.le_of_ble_eq_true rfl) (Nat.le_of_ble_eq_true rfl)
    · have hf := ite_t c10 hf
      refine g_aload_n (pc' := 28) dX12_reads_27 rfl rfl ?_
      refine g_iconst (pc' := 29) (2 : Int32) dX12_reads_28 rfl (by decide) ?_
      obtain ⟨h18, hf⟩ := chk_s hf
      obtain ⟨r20, M19, e20, hf⟩ := bnd_some hf
      refine g_callVi (pc' := 32) (k' := 0) (u' := 0) (fr2 := 1) (As := [aI (2 : Int32)]) (b := v0) (st := []) cf_X12_fail q_904 (by omega) (ci := 12) rfl rfl (by decide) dX12_reads_29 rfl rfl rfl (Nat.le_of_ble_eq_true rfl) (Or.inl rfl) (Nat.le_refl _) (Nat.le_refl _) (Nat.le_refl _) (Nat.le_refl _) h18 (s_X12_fail v0 (2 : Int32) M8 _ e20) ?_
      cases hf
      exact g_ireturn dX12_reads_32 rfl (Nat.le_of_ble_eq_true rfl) (Nat.le_of_ble_eq_true rfl)
  · have hf := ite_t c6 hf
    refine g_aload_n (pc' := 14) dX12_reads_13 rfl rfl ?_
    refine g_iconst (pc' := 15) (1 : Int32) dX12_reads_14 rfl (by decide) ?_
    obtain ⟨h21, hf⟩ := chk_s hf
    obtain ⟨r23, M22, e23, hf⟩ := bnd_some hf
    refine g_callVi (pc' := 18) (k' := 0) (u' := 0) (fr2 := 1) (As := [aI (1 : Int32)]) (b := v0) (st := []) cf_X12_fail q_904 (by omega) (ci := 12) rfl rfl (by decide) dX12_reads_15 rfl rfl rfl (Nat.le_of_ble_eq_true rfl) (Or.inl rfl) (Nat.le_refl _) (Nat.le_refl _) (Nat.le_refl _) (Nat.le_refl _) h21 (s_X12_fail v0 (1 : Int32) M4 _ e23) ?_
    cases hf
    exact g_ireturn dX12_reads_18 rfl (Nat.le_of_ble_eq_true rfl) (Nat.le_of_ble_eq_true rfl)
def f_X12_say_16 (v0 : Nat) (M : Mem) : Option (Unit × Mem) :=
  if mK M v0 = 13 then
    ap (sI M v0 41 ((mI M v0 41) + (1 : Int32))) fun M2 =>
    some ((), M2)
  else none
def f_X12_say (v0 : Nat) (v1 : Int32) (M : Mem) : Option (Unit × Mem) :=
  if mK M v0 = 13 then
    if (mI M v0 41) = (mI M v0 42) then
      ap (sI M v0 43 v1) fun M3 =>
      f_X12_say_16 v0 M3
    else
      f_X12_say_16 v0 M
  else none
theorem s_X12_say_16 (v0 : Nat) (M : Mem) (r : (Unit × Mem)) (hf : f_X12_say_16 v0 M = some r) : G mi_X12_say 1 (oU r.1) r.2 16 [some (aR v0), none] [] M 0 0 := by
  unfold f_X12_say_16 at hf
  refine g_aload_n (pc' := 17) dX12_say_16 rfl rfl ?_
  refine g_dup (pc' := 18) dX12_say_17 rfl rfl ?_
  obtain ⟨h1, hf⟩ := chk_s hf
  refine g_getI (pc' := 21) 12 41 rfl rfl (by decide) inX12 (by decide) rfl rfl q_1168 dX12_say_18 rfl h1 ?_
  refine g_iconst (pc' := 22) (1 : Int32) dX12_say_21 rfl (by decide) ?_
  refine g_iadd (pc' := 23) dX12_say_22 rfl ?_
  refine g_putI (pc' := 26) 12 41 rfl rfl (by decide) inX12 tyX12_ok nmX12 (by decide) rfl rfl rfl rfl q_1168 dX12_say_23 rfl h1 (gM fun M2 hM2 => ?_)
  have hf := ap_eq hf hM2
  cases hf
  exact g_return dX12_say_26 rfl (Nat.le_of_ble_eq_true rfl) (Nat.le_of_ble_eq_true rfl)
theorem s_X12_say (v0 : Nat) (v1 : Int32) (M : Mem) (r : (Unit × Mem)) (hf : f_X12_say v0 v1 M = some r) : Sem mi_X12_say (1) [aR v0, aI v1] M (oU r.1) r.2 := by
  unfold f_X12_say at hf
  refine sem_of (by decide) rfl rfl rfl (Nat.le_of_ble_eq_true rfl) (lv := [some (aR v0), some (aI v1)]) rfl ?_
  refine g_aload_n (pc' := 1) dX12_say_0 rfl rfl ?_
  obtain ⟨h1, hf⟩ := chk_s hf
  refine g_getI (pc' := 4) 12 41 rfl rfl (by decide) inX12 (by decide) rfl rfl q_1168 dX12_say_1 rfl h1 ?_
  refine g_aload_n (pc' := 5) dX12_say_4 rfl rfl ?_
  refine g_getI (pc' := 8) 12 42 rfl rfl (by decide) inX12 (by decide) rfl rfl q_1169 dX12_say_5 rfl h1 ?_
  refine g_icmp_ne (pc' := 11) 16 dX12_say_8 rfl (by decide) (fun c2 => ?_) (fun c2 => ?_)
  · have hf := ite_f c2 hf
    refine g_mask [true, false] rfl ?_
    exact s_X12_say_16 v0 M _ hf
  · have hf := ite_t c2 hf
    refine g_aload_n (pc' := 12) dX12_say_11 rfl rfl ?_
    refine g_iload_n (pc' := 13) dX12_say_12 rfl rfl ?_
    refine g_putI (pc' := 16) 12 43 rfl rfl (by decide) inX12 tyX12_ok nmX12 (by decide) rfl rfl rfl rfl q_1182 dX12_say_13 rfl h1 (gM fun M3 hM3 => ?_)
    have hf := ap_eq hf hM3
    refine g_mask [true, false] rfl ?_
    exact s_X12_say_16 v0 M3 _ hf
def f_X12_sayNumber_18 : Nat → Nat → Int32 → Int32 → Mem → Option (Unit × Mem)
  | 0, _, _, _, _ => none
  | n + 1, v0, v1, v2, M =>
    if v2 ≤ 0 then
      some ((), M)
    else
      if ¬ v2 = 0 then
      if mK M v0 = 13 then
        bnd (f_X12_say v0 ((48 : Int32) + ((v1 / v2) - (v1 / v2) / (10 : Int32) * (10 : Int32))) M) fun _ M4 =>
        f_X12_sayNumber_18 n v0 v1 (v2 / (10 : Int32)) M4
      else none
      else none
def f_X12_sayNumber_2 : Nat → Nat → Int32 → Int32 → Mem → Option (Unit × Mem)
  | 0, _, _, _, _ => none
  | n + 1, v0, v1, v2, M =>
    if (v1 / (10 : Int32)) < v2 then
      f_X12_sayNumber_18 FUEL v0 v1 v2 M
    else
      f_X12_sayNumber_2 n v0 v1 (v2 * (10 : Int32)) M
def f_X12_sayNumber (v0 : Nat) (v1 : Int32) (M : Mem) : Option (Unit × Mem) :=
  f_X12_sayNumber_2 FUEL v0 v1 (1 : Int32) M
theorem s_X12_sayNumber_18 : ∀ (n : Nat) (v0 : Nat) (v1 : Int32) (v2 : Int32) (M : Mem) (r : (Unit × Mem)), f_X12_sayNumber_18 n v0 v1 v2 M = some r → G mi_X12_sayNumber 2 (oU r.1) r.2 18 [some (aR v0), some (aI v1), some (aI v2)] [] M 0 0 := by
  intro n
  induction n with
  | zero => intro v0 v1 v2 M r hf; cases hf
  | succ n ih =>
    intro v0 v1 v2 M r hf
    unfold f_X12_sayNumber_18 at hf
    refine g_iload_n (pc' := 19) dX12_sayNumber_18 rfl rfl ?_
    refine g_if_le (pc' := 22) 43 dX12_sayNumber_19 rfl (by decide) (fun c1 => ?_) (fun c1 => ?_)
    · have hf := ite_t c1 hf
      cases hf
      exact g_return dX12_sayNumber_43 rfl (Nat.le_of_ble_eq_true rfl) (Nat.le_of_ble_eq_true rfl)
    · have hf := ite_f c1 hf
      refine g_aload_n (pc' := 23) dX12_sayNumber_22 rfl rfl ?_
      refine g_bipush (pc' := 25) (48 : Int32) dX12_sayNumber_23 rfl (by decide) ?_
      refine g_iload_n (pc' := 26) dX12_sayNumber_25 rfl rfl ?_
      refine g_iload_n (pc' := 27) dX12_sayNumber_26 rfl rfl ?_
      obtain ⟨hz2, hf⟩ := chk_s hf
      refine g_idiv (pc' := 28) dX12_sayNumber_27 rfl hz2 ?_
      refine g_bipush (pc' := 30) (10 : Int32) dX12_sayNumber_28 rfl (by decide) ?_
      refine g_irem (pc' := 31) dX12_sayNumber_30 rfl (by decide) ?_
      refine g_iadd (pc' := 32) dX12_sayNumber_31 rfl ?_
      obtain ⟨h3, hf⟩ := chk_s hf
      obtain ⟨_, M4, e5, hf⟩ := bnd_some hf
      refine g_callVv (pc' := 35) (k' := 0) (u' := 0) (fr2 := 1) (As := [aI ((48 : Int32) + ((v1 / v2) - (v1 / v2) / (10 : Int32) * (10 : Int32)))]) (b := v0) (st := []) cf_X12_say q_1178 (by omega) (ci := 12) rfl rfl (by decide) dX12_sayNumber_32 rfl rfl rfl (Nat.le_of_ble_eq_true rfl) (Or.inl rfl) (Nat.le_refl _) (Nat.le_refl _) (Nat.le_refl _) (Nat.le_refl _) h3 (s_X12_say v0 ((48 : Int32) + ((v1 / v2) - (v1 / v2) / (10 : Int32) * (10 : Int32))) M _ e5) ?_
      refine g_iload_n (pc' := 36) dX12_sayNumber_35 rfl rfl ?_
      refine g_bipush (pc' := 38) (10 : Int32) dX12_sayNumber_36 rfl (by decide) ?_
      refine g_idiv (pc' := 39) dX12_sayNumber_38 rfl (by decide) ?_
      refine g_istore_n (pc' := 40) (lv' := [some (aR v0), some (aI v1), some (aI (v2 / (10 : Int32)))]) dX12_sayNumber_39 rfl rfl (by decide) rfl ?_
      refine g_goto (pc' := 18) dX12_sayNumber_40 (by decide) ?_
      refine g_widen (k' := 0) (u' := 0) (by omega) (by omega) ?_
      exact ih v0 v1 (v2 / (10 : Int32)) M4 _ hf
theorem s_X12_sayNumber_2 : ∀ (n : Nat) (v0 : Nat) (v1 : Int32) (v2 : Int32) (M : Mem) (r : (Unit × Mem)), f_X12_sayNumber_2 n v0 v1 v2 M = some r → G mi_X12_sayNumber 2 (oU r.1) r.2 2 [some (aR v0), some (aI v1), some (aI v2)] [] M 0 0 := by
  intro n
  induction n with
  | zero => intro v0 v1 v2 M r hf; cases hf
  | succ n ih =>
    intro v0 v1 v2 M r hf
    unfold f_X12_sayNumber_2 at hf
    refine g_iload_n (pc' := 3) dX12_sayNumber_2 rfl rfl ?_
    refine g_iload_n (pc' := 4) dX12_sayNumber_3 rfl rfl ?_
    refine g_bipush (pc' := 6) (10 : Int32) dX12_sayNumber_4 rfl (by decide) ?_
    refine g_idiv (pc' := 7) dX12_sayNumber_6 rfl (by decide) ?_
    refine g_icmp_gt (pc' := 10) 18 dX12_sayNumber_7 rfl (by decide) (fun c1 => ?_) (fun c1 => ?_)
    · have hf := ite_t c1 hf
      exact s_X12_sayNumber_18 FUEL v0 v1 v2 M _ hf
    · have hf := ite_f c1 hf
      refine g_iload_n (pc' := 11) dX12_sayNumber_10 rfl rfl ?_
      refine g_bipush (pc' := 13) (10 : Int32) dX12_sayNumber_11 rfl (by decide) ?_
      refine g_imul (pc' := 14) dX12_sayNumber_13 rfl ?_
      refine g_istore_n (pc' := 15) (lv' := [some (aR v0), some (aI v1), some (aI (v2 * (10 : Int32)))]) dX12_sayNumber_14 rfl rfl (by decide) rfl ?_
      refine g_goto (pc' := 2) dX12_sayNumber_15 (by decide) ?_
      exact ih v0 v1 (v2 * (10 : Int32)) M _ hf
theorem s_X12_sayNumber (v0 : Nat) (v1 : Int32) (M : Mem) (r : (Unit × Mem)) (hf : f_X12_sayNumber v0 v1 M = some r) : Sem mi_X12_sayNumber (2) [aR v0, aI v1] M (oU r.1) r.2 := by
  unfold f_X12_sayNumber at hf
  refine sem_of (by decide) rfl rfl rfl (Nat.le_of_ble_eq_true rfl) (lv := [some (aR v0), some (aI v1), none]) rfl ?_
  refine g_iconst (pc' := 1) (1 : Int32) dX12_sayNumber_0 rfl (by decide) ?_
  refine g_istore_n (pc' := 2) (lv' := [some (aR v0), some (aI v1), some (aI (1 : Int32))]) dX12_sayNumber_1 rfl rfl (by decide) rfl ?_
  exact s_X12_sayNumber_2 FUEL v0 v1 (1 : Int32) M _ hf
def f_X12_firstLeafIn_2 : Nat → Nat → Int32 → Int32 → Mem → Option (Int32 × Mem)
  | 0, _, _, _, _ => none
  | n + 1, v0, v1, v2, M =>
    if mK M v0 = 13 then
      if mK M (mR M v0 25) = 21 then
        if inB v2 (mN M (mR M v0 25)) = true then
          bnd (f_X12_isInside v0 (mI M (mR M v0 25) v2.toNatClampNeg) v1 M) fun r5 M4 =>
          if r5 = 0 then
            f_X12_firstLeafIn_2 n v0 v1 (v2 + 1) M4
          else
            some (v2, M4)
        else none
      else none
    else none
def f_X12_firstLeafIn (v0 : Nat) (v1 : Int32) (M : Mem) : Option (Int32 × Mem) :=
  f_X12_firstLeafIn_2 FUEL v0 v1 (0 : Int32) M
theorem s_X12_firstLeafIn_2 : ∀ (n : Nat) (v0 : Nat) (v1 : Int32) (v2 : Int32) (M : Mem) (r : (Int32 × Mem)), f_X12_firstLeafIn_2 n v0 v1 v2 M = some r → G mi_X12_firstLeafIn 2 (oI r.1) r.2 2 [some (aR v0), some (aI v1), some (aI v2)] [] M 0 0 := by
  intro n
  induction n with
  | zero => intro v0 v1 v2 M r hf; cases hf
  | succ n ih =>
    intro v0 v1 v2 M r hf
    unfold f_X12_firstLeafIn_2 at hf
    refine g_aload_n (pc' := 3) dX12_firstLeafIn_2 rfl rfl ?_
    refine g_aload_n (pc' := 4) dX12_firstLeafIn_3 rfl rfl ?_
    obtain ⟨h1, hf⟩ := chk_s hf
    refine g_getR (pc' := 7) 12 25 rfl rfl (by decide) inX12 (by decide) rfl rfl q_137 dX12_firstLeafIn_4 rfl h1 ?_
    refine g_iload_n (pc' := 8) dX12_firstLeafIn_7 rfl rfl ?_
    obtain ⟨h2, hf⟩ := chk_s hf
    obtain ⟨b3, hf⟩ := chk_s hf
    refine g_iald (pc' := 9) dX12_firstLeafIn_8 rfl h2 (inB_in b3) ?_
    refine g_iload_n (pc' := 10) dX12_firstLeafIn_9 rfl rfl ?_
    obtain ⟨r5, M4, e5, hf⟩ := bnd_some hf
    refine g_callVi (pc' := 13) (k' := 0) (u' := 0) (fr2 := 1) (As := [aI (mI M (mR M v0 25) v2.toNatClampNeg), aI v1]) (b := v0) (st := []) cf_X12_isInside q_686 (by omega) (ci := 12) rfl rfl (by decide) dX12_firstLeafIn_10 rfl rfl rfl (Nat.le_of_ble_eq_true rfl) (Or.inl rfl) (Nat.le_refl _) (Nat.le_refl _) (Nat.le_refl _) (Nat.le_refl _) h1 (s_X12_isInside v0 (mI M (mR M v0 25) v2.toNatClampNeg) v1 M _ e5) ?_
    refine g_if_ne (pc' := 16) 22 dX12_firstLeafIn_13 rfl (by decide) (fun c6 => ?_) (fun c6 => ?_)
    · have hf := ite_f c6 hf
      refine g_iload_n (pc' := 23) dX12_firstLeafIn_22 rfl rfl ?_
      cases hf
      exact g_ireturn dX12_firstLeafIn_23 rfl (Nat.le_of_ble_eq_true rfl) (Nat.le_of_ble_eq_true rfl)
    · have hf := ite_t c6 hf
      refine g_iinc (pc' := 19) (lv' := [some (aR v0), some (aI v1), some (aI (v2 + 1))]) (v2 + 1) dX12_firstLeafIn_16 rfl rfl (by rfl) rfl (by decide) rfl ?_
      refine g_goto (pc' := 2) dX12_firstLeafIn_19 (by decide) ?_
      refine g_widen (k' := 0) (u' := 0) (by omega) (by omega) ?_
      exact ih v0 v1 (v2 + 1) M4 _ hf
theorem s_X12_firstLeafIn (v0 : Nat) (v1 : Int32) (M : Mem) (r : (Int32 × Mem)) (hf : f_X12_firstLeafIn v0 v1 M = some r) : Sem mi_X12_firstLeafIn (2) [aR v0, aI v1] M (oI r.1) r.2 := by
  unfold f_X12_firstLeafIn at hf
  refine sem_of (by decide) rfl rfl rfl (Nat.le_of_ble_eq_true rfl) (lv := [some (aR v0), some (aI v1), none]) rfl ?_
  refine g_iconst (pc' := 1) (0 : Int32) dX12_firstLeafIn_0 rfl (by decide) ?_
  refine g_istore_n (pc' := 2) (lv' := [some (aR v0), some (aI v1), some (aI (0 : Int32))]) dX12_firstLeafIn_1 rfl rfl (by decide) rfl ?_
  exact s_X12_firstLeafIn_2 FUEL v0 v1 (0 : Int32) M _ hf
def f_X12_isTold_13  (M : Mem) : Option (Int32 × Mem) :=
  some ((1 : Int32), M)
def f_X12_isTold (v0 : Nat) (v1 : Int32) (v2 : Int32) (v3 : Int32) (M : Mem) : Option (Int32 × Mem) :=
  if v1 = 0 then
    if mK M v0 = 13 then
      bnd (f_X12_hasLeafOf v0 v2 v3 M) fun r4 M3 =>
      if r4 = 0 then
        some ((0 : Int32), M3)
      else
        f_X12_isTold_13 M3
    else none
  else
    f_X12_isTold_13 M
theorem s_X12_isTold_13  (M : Mem) (r : (Int32 × Mem)) (hf : f_X12_isTold_13  M = some r) : G mi_X12_isTold 3 (oI r.1) r.2 13 [none, none, none, none] [] M 0 0 := by
  unfold f_X12_isTold_13 at hf
  refine g_iconst (pc' := 14) (1 : Int32) dX12_isTold_13 rfl (by decide) ?_
  refine g_goto (pc' := 18) dX12_isTold_14 (by decide) ?_
  cases hf
  exact g_zreturn dX12_isTold_18 rfl (Or.inr rfl) (Nat.le_of_ble_eq_true rfl) (Nat.le_of_ble_eq_true rfl)
theorem s_X12_isTold (v0 : Nat) (v1 : Int32) (v2 : Int32) (v3 : Int32) (M : Mem) (r : (Int32 × Mem)) (hf : f_X12_isTold v0 v1 v2 v3 M = some r) : Sem mi_X12_isTold (3) [aR v0, aI v1, aI v2, aI v3] M (oI r.1) r.2 := by
  unfold f_X12_isTold at hf
  refine sem_of (by decide) rfl rfl rfl (Nat.le_of_ble_eq_true rfl) (lv := [some (aR v0), some (aI v1), some (aI v2), some (aI v3)]) rfl ?_
  refine g_iload_n (pc' := 1) dX12_isTold_0 rfl rfl ?_
  refine g_if_ne (pc' := 4) 13 dX12_isTold_1 rfl (by decide) (fun c1 => ?_) (fun c1 => ?_)
  · have hf := ite_f c1 hf
    refine g_mask [false, false, false, false] rfl ?_
    exact s_X12_isTold_13 M _ hf
  · have hf := ite_t c1 hf
    refine g_aload_n (pc' := 5) dX12_isTold_4 rfl rfl ?_
    refine g_iload_n (pc' := 6) dX12_isTold_5 rfl rfl ?_
    refine g_iload_n (pc' := 7) dX12_isTold_6 rfl rfl ?_
    obtain ⟨h2, hf⟩ := chk_s hf
    obtain ⟨r4, M3, e4, hf⟩ := bnd_some hf
    refine g_callVi (pc' := 10) (k' := 0) (u' := 0) (fr2 := 2) (As := [aI v2, aI v3]) (b := v0) (st := []) cf_X12_hasLeafOf q_881 (by omega) (ci := 12) rfl rfl (by decide) dX12_isTold_7 rfl rfl rfl (Nat.le_of_ble_eq_true rfl) (Or.inl rfl) (Nat.le_refl _) (Nat.le_refl _) (Nat.le_refl _) (Nat.le_refl _) h2 (s_X12_hasLeafOf v0 v2 v3 M _ e4) ?_
    refine g_if_eq (pc' := 13) 17 dX12_isTold_10 rfl (by decide) (fun c5 => ?_) (fun c5 => ?_)
    · have hf := ite_t c5 hf
      refine g_iconst (pc' := 18) (0 : Int32) dX12_isTold_17 rfl (by decide) ?_
      cases hf
      exact g_zreturn dX12_isTold_18 rfl (Or.inl rfl) (Nat.le_of_ble_eq_true rfl) (Nat.le_of_ble_eq_true rfl)
    · have hf := ite_f c5 hf
      refine g_mask [false, false, false, false] rfl ?_
      refine g_widen (k' := 0) (u' := 0) (by omega) (by omega) ?_
      exact s_X12_isTold_13 M3 _ hf
def f_X12_tellItem (kF : Nat → Int32 → Int32 → Int32 → Int32 → Mem → Option (Unit × Mem)) (v0 : Nat) (v1 : Int32) (v2 : Int32) (v3 : Int32) (v4 : Int32) (M : Mem) : Option (Unit × Mem) :=
  if mK M v0 = 13 then
    if mK M (mR M v0 21) = 21 then
      if inB (v1 + v2) (mN M (mR M v0 21)) = true then
        if mK M (mR M v0 17) = 21 then
          if inB (mI M (mR M v0 21) (v1 + v2).toNatClampNeg) (mN M (mR M v0 17)) = true then
            if (mI M (mR M v0 17) (mI M (mR M v0 21) (v1 + v2).toNatClampNeg).toNatClampNeg) = (-1 : Int32) then
              bnd (f_X12_say v0 (40 : Int32) M) fun _ M7 =>
              if mK M7 v0 = 13 then
                bnd (kF v0 v1 v2 v3 v4 M7) fun _ M10 =>
                if mK M10 v0 = 13 then
                  bnd (f_X12_say v0 (41 : Int32) M10) fun _ M13 =>
                  some ((), M13)
                else none
              else none
            else
              if mK M (mR M v0 39) = 21 then
                if inB (((8 : Int32) * v4) + (mI M (mR M v0 17) (mI M (mR M v0 21) (v1 + v2).toNatClampNeg).toNatClampNeg)) (mN M (mR M v0 39)) = true then
                  bnd (f_X12_valueAt v0 (mI M (mR M v0 17) (mI M (mR M v0 21) (v1 + v2).toNatClampNeg).toNatClampNeg) (mI M (mR M v0 39) (((8 : Int32) * v4) + (mI M (mR M v0 17) (mI M (mR M v0 21) (v1 + v2).toNatClampNeg).toNatClampNeg)).toNatClampNeg) M) fun r18 M17 =>
                  if mK M17 v0 = 13 then
                    bnd (f_X12_sayNumber v0 r18 M17) fun _ M20 =>
                    some ((), M20)
                  else none
                else none
              else none
          else none
        else none
      else none
    else none
  else none
theorem s_X12_tellItem (kF : Nat → Int32 → Int32 → Int32 → Int32 → Mem → Option (Unit × Mem)) (F : Nat) (hF : ∀ (a0 : Nat) (a1 : Int32) (a2 : Int32) (a3 : Int32) (a4 : Int32) (M : Mem) (r : (Unit × Mem)), kF a0 a1 a2 a3 a4 M = some r → Sem mi_X12_tellValues F [aR a0, aI a1, aI a2, aI a3, aI a4] M (oU r.1) r.2) (v0 : Nat) (v1 : Int32) (v2 : Int32) (v3 : Int32) (v4 : Int32) (M : Mem) (r : (Unit × Mem)) (hf : f_X12_tellItem kF v0 v1 v2 v3 v4 M = some r) : Sem mi_X12_tellItem ((F + 3)) [aR v0, aI v1, aI v2, aI v3, aI v4] M (oU r.1) r.2 := by
  unfold f_X12_tellItem at hf
  refine sem_of (by decide) rfl rfl rfl (Nat.le_of_ble_eq_true rfl) (lv := [some (aR v0), some (aI v1), some (aI v2), some (aI v3), some (aI v4), none]) rfl ?_
  refine g_aload_n (pc' := 1) dX12_tellItem_0 rfl rfl ?_
  obtain ⟨h1, hf⟩ := chk_s hf
  refine g_getR (pc' := 4) 12 21 rfl rfl (by decide) inX12 (by decide) rfl rfl q_133 dX12_tellItem_1 rfl h1 ?_
  refine g_iload_n (pc' := 5) dX12_tellItem_4 rfl rfl ?_
  refine g_iload_n (pc' := 6) dX12_tellItem_5 rfl rfl ?_
  refine g_iadd (pc' := 7) dX12_tellItem_6 rfl ?_
  obtain ⟨h2, hf⟩ := chk_s hf
  obtain ⟨b3, hf⟩ := chk_s hf
  refine g_iald (pc' := 8) dX12_tellItem_7 rfl h2 (inB_in b3) ?_
  refine g_istore (pc' := 10) (lv' := [some (aR v0), some (aI v1), some (aI v2), some (aI v3), some (aI v4), some (aI (mI M (mR M v0 21) (v1 + v2).toNatClampNeg))]) dX12_tellItem_8 rfl rfl (by decide) rfl ?_
  refine g_aload_n (pc' := 11) dX12_tellItem_10 rfl rfl ?_
  refine g_getR (pc' := 14) 12 17 rfl rfl (by decide) inX12 (by decide) rfl rfl q_129 dX12_tellItem_11 rfl h1 ?_
  refine g_iload (pc' := 16) dX12_tellItem_14 rfl rfl ?_
  obtain ⟨h4, hf⟩ := chk_s hf
  obtain ⟨b5, hf⟩ := chk_s hf
  refine g_iald (pc' := 17) dX12_tellItem_16 rfl h4 (inB_in b5) ?_
  refine g_iconst (pc' := 18) (-1 : Int32) dX12_tellItem_17 rfl (by decide) ?_
  refine g_icmp_eq (pc' := 21) 55 dX12_tellItem_18 rfl (by decide) (fun c6 => ?_) (fun c6 => ?_)
  · have hf := ite_t c6 hf
    refine g_aload_n (pc' := 56) dX12_tellItem_55 rfl rfl ?_
    refine g_bipush (pc' := 58) (40 : Int32) dX12_tellItem_56 rfl (by decide) ?_
    obtain ⟨_, M7, e8, hf⟩ := bnd_some hf
    refine g_callVv (pc' := 61) (k' := 0) (u' := 0) (fr2 := 1) (As := [aI (40 : Int32)]) (b := v0) (st := []) cf_X12_say q_1178 (by omega) (ci := 12) rfl rfl (by decide) dX12_tellItem_58 rfl rfl rfl (Nat.le_of_ble_eq_true rfl) (Or.inl rfl) (Nat.le_refl _) (Nat.le_refl _) (Nat.le_refl _) (Nat.le_refl _) h1 (s_X12_say v0 (40 : Int32) M _ e8) ?_
    refine g_aload_n (pc' := 62) dX12_tellItem_61 rfl rfl ?_
    refine g_iload_n (pc' := 63) dX12_tellItem_62 rfl rfl ?_
    refine g_iload_n (pc' := 64) dX12_tellItem_63 rfl rfl ?_
    refine g_iload_n (pc' := 65) dX12_tellItem_64 rfl rfl ?_
    refine g_iload (pc' := 67) dX12_tellItem_65 rfl rfl ?_
    obtain ⟨h9, hf⟩ := chk_s hf
    obtain ⟨_, M10, e11, hf⟩ := bnd_some hf
    refine g_callVv (pc' := 70) (k' := 0) (u' := 0) (fr2 := F) (As := [aI v1, aI v2, aI v3, aI v4]) (b := v0) (st := []) cf_X12_tellValues q_1170 (by omega) (ci := 12) rfl rfl (by decide) dX12_tellItem_67 rfl rfl rfl (Nat.le_of_ble_eq_true rfl) (Or.inl rfl) (Nat.le_refl _) (Nat.le_refl _) (Nat.le_refl _) (Nat.le_refl _) h9 (hF v0 v1 v2 v3 v4 M7 _ e11) ?_
    refine g_aload_n (pc' := 71) dX12_tellItem_70 rfl rfl ?_
    refine g_bipush (pc' := 73) (41 : Int32) dX12_tellItem_71 rfl (by decide) ?_
    obtain ⟨h12, hf⟩ := chk_s hf
    obtain ⟨_, M13, e14, hf⟩ := bnd_some hf
    refine g_callVv (pc' := 76) (k' := 0) (u' := 0) (fr2 := 1) (As := [aI (41 : Int32)]) (b := v0) (st := []) cf_X12_say q_1178 (by omega) (ci := 12) rfl rfl (by decide) dX12_tellItem_73 rfl rfl rfl (Nat.le_of_ble_eq_true rfl) (Or.inl rfl) (Nat.le_refl _) (Nat.le_refl _) (Nat.le_refl _) (Nat.le_refl _) h12 (s_X12_say v0 (41 : Int32) M10 _ e14) ?_
    cases hf
    exact g_return dX12_tellItem_76 rfl (Nat.le_of_ble_eq_true rfl) (Nat.le_of_ble_eq_true rfl)
  · have hf := ite_f c6 hf
    refine g_aload_n (pc' := 22) dX12_tellItem_21 rfl rfl ?_
    refine g_aload_n (pc' := 23) dX12_tellItem_22 rfl rfl ?_
    refine g_aload_n (pc' := 24) dX12_tellItem_23 rfl rfl ?_
    refine g_getR (pc' := 27) 12 17 rfl rfl (by decide) inX12 (by decide) rfl rfl q_129 dX12_tellItem_24 rfl h1 ?_
    refine g_iload (pc' := 29) dX12_tellItem_27 rfl rfl ?_
    refine g_iald (pc' := 30) dX12_tellItem_29 rfl h4 (inB_in b5) ?_
    refine g_aload_n (pc' := 31) dX12_tellItem_30 rfl rfl ?_
    refine g_getR (pc' := 34) 12 39 rfl rfl (by decide) inX12 (by decide) rfl rfl q_145 dX12_tellItem_31 rfl h1 ?_
    refine g_bipush (pc' := 36) (8 : Int32) dX12_tellItem_34 rfl (by decide) ?_
    refine g_iload (pc' := 38) dX12_tellItem_36 rfl rfl ?_
    refine g_imul (pc' := 39) dX12_tellItem_38 rfl ?_
    refine g_aload_n (pc' := 40) dX12_tellItem_39 rfl rfl ?_
    refine g_getR (pc' := 43) 12 17 rfl rfl (by decide) inX12 (by decide) rfl rfl q_129 dX12_tellItem_40 rfl h1 ?_
    refine g_iload (pc' := 45) dX12_tellItem_43 rfl rfl ?_
    refine g_iald (pc' := 46) dX12_tellItem_45 rfl h4 (inB_in b5) ?_
    refine g_iadd (pc' := 47) dX12_tellItem_46 rfl ?_
    obtain ⟨h15, hf⟩ := chk_s hf
    obtain ⟨b16, hf⟩ := chk_s hf
    refine g_iald (pc' := 48) dX12_tellItem_47 rfl h15 (inB_in b16) ?_
    obtain ⟨r18, M17, e18, hf⟩ := bnd_some hf
    refine g_callVi (pc' := 51) (k' := 0) (u' := 0) (fr2 := 1) (As := [aI (mI M (mR M v0 17) (mI M (mR M v0 21) (v1 + v2).toNatClampNeg).toNatClampNeg), aI (mI M (mR M v0 39) (((8 : Int32) * v4) + (mI M (mR M v0 17) (mI M (mR M v0 21) (v1 + v2).toNatClampNeg).toNatClampNeg)).toNatClampNeg)]) (b := v0) (st := [aR v0]) cf_X12_valueAt q_896 (by omega) (ci := 12) rfl rfl (by decide) dX12_tellItem_48 rfl rfl rfl (Nat.le_of_ble_eq_true rfl) (Or.inl rfl) (Nat.le_refl _) (Nat.le_refl _) (Nat.le_refl _) (Nat.le_refl _) h1 (s_X12_valueAt v0 (mI M (mR M v0 17) (mI M (mR M v0 21) (v1 + v2).toNatClampNeg).toNatClampNeg) (mI M (mR M v0 39) (((8 : Int32) * v4) + (mI M (mR M v0 17) (mI M (mR M v0 21) (v1 + v2).toNatClampNeg).toNatClampNeg)).toNatClampNeg) M _ e18) ?_
    obtain ⟨h19, hf⟩ := chk_s hf
    obtain ⟨_, M20, e21, hf⟩ := bnd_some hf
    refine g_callVv (pc' := 54) (k' := 0) (u' := 0) (fr2 := 2) (As := [aI r18]) (b := v0) (st := []) cf_X12_sayNumber q_1198 (by omega) (ci := 12) rfl rfl (by decide) dX12_tellItem_51 rfl rfl rfl (Nat.le_of_ble_eq_true rfl) (Or.inl rfl) (Nat.le_refl _) (Nat.le_refl _) (Nat.le_refl _) (Nat.le_refl _) h19 (s_X12_sayNumber v0 r18 M17 _ e21) ?_
    cases hf
    exact g_return dX12_tellItem_54 rfl (Nat.le_of_ble_eq_true rfl) (Nat.le_of_ble_eq_true rfl)
set_option maxRecDepth 100000 in
set_option maxHeartbeats 4000000 in
def f_X12_tellMany_309 (kF : Nat → Int32 → Int32 → Int32 → Int32 → Mem → Option (Unit × Mem)) (k76 : Nat → Int32 → Int32 → Int32 → Int32 → Int32 → Int32 → Int32 → Int32 → Int32 → Mem → Option (Unit × Mem)) (k256 : Nat → Int32 → Int32 → Int32 → Int32 → Int32 → Int32 → Int32 → Int32 → Int32 → Int32 → Mem → Option (Unit × Mem)) (v0 : Nat) (v1 : Int32) (v2 : Int32) (v3 : Int32) (v4 : Int32) (v5 : Int32) (v6 : Int32) (v7 : Int32) (v8 : Int32) (v9 : Int32) (v10 : Int32) (M : Mem) : Option (Unit × Mem) :=
  k256 v0 v1 v2 v3 v4 v5 v6 v7 v8 v9 (v10 + 1) M
set_option maxRecDepth 100000 in
set_option maxHeartbeats 4000000 in
def f_X12_tellMany_256 (kF : Nat → Int32 → Int32 → Int32 → Int32 → Mem → Option (Unit × Mem)) (k76 : Nat → Int32 → Int32 → Int32 → Int32 → Int32 → Int32 → Int32 → Int32 → Int32 → Mem → Option (Unit × Mem)) : Nat → Nat → Int32 → Int32 → Int32 → Int32 → Int32 → Int32 → Int32 → Int32 → Int32 → Int32 → Mem → Option (Unit × Mem)
  | 0, _, _, _, _, _, _, _, _, _, _, _, _ => none
  | n + 1, v0, v1, v2, v3, v4, v5, v6, v7, v8, v9, v10, M =>
    if mK M v0 = 13 then
      if mK M (mR M v0 24) = 21 then
        if inB (0 : Int32) (mN M (mR M v0 24)) = true then
          if (mI M (mR M v0 24) (0 : Int32).toNatClampNeg) ≤ v10 then
            k76 v0 v1 v2 v3 v4 v5 v6 v7 v8 v9 M
          else
            if mK M (mR M v0 25) = 21 then
              if inB v10 (mN M (mR M v0 25)) = true then
                bnd (f_X12_isInside v0 (mI M (mR M v0 25) v10.toNatClampNeg) v5 M) fun r8 M7 =>
                if r8 = 0 then
                  f_X12_tellMany_309 kF k76 (f_X12_tellMany_256 kF k76 n) v0 v1 v2 v3 v4 v5 v6 v7 v8 v9 v10 M7
                else
                  if mK M7 v0 = 13 then
                    if mK M7 (mR M7 v0 40) = 21 then
                      if inB (((8 : Int32) * v7) + v10) (mN M7 (mR M7 v0 40)) = true then
                        if mK M7 (mR M7 v0 39) = 21 then
                          if inB (((8 : Int32) * v7) + v10) (mN M7 (mR M7 v0 39)) = true then
                            ap (sI M7 (mR M7 v0 39) (((8 : Int32) * v7) + v10).toNatClampNeg (mI M7 (mR M7 v0 40) (((8 : Int32) * v7) + v10).toNatClampNeg)) fun M15 =>
                            f_X12_tellMany_309 kF k76 (f_X12_tellMany_256 kF k76 n) v0 v1 v2 v3 v4 v5 v6 v7 v8 v9 v10 M15
                          else none
                        else none
                      else none
                    else none
                  else none
              else none
            else none
        else none
      else none
    else none
set_option maxRecDepth 100000 in
set_option maxHeartbeats 4000000 in
def f_X12_tellMany_251 (kF : Nat → Int32 → Int32 → Int32 → Int32 → Mem → Option (Unit × Mem)) (k76 : Nat → Int32 → Int32 → Int32 → Int32 → Int32 → Int32 → Int32 → Int32 → Int32 → Mem → Option (Unit × Mem)) (v0 : Nat) (v1 : Int32) (v2 : Int32) (v3 : Int32) (v4 : Int32) (v5 : Int32) (v6 : Int32) (v7 : Int32) (v9 : Int32) (w0 : Int32) (M : Mem) : Option (Unit × Mem) :=
  f_X12_tellMany_256 kF k76 FUEL v0 v1 v2 v3 v4 v5 v6 v7 w0 v9 (0 : Int32) M
set_option maxRecDepth 100000 in
set_option maxHeartbeats 4000000 in
def f_X12_tellMany_205 (kF : Nat → Int32 → Int32 → Int32 → Int32 → Mem → Option (Unit × Mem)) (k76 : Nat → Int32 → Int32 → Int32 → Int32 → Int32 → Int32 → Int32 → Int32 → Int32 → Mem → Option (Unit × Mem)) (v0 : Nat) (v1 : Int32) (v2 : Int32) (v3 : Int32) (v4 : Int32) (v5 : Int32) (v6 : Int32) (v7 : Int32) (M : Mem) : Option (Unit × Mem) :=
  if mK M v0 = 13 then
    bnd (f_X12_tellItem kF v0 v1 v2 v3 v7 M) fun _ M2 =>
    if mK M2 v0 = 13 then
      if mK M2 (mR M2 v0 40) = 21 then
        if inB (((8 : Int32) * v7) + v6) (mN M2 (mR M2 v0 40)) = true then
          if inB (((8 : Int32) * v4) + v6) (mN M2 (mR M2 v0 40)) = true then
            if (mI M2 (mR M2 v0 40) (((8 : Int32) * v4) + v6).toNatClampNeg) ≤ (mI M2 (mR M2 v0 40) (((8 : Int32) * v7) + v6).toNatClampNeg) then
              f_X12_tellMany_251 kF k76 v0 v1 v2 v3 v4 v5 v6 v7 (0 : Int32) (0 : Int32) M2
            else
              f_X12_tellMany_251 kF k76 v0 v1 v2 v3 v4 v5 v6 v7 (0 : Int32) (1 : Int32) M2
          else none
        else none
      else none
    else none
  else none
set_option maxRecDepth 100000 in
set_option maxHeartbeats 4000000 in
def f_X12_tellMany_188 (kF : Nat → Int32 → Int32 → Int32 → Int32 → Mem → Option (Unit × Mem)) (k76 : Nat → Int32 → Int32 → Int32 → Int32 → Int32 → Int32 → Int32 → Int32 → Int32 → Mem → Option (Unit × Mem)) (k84 : Nat → Int32 → Int32 → Int32 → Int32 → Int32 → Int32 → Int32 → Int32 → Int32 → Mem → Option (Unit × Mem)) (v0 : Nat) (v1 : Int32) (v2 : Int32) (v3 : Int32) (v4 : Int32) (v5 : Int32) (v6 : Int32) (v7 : Int32) (v9 : Int32) (v10 : Int32) (M : Mem) : Option (Unit × Mem) :=
  k84 v0 v1 v2 v3 v4 v5 v6 v7 v9 (v10 + 1) M
set_option maxRecDepth 100000 in
set_option maxHeartbeats 4000000 in
def f_X12_tellMany_173 (kF : Nat → Int32 → Int32 → Int32 → Int32 → Mem → Option (Unit × Mem)) (k76 : Nat → Int32 → Int32 → Int32 → Int32 → Int32 → Int32 → Int32 → Int32 → Int32 → Mem → Option (Unit × Mem)) (k84 : Nat → Int32 → Int32 → Int32 → Int32 → Int32 → Int32 → Int32 → Int32 → Int32 → Mem → Option (Unit × Mem)) (v0 : Nat) (v1 : Int32) (v2 : Int32) (v3 : Int32) (v4 : Int32) (v5 : Int32) (v6 : Int32) (v7 : Int32) (v9 : Int32) (v10 : Int32) (v11 : Int32) (M : Mem) : Option (Unit × Mem) :=
  if mK M v0 = 13 then
    if mK M (mR M v0 40) = 21 then
      if inB (((8 : Int32) * v7) + v10) (mN M (mR M v0 40)) = true then
        ap (sI M (mR M v0 40) (((8 : Int32) * v7) + v10).toNatClampNeg v11) fun M4 =>
        f_X12_tellMany_188 kF k76 k84 v0 v1 v2 v3 v4 v5 v6 v7 v9 v10 M4
      else none
    else none
  else none
set_option maxRecDepth 100000 in
set_option maxHeartbeats 4000000 in
def f_X12_tellMany_131 (kF : Nat → Int32 → Int32 → Int32 → Int32 → Mem → Option (Unit × Mem)) (k76 : Nat → Int32 → Int32 → Int32 → Int32 → Int32 → Int32 → Int32 → Int32 → Int32 → Mem → Option (Unit × Mem)) (k84 : Nat → Int32 → Int32 → Int32 → Int32 → Int32 → Int32 → Int32 → Int32 → Int32 → Mem → Option (Unit × Mem)) : Nat → Nat → Int32 → Int32 → Int32 → Int32 → Int32 → Int32 → Int32 → Int32 → Int32 → Int32 → Mem → Option (Unit × Mem)
  | 0, _, _, _, _, _, _, _, _, _, _, _, _ => none
  | n + 1, v0, v1, v2, v3, v4, v5, v6, v7, v9, v10, v11, M =>
    if mK M v0 = 13 then
      if mK M (mR M v0 40) = 21 then
        if inB (((8 : Int32) * v4) + v10) (mN M (mR M v0 40)) = true then
          if (mI M (mR M v0 40) (((8 : Int32) * v4) + v10).toNatClampNeg) ≤ v11 then
            f_X12_tellMany_173 kF k76 k84 v0 v1 v2 v3 v4 v5 v6 v7 v9 v10 v11 M
          else
            bnd (f_X12_repAt v0 v10 v11 M) fun r6 M5 =>
            if mK M5 v0 = 13 then
              if mK M5 (mR M5 v0 19) = 21 then
                if inB v5 (mN M5 (mR M5 v0 19)) = true then
                  if r6 ≤ (mI M5 (mR M5 v0 19) v5.toNatClampNeg) then
                    f_X12_tellMany_173 kF k76 k84 v0 v1 v2 v3 v4 v5 v6 v7 v9 v10 v11 M5
                  else
                    f_X12_tellMany_131 kF k76 k84 n v0 v1 v2 v3 v4 v5 v6 v7 v9 v10 (v11 + 1) M5
                else none
              else none
            else none
        else none
      else none
    else none
set_option maxRecDepth 100000 in
set_option maxHeartbeats 4000000 in
def f_X12_tellMany_84 (kF : Nat → Int32 → Int32 → Int32 → Int32 → Mem → Option (Unit × Mem)) (k76 : Nat → Int32 → Int32 → Int32 → Int32 → Int32 → Int32 → Int32 → Int32 → Int32 → Mem → Option (Unit × Mem)) : Nat → Nat → Int32 → Int32 → Int32 → Int32 → Int32 → Int32 → Int32 → Int32 → Int32 → Mem → Option (Unit × Mem)
  | 0, _, _, _, _, _, _, _, _, _, _, _ => none
  | n + 1, v0, v1, v2, v3, v4, v5, v6, v7, v9, v10, M =>
    if mK M v0 = 13 then
      if mK M (mR M v0 24) = 21 then
        if inB (0 : Int32) (mN M (mR M v0 24)) = true then
          if (mI M (mR M v0 24) (0 : Int32).toNatClampNeg) ≤ v10 then
            if v9 = 0 then
              bnd (f_X12_say v0 (32 : Int32) M) fun _ M6 =>
              f_X12_tellMany_205 kF k76 v0 v1 v2 v3 v4 v5 v6 v7 M6
            else
              f_X12_tellMany_205 kF k76 v0 v1 v2 v3 v4 v5 v6 v7 M
          else
            if mK M (mR M v0 25) = 21 then
              if inB v10 (mN M (mR M v0 25)) = true then
                bnd (f_X12_isInside v0 (mI M (mR M v0 25) v10.toNatClampNeg) v5 M) fun r11 M10 =>
                if r11 = 0 then
                  f_X12_tellMany_188 kF k76 (f_X12_tellMany_84 kF k76 n) v0 v1 v2 v3 v4 v5 v6 v7 v9 v10 M10
                else
                  if mK M10 v0 = 13 then
                    if mK M10 (mR M10 v0 39) = 21 then
                      if inB (((8 : Int32) * v7) + v10) (mN M10 (mR M10 v0 39)) = true then
                        f_X12_tellMany_131 kF k76 (f_X12_tellMany_84 kF k76 n) FUEL v0 v1 v2 v3 v4 v5 v6 v7 v9 v10 ((mI M10 (mR M10 v0 39) (((8 : Int32) * v7) + v10).toNatClampNeg) + (1 : Int32)) M10
                      else none
                    else none
                  else none
              else none
            else none
        else none
      else none
    else none
set_option maxRecDepth 100000 in
set_option maxHeartbeats 4000000 in
def f_X12_tellMany_76 (kF : Nat → Int32 → Int32 → Int32 → Int32 → Mem → Option (Unit × Mem)) : Nat → Nat → Int32 → Int32 → Int32 → Int32 → Int32 → Int32 → Int32 → Int32 → Int32 → Mem → Option (Unit × Mem)
  | 0, _, _, _, _, _, _, _, _, _, _, _ => none
  | n + 1, v0, v1, v2, v3, v4, v5, v6, v7, v8, v9, M =>
    if v8 = 0 then
      some ((), M)
    else
      f_X12_tellMany_84 kF (f_X12_tellMany_76 kF n) FUEL v0 v1 v2 v3 v4 v5 v6 v7 v9 (0 : Int32) M
set_option maxRecDepth 100000 in
set_option maxHeartbeats 4000000 in
def f_X12_tellMany_27 (kF : Nat → Int32 → Int32 → Int32 → Int32 → Mem → Option (Unit × Mem)) : Nat → Nat → Int32 → Int32 → Int32 → Int32 → Int32 → Int32 → Int32 → Int32 → Mem → Option (Unit × Mem)
  | 0, _, _, _, _, _, _, _, _, _, _ => none
  | n + 1, v0, v1, v2, v3, v4, v5, v6, v7, v8, M =>
    if mK M v0 = 13 then
      if mK M (mR M v0 24) = 21 then
        if inB (0 : Int32) (mN M (mR M v0 24)) = true then
          if (mI M (mR M v0 24) (0 : Int32).toNatClampNeg) ≤ v8 then
            f_X12_tellMany_76 kF FUEL v0 v1 v2 v3 v4 v5 v6 v7 (1 : Int32) (1 : Int32) M
          else
            if mK M (mR M v0 39) = 21 then
              if inB (((8 : Int32) * v4) + v8) (mN M (mR M v0 39)) = true then
                if inB (((8 : Int32) * v7) + v8) (mN M (mR M v0 39)) = true then
                  ap (sI M (mR M v0 39) (((8 : Int32) * v7) + v8).toNatClampNeg (mI M (mR M v0 39) (((8 : Int32) * v4) + v8).toNatClampNeg)) fun M8 =>
                  f_X12_tellMany_27 kF n v0 v1 v2 v3 v4 v5 v6 v7 (v8 + 1) M8
                else none
              else none
            else none
        else none
      else none
    else none
set_option maxRecDepth 100000 in
set_option maxHeartbeats 4000000 in
def f_X12_tellMany (kF : Nat → Int32 → Int32 → Int32 → Int32 → Mem → Option (Unit × Mem)) (v0 : Nat) (v1 : Int32) (v2 : Int32) (v3 : Int32) (v4 : Int32) (M : Mem) : Option (Unit × Mem) :=
  if mK M v0 = 13 then
    if mK M (mR M v0 21) = 21 then
      if inB (v1 + v2) (mN M (mR M v0 21)) = true then
        bnd (f_X12_firstLeafIn v0 (mI M (mR M v0 21) (v1 + v2).toNatClampNeg) M) fun r5 M4 =>
        f_X12_tellMany_27 kF FUEL v0 v1 v2 v3 v4 (mI M (mR M v0 21) (v1 + v2).toNatClampNeg) r5 (v4 + (1 : Int32)) (0 : Int32) M4
      else none
    else none
  else none
set_option maxRecDepth 100000 in
set_option maxHeartbeats 4000000 in
theorem s_X12_tellMany_309 (kF : Nat → Int32 → Int32 → Int32 → Int32 → Mem → Option (Unit × Mem)) (k76 : Nat → Int32 → Int32 → Int32 → Int32 → Int32 → Int32 → Int32 → Int32 → Int32 → Mem → Option (Unit × Mem)) (k256 : Nat → Int32 → Int32 → Int32 → Int32 → Int32 → Int32 → Int32 → Int32 → Int32 → Int32 → Mem → Option (Unit × Mem)) (F : Nat) (hF : ∀ (a0 : Nat) (a1 : Int32) (a2 : Int32) (a3 : Int32) (a4 : Int32) (M : Mem) (r : (Unit × Mem)), kF a0 a1 a2 a3 a4 M = some r → Sem mi_X12_tellValues F [aR a0, aI a1, aI a2, aI a3, aI a4] M (oU r.1) r.2) (hk76 : ∀ (v0 : Nat) (v1 : Int32) (v2 : Int32) (v3 : Int32) (v4 : Int32) (v5 : Int32) (v6 : Int32) (v7 : Int32) (v8 : Int32) (v9 : Int32) (M : Mem) (r : (Unit × Mem)), k76 v0 v1 v2 v3 v4 v5 v6 v7 v8 v9 M = some r → G mi_X12_tellMany (F + 4) (oU r.1) r.2 76 [some (aR v0), some (aI v1), some (aI v2), some (aI v3), some (aI v4), some (aI v5), some (aI v6), some (aI v7), some (aI v8), some (aI v9), none, none] [] M 0 0) (hk256 : ∀ (v0 : Nat) (v1 : Int32) (v2 : Int32) (v3 : Int32) (v4 : Int32) (v5 : Int32) (v6 : Int32) (v7 : Int32) (v8 : Int32) (v9 : Int32) (v10 : Int32) (M : Mem) (r : (Unit × Mem)), k256 v0 v1 v2 v3 v4 v5 v6 v7 v8 v9 v10 M = some r → G mi_X12_tellMany (F + 4) (oU r.1) r.2 256 [some (aR v0), some (aI v1), some (aI v2), some (aI v3), some (aI v4), some (aI v5), some (aI v6), some (aI v7), some (aI v8), some (aI v9), some (aI v10), none] [] M 0 0) (v0 : Nat) (v1 : Int32) (v2 : Int32) (v3 : Int32) (v4 : Int32) (v5 : Int32) (v6 : Int32) (v7 : Int32) (v8 : Int32) (v9 : Int32) (v10 : Int32) (M : Mem) (r : (Unit × Mem)) (hf : f_X12_tellMany_309 kF k76 k256 v0 v1 v2 v3 v4 v5 v6 v7 v8 v9 v10 M = some r) : G mi_X12_tellMany (F + 4) (oU r.1) r.2 309 [some (aR v0), some (aI v1), some (aI v2), some (aI v3), some (aI v4), some (aI v5), some (aI v6), some (aI v7), some (aI v8), some (aI v9), some (aI v10), none] [] M 0 0 := by
  unfold f_X12_tellMany_309 at hf
  refine g_iinc (pc' := 312) (lv' := [some (aR v0), some (aI v1), some (aI v2), some (aI v3), some (aI v4), some (aI v5), some (aI v6), some (aI v7), some (aI v8), some (aI v9), some (aI (v10 + 1)), none]) (v10 + 1) dX12_tellMany_309 rfl rfl (by rfl) rfl (by decide) rfl ?_
  refine g_goto (pc' := 256) dX12_tellMany_312 (by decide) ?_
  exact hk256 v0 v1 v2 v3 v4 v5 v6 v7 v8 v9 (v10 + 1) M _ hf
set_option maxRecDepth 100000 in
set_option maxHeartbeats 4000000 in
theorem s_X12_tellMany_256 (kF : Nat → Int32 → Int32 → Int32 → Int32 → Mem → Option (Unit × Mem)) (k76 : Nat → Int32 → Int32 → Int32 → Int32 → Int32 → Int32 → Int32 → Int32 → Int32 → Mem → Option (Unit × Mem)) (F : Nat) (hF : ∀ (a0 : Nat) (a1 : Int32) (a2 : Int32) (a3 : Int32) (a4 : Int32) (M : Mem) (r : (Unit × Mem)), kF a0 a1 a2 a3 a4 M = some r → Sem mi_X12_tellValues F [aR a0, aI a1, aI a2, aI a3, aI a4] M (oU r.1) r.2) (hk76 : ∀ (v0 : Nat) (v1 : Int32) (v2 : Int32) (v3 : Int32) (v4 : Int32) (v5 : Int32) (v6 : Int32) (v7 : Int32) (v8 : Int32) (v9 : Int32) (M : Mem) (r : (Unit × Mem)), k76 v0 v1 v2 v3 v4 v5 v6 v7 v8 v9 M = some r → G mi_X12_tellMany (F + 4) (oU r.1) r.2 76 [some (aR v0), some (aI v1), some (aI v2), some (aI v3), some (aI v4), some (aI v5), some (aI v6), some (aI v7), some (aI v8), some (aI v9), none, none] [] M 0 0) : ∀ (n : Nat) (v0 : Nat) (v1 : Int32) (v2 : Int32) (v3 : Int32) (v4 : Int32) (v5 : Int32) (v6 : Int32) (v7 : Int32) (v8 : Int32) (v9 : Int32) (v10 : Int32) (M : Mem) (r : (Unit × Mem)), f_X12_tellMany_256 kF k76 n v0 v1 v2 v3 v4 v5 v6 v7 v8 v9 v10 M = some r → G mi_X12_tellMany (F + 4) (oU r.1) r.2 256 [some (aR v0), some (aI v1), some (aI v2), some (aI v3), some (aI v4), some (aI v5), some (aI v6), some (aI v7), some (aI v8), some (aI v9), some (aI v10), none] [] M 0 0 := by
  intro n
  induction n with
  | zero => intro v0 v1 v2 v3 v4 v5 v6 v7 v8 v9 v10 M r hf; cases hf
  | succ n ih =>
    intro v0 v1 v2 v3 v4 v5 v6 v7 v8 v9 v10 M r hf
    unfold f_X12_tellMany_256 at hf
    refine g_iload (pc' := 258) dX12_tellMany_256 rfl rfl ?_
    refine g_aload_n (pc' := 259) dX12_tellMany_258 rfl rfl ?_
    obtain ⟨h1, hf⟩ := chk_s hf
    refine g_getR (pc' := 262) 12 24 rfl rfl (by decide) inX12 (by decide) rfl rfl q_136 dX12_tellMany_259 rfl h1 ?_
    refine g_iconst (pc' := 263) (0 : Int32) dX12_tellMany_262 rfl (by decide) ?_
    obtain ⟨h2, hf⟩ := chk_s hf
    obtain ⟨b3, hf⟩ := chk_s hf
    refine g_iald (pc' := 264) dX12_tellMany_263 rfl h2 (inB_in b3) ?_
    refine g_icmp_ge (pc' := 267) 315 dX12_tellMany_264 rfl (by decide) (fun c4 => ?_) (fun c4 => ?_)
    · have hf := ite_t c4 hf
      refine g_goto (pc' := 76) dX12_tellMany_315 (by decide) ?_
      refine g_mask [true, true, true, true, true, true, true, true, true, true, false, true] rfl ?_
      exact hk76 v0 v1 v2 v3 v4 v5 v6 v7 v8 v9 M _ hf
    · have hf := ite_f c4 hf
      refine g_aload_n (pc' := 268) dX12_tellMany_267 rfl rfl ?_
      refine g_aload_n (pc' := 269) dX12_tellMany_268 rfl rfl ?_
      refine g_getR (pc' := 272) 12 25 rfl rfl (by decide) inX12 (by decide) rfl rfl q_137 dX12_tellMany_269 rfl h1 ?_
      refine g_iload (pc' := 274) dX12_tellMany_272 rfl rfl ?_
      obtain ⟨h5, hf⟩ := chk_s hf
      obtain ⟨b6, hf⟩ := chk_s hf
      refine g_iald (pc' := 275) dX12_tellMany_274 rfl h5 (inB_in b6) ?_
      refine g_iload (pc' := 277) dX12_tellMany_275 rfl rfl ?_
      obtain ⟨r8, M7, e8, hf⟩ := bnd_some hf
      refine g_callVi (pc' := 280) (k' := 0) (u' := 0) (fr2 := 1) (As := [aI (mI M (mR M v0 25) v10.toNatClampNeg), aI v5]) (b := v0) (st := []) cf_X12_isInside q_686 (by omega) (ci := 12) rfl rfl (by decide) dX12_tellMany_277 rfl rfl rfl (Nat.le_of_ble_eq_true rfl) (Or.inl rfl) (Nat.le_refl _) (Nat.le_refl _) (Nat.le_refl _) (Nat.le_refl _) h1 (s_X12_isInside v0 (mI M (mR M v0 25) v10.toNatClampNeg) v5 M _ e8) ?_
      refine g_if_eq (pc' := 283) 309 dX12_tellMany_280 rfl (by decide) (fun c9 => ?_) (fun c9 => ?_)
      · have hf := ite_t c9 hf
        refine g_widen (k' := 0) (u' := 0) (by omega) (by omega) ?_
        exact s_X12_tellMany_309 kF k76 (f_X12_tellMany_256 kF k76 n) F hF hk76 ih v0 v1 v2 v3 v4 v5 v6 v7 v8 v9 v10 M7 _ hf
      · have hf := ite_f c9 hf
        refine g_aload_n (pc' := 284) dX12_tellMany_283 rfl rfl ?_
        obtain ⟨h10, hf⟩ := chk_s hf
        refine g_getR (pc' := 287) 12 39 rfl rfl (by decide) inX12 (by decide) rfl rfl q_145 dX12_tellMany_284 rfl h10 ?_
        refine g_bipush (pc' := 289) (8 : Int32) dX12_tellMany_287 rfl (by decide) ?_
        refine g_iload (pc' := 291) dX12_tellMany_289 rfl rfl ?_
        refine g_imul (pc' := 292) dX12_tellMany_291 rfl ?_
        refine g_iload (pc' := 294) dX12_tellMany_292 rfl rfl ?_
        refine g_iadd (pc' := 295) dX12_tellMany_294 rfl ?_
        refine g_aload_n (pc' := 296) dX12_tellMany_295 rfl rfl ?_
        refine g_getR (pc' := 299) 12 40 rfl rfl (by decide) inX12 (by decide) rfl rfl q_146 dX12_tellMany_296 rfl h10 ?_
        refine g_bipush (pc' := 301) (8 : Int32) dX12_tellMany_299 rfl (by decide) ?_
        refine g_iload (pc' := 303) dX12_tellMany_301 rfl rfl ?_
        refine g_imul (pc' := 304) dX12_tellMany_303 rfl ?_
        refine g_iload (pc' := 306) dX12_tellMany_304 rfl rfl ?_
        refine g_iadd (pc' := 307) dX12_tellMany_306 rfl ?_
        obtain ⟨h11, hf⟩ := chk_s hf
        obtain ⟨b12, hf⟩ := chk_s hf
        refine g_iald (pc' := 308) dX12_tellMany_307 rfl h11 (inB_in b12) ?_
        obtain ⟨h13, hf⟩ := chk_s hf
        obtain ⟨b14, hf⟩ := chk_s hf
        refine g_iast (pc' := 309) dX12_tellMany_308 rfl h13 (inB_in b14) (gM fun M15 hM15 => ?_)
        have hf := ap_eq hf hM15
        refine g_widen (k' := 0) (u' := 0) (by omega) (by omega) ?_
        exact s_X12_tellMany_309 kF k76 (f_X12_tellMany_256 kF k76 n) F hF hk76 ih v0 v1 v2 v3 v4 v5 v6 v7 v8 v9 v10 M15 _ hf
set_option maxRecDepth 100000 in
set_option maxHeartbeats 4000000 in
theorem s_X12_tellMany_251 (kF : Nat → Int32 → Int32 → Int32 → Int32 → Mem → Option (Unit × Mem)) (k76 : Nat → Int32 → Int32 → Int32 → Int32 → Int32 → Int32 → Int32 → Int32 → Int32 → Mem → Option (Unit × Mem)) (F : Nat) (hF : ∀ (a0 : Nat) (a1 : Int32) (a2 : Int32) (a3 : Int32) (a4 : Int32) (M : Mem) (r : (Unit × Mem)), kF a0 a1 a2 a3 a4 M = some r → Sem mi_X12_tellValues F [aR a0, aI a1, aI a2, aI a3, aI a4] M (oU r.1) r.2) (hk76 : ∀ (v0 : Nat) (v1 : Int32) (v2 : Int32) (v3 : Int32) (v4 : Int32) (v5 : Int32) (v6 : Int32) (v7 : Int32) (v8 : Int32) (v9 : Int32) (M : Mem) (r : (Unit × Mem)), k76 v0 v1 v2 v3 v4 v5 v6 v7 v8 v9 M = some r → G mi_X12_tellMany (F + 4) (oU r.1) r.2 76 [some (aR v0), some (aI v1), some (aI v2), some (aI v3), some (aI v4), some (aI v5), some (aI v6), some (aI v7), some (aI v8), some (aI v9), none, none] [] M 0 0) (v0 : Nat) (v1 : Int32) (v2 : Int32) (v3 : Int32) (v4 : Int32) (v5 : Int32) (v6 : Int32) (v7 : Int32) (v9 : Int32) (w0 : Int32) (M : Mem) (r : (Unit × Mem)) (hf : f_X12_tellMany_251 kF k76 v0 v1 v2 v3 v4 v5 v6 v7 v9 w0 M = some r) : G mi_X12_tellMany (F + 4) (oU r.1) r.2 251 [some (aR v0), some (aI v1), some (aI v2), some (aI v3), some (aI v4), some (aI v5), some (aI v6), some (aI v7), none, some (aI v9), none, none] [aI w0] M 0 0 := by
  unfold f_X12_tellMany_251 at hf
  refine g_istore (pc' := 253) (lv' := [some (aR v0), some (aI v1), some (aI v2), some (aI v3), some (aI v4), some (aI v5), some (aI v6), some (aI v7), some (aI w0), some (aI v9), none, none]) dX12_tellMany_251 rfl rfl (by decide) rfl ?_
  refine g_iconst (pc' := 254) (0 : Int32) dX12_tellMany_253 rfl (by decide) ?_
  refine g_istore (pc' := 256) (lv' := [some (aR v0), some (aI v1), some (aI v2), some (aI v3), some (aI v4), some (aI v5), some (aI v6), some (aI v7), some (aI w0), some (aI v9), some (aI (0 : Int32)), none]) dX12_tellMany_254 rfl rfl (by decide) rfl ?_
  exact s_X12_tellMany_256 kF k76 F hF hk76 FUEL v0 v1 v2 v3 v4 v5 v6 v7 w0 v9 (0 : Int32) M _ hf
set_option maxRecDepth 100000 in
set_option maxHeartbeats 4000000 in
theorem s_X12_tellMany_205 (kF : Nat → Int32 → Int32 → Int32 → Int32 → Mem → Option (Unit × Mem)) (k76 : Nat → Int32 → Int32 → Int32 → Int32 → Int32 → Int32 → Int32 → Int32 → Int32 → Mem → Option (Unit × Mem)) (F : Nat) (hF : ∀ (a0 : Nat) (a1 : Int32) (a2 : Int32) (a3 : Int32) (a4 : Int32) (M : Mem) (r : (Unit × Mem)), kF a0 a1 a2 a3 a4 M = some r → Sem mi_X12_tellValues F [aR a0, aI a1, aI a2, aI a3, aI a4] M (oU r.1) r.2) (hk76 : ∀ (v0 : Nat) (v1 : Int32) (v2 : Int32) (v3 : Int32) (v4 : Int32) (v5 : Int32) (v6 : Int32) (v7 : Int32) (v8 : Int32) (v9 : Int32) (M : Mem) (r : (Unit × Mem)), k76 v0 v1 v2 v3 v4 v5 v6 v7 v8 v9 M = some r → G mi_X12_tellMany (F + 4) (oU r.1) r.2 76 [some (aR v0), some (aI v1), some (aI v2), some (aI v3), some (aI v4), some (aI v5), some (aI v6), some (aI v7), some (aI v8), some (aI v9), none, none] [] M 0 0) (v0 : Nat) (v1 : Int32) (v2 : Int32) (v3 : Int32) (v4 : Int32) (v5 : Int32) (v6 : Int32) (v7 : Int32) (M : Mem) (r : (Unit × Mem)) (hf : f_X12_tellMany_205 kF k76 v0 v1 v2 v3 v4 v5 v6 v7 M = some r) : G mi_X12_tellMany (F + 4) (oU r.1) r.2 205 [some (aR v0), some (aI v1), some (aI v2), some (aI v3), some (aI v4), some (aI v5), some (aI v6), some (aI v7), none, none, none, none] [] M 0 0 := by
  unfold f_X12_tellMany_205 at hf
  refine g_iconst (pc' := 206) (0 : Int32) dX12_tellMany_205 rfl (by decide) ?_
  refine g_istore (pc' := 208) (lv' := [some (aR v0), some (aI v1), some (aI v2), some (aI v3), some (aI v4), some (aI v5), some (aI v6), some (aI v7), none, some (aI (0 : Int32)), none, none]) dX12_tellMany_206 rfl rfl (by decide) rfl ?_
  refine g_aload_n (pc' := 209) dX12_tellMany_208 rfl rfl ?_
  refine g_iload_n (pc' := 210) dX12_tellMany_209 rfl rfl ?_
  refine g_iload_n (pc' := 211) dX12_tellMany_210 rfl rfl ?_
  refine g_iload_n (pc' := 212) dX12_tellMany_211 rfl rfl ?_
  refine g_iload (pc' := 214) dX12_tellMany_212 rfl rfl ?_
  obtain ⟨h1, hf⟩ := chk_s hf
  obtain ⟨_, M2, e3, hf⟩ := bnd_some hf
  refine g_callVv (pc' := 217) (k' := 0) (u' := 0) (fr2 := F + 3) (As := [aI v1, aI v2, aI v3, aI v7]) (b := v0) (st := []) cf_X12_tellItem q_1194 (by omega) (ci := 12) rfl rfl (by decide) dX12_tellMany_214 rfl rfl rfl (Nat.le_of_ble_eq_true rfl) (Or.inl rfl) (Nat.le_refl _) (Nat.le_refl _) (Nat.le_refl _) (Nat.le_refl _) h1 (s_X12_tellItem kF F hF v0 v1 v2 v3 v7 M _ e3) ?_
  refine g_aload_n (pc' := 218) dX12_tellMany_217 rfl rfl ?_
  obtain ⟨h4, hf⟩ := chk_s hf
  refine g_getR (pc' := 221) 12 40 rfl rfl (by decide) inX12 (by decide) rfl rfl q_146 dX12_tellMany_218 rfl h4 ?_
  refine g_bipush (pc' := 223) (8 : Int32) dX12_tellMany_221 rfl (by decide) ?_
  refine g_iload (pc' := 225) dX12_tellMany_223 rfl rfl ?_
  refine g_imul (pc' := 226) dX12_tellMany_225 rfl ?_
  refine g_iload (pc' := 228) dX12_tellMany_226 rfl rfl ?_
  refine g_iadd (pc' := 229) dX12_tellMany_228 rfl ?_
  obtain ⟨h5, hf⟩ := chk_s hf
  obtain ⟨b6, hf⟩ := chk_s hf
  refine g_iald (pc' := 230) dX12_tellMany_229 rfl h5 (inB_in b6) ?_
  refine g_aload_n (pc' := 231) dX12_tellMany_230 rfl rfl ?_
  refine g_getR (pc' := 234) 12 40 rfl rfl (by decide) inX12 (by decide) rfl rfl q_146 dX12_tellMany_231 rfl h4 ?_
  refine g_bipush (pc' := 236) (8 : Int32) dX12_tellMany_234 rfl (by decide) ?_
  refine g_iload (pc' := 238) dX12_tellMany_236 rfl rfl ?_
  refine g_imul (pc' := 239) dX12_tellMany_238 rfl ?_
  refine g_iload (pc' := 241) dX12_tellMany_239 rfl rfl ?_
  refine g_iadd (pc' := 242) dX12_tellMany_241 rfl ?_
  obtain ⟨b7, hf⟩ := chk_s hf
  refine g_iald (pc' := 243) dX12_tellMany_242 rfl h5 (inB_in b7) ?_
  refine g_icmp_ge (pc' := 246) 250 dX12_tellMany_243 rfl (by decide) (fun c8 => ?_) (fun c8 => ?_)
  · have hf := ite_t c8 hf
    refine g_iconst (pc' := 251) (0 : Int32) dX12_tellMany_250 rfl (by decide) ?_
    refine g_widen (k' := 0) (u' := 0) (by omega) (by omega) ?_
    exact s_X12_tellMany_251 kF k76 F hF hk76 v0 v1 v2 v3 v4 v5 v6 v7 (0 : Int32) (0 : Int32) M2 _ hf
  · have hf := ite_f c8 hf
    refine g_iconst (pc' := 247) (1 : Int32) dX12_tellMany_246 rfl (by decide) ?_
    refine g_goto (pc' := 251) dX12_tellMany_247 (by decide) ?_
    refine g_widen (k' := 0) (u' := 0) (by omega) (by omega) ?_
    exact s_X12_tellMany_251 kF k76 F hF hk76 v0 v1 v2 v3 v4 v5 v6 v7 (0 : Int32) (1 : Int32) M2 _ hf
set_option maxRecDepth 100000 in
set_option maxHeartbeats 4000000 in
theorem s_X12_tellMany_188 (kF : Nat → Int32 → Int32 → Int32 → Int32 → Mem → Option (Unit × Mem)) (k76 : Nat → Int32 → Int32 → Int32 → Int32 → Int32 → Int32 → Int32 → Int32 → Int32 → Mem → Option (Unit × Mem)) (k84 : Nat → Int32 → Int32 → Int32 → Int32 → Int32 → Int32 → Int32 → Int32 → Int32 → Mem → Option (Unit × Mem)) (F : Nat) (hF : ∀ (a0 : Nat) (a1 : Int32) (a2 : Int32) (a3 : Int32) (a4 : Int32) (M : Mem) (r : (Unit × Mem)), kF a0 a1 a2 a3 a4 M = some r → Sem mi_X12_tellValues F [aR a0, aI a1, aI a2, aI a3, aI a4] M (oU r.1) r.2) (hk76 : ∀ (v0 : Nat) (v1 : Int32) (v2 : Int32) (v3 : Int32) (v4 : Int32) (v5 : Int32) (v6 : Int32) (v7 : Int32) (v8 : Int32) (v9 : Int32) (M : Mem) (r : (Unit × Mem)), k76 v0 v1 v2 v3 v4 v5 v6 v7 v8 v9 M = some r → G mi_X12_tellMany (F + 4) (oU r.1) r.2 76 [some (aR v0), some (aI v1), some (aI v2), some (aI v3), some (aI v4), some (aI v5), some (aI v6), some (aI v7), some (aI v8), some (aI v9), none, none] [] M 0 0) (hk84 : ∀ (v0 : Nat) (v1 : Int32) (v2 : Int32) (v3 : Int32) (v4 : Int32) (v5 : Int32) (v6 : Int32) (v7 : Int32) (v9 : Int32) (v10 : Int32) (M : Mem) (r : (Unit × Mem)), k84 v0 v1 v2 v3 v4 v5 v6 v7 v9 v10 M = some r → G mi_X12_tellMany (F + 4) (oU r.1) r.2 84 [some (aR v0), some (aI v1), some (aI v2), some (aI v3), some (aI v4), some (aI v5), some (aI v6), some (aI v7), none, some (aI v9), some (aI v10), none] [] M 0 0) (v0 : Nat) (v1 : Int32) (v2 : Int32) (v3 : Int32) (v4 : Int32) (v5 : Int32) (v6 : Int32) (v7 : Int32) (v9 : Int32) (v10 : Int32) (M : Mem) (r : (Unit × Mem)) (hf : f_X12_tellMany_188 kF k76 k84 v0 v1 v2 v3 v4 v5 v6 v7 v9 v10 M = some r) : G mi_X12_tellMany (F + 4) (oU r.1) r.2 188 [some (aR v0), some (aI v1), some (aI v2), some (aI v3), some (aI v4), some (aI v5), some (aI v6), some (aI v7), none, some (aI v9), some (aI v10), none] [] M 0 0 := by
  unfold f_X12_tellMany_188 at hf
  refine g_iinc (pc' := 191) (lv' := [some (aR v0), some (aI v1), some (aI v2), some (aI v3), some (aI v4), some (aI v5), some (aI v6), some (aI v7), none, some (aI v9), some (aI (v10 + 1)), none]) (v10 + 1) dX12_tellMany_188 rfl rfl (by rfl) rfl (by decide) rfl ?_
  refine g_goto (pc' := 84) dX12_tellMany_191 (by decide) ?_
  exact hk84 v0 v1 v2 v3 v4 v5 v6 v7 v9 (v10 + 1) M _ hf
set_option maxRecDepth 100000 in
set_option maxHeartbeats 4000000 in
theorem s_X12_tellMany_173 (kF : Nat → Int32 → Int32 → Int32 → Int32 → Mem → Option (Unit × Mem)) (k76 : Nat → Int32 → Int32 → Int32 → Int32 → Int32 → Int32 → Int32 → Int32 → Int32 → Mem → Option (Unit × Mem)) (k84 : Nat → Int32 → Int32 → Int32 → Int32 → Int32 → Int32 → Int32 → Int32 → Int32 → Mem → Option (Unit × Mem)) (F : Nat) (hF : ∀ (a0 : Nat) (a1 : Int32) (a2 : Int32) (a3 : Int32) (a4 : Int32) (M : Mem) (r : (Unit × Mem)), kF a0 a1 a2 a3 a4 M = some r → Sem mi_X12_tellValues F [aR a0, aI a1, aI a2, aI a3, aI a4] M (oU r.1) r.2) (hk76 : ∀ (v0 : Nat) (v1 : Int32) (v2 : Int32) (v3 : Int32) (v4 : Int32) (v5 : Int32) (v6 : Int32) (v7 : Int32) (v8 : Int32) (v9 : Int32) (M : Mem) (r : (Unit × Mem)), k76 v0 v1 v2 v3 v4 v5 v6 v7 v8 v9 M = some r → G mi_X12_tellMany (F + 4) (oU r.1) r.2 76 [some (aR v0), some (aI v1), some (aI v2), some (aI v3), some (aI v4), some (aI v5), some (aI v6), some (aI v7), some (aI v8), some (aI v9), none, none] [] M 0 0) (hk84 : ∀ (v0 : Nat) (v1 : Int32) (v2 : Int32) (v3 : Int32) (v4 : Int32) (v5 : Int32) (v6 : Int32) (v7 : Int32) (v9 : Int32) (v10 : Int32) (M : Mem) (r : (Unit × Mem)), k84 v0 v1 v2 v3 v4 v5 v6 v7 v9 v10 M = some r → G mi_X12_tellMany (F + 4) (oU r.1) r.2 84 [some (aR v0), some (aI v1), some (aI v2), some (aI v3), some (aI v4), some (aI v5), some (aI v6), some (aI v7), none, some (aI v9), some (aI v10), none] [] M 0 0) (v0 : Nat) (v1 : Int32) (v2 : Int32) (v3 : Int32) (v4 : Int32) (v5 : Int32) (v6 : Int32) (v7 : Int32) (v9 : Int32) (v10 : Int32) (v11 : Int32) (M : Mem) (r : (Unit × Mem)) (hf : f_X12_tellMany_173 kF k76 k84 v0 v1 v2 v3 v4 v5 v6 v7 v9 v10 v11 M = some r) : G mi_X12_tellMany (F + 4) (oU r.1) r.2 173 [some (aR v0), some (aI v1), some (aI v2), some (aI v3), some (aI v4), some (aI v5), some (aI v6), some (aI v7), none, some (aI v9), some (aI v10), some (aI v11)] [] M 0 0 := by
  unfold f_X12_tellMany_173 at hf
  refine g_aload_n (pc' := 174) dX12_tellMany_173 rfl rfl ?_
  obtain ⟨h1, hf⟩ := chk_s hf
  refine g_getR (pc' := 177) 12 40 rfl rfl (by decide) inX12 (by decide) rfl rfl q_146 dX12_tellMany_174 rfl h1 ?_
  refine g_bipush (pc' := 179) (8 : Int32) dX12_tellMany_177 rfl (by decide) ?_
  refine g_iload (pc' := 181) dX12_tellMany_179 rfl rfl ?_
  refine g_imul (pc' := 182) dX12_tellMany_181 rfl ?_
  refine g_iload (pc' := 184) dX12_tellMany_182 rfl rfl ?_
  refine g_iadd (pc' := 185) dX12_tellMany_184 rfl ?_
  refine g_iload (pc' := 187) dX12_tellMany_185 rfl rfl ?_
  obtain ⟨h2, hf⟩ := chk_s hf
  obtain ⟨b3, hf⟩ := chk_s hf
  refine g_iast (pc' := 188) dX12_tellMany_187 rfl h2 (inB_in b3) (gM fun M4 hM4 => ?_)
  have hf := ap_eq hf hM4
  refine g_mask [true, true, true, true, true, true, true, true, true, true, true, false] rfl ?_
  exact s_X12_tellMany_188 kF k76 k84 F hF hk76 hk84 v0 v1 v2 v3 v4 v5 v6 v7 v9 v10 M4 _ hf
set_option maxRecDepth 100000 in
set_option maxHeartbeats 4000000 in
theorem s_X12_tellMany_131 (kF : Nat → Int32 → Int32 → Int32 → Int32 → Mem → Option (Unit × Mem)) (k76 : Nat → Int32 → Int32 → Int32 → Int32 → Int32 → Int32 → Int32 → Int32 → Int32 → Mem → Option (Unit × Mem)) (k84 : Nat → Int32 → Int32 → Int32 → Int32 → Int32 → Int32 → Int32 → Int32 → Int32 → Mem → Option (Unit × Mem)) (F : Nat) (hF : ∀ (a0 : Nat) (a1 : Int32) (a2 : Int32) (a3 : Int32) (a4 : Int32) (M : Mem) (r : (Unit × Mem)), kF a0 a1 a2 a3 a4 M = some r → Sem mi_X12_tellValues F [aR a0, aI a1, aI a2, aI a3, aI a4] M (oU r.1) r.2) (hk76 : ∀ (v0 : Nat) (v1 : Int32) (v2 : Int32) (v3 : Int32) (v4 : Int32) (v5 : Int32) (v6 : Int32) (v7 : Int32) (v8 : Int32) (v9 : Int32) (M : Mem) (r : (Unit × Mem)), k76 v0 v1 v2 v3 v4 v5 v6 v7 v8 v9 M = some r → G mi_X12_tellMany (F + 4) (oU r.1) r.2 76 [some (aR v0), some (aI v1), some (aI v2), some (aI v3), some (aI v4), some (aI v5), some (aI v6), some (aI v7), some (aI v8), some (aI v9), none, none] [] M 0 0) (hk84 : ∀ (v0 : Nat) (v1 : Int32) (v2 : Int32) (v3 : Int32) (v4 : Int32) (v5 : Int32) (v6 : Int32) (v7 : Int32) (v9 : Int32) (v10 : Int32) (M : Mem) (r : (Unit × Mem)), k84 v0 v1 v2 v3 v4 v5 v6 v7 v9 v10 M = some r → G mi_X12_tellMany (F + 4) (oU r.1) r.2 84 [some (aR v0), some (aI v1), some (aI v2), some (aI v3), some (aI v4), some (aI v5), some (aI v6), some (aI v7), none, some (aI v9), some (aI v10), none] [] M 0 0) : ∀ (n : Nat) (v0 : Nat) (v1 : Int32) (v2 : Int32) (v3 : Int32) (v4 : Int32) (v5 : Int32) (v6 : Int32) (v7 : Int32) (v9 : Int32) (v10 : Int32) (v11 : Int32) (M : Mem) (r : (Unit × Mem)), f_X12_tellMany_131 kF k76 k84 n v0 v1 v2 v3 v4 v5 v6 v7 v9 v10 v11 M = some r → G mi_X12_tellMany (F + 4) (oU r.1) r.2 131 [some (aR v0), some (aI v1), some (aI v2), some (aI v3), some (aI v4), some (aI v5), some (aI v6), some (aI v7), none, some (aI v9), some (aI v10), some (aI v11)] [] M 0 0 := by
  intro n
  induction n with
  | zero => intro v0 v1 v2 v3 v4 v5 v6 v7 v9 v10 v11 M r hf; cases hf
  | succ n ih =>
    intro v0 v1 v2 v3 v4 v5 v6 v7 v9 v10 v11 M r hf
    unfold f_X12_tellMany_131 at hf
    refine g_iload (pc' := 133) dX12_tellMany_131 rfl rfl ?_
    refine g_aload_n (pc' := 134) dX12_tellMany_133 rfl rfl ?_
    obtain ⟨h1, hf⟩ := chk_s hf
    refine g_getR (pc' := 137) 12 40 rfl rfl (by decide) inX12 (by decide) rfl rfl q_146 dX12_tellMany_134 rfl h1 ?_
    refine g_bipush (pc' := 139) (8 : Int32) dX12_tellMany_137 rfl (by decide) ?_
    refine g_iload (pc' := 141) dX12_tellMany_139 rfl rfl ?_
    refine g_imul (pc' := 142) dX12_tellMany_141 rfl ?_
    refine g_iload (pc' := 144) dX12_tellMany_142 rfl rfl ?_
    refine g_iadd (pc' := 145) dX12_tellMany_144 rfl ?_
    obtain ⟨h2, hf⟩ := chk_s hf
    obtain ⟨b3, hf⟩ := chk_s hf
    refine g_iald (pc' := 146) dX12_tellMany_145 rfl h2 (inB_in b3) ?_
    refine g_icmp_ge (pc' := 149) 173 dX12_tellMany_146 rfl (by decide) (fun c4 => ?_) (fun c4 => ?_)
    · have hf := ite_t c4 hf
      exact s_X12_tellMany_173 kF k76 k84 F hF hk76 hk84 v0 v1 v2 v3 v4 v5 v6 v7 v9 v10 v11 M _ hf
    · have hf := ite_f c4 hf
      refine g_aload_n (pc' := 150) dX12_tellMany_149 rfl rfl ?_
      refine g_iload (pc' := 152) dX12_tellMany_150 rfl rfl ?_
      refine g_iload (pc' := 154) dX12_tellMany_152 rfl rfl ?_
      obtain ⟨r6, M5, e6, hf⟩ := bnd_some hf
      refine g_callVi (pc' := 157) (k' := 0) (u' := 0) (fr2 := 1) (As := [aI v10, aI v11]) (b := v0) (st := []) cf_X12_repAt q_656 (by omega) (ci := 12) rfl rfl (by decide) dX12_tellMany_154 rfl rfl rfl (Nat.le_of_ble_eq_true rfl) (Or.inl rfl) (Nat.le_refl _) (Nat.le_refl _) (Nat.le_refl _) (Nat.le_refl _) h1 (s_X12_repAt v0 v10 v11 M _ e6) ?_
      refine g_aload_n (pc' := 158) dX12_tellMany_157 rfl rfl ?_
      obtain ⟨h7, hf⟩ := chk_s hf
      refine g_getR (pc' := 161) 12 19 rfl rfl (by decide) inX12 (by decide) rfl rfl q_131 dX12_tellMany_158 rfl h7 ?_
      refine g_iload (pc' := 163) dX12_tellMany_161 rfl rfl ?_
      obtain ⟨h8, hf⟩ := chk_s hf
      obtain ⟨b9, hf⟩ := chk_s hf
      refine g_iald (pc' := 164) dX12_tellMany_163 rfl h8 (inB_in b9) ?_
      refine g_icmp_le (pc' := 167) 173 dX12_tellMany_164 rfl (by decide) (fun c10 => ?_) (fun c10 => ?_)
      · have hf := ite_t c10 hf
        refine g_widen (k' := 0) (u' := 0) (by omega) (by omega) ?_
        exact s_X12_tellMany_173 kF k76 k84 F hF hk76 hk84 v0 v1 v2 v3 v4 v5 v6 v7 v9 v10 v11 M5 _ hf
      · have hf := ite_f c10 hf
        refine g_iinc (pc' := 170) (lv' := [some (aR v0), some (aI v1), some (aI v2), some (aI v3), some (aI v4), some (aI v5), some (aI v6), some (aI v7), none, some (aI v9), some (aI v10), some (aI (v11 + 1))]) (v11 + 1) dX12_tellMany_167 rfl rfl (by rfl) rfl (by decide) rfl ?_
        refine g_goto (pc' := 131) dX12_tellMany_170 (by decide) ?_
        refine g_widen (k' := 0) (u' := 0) (by omega) (by omega) ?_
        exact ih v0 v1 v2 v3 v4 v5 v6 v7 v9 v10 (v11 + 1) M5 _ hf
set_option maxRecDepth 100000 in
set_option maxHeartbeats 4000000 in
theorem s_X12_tellMany_84 (kF : Nat → Int32 → Int32 → Int32 → Int32 → Mem → Option (Unit × Mem)) (k76 : Nat → Int32 → Int32 → Int32 → Int32 → Int32 → Int32 → Int32 → Int32 → Int32 → Mem → Option (Unit × Mem)) (F : Nat) (hF : ∀ (a0 : Nat) (a1 : Int32) (a2 : Int32) (a3 : Int32) (a4 : Int32) (M : Mem) (r : (Unit × Mem)), kF a0 a1 a2 a3 a4 M = some r → Sem mi_X12_tellValues F [aR a0, aI a1, aI a2, aI a3, aI a4] M (oU r.1) r.2) (hk76 : ∀ (v0 : Nat) (v1 : Int32) (v2 : Int32) (v3 : Int32) (v4 : Int32) (v5 : Int32) (v6 : Int32) (v7 : Int32) (v8 : Int32) (v9 : Int32) (M : Mem) (r : (Unit × Mem)), k76 v0 v1 v2 v3 v4 v5 v6 v7 v8 v9 M = some r → G mi_X12_tellMany (F + 4) (oU r.1) r.2 76 [some (aR v0), some (aI v1), some (aI v2), some (aI v3), some (aI v4), some (aI v5), some (aI v6), some (aI v7), some (aI v8), some (aI v9), none, none] [] M 0 0) : ∀ (n : Nat) (v0 : Nat) (v1 : Int32) (v2 : Int32) (v3 : Int32) (v4 : Int32) (v5 : Int32) (v6 : Int32) (v7 : Int32) (v9 : Int32) (v10 : Int32) (M : Mem) (r : (Unit × Mem)), f_X12_tellMany_84 kF k76 n v0 v1 v2 v3 v4 v5 v6 v7 v9 v10 M = some r → G mi_X12_tellMany (F + 4) (oU r.1) r.2 84 [some (aR v0), some (aI v1), some (aI v2), some (aI v3), some (aI v4), some (aI v5), some (aI v6), some (aI v7), none, some (aI v9), some (aI v10), none] [] M 0 0 := by
  intro n
  induction n with
  | zero => intro v0 v1 v2 v3 v4 v5 v6 v7 v9 v10 M r hf; cases hf
  | succ n ih =>
    intro v0 v1 v2 v3 v4 v5 v6 v7 v9 v10 M r hf
    unfold f_X12_tellMany_84 at hf
    refine g_iload (pc' := 86) dX12_tellMany_84 rfl rfl ?_
    refine g_aload_n (pc' := 87) dX12_tellMany_86 rfl rfl ?_
    obtain ⟨h1, hf⟩ := chk_s hf
    refine g_getR (pc' := 90) 12 24 rfl rfl (by decide) inX12 (by decide) rfl rfl q_136 dX12_tellMany_87 rfl h1 ?_
    refine g_iconst (pc' := 91) (0 : Int32) dX12_tellMany_90 rfl (by decide) ?_
    obtain ⟨h2, hf⟩ := chk_s hf
    obtain ⟨b3, hf⟩ := chk_s hf
    refine g_iald (pc' := 92) dX12_tellMany_91 rfl h2 (inB_in b3) ?_
    refine g_icmp_ge (pc' := 95) 194 dX12_tellMany_92 rfl (by decide) (fun c4 => ?_) (fun c4 => ?_)
    · have hf := ite_t c4 hf
      refine g_iload (pc' := 196) dX12_tellMany_194 rfl rfl ?_
      refine g_if_ne (pc' := 199) 205 dX12_tellMany_196 rfl (by decide) (fun c5 => ?_) (fun c5 => ?_)
      · have hf := ite_f c5 hf
        refine g_mask [true, true, true, true, true, true, true, true, true, false, false, true] rfl ?_
        exact s_X12_tellMany_205 kF k76 F hF hk76 v0 v1 v2 v3 v4 v5 v6 v7 M _ hf
      · have hf := ite_t c5 hf
        refine g_aload_n (pc' := 200) dX12_tellMany_199 rfl rfl ?_
        refine g_bipush (pc' := 202) (32 : Int32) dX12_tellMany_200 rfl (by decide) ?_
        obtain ⟨_, M6, e7, hf⟩ := bnd_some hf
        refine g_callVv (pc' := 205) (k' := 0) (u' := 0) (fr2 := 1) (As := [aI (32 : Int32)]) (b := v0) (st := []) cf_X12_say q_1178 (by omega) (ci := 12) rfl rfl (by decide) dX12_tellMany_202 rfl rfl rfl (Nat.le_of_ble_eq_true rfl) (Or.inl rfl) (Nat.le_refl _) (Nat.le_refl _) (Nat.le_refl _) (Nat.le_refl _) h1 (s_X12_say v0 (32 : Int32) M _ e7) ?_
        refine g_mask [true, true, true, true, true, true, true, true, true, false, false, true] rfl ?_
        refine g_widen (k' := 0) (u' := 0) (by omega) (by omega) ?_
        exact s_X12_tellMany_205 kF k76 F hF hk76 v0 v1 v2 v3 v4 v5 v6 v7 M6 _ hf
    · have hf := ite_f c4 hf
      refine g_aload_n (pc' := 96) dX12_tellMany_95 rfl rfl ?_
      refine g_aload_n (pc' := 97) dX12_tellMany_96 rfl rfl ?_
      refine g_getR (pc' := 100) 12 25 rfl rfl (by decide) inX12 (by decide) rfl rfl q_137 dX12_tellMany_97 rfl h1 ?_
      refine g_iload (pc' := 102) dX12_tellMany_100 rfl rfl ?_
      obtain ⟨h8, hf⟩ := chk_s hf
      obtain ⟨b9, hf⟩ := chk_s hf
      refine g_iald (pc' := 103) dX12_tellMany_102 rfl h8 (inB_in b9) ?_
      refine g_iload (pc' := 105) dX12_tellMany_103 rfl rfl ?_
      obtain ⟨r11, M10, e11, hf⟩ := bnd_some hf
      refine g_callVi (pc' := 108) (k' := 0) (u' := 0) (fr2 := 1) (As := [aI (mI M (mR M v0 25) v10.toNatClampNeg), aI v5]) (b := v0) (st := []) cf_X12_isInside q_686 (by omega) (ci := 12) rfl rfl (by decide) dX12_tellMany_105 rfl rfl rfl (Nat.le_of_ble_eq_true rfl) (Or.inl rfl) (Nat.le_refl _) (Nat.le_refl _) (Nat.le_refl _) (Nat.le_refl _) h1 (s_X12_isInside v0 (mI M (mR M v0 25) v10.toNatClampNeg) v5 M _ e11) ?_
      refine g_if_ne (pc' := 111) 114 dX12_tellMany_108 rfl (by decide) (fun c12 => ?_) (fun c12 => ?_)
      · have hf := ite_f c12 hf
        refine g_aload_n (pc' := 115) dX12_tellMany_114 rfl rfl ?_
        obtain ⟨h13, hf⟩ := chk_s hf
        refine g_getR (pc' := 118) 12 39 rfl rfl (by decide) inX12 (by decide) rfl rfl q_145 dX12_tellMany_115 rfl h13 ?_
        refine g_bipush (pc' := 120) (8 : Int32) dX12_tellMany_118 rfl (by decide) ?_
        refine g_iload (pc' := 122) dX12_tellMany_120 rfl rfl ?_
        refine g_imul (pc' := 123) dX12_tellMany_122 rfl ?_
        refine g_iload (pc' := 125) dX12_tellMany_123 rfl rfl ?_
        refine g_iadd (pc' := 126) dX12_tellMany_125 rfl ?_
        obtain ⟨h14, hf⟩ := chk_s hf
        obtain ⟨b15, hf⟩ := chk_s hf
        refine g_iald (pc' := 127) dX12_tellMany_126 rfl h14 (inB_in b15) ?_
        refine g_iconst (pc' := 128) (1 : Int32) dX12_tellMany_127 rfl (by decide) ?_
        refine g_iadd (pc' := 129) dX12_tellMany_128 rfl ?_
        refine g_istore (pc' := 131) (lv' := [some (aR v0), some (aI v1), some (aI v2), some (aI v3), some (aI v4), some (aI v5), some (aI v6), some (aI v7), none, some (aI v9), some (aI v10), some (aI ((mI M10 (mR M10 v0 39) (((8 : Int32) * v7) + v10).toNatClampNeg) + (1 : Int32)))]) dX12_tellMany_129 rfl rfl (by decide) rfl ?_
        refine g_widen (k' := 0) (u' := 0) (by omega) (by omega) ?_
        exact s_X12_tellMany_131 kF k76 (f_X12_tellMany_84 kF k76 n) F hF hk76 ih FUEL v0 v1 v2 v3 v4 v5 v6 v7 v9 v10 ((mI M10 (mR M10 v0 39) (((8 : Int32) * v7) + v10).toNatClampNeg) + (1 : Int32)) M10 _ hf
      · have hf := ite_t c12 hf
        refine g_goto (pc' := 188) dX12_tellMany_111 (by decide) ?_
        refine g_widen (k' := 0) (u' := 0) (by omega) (by omega) ?_
        exact s_X12_tellMany_188 kF k76 (f_X12_tellMany_84 kF k76 n) F hF hk76 ih v0 v1 v2 v3 v4 v5 v6 v7 v9 v10 M10 _ hf
set_option maxRecDepth 100000 in
set_option maxHeartbeats 4000000 in
theorem s_X12_tellMany_76 (kF : Nat → Int32 → Int32 → Int32 → Int32 → Mem → Option (Unit × Mem)) (F : Nat) (hF : ∀ (a0 : Nat) (a1 : Int32) (a2 : Int32) (a3 : Int32) (a4 : Int32) (M : Mem) (r : (Unit × Mem)), kF a0 a1 a2 a3 a4 M = some r → Sem mi_X12_tellValues F [aR a0, aI a1, aI a2, aI a3, aI a4] M (oU r.1) r.2) : ∀ (n : Nat) (v0 : Nat) (v1 : Int32) (v2 : Int32) (v3 : Int32) (v4 : Int32) (v5 : Int32) (v6 : Int32) (v7 : Int32) (v8 : Int32) (v9 : Int32) (M : Mem) (r : (Unit × Mem)), f_X12_tellMany_76 kF n v0 v1 v2 v3 v4 v5 v6 v7 v8 v9 M = some r → G mi_X12_tellMany (F + 4) (oU r.1) r.2 76 [some (aR v0), some (aI v1), some (aI v2), some (aI v3), some (aI v4), some (aI v5), some (aI v6), some (aI v7), some (aI v8), some (aI v9), none, none] [] M 0 0 := by
  intro n
  induction n with
  | zero => intro v0 v1 v2 v3 v4 v5 v6 v7 v8 v9 M r hf; cases hf
  | succ n ih =>
    intro v0 v1 v2 v3 v4 v5 v6 v7 v8 v9 M r hf
    unfold f_X12_tellMany_76 at hf
    refine g_iload (pc' := 78) dX12_tellMany_76 rfl rfl ?_
    refine g_if_eq (pc' := 81) 318 dX12_tellMany_78 rfl (by decide) (fun c1 => ?_) (fun c1 => ?_)
    · have hf := ite_t c1 hf
      cases hf
      exact g_return dX12_tellMany_318 rfl (Nat.le_of_ble_eq_true rfl) (Nat.le_of_ble_eq_true rfl)
    · have hf := ite_f c1 hf
      refine g_iconst (pc' := 82) (0 : Int32) dX12_tellMany_81 rfl (by decide) ?_
      refine g_istore (pc' := 84) (lv' := [some (aR v0), some (aI v1), some (aI v2), some (aI v3), some (aI v4), some (aI v5), some (aI v6), some (aI v7), some (aI v8), some (aI v9), some (aI (0 : Int32)), none]) dX12_tellMany_82 rfl rfl (by decide) rfl ?_
      refine g_mask [true, true, true, true, true, true, true, true, false, true, true, true] rfl ?_
      exact s_X12_tellMany_84 kF (f_X12_tellMany_76 kF n) F hF ih FUEL v0 v1 v2 v3 v4 v5 v6 v7 v9 (0 : Int32) M _ hf
set_option maxRecDepth 100000 in
set_option maxHeartbeats 4000000 in
theorem s_X12_tellMany_27 (kF : Nat → Int32 → Int32 → Int32 → Int32 → Mem → Option (Unit × Mem)) (F : Nat) (hF : ∀ (a0 : Nat) (a1 : Int32) (a2 : Int32) (a3 : Int32) (a4 : Int32) (M : Mem) (r : (Unit × Mem)), kF a0 a1 a2 a3 a4 M = some r → Sem mi_X12_tellValues F [aR a0, aI a1, aI a2, aI a3, aI a4] M (oU r.1) r.2) : ∀ (n : Nat) (v0 : Nat) (v1 : Int32) (v2 : Int32) (v3 : Int32) (v4 : Int32) (v5 : Int32) (v6 : Int32) (v7 : Int32) (v8 : Int32) (M : Mem) (r : (Unit × Mem)), f_X12_tellMany_27 kF n v0 v1 v2 v3 v4 v5 v6 v7 v8 M = some r → G mi_X12_tellMany (F + 4) (oU r.1) r.2 27 [some (aR v0), some (aI v1), some (aI v2), some (aI v3), some (aI v4), some (aI v5), some (aI v6), some (aI v7), some (aI v8), none, none, none] [] M 0 0 := by
  intro n
  induction n with
  | zero => intro v0 v1 v2 v3 v4 v5 v6 v7 v8 M r hf; cases hf
  | succ n ih =>
    intro v0 v1 v2 v3 v4 v5 v6 v7 v8 M r hf
    unfold f_X12_tellMany_27 at hf
    refine g_iload (pc' := 29) dX12_tellMany_27 rfl rfl ?_
    refine g_aload_n (pc' := 30) dX12_tellMany_29 rfl rfl ?_
    obtain ⟨h1, hf⟩ := chk_s hf
    refine g_getR (pc' := 33) 12 24 rfl rfl (by decide) inX12 (by decide) rfl rfl q_136 dX12_tellMany_30 rfl h1 ?_
    refine g_iconst (pc' := 34) (0 : Int32) dX12_tellMany_33 rfl (by decide) ?_
    obtain ⟨h2, hf⟩ := chk_s hf
    obtain ⟨b3, hf⟩ := chk_s hf
    refine g_iald (pc' := 35) dX12_tellMany_34 rfl h2 (inB_in b3) ?_
    refine g_icmp_ge (pc' := 38) 70 dX12_tellMany_35 rfl (by decide) (fun c4 => ?_) (fun c4 => ?_)
    · have hf := ite_t c4 hf
      refine g_iconst (pc' := 71) (1 : Int32) dX12_tellMany_70 rfl (by decide) ?_
      refine g_istore (pc' := 73) (lv' := [some (aR v0), some (aI v1), some (aI v2), some (aI v3), some (aI v4), some (aI v5), some (aI v6), some (aI v7), some (aI (1 : Int32)), none, none, none]) dX12_tellMany_71 rfl rfl (by decide) rfl ?_
      refine g_iconst (pc' := 74) (1 : Int32) dX12_tellMany_73 rfl (by decide) ?_
      refine g_istore (pc' := 76) (lv' := [some (aR v0), some (aI v1), some (aI v2), some (aI v3), some (aI v4), some (aI v5), some (aI v6), some (aI v7), some (aI (1 : Int32)), some (aI (1 : Int32)), none, none]) dX12_tellMany_74 rfl rfl (by decide) rfl ?_
      exact s_X12_tellMany_76 kF F hF FUEL v0 v1 v2 v3 v4 v5 v6 v7 (1 : Int32) (1 : Int32) M _ hf
    · have hf := ite_f c4 hf
      refine g_aload_n (pc' := 39) dX12_tellMany_38 rfl rfl ?_
      refine g_getR (pc' := 42) 12 39 rfl rfl (by decide) inX12 (by decide) rfl rfl q_145 dX12_tellMany_39 rfl h1 ?_
      refine g_bipush (pc' := 44) (8 : Int32) dX12_tellMany_42 rfl (by decide) ?_
      refine g_iload (pc' := 46) dX12_tellMany_44 rfl rfl ?_
      refine g_imul (pc' := 47) dX12_tellMany_46 rfl ?_
      refine g_iload (pc' := 49) dX12_tellMany_47 rfl rfl ?_
      refine g_iadd (pc' := 50) dX12_tellMany_49 rfl ?_
      refine g_aload_n (pc' := 51) dX12_tellMany_50 rfl rfl ?_
      refine g_getR (pc' := 54) 12 39 rfl rfl (by decide) inX12 (by decide) rfl rfl q_145 dX12_tellMany_51 rfl h1 ?_
      refine g_bipush (pc' := 56) (8 : Int32) dX12_tellMany_54 rfl (by decide) ?_
      refine g_iload (pc' := 58) dX12_tellMany_56 rfl rfl ?_
      refine g_imul (pc' := 59) dX12_tellMany_58 rfl ?_
      refine g_iload (pc' := 61) dX12_tellMany_59 rfl rfl ?_
      refine g_iadd (pc' := 62) dX12_tellMany_61 rfl ?_
      obtain ⟨h5, hf⟩ := chk_s hf
      obtain ⟨b6, hf⟩ := chk_s hf
      refine g_iald (pc' := 63) dX12_tellMany_62 rfl h5 (inB_in b6) ?_
      obtain ⟨b7, hf⟩ := chk_s hf
      refine g_iast (pc' := 64) dX12_tellMany_63 rfl h5 (inB_in b7) (gM fun M8 hM8 => ?_)
      have hf := ap_eq hf hM8
      refine g_iinc (pc' := 67) (lv' := [some (aR v0), some (aI v1), some (aI v2), some (aI v3), some (aI v4), some (aI v5), some (aI v6), some (aI v7), some (aI (v8 + 1)), none, none, none]) (v8 + 1) dX12_tellMany_64 rfl rfl (by rfl) rfl (by decide) rfl ?_
      refine g_goto (pc' := 27) dX12_tellMany_67 (by decide) ?_
      exact ih v0 v1 v2 v3 v4 v5 v6 v7 (v8 + 1) M8 _ hf
set_option maxRecDepth 100000 in
set_option maxHeartbeats 4000000 in
theorem s_X12_tellMany (kF : Nat → Int32 → Int32 → Int32 → Int32 → Mem → Option (Unit × Mem)) (F : Nat) (hF : ∀ (a0 : Nat) (a1 : Int32) (a2 : Int32) (a3 : Int32) (a4 : Int32) (M : Mem) (r : (Unit × Mem)), kF a0 a1 a2 a3 a4 M = some r → Sem mi_X12_tellValues F [aR a0, aI a1, aI a2, aI a3, aI a4] M (oU r.1) r.2) (v0 : Nat) (v1 : Int32) (v2 : Int32) (v3 : Int32) (v4 : Int32) (M : Mem) (r : (Unit × Mem)) (hf : f_X12_tellMany kF v0 v1 v2 v3 v4 M = some r) : Sem mi_X12_tellMany ((F + 4)) [aR v0, aI v1, aI v2, aI v3, aI v4] M (oU r.1) r.2 := by
  unfold f_X12_tellMany at hf
  refine sem_of (by decide) rfl rfl rfl (Nat.le_of_ble_eq_true rfl) (lv := [some (aR v0), some (aI v1), some (aI v2), some (aI v3), some (aI v4), none, none, none, none, none, none, none]) rfl ?_
  refine g_aload_n (pc' := 1) dX12_tellMany_0 rfl rfl ?_
  obtain ⟨h1, hf⟩ := chk_s hf
  refine g_getR (pc' := 4) 12 21 rfl rfl (by decide) inX12 (by decide) rfl rfl q_133 dX12_tellMany_1 rfl h1 ?_
  refine g_iload_n (pc' := 5) dX12_tellMany_4 rfl rfl ?_
  refine g_iload_n (pc' := 6) dX12_tellMany_5 rfl rfl ?_
  refine g_iadd (pc' := 7) dX12_tellMany_6 rfl ?_
  obtain ⟨h2, hf⟩ := chk_s hf
  obtain ⟨b3, hf⟩ := chk_s hf
  refine g_iald (pc' := 8) dX12_tellMany_7 rfl h2 (inB_in b3) ?_
  refine g_istore (pc' := 10) (lv' := [some (aR v0), some (aI v1), some (aI v2), some (aI v3), some (aI v4), some (aI (mI M (mR M v0 21) (v1 + v2).toNatClampNeg)), none, none, none, none, none, none]) dX12_tellMany_8 rfl rfl (by decide) rfl ?_
  refine g_aload_n (pc' := 11) dX12_tellMany_10 rfl rfl ?_
  refine g_iload (pc' := 13) dX12_tellMany_11 rfl rfl ?_
  obtain ⟨r5, M4, e5, hf⟩ := bnd_some hf
  refine g_callVi (pc' := 16) (k' := 0) (u' := 0) (fr2 := 2) (As := [aI (mI M (mR M v0 21) (v1 + v2).toNatClampNeg)]) (b := v0) (st := []) cf_X12_firstLeafIn q_1187 (by omega) (ci := 12) rfl rfl (by decide) dX12_tellMany_13 rfl rfl rfl (Nat.le_of_ble_eq_true rfl) (Or.inl rfl) (Nat.le_refl _) (Nat.le_refl _) (Nat.le_refl _) (Nat.le_refl _) h1 (s_X12_firstLeafIn v0 (mI M (mR M v0 21) (v1 + v2).toNatClampNeg) M _ e5) ?_
  refine g_istore (pc' := 18) (lv' := [some (aR v0), some (aI v1), some (aI v2), some (aI v3), some (aI v4), some (aI (mI M (mR M v0 21) (v1 + v2).toNatClampNeg)), some (aI r5), none, none, none, none, none]) dX12_tellMany_16 rfl rfl (by decide) rfl ?_
  refine g_iload (pc' := 20) dX12_tellMany_18 rfl rfl ?_
  refine g_iconst (pc' := 21) (1 : Int32) dX12_tellMany_20 rfl (by decide) ?_
  refine g_iadd (pc' := 22) dX12_tellMany_21 rfl ?_
  refine g_istore (pc' := 24) (lv' := [some (aR v0), some (aI v1), some (aI v2), some (aI v3), some (aI v4), some (aI (mI M (mR M v0 21) (v1 + v2).toNatClampNeg)), some (aI r5), some (aI (v4 + (1 : Int32))), none, none, none, none]) dX12_tellMany_22 rfl rfl (by decide) rfl ?_
  refine g_iconst (pc' := 25) (0 : Int32) dX12_tellMany_24 rfl (by decide) ?_
  refine g_istore (pc' := 27) (lv' := [some (aR v0), some (aI v1), some (aI v2), some (aI v3), some (aI v4), some (aI (mI M (mR M v0 21) (v1 + v2).toNatClampNeg)), some (aI r5), some (aI (v4 + (1 : Int32))), some (aI (0 : Int32)), none, none, none]) dX12_tellMany_25 rfl rfl (by decide) rfl ?_
  refine g_widen (k' := 0) (u' := 0) (by omega) (by omega) ?_
  exact s_X12_tellMany_27 kF F hF FUEL v0 v1 v2 v3 v4 (mI M (mR M v0 21) (v1 + v2).toNatClampNeg) r5 (v4 + (1 : Int32)) (0 : Int32) M4 _ hf
def f_X12_tellField_150 (kF : Nat → Int32 → Int32 → Int32 → Int32 → Mem → Option (Unit × Mem)) (v0 : Nat) (v6 : Int32) (M : Mem) : Option (Unit × Mem) :=
  if v6 = 0 then
    some ((), M)
  else
    if mK M v0 = 13 then
      bnd (f_X12_say v0 (93 : Int32) M) fun _ M3 =>
      some ((), M3)
    else none
def f_X12_tellField_122 (kF : Nat → Int32 → Int32 → Int32 → Int32 → Mem → Option (Unit × Mem)) (v0 : Nat) (v1 : Int32) (v2 : Int32) (v3 : Int32) (v4 : Int32) (v6 : Int32) (v8 : Int32) (M : Mem) : Option (Unit × Mem) :=
  if v8 = 0 then
    if v6 = 0 then
      if mK M v0 = 13 then
        bnd (f_X12_say v0 (45 : Int32) M) fun _ M4 =>
        f_X12_tellField_150 kF v0 v6 M4
      else none
    else
      f_X12_tellField_150 kF v0 v6 M
  else
    if mK M v0 = 13 then
      bnd (f_X12_tellItem kF v0 v1 v2 v3 v4 M) fun _ M7 =>
      f_X12_tellField_150 kF v0 v6 M7
    else none
def f_X12_tellField_100 (kF : Nat → Int32 → Int32 → Int32 → Int32 → Mem → Option (Unit × Mem)) (v0 : Nat) (v1 : Int32) (v2 : Int32) (v3 : Int32) (v4 : Int32) (v6 : Int32) (v8 : Int32) (M : Mem) : Option (Unit × Mem) :=
  if v8 = 0 then
    f_X12_tellField_122 kF v0 v1 v2 v3 v4 v6 v8 M
  else
    if v6 = 0 then
      f_X12_tellField_122 kF v0 v1 v2 v3 v4 v6 v8 M
    else
      if mK M v0 = 13 then
        bnd (f_X12_tellMany kF v0 v1 v2 v3 v4 M) fun _ M4 =>
        f_X12_tellField_150 kF v0 v6 M4
      else none
def f_X12_tellField_87 (kF : Nat → Int32 → Int32 → Int32 → Int32 → Mem → Option (Unit × Mem)) (v0 : Nat) (v1 : Int32) (v2 : Int32) (v3 : Int32) (v4 : Int32) (v6 : Int32) (w0 : Int32) (M : Mem) : Option (Unit × Mem) :=
  if v6 = 0 then
    f_X12_tellField_100 kF v0 v1 v2 v3 v4 v6 w0 M
  else
    if mK M v0 = 13 then
      bnd (f_X12_say v0 (91 : Int32) M) fun _ M3 =>
      f_X12_tellField_100 kF v0 v1 v2 v3 v4 v6 w0 M3
    else none
def f_X12_tellField_86 (kF : Nat → Int32 → Int32 → Int32 → Int32 → Mem → Option (Unit × Mem)) (v0 : Nat) (v1 : Int32) (v2 : Int32) (v3 : Int32) (v4 : Int32) (v6 : Int32) (M : Mem) : Option (Unit × Mem) :=
  f_X12_tellField_87 kF v0 v1 v2 v3 v4 v6 (0 : Int32) M
def f_X12_tellField_45 (kF : Nat → Int32 → Int32 → Int32 → Int32 → Mem → Option (Unit × Mem)) (v0 : Nat) (v1 : Int32) (v2 : Int32) (v3 : Int32) (v4 : Int32) (v5 : Int32) (v6 : Int32) (w0 : Int32) (M : Mem) : Option (Unit × Mem) :=
  if v5 = (-1 : Int32) then
    f_X12_tellField_86 kF v0 v1 v2 v3 v4 v6 M
  else
    if mK M v0 = 13 then
      if mK M (mR M v0 39) = 21 then
        if inB (((8 : Int32) * v4) + w0) (mN M (mR M v0 39)) = true then
          bnd (f_X12_defAt v0 w0 (mI M (mR M v0 39) (((8 : Int32) * v4) + w0).toNatClampNeg) M) fun r6 M5 =>
          if mK M5 v0 = 13 then
            if mK M5 (mR M5 v0 18) = 21 then
              if inB v5 (mN M5 (mR M5 v0 18)) = true then
                if r6 < (mI M5 (mR M5 v0 18) v5.toNatClampNeg) then
                  f_X12_tellField_86 kF v0 v1 v2 v3 v4 v6 M5
                else
                  f_X12_tellField_87 kF v0 v1 v2 v3 v4 v6 (1 : Int32) M5
              else none
            else none
          else none
        else none
      else none
    else none
def f_X12_tellField_27 (kF : Nat → Int32 → Int32 → Int32 → Int32 → Mem → Option (Unit × Mem)) (v0 : Nat) (v1 : Int32) (v2 : Int32) (v3 : Int32) (v4 : Int32) (v5 : Int32) (w0 : Int32) (M : Mem) : Option (Unit × Mem) :=
  if v5 = (-1 : Int32) then
    f_X12_tellField_45 kF v0 v1 v2 v3 v4 v5 w0 (0 : Int32) M
  else
    if mK M v0 = 13 then
      bnd (f_X12_firstLeafIn v0 v5 M) fun r4 M3 =>
      f_X12_tellField_45 kF v0 v1 v2 v3 v4 v5 w0 r4 M3
    else none
def f_X12_tellField (kF : Nat → Int32 → Int32 → Int32 → Int32 → Mem → Option (Unit × Mem)) (v0 : Nat) (v1 : Int32) (v2 : Int32) (v3 : Int32) (v4 : Int32) (M : Mem) : Option (Unit × Mem) :=
  if mK M v0 = 13 then
    if mK M (mR M v0 21) = 21 then
      if inB (v1 + v2) (mN M (mR M v0 21)) = true then
        if mK M (mR M v0 15) = 21 then
          if inB (v1 + v2) (mN M (mR M v0 15)) = true then
            if (mI M (mR M v0 15) (v1 + v2).toNatClampNeg) = (2 : Int32) then
              f_X12_tellField_27 kF v0 v1 v2 v3 v4 (mI M (mR M v0 21) (v1 + v2).toNatClampNeg) (1 : Int32) M
            else
              f_X12_tellField_27 kF v0 v1 v2 v3 v4 (mI M (mR M v0 21) (v1 + v2).toNatClampNeg) (0 : Int32) M
          else none
        else none
      else none
    else none
  else none
theorem s_X12_tellField_150 (kF : Nat → Int32 → Int32 → Int32 → Int32 → Mem → Option (Unit × Mem)) (F : Nat) (hF : ∀ (a0 : Nat) (a1 : Int32) (a2 : Int32) (a3 : Int32) (a4 : Int32) (M : Mem) (r : (Unit × Mem)), kF a0 a1 a2 a3 a4 M = some r → Sem mi_X12_tellValues F [aR a0, aI a1, aI a2, aI a3, aI a4] M (oU r.1) r.2) (v0 : Nat) (v6 : Int32) (M : Mem) (r : (Unit × Mem)) (hf : f_X12_tellField_150 kF v0 v6 M = some r) : G mi_X12_tellField (F + 5) (oU r.1) r.2 150 [some (aR v0), none, none, none, none, none, some (aI v6), none, none] [] M 0 0 := by
  unfold f_X12_tellField_150 at hf
  refine g_iload (pc' := 152) dX12_tellField_150 rfl rfl ?_
  refine g_if_eq (pc' := 155) 161 dX12_tellField_152 rfl (by decide) (fun c1 => ?_) (fun c1 => ?_)
  · have hf := ite_t c1 hf
    cases hf
    exact g_return dX12_tellField_161 rfl (Nat.le_of_ble_eq_true rfl) (Nat.le_of_ble_eq_true rfl)
  · have hf := ite_f c1 hf
    refine g_aload_n (pc' := 156) dX12_tellField_155 rfl rfl ?_
    refine g_bipush (pc' := 158) (93 : Int32) dX12_tellField_156 rfl (by decide) ?_
    obtain ⟨h2, hf⟩ := chk_s hf
    obtain ⟨_, M3, e4, hf⟩ := bnd_some hf
    refine g_callVv (pc' := 161) (k' := 0) (u' := 0) (fr2 := 1) (As := [aI (93 : Int32)]) (b := v0) (st := []) cf_X12_say q_1178 (by omega) (ci := 12) rfl rfl (by decide) dX12_tellField_158 rfl rfl rfl (Nat.le_of_ble_eq_true rfl) (Or.inl rfl) (Nat.le_refl _) (Nat.le_refl _) (Nat.le_refl _) (Nat.le_refl _) h2 (s_X12_say v0 (93 : Int32) M _ e4) ?_
    cases hf
    exact g_return dX12_tellField_161 rfl (Nat.le_of_ble_eq_true rfl) (Nat.le_of_ble_eq_true rfl)
theorem s_X12_tellField_122 (kF : Nat → Int32 → Int32 → Int32 → Int32 → Mem → Option (Unit × Mem)) (F : Nat) (hF : ∀ (a0 : Nat) (a1 : Int32) (a2 : Int32) (a3 : Int32) (a4 : Int32) (M : Mem) (r : (Unit × Mem)), kF a0 a1 a2 a3 a4 M = some r → Sem mi_X12_tellValues F [aR a0, aI a1, aI a2, aI a3, aI a4] M (oU r.1) r.2) (v0 : Nat) (v1 : Int32) (v2 : Int32) (v3 : Int32) (v4 : Int32) (v6 : Int32) (v8 : Int32) (M : Mem) (r : (Unit × Mem)) (hf : f_X12_tellField_122 kF v0 v1 v2 v3 v4 v6 v8 M = some r) : G mi_X12_tellField (F + 5) (oU r.1) r.2 122 [some (aR v0), some (aI v1), some (aI v2), some (aI v3), some (aI v4), none, some (aI v6), none, some (aI v8)] [] M 0 0 := by
  unfold f_X12_tellField_122 at hf
  refine g_iload (pc' := 124) dX12_tellField_122 rfl rfl ?_
  refine g_if_eq (pc' := 127) 139 dX12_tellField_124 rfl (by decide) (fun c1 => ?_) (fun c1 => ?_)
  · have hf := ite_t c1 hf
    refine g_iload (pc' := 141) dX12_tellField_139 rfl rfl ?_
    refine g_if_ne (pc' := 144) 150 dX12_tellField_141 rfl (by decide) (fun c2 => ?_) (fun c2 => ?_)
    · have hf := ite_f c2 hf
      refine g_mask [true, false, false, false, false, true, true, true, false] rfl ?_
      exact s_X12_tellField_150 kF F hF v0 v6 M _ hf
    · have hf := ite_t c2 hf
      refine g_aload_n (pc' := 145) dX12_tellField_144 rfl rfl ?_
      refine g_bipush (pc' := 147) (45 : Int32) dX12_tellField_145 rfl (by decide) ?_
      obtain ⟨h3, hf⟩ := chk_s hf
      obtain ⟨_, M4, e5, hf⟩ := bnd_some hf
      refine g_callVv (pc' := 150) (k' := 0) (u' := 0) (fr2 := 1) (As := [aI (45 : Int32)]) (b := v0) (st := []) cf_X12_say q_1178 (by omega) (ci := 12) rfl rfl (by decide) dX12_tellField_147 rfl rfl rfl (Nat.le_of_ble_eq_true rfl) (Or.inl rfl) (Nat.le_refl _) (Nat.le_refl _) (Nat.le_refl _) (Nat.le_refl _) h3 (s_X12_say v0 (45 : Int32) M _ e5) ?_
      refine g_mask [true, false, false, false, false, true, true, true, false] rfl ?_
      refine g_widen (k' := 0) (u' := 0) (by omega) (by omega) ?_
      exact s_X12_tellField_150 kF F hF v0 v6 M4 _ hf
  · have hf := ite_f c1 hf
    refine g_aload_n (pc' := 128) dX12_tellField_127 rfl rfl ?_
    refine g_iload_n (pc' := 129) dX12_tellField_128 rfl rfl ?_
    refine g_iload_n (pc' := 130) dX12_tellField_129 rfl rfl ?_
    refine g_iload_n (pc' := 131) dX12_tellField_130 rfl rfl ?_
    refine g_iload (pc' := 133) dX12_tellField_131 rfl rfl ?_
    obtain ⟨h6, hf⟩ := chk_s hf
    obtain ⟨_, M7, e8, hf⟩ := bnd_some hf
    refine g_callVv (pc' := 136) (k' := 0) (u' := 0) (fr2 := F + 3) (As := [aI v1, aI v2, aI v3, aI v4]) (b := v0) (st := []) cf_X12_tellItem q_1194 (by omega) (ci := 12) rfl rfl (by decide) dX12_tellField_133 rfl rfl rfl (Nat.le_of_ble_eq_true rfl) (Or.inl rfl) (Nat.le_refl _) (Nat.le_refl _) (Nat.le_refl _) (Nat.le_refl _) h6 (s_X12_tellItem kF F hF v0 v1 v2 v3 v4 M _ e8) ?_
    refine g_goto (pc' := 150) dX12_tellField_136 (by decide) ?_
    refine g_mask [true, false, false, false, false, true, true, true, false] rfl ?_
    refine g_widen (k' := 0) (u' := 0) (by omega) (by omega) ?_
    exact s_X12_tellField_150 kF F hF v0 v6 M7 _ hf
theorem s_X12_tellField_100 (kF : Nat → Int32 → Int32 → Int32 → Int32 → Mem → Option (Unit × Mem)) (F : Nat) (hF : ∀ (a0 : Nat) (a1 : Int32) (a2 : Int32) (a3 : Int32) (a4 : Int32) (M : Mem) (r : (Unit × Mem)), kF a0 a1 a2 a3 a4 M = some r → Sem mi_X12_tellValues F [aR a0, aI a1, aI a2, aI a3, aI a4] M (oU r.1) r.2) (v0 : Nat) (v1 : Int32) (v2 : Int32) (v3 : Int32) (v4 : Int32) (v6 : Int32) (v8 : Int32) (M : Mem) (r : (Unit × Mem)) (hf : f_X12_tellField_100 kF v0 v1 v2 v3 v4 v6 v8 M = some r) : G mi_X12_tellField (F + 5) (oU r.1) r.2 100 [some (aR v0), some (aI v1), some (aI v2), some (aI v3), some (aI v4), none, some (aI v6), none, some (aI v8)] [] M 0 0 := by
  unfold f_X12_tellField_100 at hf
  refine g_iload (pc' := 102) dX12_tellField_100 rfl rfl ?_
  refine g_if_eq (pc' := 105) 122 dX12_tellField_102 rfl (by decide) (fun c1 => ?_) (fun c1 => ?_)
  · have hf := ite_t c1 hf
    exact s_X12_tellField_122 kF F hF v0 v1 v2 v3 v4 v6 v8 M _ hf
  · have hf := ite_f c1 hf
    refine g_iload (pc' := 107) dX12_tellField_105 rfl rfl ?_
    refine g_if_eq (pc' := 110) 122 dX12_tellField_107 rfl (by decide) (fun c2 => ?_) (fun c2 => ?_)
    · have hf := ite_t c2 hf
      exact s_X12_tellField_122 kF F hF v0 v1 v2 v3 v4 v6 v8 M _ hf
    · have hf := ite_f c2 hf
      refine g_aload_n (pc' := 111) dX12_tellField_110 rfl rfl ?_
      refine g_iload_n (pc' := 112) dX12_tellField_111 rfl rfl ?_
      refine g_iload_n (pc' := 113) dX12_tellField_112 rfl rfl ?_
      refine g_iload_n (pc' := 114) dX12_tellField_113 rfl rfl ?_
      refine g_iload (pc' := 116) dX12_tellField_114 rfl rfl ?_
      obtain ⟨h3, hf⟩ := chk_s hf
      obtain ⟨_, M4, e5, hf⟩ := bnd_some hf
      refine g_callVv (pc' := 119) (k' := 0) (u' := 0) (fr2 := F + 4) (As := [aI v1, aI v2, aI v3, aI v4]) (b := v0) (st := []) cf_X12_tellMany q_1191 (by omega) (ci := 12) rfl rfl (by decide) dX12_tellField_116 rfl rfl rfl (Nat.le_of_ble_eq_true rfl) (Or.inl rfl) (Nat.le_refl _) (Nat.le_refl _) (Nat.le_refl _) (Nat.le_refl _) h3 (s_X12_tellMany kF F hF v0 v1 v2 v3 v4 M _ e5) ?_
      refine g_goto (pc' := 150) dX12_tellField_119 (by decide) ?_
      refine g_mask [true, false, false, false, false, true, true, true, false] rfl ?_
      refine g_widen (k' := 0) (u' := 0) (by omega) (by omega) ?_
      exact s_X12_tellField_150 kF F hF v0 v6 M4 _ hf
theorem s_X12_tellField_87 (kF : Nat → Int32 → Int32 → Int32 → Int32 → Mem → Option (Unit × Mem)) (F : Nat) (hF : ∀ (a0 : Nat) (a1 : Int32) (a2 : Int32) (a3 : Int32) (a4 : Int32) (M : Mem) (r : (Unit × Mem)), kF a0 a1 a2 a3 a4 M = some r → Sem mi_X12_tellValues F [aR a0, aI a1, aI a2, aI a3, aI a4] M (oU r.1) r.2) (v0 : Nat) (v1 : Int32) (v2 : Int32) (v3 : Int32) (v4 : Int32) (v6 : Int32) (w0 : Int32) (M : Mem) (r : (Unit × Mem)) (hf : f_X12_tellField_87 kF v0 v1 v2 v3 v4 v6 w0 M = some r) : G mi_X12_tellField (F + 5) (oU r.1) r.2 87 [some (aR v0), some (aI v1), some (aI v2), some (aI v3), some (aI v4), none, some (aI v6), none, none] [aI w0] M 0 0 := by
  unfold f_X12_tellField_87 at hf
  refine g_istore (pc' := 89) (lv' := [some (aR v0), some (aI v1), some (aI v2), some (aI v3), some (aI v4), none, some (aI v6), none, some (aI w0)]) dX12_tellField_87 rfl rfl (by decide) rfl ?_
  refine g_iload (pc' := 91) dX12_tellField_89 rfl rfl ?_
  refine g_if_eq (pc' := 94) 100 dX12_tellField_91 rfl (by decide) (fun c1 => ?_) (fun c1 => ?_)
  · have hf := ite_t c1 hf
    exact s_X12_tellField_100 kF F hF v0 v1 v2 v3 v4 v6 w0 M _ hf
  · have hf := ite_f c1 hf
    refine g_aload_n (pc' := 95) dX12_tellField_94 rfl rfl ?_
    refine g_bipush (pc' := 97) (91 : Int32) dX12_tellField_95 rfl (by decide) ?_
    obtain ⟨h2, hf⟩ := chk_s hf
    obtain ⟨_, M3, e4, hf⟩ := bnd_some hf
    refine g_callVv (pc' := 100) (k' := 0) (u' := 0) (fr2 := 1) (As := [aI (91 : Int32)]) (b := v0) (st := []) cf_X12_say q_1178 (by omega) (ci := 12) rfl rfl (by decide) dX12_tellField_97 rfl rfl rfl (Nat.le_of_ble_eq_true rfl) (Or.inl rfl) (Nat.le_refl _) (Nat.le_refl _) (Nat.le_refl _) (Nat.le_refl _) h2 (s_X12_say v0 (91 : Int32) M _ e4) ?_
    refine g_widen (k' := 0) (u' := 0) (by omega) (by omega) ?_
    exact s_X12_tellField_100 kF F hF v0 v1 v2 v3 v4 v6 w0 M3 _ hf
theorem s_X12_tellField_86 (kF : Nat → Int32 → Int32 → Int32 → Int32 → Mem → Option (Unit × Mem)) (F : Nat) (hF : ∀ (a0 : Nat) (a1 : Int32) (a2 : Int32) (a3 : Int32) (a4 : Int32) (M : Mem) (r : (Unit × Mem)), kF a0 a1 a2 a3 a4 M = some r → Sem mi_X12_tellValues F [aR a0, aI a1, aI a2, aI a3, aI a4] M (oU r.1) r.2) (v0 : Nat) (v1 : Int32) (v2 : Int32) (v3 : Int32) (v4 : Int32) (v6 : Int32) (M : Mem) (r : (Unit × Mem)) (hf : f_X12_tellField_86 kF v0 v1 v2 v3 v4 v6 M = some r) : G mi_X12_tellField (F + 5) (oU r.1) r.2 86 [some (aR v0), some (aI v1), some (aI v2), some (aI v3), some (aI v4), none, some (aI v6), none, none] [] M 0 0 := by
  unfold f_X12_tellField_86 at hf
  refine g_iconst (pc' := 87) (0 : Int32) dX12_tellField_86 rfl (by decide) ?_
  exact s_X12_tellField_87 kF F hF v0 v1 v2 v3 v4 v6 (0 : Int32) M _ hf
theorem s_X12_tellField_45 (kF : Nat → Int32 → Int32 → Int32 → Int32 → Mem → Option (Unit × Mem)) (F : Nat) (hF : ∀ (a0 : Nat) (a1 : Int32) (a2 : Int32) (a3 : Int32) (a4 : Int32) (M : Mem) (r : (Unit × Mem)), kF a0 a1 a2 a3 a4 M = some r → Sem mi_X12_tellValues F [aR a0, aI a1, aI a2, aI a3, aI a4] M (oU r.1) r.2) (v0 : Nat) (v1 : Int32) (v2 : Int32) (v3 : Int32) (v4 : Int32) (v5 : Int32) (v6 : Int32) (w0 : Int32) (M : Mem) (r : (Unit × Mem)) (hf : f_X12_tellField_45 kF v0 v1 v2 v3 v4 v5 v6 w0 M = some r) : G mi_X12_tellField (F + 5) (oU r.1) r.2 45 [some (aR v0), some (aI v1), some (aI v2), some (aI v3), some (aI v4), some (aI v5), some (aI v6), none, none] [aI w0] M 0 0 := by
  unfold f_X12_tellField_45 at hf
  refine g_istore (pc' := 47) (lv' := [some (aR v0), some (aI v1), some (aI v2), some (aI v3), some (aI v4), some (aI v5), some (aI v6), some (aI w0), none]) dX12_tellField_45 rfl rfl (by decide) rfl ?_
  refine g_iload (pc' := 49) dX12_tellField_47 rfl rfl ?_
  refine g_iconst (pc' := 50) (-1 : Int32) dX12_tellField_49 rfl (by decide) ?_
  refine g_icmp_eq (pc' := 53) 86 dX12_tellField_50 rfl (by decide) (fun c1 => ?_) (fun c1 => ?_)
  · have hf := ite_t c1 hf
    refine g_mask [true, true, true, true, true, false, true, false, true] rfl ?_
    exact s_X12_tellField_86 kF F hF v0 v1 v2 v3 v4 v6 M _ hf
  · have hf := ite_f c1 hf
    refine g_aload_n (pc' := 54) dX12_tellField_53 rfl rfl ?_
    refine g_iload (pc' := 56) dX12_tellField_54 rfl rfl ?_
    refine g_aload_n (pc' := 57) dX12_tellField_56 rfl rfl ?_
    obtain ⟨h2, hf⟩ := chk_s hf
    refine g_getR (pc' := 60) 12 39 rfl rfl (by decide) inX12 (by decide) rfl rfl q_145 dX12_tellField_57 rfl h2 ?_
    refine g_bipush (pc' := 62) (8 : Int32) dX12_tellField_60 rfl (by decide) ?_
    refine g_iload (pc' := 64) dX12_tellField_62 rfl rfl ?_
    refine g_imul (pc' := 65) dX12_tellField_64 rfl ?_
    refine g_iload (pc' := 67) dX12_tellField_65 rfl rfl ?_
    refine g_iadd (pc' := 68) dX12_tellField_67 rfl ?_
    obtain ⟨h3, hf⟩ := chk_s hf
    obtain ⟨b4, hf⟩ := chk_s hf
    refine g_iald (pc' := 69) dX12_tellField_68 rfl h3 (inB_in b4) ?_
    obtain ⟨r6, M5, e6, hf⟩ := bnd_some hf
    refine g_callVi (pc' := 72) (k' := 0) (u' := 0) (fr2 := 1) (As := [aI w0, aI (mI M (mR M v0 39) (((8 : Int32) * v4) + w0).toNatClampNeg)]) (b := v0) (st := []) cf_X12_defAt q_660 (by omega) (ci := 12) rfl rfl (by decide) dX12_tellField_69 rfl rfl rfl (Nat.le_of_ble_eq_true rfl) (Or.inl rfl) (Nat.le_refl _) (Nat.le_refl _) (Nat.le_refl _) (Nat.le_refl _) h2 (s_X12_defAt v0 w0 (mI M (mR M v0 39) (((8 : Int32) * v4) + w0).toNatClampNeg) M _ e6) ?_
    refine g_aload_n (pc' := 73) dX12_tellField_72 rfl rfl ?_
    obtain ⟨h7, hf⟩ := chk_s hf
    refine g_getR (pc' := 76) 12 18 rfl rfl (by decide) inX12 (by decide) rfl rfl q_130 dX12_tellField_73 rfl h7 ?_
    refine g_iload (pc' := 78) dX12_tellField_76 rfl rfl ?_
    obtain ⟨h8, hf⟩ := chk_s hf
    obtain ⟨b9, hf⟩ := chk_s hf
    refine g_iald (pc' := 79) dX12_tellField_78 rfl h8 (inB_in b9) ?_
    refine g_icmp_lt (pc' := 82) 86 dX12_tellField_79 rfl (by decide) (fun c10 => ?_) (fun c10 => ?_)
    · have hf := ite_t c10 hf
      refine g_mask [true, true, true, true, true, false, true, false, true] rfl ?_
      refine g_widen (k' := 0) (u' := 0) (by omega) (by omega) ?_
      exact s_X12_tellField_86 kF F hF v0 v1 v2 v3 v4 v6 M5 _ hf
    · have hf := ite_f c10 hf
      refine g_iconst (pc' := 83) (1 : Int32) dX12_tellField_82 rfl (by decide) ?_
      refine g_goto (pc' := 87) dX12_tellField_83 (by decide) ?_
      refine g_mask [true, true, true, true, true, false, true, false, true] rfl ?_
      refine g_widen (k' := 0) (u' := 0) (by omega) (by omega) ?_
      exact s_X12_tellField_87 kF F hF v0 v1 v2 v3 v4 v6 (1 : Int32) M5 _ hf
theorem s_X12_tellField_27 (kF : Nat → Int32 → Int32 → Int32 → Int32 → Mem → Option (Unit × Mem)) (F : Nat) (hF : ∀ (a0 : Nat) (a1 : Int32) (a2 : Int32) (a3 : Int32) (a4 : Int32) (M : Mem) (r : (Unit × Mem)), kF a0 a1 a2 a3 a4 M = some r → Sem mi_X12_tellValues F [aR a0, aI a1, aI a2, aI a3, aI a4] M (oU r.1) r.2) (v0 : Nat) (v1 : Int32) (v2 : Int32) (v3 : Int32) (v4 : Int32) (v5 : Int32) (w0 : Int32) (M : Mem) (r : (Unit × Mem)) (hf : f_X12_tellField_27 kF v0 v1 v2 v3 v4 v5 w0 M = some r) : G mi_X12_tellField (F + 5) (oU r.1) r.2 27 [some (aR v0), some (aI v1), some (aI v2), some (aI v3), some (aI v4), some (aI v5), none, none, none] [aI w0] M 0 0 := by
  unfold f_X12_tellField_27 at hf
  refine g_istore (pc' := 29) (lv' := [some (aR v0), some (aI v1), some (aI v2), some (aI v3), some (aI v4), some (aI v5), some (aI w0), none, none]) dX12_tellField_27 rfl rfl (by decide) rfl ?_
  refine g_iload (pc' := 31) dX12_tellField_29 rfl rfl ?_
  refine g_iconst (pc' := 32) (-1 : Int32) dX12_tellField_31 rfl (by decide) ?_
  refine g_icmp_ne (pc' := 35) 39 dX12_tellField_32 rfl (by decide) (fun c1 => ?_) (fun c1 => ?_)
  · have hf := ite_f c1 hf
    refine g_aload_n (pc' := 40) dX12_tellField_39 rfl rfl ?_
    refine g_iload (pc' := 42) dX12_tellField_40 rfl rfl ?_
    obtain ⟨h2, hf⟩ := chk_s hf
    obtain ⟨r4, M3, e4, hf⟩ := bnd_some hf
    refine g_callVi (pc' := 45) (k' := 0) (u' := 0) (fr2 := 2) (As := [aI v5]) (b := v0) (st := []) cf_X12_firstLeafIn q_1187 (by omega) (ci := 12) rfl rfl (by decide) dX12_tellField_42 rfl rfl rfl (Nat.le_of_ble_eq_true rfl) (Or.inl rfl) (Nat.le_refl _) (Nat.le_refl _) (Nat.le_refl _) (Nat.le_refl _) h2 (s_X12_firstLeafIn v0 v5 M _ e4) ?_
    refine g_widen (k' := 0) (u' := 0) (by omega) (by omega) ?_
    exact s_X12_tellField_45 kF F hF v0 v1 v2 v3 v4 v5 w0 r4 M3 _ hf
  · have hf := ite_t c1 hf
    refine g_iconst (pc' := 36) (0 : Int32) dX12_tellField_35 rfl (by decide) ?_
    refine g_goto (pc' := 45) dX12_tellField_36 (by decide) ?_
    exact s_X12_tellField_45 kF F hF v0 v1 v2 v3 v4 v5 w0 (0 : Int32) M _ hf
theorem s_X12_tellField (kF : Nat → Int32 → Int32 → Int32 → Int32 → Mem → Option (Unit × Mem)) (F : Nat) (hF : ∀ (a0 : Nat) (a1 : Int32) (a2 : Int32) (a3 : Int32) (a4 : Int32) (M : Mem) (r : (Unit × Mem)), kF a0 a1 a2 a3 a4 M = some r → Sem mi_X12_tellValues F [aR a0, aI a1, aI a2, aI a3, aI a4] M (oU r.1) r.2) (v0 : Nat) (v1 : Int32) (v2 : Int32) (v3 : Int32) (v4 : Int32) (M : Mem) (r : (Unit × Mem)) (hf : f_X12_tellField kF v0 v1 v2 v3 v4 M = some r) : Sem mi_X12_tellField ((F + 5)) [aR v0, aI v1, aI v2, aI v3, aI v4] M (oU r.1) r.2 := by
  unfold f_X12_tellField at hf
  refine sem_of (by decide) rfl rfl rfl (Nat.le_of_ble_eq_true rfl) (lv := [some (aR v0), some (aI v1), some (aI v2), some (aI v3), some (aI v4), none, none, none, none]) rfl ?_
  refine g_aload_n (pc' := 1) dX12_tellField_0 rfl rfl ?_
  obtain ⟨h1, hf⟩ := chk_s hf
  refine g_getR (pc' := 4) 12 21 rfl rfl (by decide) inX12 (by decide) rfl rfl q_133 dX12_tellField_1 rfl h1 ?_
  refine g_iload_n (pc' := 5) dX12_tellField_4 rfl rfl ?_
  refine g_iload_n (pc' := 6) dX12_tellField_5 rfl rfl ?_
  refine g_iadd (pc' := 7) dX12_tellField_6 rfl ?_
  obtain ⟨h2, hf⟩ := chk_s hf
  obtain ⟨b3, hf⟩ := chk_s hf
  refine g_iald (pc' := 8) dX12_tellField_7 rfl h2 (inB_in b3) ?_
  refine g_istore (pc' := 10) (lv' := [some (aR v0), some (aI v1), some (aI v2), some (aI v3), some (aI v4), some (aI (mI M (mR M v0 21) (v1 + v2).toNatClampNeg)), none, none, none]) dX12_tellField_8 rfl rfl (by decide) rfl ?_
  refine g_aload_n (pc' := 11) dX12_tellField_10 rfl rfl ?_
  refine g_getR (pc' := 14) 12 15 rfl rfl (by decide) inX12 (by decide) rfl rfl q_127 dX12_tellField_11 rfl h1 ?_
  refine g_iload_n (pc' := 15) dX12_tellField_14 rfl rfl ?_
  refine g_iload_n (pc' := 16) dX12_tellField_15 rfl rfl ?_
  refine g_iadd (pc' := 17) dX12_tellField_16 rfl ?_
  obtain ⟨h4, hf⟩ := chk_s hf
  obtain ⟨b5, hf⟩ := chk_s hf
  refine g_iald (pc' := 18) dX12_tellField_17 rfl h4 (inB_in b5) ?_
  refine g_iconst (pc' := 19) (2 : Int32) dX12_tellField_18 rfl (by decide) ?_
  refine g_icmp_ne (pc' := 22) 26 dX12_tellField_19 rfl (by decide) (fun c6 => ?_) (fun c6 => ?_)
  · have hf := ite_f c6 hf
    refine g_iconst (pc' := 27) (0 : Int32) dX12_tellField_26 rfl (by decide) ?_
    exact s_X12_tellField_27 kF F hF v0 v1 v2 v3 v4 (mI M (mR M v0 21) (v1 + v2).toNatClampNeg) (0 : Int32) M _ hf
  · have hf := ite_t c6 hf
    refine g_iconst (pc' := 23) (1 : Int32) dX12_tellField_22 rfl (by decide) ?_
    refine g_goto (pc' := 27) dX12_tellField_23 (by decide) ?_
    exact s_X12_tellField_27 kF F hF v0 v1 v2 v3 v4 (mI M (mR M v0 21) (v1 + v2).toNatClampNeg) (1 : Int32) M _ hf
def f_X12_tellValues_85 (kF : Nat → Int32 → Int32 → Int32 → Int32 → Mem → Option (Unit × Mem)) (k27 : Nat → Int32 → Int32 → Int32 → Int32 → Int32 → Int32 → Int32 → Mem → Option (Unit × Mem)) (v0 : Nat) (v1 : Int32) (v2 : Int32) (v3 : Int32) (v4 : Int32) (v5 : Int32) (v6 : Int32) (v7 : Int32) (M : Mem) : Option (Unit × Mem) :=
  k27 v0 v1 v2 v3 v4 v5 v6 (v7 + 1) M
def f_X12_tellValues_72 (kF : Nat → Int32 → Int32 → Int32 → Int32 → Mem → Option (Unit × Mem)) (k27 : Nat → Int32 → Int32 → Int32 → Int32 → Int32 → Int32 → Int32 → Mem → Option (Unit × Mem)) (v0 : Nat) (v1 : Int32) (v2 : Int32) (v3 : Int32) (v4 : Int32) (v6 : Int32) (v7 : Int32) (M : Mem) : Option (Unit × Mem) :=
  if mK M v0 = 13 then
    bnd (f_X12_tellField kF v0 v1 v7 v3 v4 M) fun _ M2 =>
    f_X12_tellValues_85 kF k27 v0 v1 v2 v3 v4 (0 : Int32) v6 v7 M2
  else none
def f_X12_tellValues_27 (kF : Nat → Int32 → Int32 → Int32 → Int32 → Mem → Option (Unit × Mem)) : Nat → Nat → Int32 → Int32 → Int32 → Int32 → Int32 → Int32 → Int32 → Mem → Option (Unit × Mem)
  | 0, _, _, _, _, _, _, _, _, _ => none
  | n + 1, v0, v1, v2, v3, v4, v5, v6, v7, M =>
    if v6 ≤ v7 then
      some ((), M)
    else
      if mK M v0 = 13 then
        if mK M (mR M v0 16) = 21 then
          if inB (v1 + v7) (mN M (mR M v0 16)) = true then
            if (mI M (mR M v0 16) (v1 + v7).toNatClampNeg) = v2 then
              bnd (f_X12_isTold v0 v1 v7 v3 M) fun r7 M6 =>
              if r7 = 0 then
                f_X12_tellValues_85 kF (f_X12_tellValues_27 kF n) v0 v1 v2 v3 v4 v5 v6 v7 M6
              else
                if v5 = 0 then
                  if mK M6 v0 = 13 then
                    bnd (f_X12_say v0 (32 : Int32) M6) fun _ M11 =>
                    f_X12_tellValues_72 kF (f_X12_tellValues_27 kF n) v0 v1 v2 v3 v4 v6 v7 M11
                  else none
                else
                  f_X12_tellValues_72 kF (f_X12_tellValues_27 kF n) v0 v1 v2 v3 v4 v6 v7 M6
            else
              f_X12_tellValues_85 kF (f_X12_tellValues_27 kF n) v0 v1 v2 v3 v4 v5 v6 v7 M
          else none
        else none
      else none
def f_X12_tellValues_22 (kF : Nat → Int32 → Int32 → Int32 → Int32 → Mem → Option (Unit × Mem)) (v0 : Nat) (v1 : Int32) (v2 : Int32) (v3 : Int32) (v4 : Int32) (v5 : Int32) (w0 : Int32) (M : Mem) : Option (Unit × Mem) :=
  f_X12_tellValues_27 kF FUEL v0 v1 v2 v3 v4 v5 w0 (0 : Int32) M
def f_X12_tellValues_o (kF : Nat → Int32 → Int32 → Int32 → Int32 → Mem → Option (Unit × Mem)) (v0 : Nat) (v1 : Int32) (v2 : Int32) (v3 : Int32) (v4 : Int32) (M : Mem) : Option (Unit × Mem) :=
  if v1 = 0 then
    if mK M v0 = 13 then
      if mK M (mR M v0 23) = 21 then
        if inB (0 : Int32) (mN M (mR M v0 23)) = true then
          f_X12_tellValues_22 kF v0 v1 v2 v3 v4 (1 : Int32) (mI M (mR M v0 23) (0 : Int32).toNatClampNeg) M
        else none
      else none
    else none
  else
    if mK M v0 = 13 then
      if mK M (mR M v0 23) = 21 then
        if inB (1 : Int32) (mN M (mR M v0 23)) = true then
          f_X12_tellValues_22 kF v0 v1 v2 v3 v4 (1 : Int32) (mI M (mR M v0 23) (1 : Int32).toNatClampNeg) M
        else none
      else none
    else none
def f_X12_tellValues : Nat → Nat → Int32 → Int32 → Int32 → Int32 → Mem → Option (Unit × Mem)
  | 0, _, _, _, _, _, _ => none
  | n + 1, v0, v1, v2, v3, v4, M => f_X12_tellValues_o (f_X12_tellValues n) v0 v1 v2 v3 v4 M
theorem s_X12_tellValues_85 (kF : Nat → Int32 → Int32 → Int32 → Int32 → Mem → Option (Unit × Mem)) (k27 : Nat → Int32 → Int32 → Int32 → Int32 → Int32 → Int32 → Int32 → Mem → Option (Unit × Mem)) (F : Nat) (hF : ∀ (a0 : Nat) (a1 : Int32) (a2 : Int32) (a3 : Int32) (a4 : Int32) (M : Mem) (r : (Unit × Mem)), kF a0 a1 a2 a3 a4 M = some r → Sem mi_X12_tellValues F [aR a0, aI a1, aI a2, aI a3, aI a4] M (oU r.1) r.2) (hk27 : ∀ (v0 : Nat) (v1 : Int32) (v2 : Int32) (v3 : Int32) (v4 : Int32) (v5 : Int32) (v6 : Int32) (v7 : Int32) (M : Mem) (r : (Unit × Mem)), k27 v0 v1 v2 v3 v4 v5 v6 v7 M = some r → G mi_X12_tellValues (F + 6) (oU r.1) r.2 27 [some (aR v0), some (aI v1), some (aI v2), some (aI v3), some (aI v4), some (aI v5), some (aI v6), some (aI v7)] [] M 0 0) (v0 : Nat) (v1 : Int32) (v2 : Int32) (v3 : Int32) (v4 : Int32) (v5 : Int32) (v6 : Int32) (v7 : Int32) (M : Mem) (r : (Unit × Mem)) (hf : f_X12_tellValues_85 kF k27 v0 v1 v2 v3 v4 v5 v6 v7 M = some r) : G mi_X12_tellValues (F + 6) (oU r.1) r.2 85 [some (aR v0), some (aI v1), some (aI v2), some (aI v3), some (aI v4), some (aI v5), some (aI v6), some (aI v7)] [] M 0 0 := by
  unfold f_X12_tellValues_85 at hf
  refine g_iinc (pc' := 88) (lv' := [some (aR v0), some (aI v1), some (aI v2), some (aI v3), some (aI v4), some (aI v5), some (aI v6), some (aI (v7 + 1))]) (v7 + 1) dX12_tellValues_85 rfl rfl (by rfl) rfl (by decide) rfl ?_
  refine g_goto (pc' := 27) dX12_tellValues_88 (by decide) ?_
  exact hk27 v0 v1 v2 v3 v4 v5 v6 (v7 + 1) M _ hf
theorem s_X12_tellValues_72 (kF : Nat → Int32 → Int32 → Int32 → Int32 → Mem → Option (Unit × Mem)) (k27 : Nat → Int32 → Int32 → Int32 → Int32 → Int32 → Int32 → Int32 → Mem → Option (Unit × Mem)) (F : Nat) (hF : ∀ (a0 : Nat) (a1 : Int32) (a2 : Int32) (a3 : Int32) (a4 : Int32) (M : Mem) (r : (Unit × Mem)), kF a0 a1 a2 a3 a4 M = some r → Sem mi_X12_tellValues F [aR a0, aI a1, aI a2, aI a3, aI a4] M (oU r.1) r.2) (hk27 : ∀ (v0 : Nat) (v1 : Int32) (v2 : Int32) (v3 : Int32) (v4 : Int32) (v5 : Int32) (v6 : Int32) (v7 : Int32) (M : Mem) (r : (Unit × Mem)), k27 v0 v1 v2 v3 v4 v5 v6 v7 M = some r → G mi_X12_tellValues (F + 6) (oU r.1) r.2 27 [some (aR v0), some (aI v1), some (aI v2), some (aI v3), some (aI v4), some (aI v5), some (aI v6), some (aI v7)] [] M 0 0) (v0 : Nat) (v1 : Int32) (v2 : Int32) (v3 : Int32) (v4 : Int32) (v6 : Int32) (v7 : Int32) (M : Mem) (r : (Unit × Mem)) (hf : f_X12_tellValues_72 kF k27 v0 v1 v2 v3 v4 v6 v7 M = some r) : G mi_X12_tellValues (F + 6) (oU r.1) r.2 72 [some (aR v0), some (aI v1), some (aI v2), some (aI v3), some (aI v4), none, some (aI v6), some (aI v7)] [] M 0 0 := by
  unfold f_X12_tellValues_72 at hf
  refine g_iconst (pc' := 73) (0 : Int32) dX12_tellValues_72 rfl (by decide) ?_
  refine g_istore (pc' := 75) (lv' := [some (aR v0), some (aI v1), some (aI v2), some (aI v3), some (aI v4), some (aI (0 : Int32)), some (aI v6), some (aI v7)]) dX12_tellValues_73 rfl rfl (by decide) rfl ?_
  refine g_aload_n (pc' := 76) dX12_tellValues_75 rfl rfl ?_
  refine g_iload_n (pc' := 77) dX12_tellValues_76 rfl rfl ?_
  refine g_iload (pc' := 79) dX12_tellValues_77 rfl rfl ?_
  refine g_iload_n (pc' := 80) dX12_tellValues_79 rfl rfl ?_
  refine g_iload (pc' := 82) dX12_tellValues_80 rfl rfl ?_
  obtain ⟨h1, hf⟩ := chk_s hf
  obtain ⟨_, M2, e3, hf⟩ := bnd_some hf
  refine g_callVv (pc' := 85) (k' := 0) (u' := 0) (fr2 := F + 5) (As := [aI v1, aI v7, aI v3, aI v4]) (b := v0) (st := []) cf_X12_tellField q_1183 (by omega) (ci := 12) rfl rfl (by decide) dX12_tellValues_82 rfl rfl rfl (Nat.le_of_ble_eq_true rfl) (Or.inl rfl) (Nat.le_refl _) (Nat.le_refl _) (Nat.le_refl _) (Nat.le_refl _) h1 (s_X12_tellField kF F hF v0 v1 v7 v3 v4 M _ e3) ?_
  refine g_widen (k' := 0) (u' := 0) (by omega) (by omega) ?_
  exact s_X12_tellValues_85 kF k27 F hF hk27 v0 v1 v2 v3 v4 (0 : Int32) v6 v7 M2 _ hf
theorem s_X12_tellValues_27 (kF : Nat → Int32 → Int32 → Int32 → Int32 → Mem → Option (Unit × Mem)) (F : Nat) (hF : ∀ (a0 : Nat) (a1 : Int32) (a2 : Int32) (a3 : Int32) (a4 : Int32) (M : Mem) (r : (Unit × Mem)), kF a0 a1 a2 a3 a4 M = some r → Sem mi_X12_tellValues F [aR a0, aI a1, aI a2, aI a3, aI a4] M (oU r.1) r.2) : ∀ (n : Nat) (v0 : Nat) (v1 : Int32) (v2 : Int32) (v3 : Int32) (v4 : Int32) (v5 : Int32) (v6 : Int32) (v7 : Int32) (M : Mem) (r : (Unit × Mem)), f_X12_tellValues_27 kF n v0 v1 v2 v3 v4 v5 v6 v7 M = some r → G mi_X12_tellValues (F + 6) (oU r.1) r.2 27 [some (aR v0), some (aI v1), some (aI v2), some (aI v3), some (aI v4), some (aI v5), some (aI v6), some (aI v7)] [] M 0 0 := by
  intro n
  induction n with
  | zero => intro v0 v1 v2 v3 v4 v5 v6 v7 M r hf; cases hf
  | succ n ih =>
    intro v0 v1 v2 v3 v4 v5 v6 v7 M r hf
    unfold f_X12_tellValues_27 at hf
    refine g_iload (pc' := 29) dX12_tellValues_27 rfl rfl ?_
    refine g_iload (pc' := 31) dX12_tellValues_29 rfl rfl ?_
    refine g_icmp_ge (pc' := 34) 91 dX12_tellValues_31 rfl (by decide) (fun c1 => ?_) (fun c1 => ?_)
    · have hf := ite_t c1 hf
      cases hf
      exact g_return dX12_tellValues_91 rfl (Nat.le_of_ble_eq_true rfl) (Nat.le_of_ble_eq_true rfl)
    · have hf := ite_f c1 hf
      refine g_aload_n (pc' := 35) dX12_tellValues_34 rfl rfl ?_
      obtain ⟨h2, hf⟩ := chk_s hf
      refine g_getR (pc' := 38) 12 16 rfl rfl (by decide) inX12 (by decide) rfl rfl q_128 dX12_tellValues_35 rfl h2 ?_
      refine g_iload_n (pc' := 39) dX12_tellValues_38 rfl rfl ?_
      refine g_iload (pc' := 41) dX12_tellValues_39 rfl rfl ?_
      refine g_iadd (pc' := 42) dX12_tellValues_41 rfl ?_
      obtain ⟨h3, hf⟩ := chk_s hf
      obtain ⟨b4, hf⟩ := chk_s hf
      refine g_iald (pc' := 43) dX12_tellValues_42 rfl h3 (inB_in b4) ?_
      refine g_iload_n (pc' := 44) dX12_tellValues_43 rfl rfl ?_
      refine g_icmp_ne (pc' := 47) 85 dX12_tellValues_44 rfl (by decide) (fun c5 => ?_) (fun c5 => ?_)
      · have hf := ite_f c5 hf
        exact s_X12_tellValues_85 kF (f_X12_tellValues_27 kF n) F hF ih v0 v1 v2 v3 v4 v5 v6 v7 M _ hf
      · have hf := ite_t c5 hf
        refine g_aload_n (pc' := 48) dX12_tellValues_47 rfl rfl ?_
        refine g_iload_n (pc' := 49) dX12_tellValues_48 rfl rfl ?_
        refine g_iload (pc' := 51) dX12_tellValues_49 rfl rfl ?_
        refine g_iload_n (pc' := 52) dX12_tellValues_51 rfl rfl ?_
        obtain ⟨r7, M6, e7, hf⟩ := bnd_some hf
        refine g_callVi (pc' := 55) (k' := 0) (u' := 0) (fr2 := 3) (As := [aI v1, aI v7, aI v3]) (b := v0) (st := []) cf_X12_isTold q_1174 (by omega) (ci := 12) rfl rfl (by decide) dX12_tellValues_52 rfl rfl rfl (Nat.le_of_ble_eq_true rfl) (Or.inl rfl) (Nat.le_refl _) (Nat.le_refl _) (Nat.le_refl _) (Nat.le_refl _) h2 (s_X12_isTold v0 v1 v7 v3 M _ e7) ?_
        refine g_if_ne (pc' := 58) 61 dX12_tellValues_55 rfl (by decide) (fun c8 => ?_) (fun c8 => ?_)
        · have hf := ite_f c8 hf
          refine g_iload (pc' := 63) dX12_tellValues_61 rfl rfl ?_
          refine g_if_ne (pc' := 66) 72 dX12_tellValues_63 rfl (by decide) (fun c9 => ?_) (fun c9 => ?_)
          · have hf := ite_f c9 hf
            refine g_mask [true, true, true, true, true, false, true, true] rfl ?_
            refine g_widen (k' := 0) (u' := 0) (by omega) (by omega) ?_
            exact s_X12_tellValues_72 kF (f_X12_tellValues_27 kF n) F hF ih v0 v1 v2 v3 v4 v6 v7 M6 _ hf
          · have hf := ite_t c9 hf
            refine g_aload_n (pc' := 67) dX12_tellValues_66 rfl rfl ?_
            refine g_bipush (pc' := 69) (32 : Int32) dX12_tellValues_67 rfl (by decide) ?_
            obtain ⟨h10, hf⟩ := chk_s hf
            obtain ⟨_, M11, e12, hf⟩ := bnd_some hf
            refine g_callVv (pc' := 72) (k' := 0) (u' := 0) (fr2 := 1) (As := [aI (32 : Int32)]) (b := v0) (st := []) cf_X12_say q_1178 (by omega) (ci := 12) rfl rfl (by decide) dX12_tellValues_69 rfl rfl rfl (Nat.le_of_ble_eq_true rfl) (Or.inl rfl) (Nat.le_refl _) (Nat.le_refl _) (Nat.le_refl _) (Nat.le_refl _) h10 (s_X12_say v0 (32 : Int32) M6 _ e12) ?_
            refine g_mask [true, true, true, true, true, false, true, true] rfl ?_
            refine g_widen (k' := 0) (u' := 0) (by omega) (by omega) ?_
            exact s_X12_tellValues_72 kF (f_X12_tellValues_27 kF n) F hF ih v0 v1 v2 v3 v4 v6 v7 M11 _ hf
        · have hf := ite_t c8 hf
          refine g_goto (pc' := 85) dX12_tellValues_58 (by decide) ?_
          refine g_widen (k' := 0) (u' := 0) (by omega) (by omega) ?_
          exact s_X12_tellValues_85 kF (f_X12_tellValues_27 kF n) F hF ih v0 v1 v2 v3 v4 v5 v6 v7 M6 _ hf
theorem s_X12_tellValues_22 (kF : Nat → Int32 → Int32 → Int32 → Int32 → Mem → Option (Unit × Mem)) (F : Nat) (hF : ∀ (a0 : Nat) (a1 : Int32) (a2 : Int32) (a3 : Int32) (a4 : Int32) (M : Mem) (r : (Unit × Mem)), kF a0 a1 a2 a3 a4 M = some r → Sem mi_X12_tellValues F [aR a0, aI a1, aI a2, aI a3, aI a4] M (oU r.1) r.2) (v0 : Nat) (v1 : Int32) (v2 : Int32) (v3 : Int32) (v4 : Int32) (v5 : Int32) (w0 : Int32) (M : Mem) (r : (Unit × Mem)) (hf : f_X12_tellValues_22 kF v0 v1 v2 v3 v4 v5 w0 M = some r) : G mi_X12_tellValues (F + 6) (oU r.1) r.2 22 [some (aR v0), some (aI v1), some (aI v2), some (aI v3), some (aI v4), some (aI v5), none, none] [aI w0] M 0 0 := by
  unfold f_X12_tellValues_22 at hf
  refine g_istore (pc' := 24) (lv' := [some (aR v0), some (aI v1), some (aI v2), some (aI v3), some (aI v4), some (aI v5), some (aI w0), none]) dX12_tellValues_22 rfl rfl (by decide) rfl ?_
  refine g_iconst (pc' := 25) (0 : Int32) dX12_tellValues_24 rfl (by decide) ?_
  refine g_istore (pc' := 27) (lv' := [some (aR v0), some (aI v1), some (aI v2), some (aI v3), some (aI v4), some (aI v5), some (aI w0), some (aI (0 : Int32))]) dX12_tellValues_25 rfl rfl (by decide) rfl ?_
  exact s_X12_tellValues_27 kF F hF FUEL v0 v1 v2 v3 v4 v5 w0 (0 : Int32) M _ hf
theorem s_X12_tellValues_o (kF : Nat → Int32 → Int32 → Int32 → Int32 → Mem → Option (Unit × Mem)) (F : Nat) (hF : ∀ (a0 : Nat) (a1 : Int32) (a2 : Int32) (a3 : Int32) (a4 : Int32) (M : Mem) (r : (Unit × Mem)), kF a0 a1 a2 a3 a4 M = some r → Sem mi_X12_tellValues F [aR a0, aI a1, aI a2, aI a3, aI a4] M (oU r.1) r.2) (v0 : Nat) (v1 : Int32) (v2 : Int32) (v3 : Int32) (v4 : Int32) (M : Mem) (r : (Unit × Mem)) (hf : f_X12_tellValues_o kF v0 v1 v2 v3 v4 M = some r) : Sem mi_X12_tellValues ((F + 6)) [aR v0, aI v1, aI v2, aI v3, aI v4] M (oU r.1) r.2 := by
  unfold f_X12_tellValues_o at hf
  refine sem_of (by decide) rfl rfl rfl (Nat.le_of_ble_eq_true rfl) (lv := [some (aR v0), some (aI v1), some (aI v2), some (aI v3), some (aI v4), none, none, none]) rfl ?_
  refine g_iconst (pc' := 1) (1 : Int32) dX12_tellValues_0 rfl (by decide) ?_
  refine g_istore (pc' := 3) (lv' := [some (aR v0), some (aI v1), some (aI v2), some (aI v3), some (aI v4), some (aI (1 : Int32)), none, none]) dX12_tellValues_1 rfl rfl (by decide) rfl ?_
  refine g_iload_n (pc' := 4) dX12_tellValues_3 rfl rfl ?_
  refine g_if_ne (pc' := 7) 16 dX12_tellValues_4 rfl (by decide) (fun c1 => ?_) (fun c1 => ?_)
  · have hf := ite_f c1 hf
    refine g_aload_n (pc' := 17) dX12_tellValues_16 rfl rfl ?_
    obtain ⟨h2, hf⟩ := chk_s hf
    refine g_getR (pc' := 20) 12 23 rfl rfl (by decide) inX12 (by decide) rfl rfl q_135 dX12_tellValues_17 rfl h2 ?_
    refine g_iconst (pc' := 21) (1 : Int32) dX12_tellValues_20 rfl (by decide) ?_
    obtain ⟨h3, hf⟩ := chk_s hf
    obtain ⟨b4, hf⟩ := chk_s hf
    refine g_iald (pc' := 22) dX12_tellValues_21 rfl h3 (inB_in b4) ?_
    exact s_X12_tellValues_22 kF F hF v0 v1 v2 v3 v4 (1 : Int32) (mI M (mR M v0 23) (1 : Int32).toNatClampNeg) M _ hf
  · have hf := ite_t c1 hf
    refine g_aload_n (pc' := 8) dX12_tellValues_7 rfl rfl ?_
    obtain ⟨h5, hf⟩ := chk_s hf
    refine g_getR (pc' := 11) 12 23 rfl rfl (by decide) inX12 (by decide) rfl rfl q_135 dX12_tellValues_8 rfl h5 ?_
    refine g_iconst (pc' := 12) (0 : Int32) dX12_tellValues_11 rfl (by decide) ?_
    obtain ⟨h6, hf⟩ := chk_s hf
    obtain ⟨b7, hf⟩ := chk_s hf
    refine g_iald (pc' := 13) dX12_tellValues_12 rfl h6 (inB_in b7) ?_
    refine g_goto (pc' := 22) dX12_tellValues_13 (by decide) ?_
    exact s_X12_tellValues_22 kF F hF v0 v1 v2 v3 v4 (1 : Int32) (mI M (mR M v0 23) (0 : Int32).toNatClampNeg) M _ hf
theorem s_X12_tellValues : ∀ (n : Nat) (v0 : Nat) (v1 : Int32) (v2 : Int32) (v3 : Int32) (v4 : Int32) (M : Mem) (r : (Unit × Mem)), f_X12_tellValues n v0 v1 v2 v3 v4 M = some r → Sem mi_X12_tellValues (6 * n + 0) [aR v0, aI v1, aI v2, aI v3, aI v4] M (oU r.1) r.2 := by
  intro n
  induction n with
  | zero => intro v0 v1 v2 v3 v4 M r hf; cases hf
  | succ n ih =>
    intro v0 v1 v2 v3 v4 M r hf
    rw [show 6 * (n + 1) + 0 = 6 * n + 0 + 6 by omega]
    exact s_X12_tellValues_o (f_X12_tellValues n) (6 * n + 0) ih v0 v1 v2 v3 v4 M r hf
