abbrev mi_X12_wrongAt : MI := (yX12_wrongAt, Cond.code yX12_wrongAt cX12_wrongAt 5 (some .int), cX12_wrongAt, 5, (some .int), [], 0, 0, 0, none)
theorem cf_X12_wrongAt : CFv mi_X12_wrongAt 2 := ⟨⟨rfl, q_655, wall_i_LeafStripesModel, ⟨by decide, by decide, by decide +kernel⟩, by decide⟩, q_653, q_654⟩
abbrev mi_X12_wrongIs : MI := (yX12_wrongIs, Cond.code yX12_wrongIs cX12_wrongIs 4 (some .int), cX12_wrongIs, 4, (some .int), [], 0, 0, 0, none)
theorem cf_X12_wrongIs : CFv mi_X12_wrongIs 3 := ⟨⟨rfl, q_671, wall_i_LeafStripesModel, ⟨by decide, by decide, by decide +kernel⟩, by decide⟩, q_669, q_670⟩
abbrev mi_X12_firstsOf : MI := (yX12_firstsOf, Cond.code yX12_firstsOf cX12_firstsOf 4 (some .int), cX12_firstsOf, 4, (some .int), [], 0, 0, 0, none)
theorem cf_X12_firstsOf : CFv mi_X12_firstsOf 1 := ⟨⟨rfl, q_677, wall_i_LeafStripesModel, ⟨by decide, by decide, by decide +kernel⟩, by decide⟩, q_675, q_676⟩
abbrev mi_X12_both : MI := (yX12_both, Cond.code yX12_both cX12_both 4 (some .int), cX12_both, 4, (some .int), [], 0, 0, 0, none)
theorem cf_X12_both : CFv mi_X12_both 2 := ⟨⟨rfl, q_685, wall_i_LeafStripesModel, ⟨by decide, by decide, by decide +kernel⟩, by decide⟩, q_683, q_684⟩
abbrev mi_X12_stepIn : MI := (yX12_stepIn, Cond.code yX12_stepIn cX12_stepIn 5 (some .int), cX12_stepIn, 5, (some .int), [], 0, 0, 0, none)
theorem cf_X12_stepIn : CFv mi_X12_stepIn 3 := ⟨⟨rfl, q_693, wall_i_LeafStripesModel, ⟨by decide, by decide, by decide +kernel⟩, by decide⟩, q_691, q_692⟩
abbrev mi_X12_unlikeAhead : MI := (yX12_unlikeAhead, Cond.code yX12_unlikeAhead cX12_unlikeAhead 7 (some .int), cX12_unlikeAhead, 7, (some .int), [], 0, 0, 0, none)
theorem cf_X12_unlikeAhead : CFv mi_X12_unlikeAhead 1 := ⟨⟨rfl, q_681, wall_i_LeafStripesModel, ⟨by decide, by decide, by decide +kernel⟩, by decide⟩, q_679, q_680⟩
abbrev mi_X12_checked : MI := (yX12_checked, Cond.code yX12_checked cX12_checked 4 (some .int), cX12_checked, 4, (some .int), [], 0, 0, 0, none)
theorem cf_X12_checked : CFv mi_X12_checked 0 := ⟨⟨rfl, q_651, wall_i_LeafStripesModel, ⟨by decide, by decide, by decide +kernel⟩, by decide⟩, q_649, q_650⟩
abbrev mi_X12_mayBegin : MI := (yX12_mayBegin, Cond.code yX12_mayBegin cX12_mayBegin 1 (some .boolean), cX12_mayBegin, 1, (some .boolean), [], 0, 0, 0, none)
theorem cf_X12_mayBegin : CFv mi_X12_mayBegin 0 := ⟨⟨rfl, q_701, wall_i_LeafStripesModel, ⟨by decide, by decide, by decide +kernel⟩, by decide⟩, q_699, q_700⟩
abbrev mi_X12_keep : MI := (yX12_keep, Cond.code yX12_keep cX12_keep 2 none, cX12_keep, 2, none, [], 0, 0, 0, none)
theorem cf_X12_keep : CFv mi_X12_keep 0 := ⟨⟨rfl, q_741, wall_i_LeafStripesModel, ⟨by decide, by decide, by decide +kernel⟩, by decide⟩, q_739, q_740⟩
abbrev mi_X12_add : MI := (yX12_add, Cond.code yX12_add cX12_add 2 (some .int), cX12_add, 2, (some .int), [], 0, 0, 0, none)
theorem cf_X12_add : CFv mi_X12_add 1 := ⟨⟨rfl, q_647, wall_i_LeafStripesModel, ⟨by decide, by decide, by decide +kernel⟩, by decide⟩, q_645, q_646⟩
abbrev mi_X12_isWrongBy : MI := (yX12_isWrongBy, Cond.code yX12_isWrongBy cX12_isWrongBy 4 (some .boolean), cX12_isWrongBy, 4, (some .boolean), [], 0, 0, 0, none)
theorem cf_X12_isWrongBy : CFv mi_X12_isWrongBy 3 := ⟨⟨rfl, q_903, wall_i_LeafStripesModel, ⟨by decide, by decide, by decide +kernel⟩, by decide⟩, q_901, q_902⟩
abbrev mi_X12_tryLevel : MI := (yX12_tryLevel, Cond.code yX12_tryLevel cX12_tryLevel 8 none, cX12_tryLevel, 8, none, [], 0, 0, 0, none)
theorem cf_X12_tryLevel : CFv mi_X12_tryLevel 4 := ⟨⟨rfl, q_895, wall_i_LeafStripesModel, ⟨by decide, by decide, by decide +kernel⟩, by decide⟩, q_893, q_894⟩
def f_X12_wrongAt_97  (M : Mem) : Option (Int32 × Mem) :=
  some ((3 : Int32), M)
def f_X12_wrongAt_32 (v0 : Nat) (v1 : Int32) (v2 : Int32) (v3 : Int32) (M : Mem) : Option (Int32 × Mem) :=
  if mK M v0 = 13 then
    bnd (f_X12_defAt v0 v1 v2 M) fun r3 M2 =>
    if mK M2 v0 = 13 then
      if mK M2 (mR M2 v0 25) = 21 then
        if inB v1 (mN M2 (mR M2 v0 25)) = true then
          if mK M2 (mR M2 v0 18) = 21 then
            if inB (mI M2 (mR M2 v0 25) v1.toNatClampNeg) (mN M2 (mR M2 v0 18)) = true then
              if r3 ≤ (mI M2 (mR M2 v0 18) (mI M2 (mR M2 v0 25) v1.toNatClampNeg).toNatClampNeg) then
                if v3 = 0 then
                  some ((0 : Int32), M2)
                else
                  bnd (f_X12_oftenAround v0 v1 v3 M2) fun r12 M11 =>
                  if mK M11 (mR M2 v0 18) = 21 then
                    if inB r12 (mN M11 (mR M2 v0 18)) = true then
                      if mK M11 v0 = 13 then
                        bnd (f_X12_defAt v0 v1 v2 M11) fun r17 M16 =>
                        if r17 < (mI M11 (mR M2 v0 18) r12.toNatClampNeg) then
                          f_X12_wrongAt_97 M16
                        else
                          if mK M16 v0 = 13 then
                            bnd (f_X12_defAt v0 v1 (v2 - (1 : Int32)) M16) fun r21 M20 =>
                            if (mI M11 (mR M2 v0 18) r12.toNatClampNeg) ≤ r21 then
                              some ((0 : Int32), M20)
                            else
                              f_X12_wrongAt_97 M20
                          else none
                      else none
                    else none
                  else none
              else
                some ((2 : Int32), M2)
            else none
          else none
        else none
      else none
    else none
  else none
def f_X12_wrongAt (v0 : Nat) (v1 : Int32) (v2 : Int32) (M : Mem) : Option (Int32 × Mem) :=
  if mK M v0 = 13 then
    bnd (f_X12_repAt v0 v1 v2 M) fun r3 M2 =>
    if mK M2 v0 = 13 then
      if mK M2 (mR M2 v0 25) = 21 then
        if inB v1 (mN M2 (mR M2 v0 25)) = true then
          if mK M2 (mR M2 v0 19) = 21 then
            if inB (mI M2 (mR M2 v0 25) v1.toNatClampNeg) (mN M2 (mR M2 v0 19)) = true then
              if (mI M2 (mR M2 v0 19) (mI M2 (mR M2 v0 25) v1.toNatClampNeg).toNatClampNeg) < r3 then
                some ((1 : Int32), M2)
              else
                if v2 = 0 then
                  if r3 = 0 then
                    f_X12_wrongAt_32 v0 v1 v2 r3 M2
                  else
                    some ((1 : Int32), M2)
                else
                  f_X12_wrongAt_32 v0 v1 v2 r3 M2
            else none
          else none
        else none
      else none
    else none
  else none
theorem s_X12_wrongAt_97  (M : Mem) (r : (Int32 × Mem)) (hf : f_X12_wrongAt_97  M = some r) : G mi_X12_wrongAt 2 (oI r.1) r.2 97 [none, none, none, none, none] [] M 0 0 := by
  unfold f_X12_wrongAt_97 at hf
  refine g_iconst (pc' := 98) (3 : Int32) dX12_wrongAt_97 rfl (by decide) ?_
  refine g_goto (pc' := 102) dX12_wrongAt_98 (by decide) ?_
  cases hf
  exact g_ireturn dX12_wrongAt_102 rfl (Nat.le_of_ble_eq_true rfl) (Nat.le_of_ble_eq_true rfl)
theorem s_X12_wrongAt_32 (v0 : Nat) (v1 : Int32) (v2 : Int32) (v3 : Int32) (M : Mem) (r : (Int32 × Mem)) (hf : f_X12_wrongAt_32 v0 v1 v2 v3 M = some r) : G mi_X12_wrongAt 2 (oI r.1) r.2 32 [some (aR v0), some (aI v1), some (aI v2), some (aI v3), none] [] M 0 0 := by
  unfold f_X12_wrongAt_32 at hf
  refine g_aload_n (pc' := 33) dX12_wrongAt_32 rfl rfl ?_
  refine g_iload_n (pc' := 34) dX12_wrongAt_33 rfl rfl ?_
  refine g_iload_n (pc' := 35) dX12_wrongAt_34 rfl rfl ?_
  obtain ⟨h1, hf⟩ := chk_s hf
  obtain ⟨r3, M2, e3, hf⟩ := bnd_some hf
  refine g_callVi (pc' := 38) (k' := 0) (u' := 0) (fr2 := 1) (As := [aI v1, aI v2]) (b := v0) (st := []) cf_X12_defAt q_660 (by omega) (ci := 12) rfl rfl (by decide) dX12_wrongAt_35 rfl rfl rfl (Nat.le_of_ble_eq_true rfl) (Or.inl rfl) (Nat.le_refl _) (Nat.le_refl _) (Nat.le_refl _) (Nat.le_refl _) h1 (s_X12_defAt v0 v1 v2 M _ e3) ?_
  refine g_aload_n (pc' := 39) dX12_wrongAt_38 rfl rfl ?_
  obtain ⟨h4, hf⟩ := chk_s hf
  refine g_getR (pc' := 42) 12 18 rfl rfl (by decide) inX12 (by decide) rfl rfl q_130 dX12_wrongAt_39 rfl h4 ?_
  refine g_aload_n (pc' := 43) dX12_wrongAt_42 rfl rfl ?_
  refine g_getR (pc' := 46) 12 25 rfl rfl (by decide) inX12 (by decide) rfl rfl q_137 dX12_wrongAt_43 rfl h4 ?_
  refine g_iload_n (pc' := 47) dX12_wrongAt_46 rfl rfl ?_
  obtain ⟨h5, hf⟩ := chk_s hf
  obtain ⟨b6, hf⟩ := chk_s hf
  refine g_iald (pc' := 48) dX12_wrongAt_47 rfl h5 (inB_in b6) ?_
  obtain ⟨h7, hf⟩ := chk_s hf
  obtain ⟨b8, hf⟩ := chk_s hf
  refine g_iald (pc' := 49) dX12_wrongAt_48 rfl h7 (inB_in b8) ?_
  refine g_icmp_le (pc' := 52) 54 dX12_wrongAt_49 rfl (by decide) (fun c9 => ?_) (fun c9 => ?_)
  · have hf := ite_t c9 hf
    refine g_iload_n (pc' := 55) dX12_wrongAt_54 rfl rfl ?_
    refine g_if_ne (pc' := 58) 60 dX12_wrongAt_55 rfl (by decide) (fun c10 => ?_) (fun c10 => ?_)
    · have hf := ite_f c10 hf
      refine g_aload_n (pc' := 61) dX12_wrongAt_60 rfl rfl ?_
      refine g_getR (pc' := 64) 12 18 rfl rfl (by decide) inX12 (by decide) rfl rfl q_130 dX12_wrongAt_61 rfl h4 ?_
      refine g_aload_n (pc' := 65) dX12_wrongAt_64 rfl rfl ?_
      refine g_iload_n (pc' := 66) dX12_wrongAt_65 rfl rfl ?_
      refine g_iload_n (pc' := 67) dX12_wrongAt_66 rfl rfl ?_
      obtain ⟨r12, M11, e12, hf⟩ := bnd_some hf
      refine g_callVi (pc' := 70) (k' := 0) (u' := 0) (fr2 := 1) (As := [aI v1, aI v3]) (b := v0) (st := [aR (mR M2 v0 18)]) cf_X12_oftenAround q_664 (by omega) (ci := 12) rfl rfl (by decide) dX12_wrongAt_67 rfl rfl rfl (Nat.le_of_ble_eq_true rfl) (Or.inl rfl) (Nat.le_refl _) (Nat.le_refl _) (Nat.le_refl _) (Nat.le_refl _) h4 (s_X12_oftenAround v0 v1 v3 M2 _ e12) ?_
      obtain ⟨h13, hf⟩ := chk_s hf
      obtain ⟨b14, hf⟩ := chk_s hf
      refine g_iald (pc' := 71) dX12_wrongAt_70 rfl h13 (inB_in b14) ?_
      refine g_istore (pc' := 73) (lv' := [some (aR v0), some (aI v1), some (aI v2), some (aI v3), some (aI (mI M11 (mR M2 v0 18) r12.toNatClampNeg))]) dX12_wrongAt_71 rfl rfl (by decide) rfl ?_
      refine g_aload_n (pc' := 74) dX12_wrongAt_73 rfl rfl ?_
      refine g_iload_n (pc' := 75) dX12_wrongAt_74 rfl rfl ?_
      refine g_iload_n (pc' := 76) dX12_wrongAt_75 rfl rfl ?_
      obtain ⟨h15, hf⟩ := chk_s hf
      obtain ⟨r17, M16, e17, hf⟩ := bnd_some hf
      refine g_callVi (pc' := 79) (k' := 0) (u' := 0) (fr2 := 1) (As := [aI v1, aI v2]) (b := v0) (st := []) cf_X12_defAt q_660 (by omega) (ci := 12) rfl rfl (by decide) dX12_wrongAt_76 rfl rfl rfl (Nat.le_of_ble_eq_true rfl) (Or.inl rfl) (Nat.le_refl _) (Nat.le_refl _) (Nat.le_refl _) (Nat.le_refl _) h15 (s_X12_defAt v0 v1 v2 M11 _ e17) ?_
      refine g_iload (pc' := 81) dX12_wrongAt_79 rfl rfl ?_
      refine g_icmp_lt (pc' := 84) 97 dX12_wrongAt_81 rfl (by decide) (fun c18 => ?_) (fun c18 => ?_)
      · have hf := ite_t c18 hf
        refine g_mask [false, false, false, false, false] rfl ?_
        refine g_widen (k' := 0) (u' := 0) (by omega) (by omega) ?_
        exact s_X12_wrongAt_97 M16 _ hf
      · have hf := ite_f c18 hf
        refine g_aload_n (pc' := 85) dX12_wrongAt_84 rfl rfl ?_
        refine g_iload_n (pc' := 86) dX12_wrongAt_85 rfl rfl ?_
        refine g_iload_n (pc' := 87) dX12_wrongAt_86 rfl rfl ?_
        refine g_iconst (pc' := 88) (1 : Int32) dX12_wrongAt_87 rfl (by decide) ?_
        refine g_isub (pc' := 89) dX12_wrongAt_88 rfl ?_
        obtain ⟨h19, hf⟩ := chk_s hf
        obtain ⟨r21, M20, e21, hf⟩ := bnd_some hf
        refine g_callVi (pc' := 92) (k' := 0) (u' := 0) (fr2 := 1) (As := [aI v1, aI (v2 - (1 : Int32))]) (b := v0) (st := []) cf_X12_defAt q_660 (by omega) (ci := 12) rfl rfl (by decide) dX12_wrongAt_89 rfl rfl rfl (Nat.le_of_ble_eq_true rfl) (Or.inl rfl) (Nat.le_refl _) (Nat.le_refl _) (Nat.le_refl _) (Nat.le_refl _) h19 (s_X12_defAt v0 v1 (v2 - (1 : Int32)) M16 _ e21) ?_
        refine g_iload (pc' := 94) dX12_wrongAt_92 rfl rfl ?_
        refine g_icmp_ge (pc' := 97) 101 dX12_wrongAt_94 rfl (by decide) (fun c22 => ?_) (fun c22 => ?_)
        · have hf := ite_t c22 hf
          refine g_iconst (pc' := 102) (0 : Int32) dX12_wrongAt_101 rfl (by decide) ?_
          cases hf
          exact g_ireturn dX12_wrongAt_102 rfl (Nat.le_of_ble_eq_true rfl) (Nat.le_of_ble_eq_true rfl)
        · have hf := ite_f c22 hf
          refine g_mask [false, false, false, false, false] rfl ?_
          refine g_widen (k' := 0) (u' := 0) (by omega) (by omega) ?_
          exact s_X12_wrongAt_97 M20 _ hf
    · have hf := ite_t c10 hf
      refine g_iconst (pc' := 59) (0 : Int32) dX12_wrongAt_58 rfl (by decide) ?_
      cases hf
      exact g_ireturn dX12_wrongAt_59 rfl (Nat.le_of_ble_eq_true rfl) (Nat.le_of_ble_eq_true rfl)
  · have hf := ite_f c9 hf
    refine g_iconst (pc' := 53) (2 : Int32) dX12_wrongAt_52 rfl (by decide) ?_
    cases hf
    exact g_ireturn dX12_wrongAt_53 rfl (Nat.le_of_ble_eq_true rfl) (Nat.le_of_ble_eq_true rfl)
theorem s_X12_wrongAt (v0 : Nat) (v1 : Int32) (v2 : Int32) (M : Mem) (r : (Int32 × Mem)) (hf : f_X12_wrongAt v0 v1 v2 M = some r) : Sem mi_X12_wrongAt (2) [aR v0, aI v1, aI v2] M (oI r.1) r.2 := by
  unfold f_X12_wrongAt at hf
  refine sem_of (by decide) rfl rfl rfl (Nat.le_of_ble_eq_true rfl) (lv := [some (aR v0), some (aI v1), some (aI v2), none, none]) rfl ?_
  refine g_aload_n (pc' := 1) dX12_wrongAt_0 rfl rfl ?_
  refine g_iload_n (pc' := 2) dX12_wrongAt_1 rfl rfl ?_
  refine g_iload_n (pc' := 3) dX12_wrongAt_2 rfl rfl ?_
  obtain ⟨h1, hf⟩ := chk_s hf
  obtain ⟨r3, M2, e3, hf⟩ := bnd_some hf
  refine g_callVi (pc' := 6) (k' := 0) (u' := 0) (fr2 := 1) (As := [aI v1, aI v2]) (b := v0) (st := []) cf_X12_repAt q_656 (by omega) (ci := 12) rfl rfl (by decide) dX12_wrongAt_3 rfl rfl rfl (Nat.le_of_ble_eq_true rfl) (Or.inl rfl) (Nat.le_refl _) (Nat.le_refl _) (Nat.le_refl _) (Nat.le_refl _) h1 (s_X12_repAt v0 v1 v2 M _ e3) ?_
  refine g_istore_n (pc' := 7) (lv' := [some (aR v0), some (aI v1), some (aI v2), some (aI r3), none]) dX12_wrongAt_6 rfl rfl (by decide) rfl ?_
  refine g_iload_n (pc' := 8) dX12_wrongAt_7 rfl rfl ?_
  refine g_aload_n (pc' := 9) dX12_wrongAt_8 rfl rfl ?_
  obtain ⟨h4, hf⟩ := chk_s hf
  refine g_getR (pc' := 12) 12 19 rfl rfl (by decide) inX12 (by decide) rfl rfl q_131 dX12_wrongAt_9 rfl h4 ?_
  refine g_aload_n (pc' := 13) dX12_wrongAt_12 rfl rfl ?_
  refine g_getR (pc' := 16) 12 25 rfl rfl (by decide) inX12 (by decide) rfl rfl q_137 dX12_wrongAt_13 rfl h4 ?_
  refine g_iload_n (pc' := 17) dX12_wrongAt_16 rfl rfl ?_
  obtain ⟨h5, hf⟩ := chk_s hf
  obtain ⟨b6, hf⟩ := chk_s hf
  refine g_iald (pc' := 18) dX12_wrongAt_17 rfl h5 (inB_in b6) ?_
  obtain ⟨h7, hf⟩ := chk_s hf
  obtain ⟨b8, hf⟩ := chk_s hf
  refine g_iald (pc' := 19) dX12_wrongAt_18 rfl h7 (inB_in b8) ?_
  refine g_icmp_gt (pc' := 22) 30 dX12_wrongAt_19 rfl (by decide) (fun c9 => ?_) (fun c9 => ?_)
  · have hf := ite_t c9 hf
    refine g_iconst (pc' := 31) (1 : Int32) dX12_wrongAt_30 rfl (by decide) ?_
    cases hf
    exact g_ireturn dX12_wrongAt_31 rfl (Nat.le_of_ble_eq_true rfl) (Nat.le_of_ble_eq_true rfl)
  · have hf := ite_f c9 hf
    refine g_iload_n (pc' := 23) dX12_wrongAt_22 rfl rfl ?_
    refine g_if_ne (pc' := 26) 32 dX12_wrongAt_23 rfl (by decide) (fun c10 => ?_) (fun c10 => ?_)
    · have hf := ite_f c10 hf
      refine g_widen (k' := 0) (u' := 0) (by omega) (by omega) ?_
      exact s_X12_wrongAt_32 v0 v1 v2 r3 M2 _ hf
    · have hf := ite_t c10 hf
      refine g_iload_n (pc' := 27) dX12_wrongAt_26 rfl rfl ?_
      refine g_if_eq (pc' := 30) 32 dX12_wrongAt_27 rfl (by decide) (fun c11 => ?_) (fun c11 => ?_)
      · have hf := ite_t c11 hf
        refine g_widen (k' := 0) (u' := 0) (by omega) (by omega) ?_
        exact s_X12_wrongAt_32 v0 v1 v2 r3 M2 _ hf
      · have hf := ite_f c11 hf
        refine g_iconst (pc' := 31) (1 : Int32) dX12_wrongAt_30 rfl (by decide) ?_
        cases hf
        exact g_ireturn dX12_wrongAt_31 rfl (Nat.le_of_ble_eq_true rfl) (Nat.le_of_ble_eq_true rfl)
def f_X12_wrongIs (v0 : Nat) (v1 : Int32) (v2 : Int32) (v3 : Int32) (M : Mem) : Option (Int32 × Mem) :=
  if mK M v0 = 13 then
    ap (sI M v0 34 v1) fun M2 =>
    if mK M2 v0 = 13 then
      ap (sI M2 v0 35 v2) fun M4 =>
      some (v3, M4)
    else none
  else none
theorem s_X12_wrongIs (v0 : Nat) (v1 : Int32) (v2 : Int32) (v3 : Int32) (M : Mem) (r : (Int32 × Mem)) (hf : f_X12_wrongIs v0 v1 v2 v3 M = some r) : Sem mi_X12_wrongIs (1) [aR v0, aI v1, aI v2, aI v3] M (oI r.1) r.2 := by
  unfold f_X12_wrongIs at hf
  refine sem_of (by decide) rfl rfl rfl (Nat.le_of_ble_eq_true rfl) (lv := [some (aR v0), some (aI v1), some (aI v2), some (aI v3)]) rfl ?_
  refine g_aload_n (pc' := 1) dX12_wrongIs_0 rfl rfl ?_
  refine g_iload_n (pc' := 2) dX12_wrongIs_1 rfl rfl ?_
  obtain ⟨h1, hf⟩ := chk_s hf
  refine g_putI (pc' := 5) 12 34 rfl rfl (by decide) inX12 tyX12_ok nmX12 (by decide) rfl rfl rfl rfl q_672 dX12_wrongIs_2 rfl h1 (gM fun M2 hM2 => ?_)
  have hf := ap_eq hf hM2
  refine g_aload_n (pc' := 6) dX12_wrongIs_5 rfl rfl ?_
  refine g_iload_n (pc' := 7) dX12_wrongIs_6 rfl rfl ?_
  obtain ⟨h3, hf⟩ := chk_s hf
  refine g_putI (pc' := 10) 12 35 rfl rfl (by decide) inX12 tyX12_ok nmX12 (by decide) rfl rfl rfl rfl q_673 dX12_wrongIs_7 rfl h3 (gM fun M4 hM4 => ?_)
  have hf := ap_eq hf hM4
  refine g_iload_n (pc' := 11) dX12_wrongIs_10 rfl rfl ?_
  cases hf
  exact g_ireturn dX12_wrongIs_11 rfl (Nat.le_of_ble_eq_true rfl) (Nat.le_of_ble_eq_true rfl)
def f_X12_firstsOf_29 (k4 : Nat → Int32 → Int32 → Int32 → Mem → Option (Int32 × Mem)) (v0 : Nat) (v1 : Int32) (v3 : Int32) (w0 : Int32) (w1 : Int32) (M : Mem) : Option (Int32 × Mem) :=
  k4 v0 v1 (w0 + w1) (v3 + 1) M
def f_X12_firstsOf_4 : Nat → Nat → Int32 → Int32 → Int32 → Mem → Option (Int32 × Mem)
  | 0, _, _, _, _, _ => none
  | n + 1, v0, v1, v2, v3, M =>
    if mK M v0 = 13 then
      if mK M (mR M v0 28) = 21 then
        if inB v1 (mN M (mR M v0 28)) = true then
          if (mI M (mR M v0 28) v1.toNatClampNeg) ≤ v3 then
            some (v2, M)
          else
            bnd (f_X12_repAt v0 v1 v3 M) fun r6 M5 =>
            if r6 = 0 then
              f_X12_firstsOf_29 (f_X12_firstsOf_4 n) v0 v1 v3 v2 (1 : Int32) M5
            else
              f_X12_firstsOf_29 (f_X12_firstsOf_4 n) v0 v1 v3 v2 (0 : Int32) M5
        else none
      else none
    else none
def f_X12_firstsOf (v0 : Nat) (v1 : Int32) (M : Mem) : Option (Int32 × Mem) :=
  f_X12_firstsOf_4 FUEL v0 v1 (0 : Int32) (0 : Int32) M
theorem s_X12_firstsOf_29 (k4 : Nat → Int32 → Int32 → Int32 → Mem → Option (Int32 × Mem)) (hk4 : ∀ (v0 : Nat) (v1 : Int32) (v2 : Int32) (v3 : Int32) (M : Mem) (r : (Int32 × Mem)), k4 v0 v1 v2 v3 M = some r → G mi_X12_firstsOf 2 (oI r.1) r.2 4 [some (aR v0), some (aI v1), some (aI v2), some (aI v3)] [] M 0 0) (v0 : Nat) (v1 : Int32) (v3 : Int32) (w0 : Int32) (w1 : Int32) (M : Mem) (r : (Int32 × Mem)) (hf : f_X12_firstsOf_29 k4 v0 v1 v3 w0 w1 M = some r) : G mi_X12_firstsOf 2 (oI r.1) r.2 29 [some (aR v0), some (aI v1), none, some (aI v3)] [aI w1, aI w0] M 0 0 := by
  unfold f_X12_firstsOf_29 at hf
  refine g_iadd (pc' := 30) dX12_firstsOf_29 rfl ?_
  refine g_istore_n (pc' := 31) (lv' := [some (aR v0), some (aI v1), some (aI (w0 + w1)), some (aI v3)]) dX12_firstsOf_30 rfl rfl (by decide) rfl ?_
  refine g_iinc (pc' := 34) (lv' := [some (aR v0), some (aI v1), some (aI (w0 + w1)), some (aI (v3 + 1))]) (v3 + 1) dX12_firstsOf_31 rfl rfl (by rfl) rfl (by decide) rfl ?_
  refine g_goto (pc' := 4) dX12_firstsOf_34 (by decide) ?_
  exact hk4 v0 v1 (w0 + w1) (v3 + 1) M _ hf
theorem s_X12_firstsOf_4 : ∀ (n : Nat) (v0 : Nat) (v1 : Int32) (v2 : Int32) (v3 : Int32) (M : Mem) (r : (Int32 × Mem)), f_X12_firstsOf_4 n v0 v1 v2 v3 M = some r → G mi_X12_firstsOf 2 (oI r.1) r.2 4 [some (aR v0), some (aI v1), some (aI v2), some (aI v3)] [] M 0 0 := by
  intro n
  induction n with
  | zero => intro v0 v1 v2 v3 M r hf; cases hf
  | succ n ih =>
    intro v0 v1 v2 v3 M r hf
    unfold f_X12_firstsOf_4 at hf
    refine g_iload_n (pc' := 5) dX12_firstsOf_4 rfl rfl ?_
    refine g_aload_n (pc' := 6) dX12_firstsOf_5 rfl rfl ?_
    obtain ⟨h1, hf⟩ := chk_s hf
    refine g_getR (pc' := 9) 12 28 rfl rfl (by decide) inX12 (by decide) rfl rfl q_139 dX12_firstsOf_6 rfl h1 ?_
    refine g_iload_n (pc' := 10) dX12_firstsOf_9 rfl rfl ?_
    obtain ⟨h2, hf⟩ := chk_s hf
    obtain ⟨b3, hf⟩ := chk_s hf
    refine g_iald (pc' := 11) dX12_firstsOf_10 rfl h2 (inB_in b3) ?_
    refine g_icmp_ge (pc' := 14) 37 dX12_firstsOf_11 rfl (by decide) (fun c4 => ?_) (fun c4 => ?_)
    · have hf := ite_t c4 hf
      refine g_iload_n (pc' := 38) dX12_firstsOf_37 rfl rfl ?_
      cases hf
      exact g_ireturn dX12_firstsOf_38 rfl (Nat.le_of_ble_eq_true rfl) (Nat.le_of_ble_eq_true rfl)
    · have hf := ite_f c4 hf
      refine g_iload_n (pc' := 15) dX12_firstsOf_14 rfl rfl ?_
      refine g_aload_n (pc' := 16) dX12_firstsOf_15 rfl rfl ?_
      refine g_iload_n (pc' := 17) dX12_firstsOf_16 rfl rfl ?_
      refine g_iload_n (pc' := 18) dX12_firstsOf_17 rfl rfl ?_
      obtain ⟨r6, M5, e6, hf⟩ := bnd_some hf
      refine g_callVi (pc' := 21) (k' := 0) (u' := 0) (fr2 := 1) (As := [aI v1, aI v3]) (b := v0) (st := [aI v2]) cf_X12_repAt q_656 (by omega) (ci := 12) rfl rfl (by decide) dX12_firstsOf_18 rfl rfl rfl (Nat.le_of_ble_eq_true rfl) (Or.inl rfl) (Nat.le_refl _) (Nat.le_refl _) (Nat.le_refl _) (Nat.le_refl _) h1 (s_X12_repAt v0 v1 v3 M _ e6) ?_
      refine g_if_ne (pc' := 24) 28 dX12_firstsOf_21 rfl (by decide) (fun c7 => ?_) (fun c7 => ?_)
      · have hf := ite_f c7 hf
        refine g_iconst (pc' := 29) (0 : Int32) dX12_firstsOf_28 rfl (by decide) ?_
        refine g_mask [true, true, false, true] rfl ?_
        refine g_widen (k' := 0) (u' := 0) (by omega) (by omega) ?_
        exact s_X12_firstsOf_29 (f_X12_firstsOf_4 n) ih v0 v1 v3 v2 (0 : Int32) M5 _ hf
      · have hf := ite_t c7 hf
        refine g_iconst (pc' := 25) (1 : Int32) dX12_firstsOf_24 rfl (by decide) ?_
        refine g_goto (pc' := 29) dX12_firstsOf_25 (by decide) ?_
        refine g_mask [true, true, false, true] rfl ?_
        refine g_widen (k' := 0) (u' := 0) (by omega) (by omega) ?_
        exact s_X12_firstsOf_29 (f_X12_firstsOf_4 n) ih v0 v1 v3 v2 (1 : Int32) M5 _ hf
theorem s_X12_firstsOf (v0 : Nat) (v1 : Int32) (M : Mem) (r : (Int32 × Mem)) (hf : f_X12_firstsOf v0 v1 M = some r) : Sem mi_X12_firstsOf (2) [aR v0, aI v1] M (oI r.1) r.2 := by
  unfold f_X12_firstsOf at hf
  refine sem_of (by decide) rfl rfl rfl (Nat.le_of_ble_eq_true rfl) (lv := [some (aR v0), some (aI v1), none, none]) rfl ?_
  refine g_iconst (pc' := 1) (0 : Int32) dX12_firstsOf_0 rfl (by decide) ?_
  refine g_istore_n (pc' := 2) (lv' := [some (aR v0), some (aI v1), some (aI (0 : Int32)), none]) dX12_firstsOf_1 rfl rfl (by decide) rfl ?_
  refine g_iconst (pc' := 3) (0 : Int32) dX12_firstsOf_2 rfl (by decide) ?_
  refine g_istore_n (pc' := 4) (lv' := [some (aR v0), some (aI v1), some (aI (0 : Int32)), some (aI (0 : Int32))]) dX12_firstsOf_3 rfl rfl (by decide) rfl ?_
  exact s_X12_firstsOf_4 FUEL v0 v1 (0 : Int32) (0 : Int32) M _ hf
def f_X12_both_12 : Nat → Nat → Int32 → Int32 → Mem → Option (Int32 × Mem)
  | 0, _, _, _, _ => none
  | n + 1, v0, v2, v3, M =>
    if v3 = (-1 : Int32) then
      some (v3, M)
    else
      if mK M v0 = 13 then
        if mK M (mR M v0 25) = 21 then
          if inB v2 (mN M (mR M v0 25)) = true then
            bnd (f_X12_isInside v0 (mI M (mR M v0 25) v2.toNatClampNeg) v3 M) fun r6 M5 =>
            if r6 = 0 then
              if mK M5 v0 = 13 then
                if mK M5 (mR M5 v0 16) = 21 then
                  if inB v3 (mN M5 (mR M5 v0 16)) = true then
                    f_X12_both_12 n v0 v2 (mI M5 (mR M5 v0 16) v3.toNatClampNeg) M5
                  else none
                else none
              else none
            else
              some (v3, M5)
          else none
        else none
      else none
def f_X12_both (v0 : Nat) (v1 : Int32) (v2 : Int32) (M : Mem) : Option (Int32 × Mem) :=
  if mK M v0 = 13 then
    if mK M (mR M v0 25) = 21 then
      if inB v1 (mN M (mR M v0 25)) = true then
        if mK M (mR M v0 16) = 21 then
          if inB (mI M (mR M v0 25) v1.toNatClampNeg) (mN M (mR M v0 16)) = true then
            f_X12_both_12 FUEL v0 v2 (mI M (mR M v0 16) (mI M (mR M v0 25) v1.toNatClampNeg).toNatClampNeg) M
          else none
        else none
      else none
    else none
  else none
theorem s_X12_both_12 : ∀ (n : Nat) (v0 : Nat) (v2 : Int32) (v3 : Int32) (M : Mem) (r : (Int32 × Mem)), f_X12_both_12 n v0 v2 v3 M = some r → G mi_X12_both 2 (oI r.1) r.2 12 [some (aR v0), none, some (aI v2), some (aI v3)] [] M 0 0 := by
  intro n
  induction n with
  | zero => intro v0 v2 v3 M r hf; cases hf
  | succ n ih =>
    intro v0 v2 v3 M r hf
    unfold f_X12_both_12 at hf
    refine g_iload_n (pc' := 13) dX12_both_12 rfl rfl ?_
    refine g_iconst (pc' := 14) (-1 : Int32) dX12_both_13 rfl (by decide) ?_
    refine g_icmp_eq (pc' := 17) 41 dX12_both_14 rfl (by decide) (fun c1 => ?_) (fun c1 => ?_)
    · have hf := ite_t c1 hf
      refine g_iload_n (pc' := 42) dX12_both_41 rfl rfl ?_
      cases hf
      exact g_ireturn dX12_both_42 rfl (Nat.le_of_ble_eq_true rfl) (Nat.le_of_ble_eq_true rfl)
    · have hf := ite_f c1 hf
      refine g_aload_n (pc' := 18) dX12_both_17 rfl rfl ?_
      refine g_aload_n (pc' := 19) dX12_both_18 rfl rfl ?_
      obtain ⟨h2, hf⟩ := chk_s hf
      refine g_getR (pc' := 22) 12 25 rfl rfl (by decide) inX12 (by decide) rfl rfl q_137 dX12_both_19 rfl h2 ?_
      refine g_iload_n (pc' := 23) dX12_both_22 rfl rfl ?_
      obtain ⟨h3, hf⟩ := chk_s hf
      obtain ⟨b4, hf⟩ := chk_s hf
      refine g_iald (pc' := 24) dX12_both_23 rfl h3 (inB_in b4) ?_
      refine g_iload_n (pc' := 25) dX12_both_24 rfl rfl ?_
      obtain ⟨r6, M5, e6, hf⟩ := bnd_some hf
      refine g_callVi (pc' := 28) (k' := 0) (u' := 0) (fr2 := 1) (As := [aI (mI M (mR M v0 25) v2.toNatClampNeg), aI v3]) (b := v0) (st := []) cf_X12_isInside q_686 (by omega) (ci := 12) rfl rfl (by decide) dX12_both_25 rfl rfl rfl (Nat.le_of_ble_eq_true rfl) (Or.inl rfl) (Nat.le_refl _) (Nat.le_refl _) (Nat.le_refl _) (Nat.le_refl _) h2 (s_X12_isInside v0 (mI M (mR M v0 25) v2.toNatClampNeg) v3 M _ e6) ?_
      refine g_if_ne (pc' := 31) 41 dX12_both_28 rfl (by decide) (fun c7 => ?_) (fun c7 => ?_)
      · have hf := ite_f c7 hf
        refine g_iload_n (pc' := 42) dX12_both_41 rfl rfl ?_
        cases hf
        exact g_ireturn dX12_both_42 rfl (Nat.le_of_ble_eq_true rfl) (Nat.le_of_ble_eq_true rfl)
      · have hf := ite_t c7 hf
        refine g_aload_n (pc' := 32) dX12_both_31 rfl rfl ?_
        obtain ⟨h8, hf⟩ := chk_s hf
        refine g_getR (pc' := 35) 12 16 rfl rfl (by decide) inX12 (by decide) rfl rfl q_128 dX12_both_32 rfl h8 ?_
        refine g_iload_n (pc' := 36) dX12_both_35 rfl rfl ?_
        obtain ⟨h9, hf⟩ := chk_s hf
        obtain ⟨b10, hf⟩ := chk_s hf
        refine g_iald (pc' := 37) dX12_both_36 rfl h9 (inB_in b10) ?_
        refine g_istore_n (pc' := 38) (lv' := [some (aR v0), none, some (aI v2), some (aI (mI M5 (mR M5 v0 16) v3.toNatClampNeg))]) dX12_both_37 rfl rfl (by decide) rfl ?_
        refine g_goto (pc' := 12) dX12_both_38 (by decide) ?_
        refine g_widen (k' := 0) (u' := 0) (by omega) (by omega) ?_
        exact ih v0 v2 (mI M5 (mR M5 v0 16) v3.toNatClampNeg) M5 _ hf
theorem s_X12_both (v0 : Nat) (v1 : Int32) (v2 : Int32) (M : Mem) (r : (Int32 × Mem)) (hf : f_X12_both v0 v1 v2 M = some r) : Sem mi_X12_both (2) [aR v0, aI v1, aI v2] M (oI r.1) r.2 := by
  unfold f_X12_both at hf
  refine sem_of (by decide) rfl rfl rfl (Nat.le_of_ble_eq_true rfl) (lv := [some (aR v0), some (aI v1), some (aI v2), none]) rfl ?_
  refine g_aload_n (pc' := 1) dX12_both_0 rfl rfl ?_
  obtain ⟨h1, hf⟩ := chk_s hf
  refine g_getR (pc' := 4) 12 16 rfl rfl (by decide) inX12 (by decide) rfl rfl q_128 dX12_both_1 rfl h1 ?_
  refine g_aload_n (pc' := 5) dX12_both_4 rfl rfl ?_
  refine g_getR (pc' := 8) 12 25 rfl rfl (by decide) inX12 (by decide) rfl rfl q_137 dX12_both_5 rfl h1 ?_
  refine g_iload_n (pc' := 9) dX12_both_8 rfl rfl ?_
  obtain ⟨h2, hf⟩ := chk_s hf
  obtain ⟨b3, hf⟩ := chk_s hf
  refine g_iald (pc' := 10) dX12_both_9 rfl h2 (inB_in b3) ?_
  obtain ⟨h4, hf⟩ := chk_s hf
  obtain ⟨b5, hf⟩ := chk_s hf
  refine g_iald (pc' := 11) dX12_both_10 rfl h4 (inB_in b5) ?_
  refine g_istore_n (pc' := 12) (lv' := [some (aR v0), some (aI v1), some (aI v2), some (aI (mI M (mR M v0 16) (mI M (mR M v0 25) v1.toNatClampNeg).toNatClampNeg))]) dX12_both_11 rfl rfl (by decide) rfl ?_
  refine g_mask [true, false, true, true] rfl ?_
  exact s_X12_both_12 FUEL v0 v2 (mI M (mR M v0 16) (mI M (mR M v0 25) v1.toNatClampNeg).toNatClampNeg) M _ hf
def f_X12_stepIn_3 : Nat → Nat → Int32 → Int32 → Int32 → Mem → Option (Int32 × Mem)
  | 0, _, _, _, _, _ => none
  | n + 1, v0, v1, v3, v4, M =>
    if mK M v0 = 13 then
      if mK M (mR M v0 28) = 21 then
        if inB v1 (mN M (mR M v0 28)) = true then
          if (mI M (mR M v0 28) v1.toNatClampNeg) ≤ v4 then
            some (v4, M)
          else
            bnd (f_X12_repAt v0 v1 v4 M) fun r6 M5 =>
            if r6 ≤ v3 then
              some (v4, M5)
            else
              f_X12_stepIn_3 n v0 v1 v3 (v4 + 1) M5
        else none
      else none
    else none
def f_X12_stepIn (v0 : Nat) (v1 : Int32) (v2 : Int32) (v3 : Int32) (M : Mem) : Option (Int32 × Mem) :=
  f_X12_stepIn_3 FUEL v0 v1 v3 v2 M
theorem s_X12_stepIn_3 : ∀ (n : Nat) (v0 : Nat) (v1 : Int32) (v3 : Int32) (v4 : Int32) (M : Mem) (r : (Int32 × Mem)), f_X12_stepIn_3 n v0 v1 v3 v4 M = some r → G mi_X12_stepIn 2 (oI r.1) r.2 3 [some (aR v0), some (aI v1), none, some (aI v3), some (aI v4)] [] M 0 0 := by
  intro n
  induction n with
  | zero => intro v0 v1 v3 v4 M r hf; cases hf
  | succ n ih =>
    intro v0 v1 v3 v4 M r hf
    unfold f_X12_stepIn_3 at hf
    refine g_iload (pc' := 5) dX12_stepIn_3 rfl rfl ?_
    refine g_aload_n (pc' := 6) dX12_stepIn_5 rfl rfl ?_
    obtain ⟨h1, hf⟩ := chk_s hf
    refine g_getR (pc' := 9) 12 28 rfl rfl (by decide) inX12 (by decide) rfl rfl q_139 dX12_stepIn_6 rfl h1 ?_
    refine g_iload_n (pc' := 10) dX12_stepIn_9 rfl rfl ?_
    obtain ⟨h2, hf⟩ := chk_s hf
    obtain ⟨b3, hf⟩ := chk_s hf
    refine g_iald (pc' := 11) dX12_stepIn_10 rfl h2 (inB_in b3) ?_
    refine g_icmp_ge (pc' := 14) 31 dX12_stepIn_11 rfl (by decide) (fun c4 => ?_) (fun c4 => ?_)
    · have hf := ite_t c4 hf
      refine g_iload (pc' := 33) dX12_stepIn_31 rfl rfl ?_
      cases hf
      exact g_ireturn dX12_stepIn_33 rfl (Nat.le_of_ble_eq_true rfl) (Nat.le_of_ble_eq_true rfl)
    · have hf := ite_f c4 hf
      refine g_aload_n (pc' := 15) dX12_stepIn_14 rfl rfl ?_
      refine g_iload_n (pc' := 16) dX12_stepIn_15 rfl rfl ?_
      refine g_iload (pc' := 18) dX12_stepIn_16 rfl rfl ?_
      obtain ⟨r6, M5, e6, hf⟩ := bnd_some hf
      refine g_callVi (pc' := 21) (k' := 0) (u' := 0) (fr2 := 1) (As := [aI v1, aI v4]) (b := v0) (st := []) cf_X12_repAt q_656 (by omega) (ci := 12) rfl rfl (by decide) dX12_stepIn_18 rfl rfl rfl (Nat.le_of_ble_eq_true rfl) (Or.inl rfl) (Nat.le_refl _) (Nat.le_refl _) (Nat.le_refl _) (Nat.le_refl _) h1 (s_X12_repAt v0 v1 v4 M _ e6) ?_
      refine g_iload_n (pc' := 22) dX12_stepIn_21 rfl rfl ?_
      refine g_icmp_le (pc' := 25) 31 dX12_stepIn_22 rfl (by decide) (fun c7 => ?_) (fun c7 => ?_)
      · have hf := ite_t c7 hf
        refine g_iload (pc' := 33) dX12_stepIn_31 rfl rfl ?_
        cases hf
        exact g_ireturn dX12_stepIn_33 rfl (Nat.le_of_ble_eq_true rfl) (Nat.le_of_ble_eq_true rfl)
      · have hf := ite_f c7 hf
        refine g_iinc (pc' := 28) (lv' := [some (aR v0), some (aI v1), none, some (aI v3), some (aI (v4 + 1))]) (v4 + 1) dX12_stepIn_25 rfl rfl (by rfl) rfl (by decide) rfl ?_
        refine g_goto (pc' := 3) dX12_stepIn_28 (by decide) ?_
        refine g_widen (k' := 0) (u' := 0) (by omega) (by omega) ?_
        exact ih v0 v1 v3 (v4 + 1) M5 _ hf
theorem s_X12_stepIn (v0 : Nat) (v1 : Int32) (v2 : Int32) (v3 : Int32) (M : Mem) (r : (Int32 × Mem)) (hf : f_X12_stepIn v0 v1 v2 v3 M = some r) : Sem mi_X12_stepIn (2) [aR v0, aI v1, aI v2, aI v3] M (oI r.1) r.2 := by
  unfold f_X12_stepIn at hf
  refine sem_of (by decide) rfl rfl rfl (Nat.le_of_ble_eq_true rfl) (lv := [some (aR v0), some (aI v1), some (aI v2), some (aI v3), none]) rfl ?_
  refine g_iload_n (pc' := 1) dX12_stepIn_0 rfl rfl ?_
  refine g_istore (pc' := 3) (lv' := [some (aR v0), some (aI v1), some (aI v2), some (aI v3), some (aI v2)]) dX12_stepIn_1 rfl rfl (by decide) rfl ?_
  refine g_mask [true, true, false, true, true] rfl ?_
  exact s_X12_stepIn_3 FUEL v0 v1 v3 v2 M _ hf
def f_X12_unlikeAhead_166 (v0 : Nat) (v1 : Int32) (v5 : Int32) (v6 : Int32) (M : Mem) : Option (Int32 × Mem) :=
  if mK M v0 = 13 then
    if mK M (mR M v0 28) = 21 then
      if inB (v1 - (1 : Int32)) (mN M (mR M v0 28)) = true then
        if v5 = (mI M (mR M v0 28) (v1 - (1 : Int32)).toNatClampNeg) then
          if inB v1 (mN M (mR M v0 28)) = true then
            if v6 = (mI M (mR M v0 28) v1.toNatClampNeg) then
              some ((-1 : Int32), M)
            else
              some (v6, M)
          else none
        else
          some (v6, M)
      else none
    else none
  else none
def f_X12_unlikeAhead_62 : Nat → Nat → Int32 → Int32 → Int32 → Int32 → Int32 → Mem → Option (Int32 × Mem)
  | 0, _, _, _, _, _, _, _ => none
  | n + 1, v0, v1, v3, v4, v5, v6, M =>
    if mK M v0 = 13 then
      if mK M (mR M v0 28) = 21 then
        if inB (v1 - (1 : Int32)) (mN M (mR M v0 28)) = true then
          if (mI M (mR M v0 28) (v1 - (1 : Int32)).toNatClampNeg) ≤ v5 then
            f_X12_unlikeAhead_166 v0 v1 v5 v6 M
          else
            if inB v1 (mN M (mR M v0 28)) = true then
              if (mI M (mR M v0 28) v1.toNatClampNeg) ≤ v6 then
                f_X12_unlikeAhead_166 v0 v1 v5 v6 M
              else
                bnd (f_X12_repAt v0 (v1 - (1 : Int32)) v5 M) fun r8 M7 =>
                if mK M7 v0 = 13 then
                  bnd (f_X12_repAt v0 v1 v6 M7) fun r11 M10 =>
                  if r8 = r11 then
                    if mK M10 v0 = 13 then
                      bnd (f_X12_defAt v0 (v1 - (1 : Int32)) v5 M10) fun r15 M14 =>
                      if mK M14 v0 = 13 then
                        bnd (f_X12_defAt v0 v1 v6 M14) fun r18 M17 =>
                        if (if r15 < v4 then r15 else v4) = (if r18 < v4 then r18 else v4) then
                          if mK M17 v0 = 13 then
                            bnd (f_X12_stepIn v0 (v1 - (1 : Int32)) (v5 + (1 : Int32)) v3 M17) fun r22 M21 =>
                            if mK M21 v0 = 13 then
                              bnd (f_X12_stepIn v0 v1 (v6 + (1 : Int32)) v3 M21) fun r25 M24 =>
                              f_X12_unlikeAhead_62 n v0 v1 v3 v4 r22 r25 M24
                            else none
                          else none
                        else
                          some (v6, M17)
                      else none
                    else none
                  else
                    some (v6, M10)
                else none
            else none
        else none
      else none
    else none
def f_X12_unlikeAhead_40 (v0 : Nat) (v1 : Int32) (v3 : Int32) (w0 : Int32) (M : Mem) : Option (Int32 × Mem) :=
  if mK M v0 = 13 then
    bnd (f_X12_stepIn v0 (v1 - (1 : Int32)) (0 : Int32) v3 M) fun r3 M2 =>
    if mK M2 v0 = 13 then
      bnd (f_X12_stepIn v0 v1 (0 : Int32) v3 M2) fun r6 M5 =>
      f_X12_unlikeAhead_62 FUEL v0 v1 v3 w0 r3 r6 M5
    else none
  else none
def f_X12_unlikeAhead_24 (v0 : Nat) (v1 : Int32) (v2 : Int32) (w0 : Int32) (M : Mem) : Option (Int32 × Mem) :=
  if v2 = (-1 : Int32) then
    f_X12_unlikeAhead_40 v0 v1 w0 (0 : Int32) M
  else
    if mK M v0 = 13 then
      if mK M (mR M v0 18) = 21 then
        if inB v2 (mN M (mR M v0 18)) = true then
          f_X12_unlikeAhead_40 v0 v1 w0 (mI M (mR M v0 18) v2.toNatClampNeg) M
        else none
      else none
    else none
def f_X12_unlikeAhead (v0 : Nat) (v1 : Int32) (M : Mem) : Option (Int32 × Mem) :=
  if mK M v0 = 13 then
    bnd (f_X12_both v0 (v1 - (1 : Int32)) v1 M) fun r3 M2 =>
    if r3 = (-1 : Int32) then
      f_X12_unlikeAhead_24 v0 v1 r3 (0 : Int32) M2
    else
      if mK M2 v0 = 13 then
        if mK M2 (mR M2 v0 19) = 21 then
          if inB r3 (mN M2 (mR M2 v0 19)) = true then
            f_X12_unlikeAhead_24 v0 v1 r3 (mI M2 (mR M2 v0 19) r3.toNatClampNeg) M2
          else none
        else none
      else none
  else none
theorem s_X12_unlikeAhead_166 (v0 : Nat) (v1 : Int32) (v5 : Int32) (v6 : Int32) (M : Mem) (r : (Int32 × Mem)) (hf : f_X12_unlikeAhead_166 v0 v1 v5 v6 M = some r) : G mi_X12_unlikeAhead 3 (oI r.1) r.2 166 [some (aR v0), some (aI v1), none, none, none, some (aI v5), some (aI v6)] [] M 0 0 := by
  unfold f_X12_unlikeAhead_166 at hf
  refine g_iload (pc' := 168) dX12_unlikeAhead_166 rfl rfl ?_
  refine g_aload_n (pc' := 169) dX12_unlikeAhead_168 rfl rfl ?_
  obtain ⟨h1, hf⟩ := chk_s hf
  refine g_getR (pc' := 172) 12 28 rfl rfl (by decide) inX12 (by decide) rfl rfl q_139 dX12_unlikeAhead_169 rfl h1 ?_
  refine g_iload_n (pc' := 173) dX12_unlikeAhead_172 rfl rfl ?_
  refine g_iconst (pc' := 174) (1 : Int32) dX12_unlikeAhead_173 rfl (by decide) ?_
  refine g_isub (pc' := 175) dX12_unlikeAhead_174 rfl ?_
  obtain ⟨h2, hf⟩ := chk_s hf
  obtain ⟨b3, hf⟩ := chk_s hf
  refine g_iald (pc' := 176) dX12_unlikeAhead_175 rfl h2 (inB_in b3) ?_
  refine g_icmp_ne (pc' := 179) 194 dX12_unlikeAhead_176 rfl (by decide) (fun c4 => ?_) (fun c4 => ?_)
  · have hf := ite_f c4 hf
    refine g_iload (pc' := 196) dX12_unlikeAhead_194 rfl rfl ?_
    cases hf
    exact g_ireturn dX12_unlikeAhead_196 rfl (Nat.le_of_ble_eq_true rfl) (Nat.le_of_ble_eq_true rfl)
  · have hf := ite_t c4 hf
    refine g_iload (pc' := 181) dX12_unlikeAhead_179 rfl rfl ?_
    refine g_aload_n (pc' := 182) dX12_unlikeAhead_181 rfl rfl ?_
    refine g_getR (pc' := 185) 12 28 rfl rfl (by decide) inX12 (by decide) rfl rfl q_139 dX12_unlikeAhead_182 rfl h1 ?_
    refine g_iload_n (pc' := 186) dX12_unlikeAhead_185 rfl rfl ?_
    obtain ⟨b5, hf⟩ := chk_s hf
    refine g_iald (pc' := 187) dX12_unlikeAhead_186 rfl h2 (inB_in b5) ?_
    refine g_icmp_ne (pc' := 190) 194 dX12_unlikeAhead_187 rfl (by decide) (fun c6 => ?_) (fun c6 => ?_)
    · have hf := ite_f c6 hf
      refine g_iload (pc' := 196) dX12_unlikeAhead_194 rfl rfl ?_
      cases hf
      exact g_ireturn dX12_unlikeAhead_196 rfl (Nat.le_of_ble_eq_true rfl) (Nat.le_of_ble_eq_true rfl)
    · have hf := ite_t c6 hf
      refine g_iconst (pc' := 191) (-1 : Int32) dX12_unlikeAhead_190 rfl (by decide) ?_
      refine g_goto (pc' := 196) dX12_unlikeAhead_191 (by decide) ?_
      cases hf
      exact g_ireturn dX12_unlikeAhead_196 rfl (Nat.le_of_ble_eq_true rfl) (Nat.le_of_ble_eq_true rfl)
theorem s_X12_unlikeAhead_62 : ∀ (n : Nat) (v0 : Nat) (v1 : Int32) (v3 : Int32) (v4 : Int32) (v5 : Int32) (v6 : Int32) (M : Mem) (r : (Int32 × Mem)), f_X12_unlikeAhead_62 n v0 v1 v3 v4 v5 v6 M = some r → G mi_X12_unlikeAhead 3 (oI r.1) r.2 62 [some (aR v0), some (aI v1), none, some (aI v3), some (aI v4), some (aI v5), some (aI v6)] [] M 0 0 := by
  intro n
  induction n with
  | zero => intro v0 v1 v3 v4 v5 v6 M r hf; cases hf
  | succ n ih =>
    intro v0 v1 v3 v4 v5 v6 M r hf
    unfold f_X12_unlikeAhead_62 at hf
    refine g_iload (pc' := 64) dX12_unlikeAhead_62 rfl rfl ?_
    refine g_aload_n (pc' := 65) dX12_unlikeAhead_64 rfl rfl ?_
    obtain ⟨h1, hf⟩ := chk_s hf
    refine g_getR (pc' := 68) 12 28 rfl rfl (by decide) inX12 (by decide) rfl rfl q_139 dX12_unlikeAhead_65 rfl h1 ?_
    refine g_iload_n (pc' := 69) dX12_unlikeAhead_68 rfl rfl ?_
    refine g_iconst (pc' := 70) (1 : Int32) dX12_unlikeAhead_69 rfl (by decide) ?_
    refine g_isub (pc' := 71) dX12_unlikeAhead_70 rfl ?_
    obtain ⟨h2, hf⟩ := chk_s hf
    obtain ⟨b3, hf⟩ := chk_s hf
    refine g_iald (pc' := 72) dX12_unlikeAhead_71 rfl h2 (inB_in b3) ?_
    refine g_icmp_ge (pc' := 75) 166 dX12_unlikeAhead_72 rfl (by decide) (fun c4 => ?_) (fun c4 => ?_)
    · have hf := ite_t c4 hf
      refine g_mask [true, true, true, false, false, true, true] rfl ?_
      exact s_X12_unlikeAhead_166 v0 v1 v5 v6 M _ hf
    · have hf := ite_f c4 hf
      refine g_iload (pc' := 77) dX12_unlikeAhead_75 rfl rfl ?_
      refine g_aload_n (pc' := 78) dX12_unlikeAhead_77 rfl rfl ?_
      refine g_getR (pc' := 81) 12 28 rfl rfl (by decide) inX12 (by decide) rfl rfl q_139 dX12_unlikeAhead_78 rfl h1 ?_
      refine g_iload_n (pc' := 82) dX12_unlikeAhead_81 rfl rfl ?_
      obtain ⟨b5, hf⟩ := chk_s hf
      refine g_iald (pc' := 83) dX12_unlikeAhead_82 rfl h2 (inB_in b5) ?_
      refine g_icmp_ge (pc' := 86) 166 dX12_unlikeAhead_83 rfl (by decide) (fun c6 => ?_) (fun c6 => ?_)
      · have hf := ite_t c6 hf
        refine g_mask [true, true, true, false, false, true, true] rfl ?_
        exact s_X12_unlikeAhead_166 v0 v1 v5 v6 M _ hf
      · have hf := ite_f c6 hf
        refine g_aload_n (pc' := 87) dX12_unlikeAhead_86 rfl rfl ?_
        refine g_iload_n (pc' := 88) dX12_unlikeAhead_87 rfl rfl ?_
        refine g_iconst (pc' := 89) (1 : Int32) dX12_unlikeAhead_88 rfl (by decide) ?_
        refine g_isub (pc' := 90) dX12_unlikeAhead_89 rfl ?_
        refine g_iload (pc' := 92) dX12_unlikeAhead_90 rfl rfl ?_
        obtain ⟨r8, M7, e8, hf⟩ := bnd_some hf
        refine g_callVi (pc' := 95) (k' := 0) (u' := 0) (fr2 := 1) (As := [aI (v1 - (1 : Int32)), aI v5]) (b := v0) (st := []) cf_X12_repAt q_656 (by omega) (ci := 12) rfl rfl (by decide) dX12_unlikeAhead_92 rfl rfl rfl (Nat.le_of_ble_eq_true rfl) (Or.inl rfl) (Nat.le_refl _) (Nat.le_refl _) (Nat.le_refl _) (Nat.le_refl _) h1 (s_X12_repAt v0 (v1 - (1 : Int32)) v5 M _ e8) ?_
        refine g_aload_n (pc' := 96) dX12_unlikeAhead_95 rfl rfl ?_
        refine g_iload_n (pc' := 97) dX12_unlikeAhead_96 rfl rfl ?_
        refine g_iload (pc' := 99) dX12_unlikeAhead_97 rfl rfl ?_
        obtain ⟨h9, hf⟩ := chk_s hf
        obtain ⟨r11, M10, e11, hf⟩ := bnd_some hf
        refine g_callVi (pc' := 102) (k' := 0) (u' := 0) (fr2 := 1) (As := [aI v1, aI v6]) (b := v0) (st := [aI r8]) cf_X12_repAt q_656 (by omega) (ci := 12) rfl rfl (by decide) dX12_unlikeAhead_99 rfl rfl rfl (Nat.le_of_ble_eq_true rfl) (Or.inl rfl) (Nat.le_refl _) (Nat.le_refl _) (Nat.le_refl _) (Nat.le_refl _) h9 (s_X12_repAt v0 v1 v6 M7 _ e11) ?_
        refine g_icmp_ne (pc' := 105) 134 dX12_unlikeAhead_102 rfl (by decide) (fun c12 => ?_) (fun c12 => ?_)
        · have hf := ite_f c12 hf
          refine g_iload (pc' := 136) dX12_unlikeAhead_134 rfl rfl ?_
          cases hf
          exact g_ireturn dX12_unlikeAhead_136 rfl (Nat.le_of_ble_eq_true rfl) (Nat.le_of_ble_eq_true rfl)
        · have hf := ite_t c12 hf
          refine g_iload (pc' := 107) dX12_unlikeAhead_105 rfl rfl ?_
          refine g_aload_n (pc' := 108) dX12_unlikeAhead_107 rfl rfl ?_
          refine g_iload_n (pc' := 109) dX12_unlikeAhead_108 rfl rfl ?_
          refine g_iconst (pc' := 110) (1 : Int32) dX12_unlikeAhead_109 rfl (by decide) ?_
          refine g_isub (pc' := 111) dX12_unlikeAhead_110 rfl ?_
          refine g_iload (pc' := 113) dX12_unlikeAhead_111 rfl rfl ?_
          obtain ⟨h13, hf⟩ := chk_s hf
          obtain ⟨r15, M14, e15, hf⟩ := bnd_some hf
          refine g_callVi (pc' := 116) (k' := 0) (u' := 0) (fr2 := 1) (As := [aI (v1 - (1 : Int32)), aI v5]) (b := v0) (st := [aI v4]) cf_X12_defAt q_660 (by omega) (ci := 12) rfl rfl (by decide) dX12_unlikeAhead_113 rfl rfl rfl (Nat.le_of_ble_eq_true rfl) (Or.inl rfl) (Nat.le_refl _) (Nat.le_refl _) (Nat.le_refl _) (Nat.le_refl _) h13 (s_X12_defAt v0 (v1 - (1 : Int32)) v5 M10 _ e15) ?_
          refine g_min (pc' := 119) q_386 q_387 wall_i_java_lang_Math q_389 (by omega) (Nat.le_of_ble_eq_true rfl) (Nat.le_of_ble_eq_true rfl) (Nat.le_of_ble_eq_true rfl) dX12_unlikeAhead_116 rfl ?_
          refine g_iload (pc' := 121) dX12_unlikeAhead_119 rfl rfl ?_
          refine g_aload_n (pc' := 122) dX12_unlikeAhead_121 rfl rfl ?_
          refine g_iload_n (pc' := 123) dX12_unlikeAhead_122 rfl rfl ?_
          refine g_iload (pc' := 125) dX12_unlikeAhead_123 rfl rfl ?_
          obtain ⟨h16, hf⟩ := chk_s hf
          obtain ⟨r18, M17, e18, hf⟩ := bnd_some hf
          refine g_callVi (pc' := 128) (k' := 0) (u' := 0) (fr2 := 1) (As := [aI v1, aI v6]) (b := v0) (st := [aI v4, aI (if r15 < v4 then r15 else v4)]) cf_X12_defAt q_660 (by omega) (ci := 12) rfl rfl (by decide) dX12_unlikeAhead_125 rfl rfl rfl (Nat.le_of_ble_eq_true rfl) (Or.inl rfl) (Nat.le_refl _) (Nat.le_refl _) (Nat.le_refl _) (Nat.le_refl _) h16 (s_X12_defAt v0 v1 v6 M14 _ e18) ?_
          refine g_min (pc' := 131) q_386 q_387 wall_i_java_lang_Math q_389 (by omega) (Nat.le_of_ble_eq_true rfl) (Nat.le_of_ble_eq_true rfl) (Nat.le_of_ble_eq_true rfl) dX12_unlikeAhead_128 rfl ?_
          refine g_icmp_eq (pc' := 134) 137 dX12_unlikeAhead_131 rfl (by decide) (fun c19 => ?_) (fun c19 => ?_)
          · have hf := ite_t c19 hf
            refine g_aload_n (pc' := 138) dX12_unlikeAhead_137 rfl rfl ?_
            refine g_iload_n (pc' := 139) dX12_unlikeAhead_138 rfl rfl ?_
            refine g_iconst (pc' := 140) (1 : Int32) dX12_unlikeAhead_139 rfl (by decide) ?_
            refine g_isub (pc' := 141) dX12_unlikeAhead_140 rfl ?_
            refine g_iload (pc' := 143) dX12_unlikeAhead_141 rfl rfl ?_
            refine g_iconst (pc' := 144) (1 : Int32) dX12_unlikeAhead_143 rfl (by decide) ?_
            refine g_iadd (pc' := 145) dX12_unlikeAhead_144 rfl ?_
            refine g_iload_n (pc' := 146) dX12_unlikeAhead_145 rfl rfl ?_
            obtain ⟨h20, hf⟩ := chk_s hf
            obtain ⟨r22, M21, e22, hf⟩ := bnd_some hf
            refine g_callVi (pc' := 149) (k' := 0) (u' := 0) (fr2 := 2) (As := [aI (v1 - (1 : Int32)), aI (v5 + (1 : Int32)), aI v3]) (b := v0) (st := []) cf_X12_stepIn q_690 (by omega) (ci := 12) rfl rfl (by decide) dX12_unlikeAhead_146 rfl rfl rfl (Nat.le_of_ble_eq_true rfl) (Or.inl rfl) (Nat.le_refl _) (Nat.le_refl _) (Nat.le_refl _) (Nat.le_refl _) h20 (s_X12_stepIn v0 (v1 - (1 : Int32)) (v5 + (1 : Int32)) v3 M17 _ e22) ?_
            refine g_istore (pc' := 151) (lv' := [some (aR v0), some (aI v1), none, some (aI v3), some (aI v4), some (aI r22), some (aI v6)]) dX12_unlikeAhead_149 rfl rfl (by decide) rfl ?_
            refine g_aload_n (pc' := 152) dX12_unlikeAhead_151 rfl rfl ?_
            refine g_iload_n (pc' := 153) dX12_unlikeAhead_152 rfl rfl ?_
            refine g_iload (pc' := 155) dX12_unlikeAhead_153 rfl rfl ?_
            refine g_iconst (pc' := 156) (1 : Int32) dX12_unlikeAhead_155 rfl (by decide) ?_
            refine g_iadd (pc' := 157) dX12_unlikeAhead_156 rfl ?_
            refine g_iload_n (pc' := 158) dX12_unlikeAhead_157 rfl rfl ?_
            obtain ⟨h23, hf⟩ := chk_s hf
            obtain ⟨r25, M24, e25, hf⟩ := bnd_some hf
            refine g_callVi (pc' := 161) (k' := 0) (u' := 0) (fr2 := 2) (As := [aI v1, aI (v6 + (1 : Int32)), aI v3]) (b := v0) (st := []) cf_X12_stepIn q_690 (by omega) (ci := 12) rfl rfl (by decide) dX12_unlikeAhead_158 rfl rfl rfl (Nat.le_of_ble_eq_true rfl) (Or.inl rfl) (Nat.le_refl _) (Nat.le_refl _) (Nat.le_refl _) (Nat.le_refl _) h23 (s_X12_stepIn v0 v1 (v6 + (1 : Int32)) v3 M21 _ e25) ?_
            refine g_istore (pc' := 163) (lv' := [some (aR v0), some (aI v1), none, some (aI v3), some (aI v4), some (aI r22), some (aI r25)]) dX12_unlikeAhead_161 rfl rfl (by decide) rfl ?_
            refine g_goto (pc' := 62) dX12_unlikeAhead_163 (by decide) ?_
            refine g_widen (k' := 0) (u' := 0) (by omega) (by omega) ?_
            exact ih v0 v1 v3 v4 r22 r25 M24 _ hf
          · have hf := ite_f c19 hf
            refine g_iload (pc' := 136) dX12_unlikeAhead_134 rfl rfl ?_
            cases hf
            exact g_ireturn dX12_unlikeAhead_136 rfl (Nat.le_of_ble_eq_true rfl) (Nat.le_of_ble_eq_true rfl)
theorem s_X12_unlikeAhead_40 (v0 : Nat) (v1 : Int32) (v3 : Int32) (w0 : Int32) (M : Mem) (r : (Int32 × Mem)) (hf : f_X12_unlikeAhead_40 v0 v1 v3 w0 M = some r) : G mi_X12_unlikeAhead 3 (oI r.1) r.2 40 [some (aR v0), some (aI v1), none, some (aI v3), none, none, none] [aI w0] M 0 0 := by
  unfold f_X12_unlikeAhead_40 at hf
  refine g_istore (pc' := 42) (lv' := [some (aR v0), some (aI v1), none, some (aI v3), some (aI w0), none, none]) dX12_unlikeAhead_40 rfl rfl (by decide) rfl ?_
  refine g_aload_n (pc' := 43) dX12_unlikeAhead_42 rfl rfl ?_
  refine g_iload_n (pc' := 44) dX12_unlikeAhead_43 rfl rfl ?_
  refine g_iconst (pc' := 45) (1 : Int32) dX12_unlikeAhead_44 rfl (by decide) ?_
  refine g_isub (pc' := 46) dX12_unlikeAhead_45 rfl ?_
  refine g_iconst (pc' := 47) (0 : Int32) dX12_unlikeAhead_46 rfl (by decide) ?_
  refine g_iload_n (pc' := 48) dX12_unlikeAhead_47 rfl rfl ?_
  obtain ⟨h1, hf⟩ := chk_s hf
  obtain ⟨r3, M2, e3, hf⟩ := bnd_some hf
  refine g_callVi (pc' := 51) (k' := 0) (u' := 0) (fr2 := 2) (As := [aI (v1 - (1 : Int32)), aI (0 : Int32), aI v3]) (b := v0) (st := []) cf_X12_stepIn q_690 (by omega) (ci := 12) rfl rfl (by decide) dX12_unlikeAhead_48 rfl rfl rfl (Nat.le_of_ble_eq_true rfl) (Or.inl rfl) (Nat.le_refl _) (Nat.le_refl _) (Nat.le_refl _) (Nat.le_refl _) h1 (s_X12_stepIn v0 (v1 - (1 : Int32)) (0 : Int32) v3 M _ e3) ?_
  refine g_istore (pc' := 53) (lv' := [some (aR v0), some (aI v1), none, some (aI v3), some (aI w0), some (aI r3), none]) dX12_unlikeAhead_51 rfl rfl (by decide) rfl ?_
  refine g_aload_n (pc' := 54) dX12_unlikeAhead_53 rfl rfl ?_
  refine g_iload_n (pc' := 55) dX12_unlikeAhead_54 rfl rfl ?_
  refine g_iconst (pc' := 56) (0 : Int32) dX12_unlikeAhead_55 rfl (by decide) ?_
  refine g_iload_n (pc' := 57) dX12_unlikeAhead_56 rfl rfl ?_
  obtain ⟨h4, hf⟩ := chk_s hf
  obtain ⟨r6, M5, e6, hf⟩ := bnd_some hf
  refine g_callVi (pc' := 60) (k' := 0) (u' := 0) (fr2 := 2) (As := [aI v1, aI (0 : Int32), aI v3]) (b := v0) (st := []) cf_X12_stepIn q_690 (by omega) (ci := 12) rfl rfl (by decide) dX12_unlikeAhead_57 rfl rfl rfl (Nat.le_of_ble_eq_true rfl) (Or.inl rfl) (Nat.le_refl _) (Nat.le_refl _) (Nat.le_refl _) (Nat.le_refl _) h4 (s_X12_stepIn v0 v1 (0 : Int32) v3 M2 _ e6) ?_
  refine g_istore (pc' := 62) (lv' := [some (aR v0), some (aI v1), none, some (aI v3), some (aI w0), some (aI r3), some (aI r6)]) dX12_unlikeAhead_60 rfl rfl (by decide) rfl ?_
  refine g_widen (k' := 0) (u' := 0) (by omega) (by omega) ?_
  exact s_X12_unlikeAhead_62 FUEL v0 v1 v3 w0 r3 r6 M5 _ hf
theorem s_X12_unlikeAhead_24 (v0 : Nat) (v1 : Int32) (v2 : Int32) (w0 : Int32) (M : Mem) (r : (Int32 × Mem)) (hf : f_X12_unlikeAhead_24 v0 v1 v2 w0 M = some r) : G mi_X12_unlikeAhead 3 (oI r.1) r.2 24 [some (aR v0), some (aI v1), some (aI v2), none, none, none, none] [aI w0] M 0 0 := by
  unfold f_X12_unlikeAhead_24 at hf
  refine g_istore_n (pc' := 25) (lv' := [some (aR v0), some (aI v1), some (aI v2), some (aI w0), none, none, none]) dX12_unlikeAhead_24 rfl rfl (by decide) rfl ?_
  refine g_iload_n (pc' := 26) dX12_unlikeAhead_25 rfl rfl ?_
  refine g_iconst (pc' := 27) (-1 : Int32) dX12_unlikeAhead_26 rfl (by decide) ?_
  refine g_icmp_ne (pc' := 30) 34 dX12_unlikeAhead_27 rfl (by decide) (fun c1 => ?_) (fun c1 => ?_)
  · have hf := ite_f c1 hf
    refine g_aload_n (pc' := 35) dX12_unlikeAhead_34 rfl rfl ?_
    obtain ⟨h2, hf⟩ := chk_s hf
    refine g_getR (pc' := 38) 12 18 rfl rfl (by decide) inX12 (by decide) rfl rfl q_130 dX12_unlikeAhead_35 rfl h2 ?_
    refine g_iload_n (pc' := 39) dX12_unlikeAhead_38 rfl rfl ?_
    obtain ⟨h3, hf⟩ := chk_s hf
    obtain ⟨b4, hf⟩ := chk_s hf
    refine g_iald (pc' := 40) dX12_unlikeAhead_39 rfl h3 (inB_in b4) ?_
    refine g_mask [true, true, false, true, true, true, true] rfl ?_
    exact s_X12_unlikeAhead_40 v0 v1 w0 (mI M (mR M v0 18) v2.toNatClampNeg) M _ hf
  · have hf := ite_t c1 hf
    refine g_iconst (pc' := 31) (0 : Int32) dX12_unlikeAhead_30 rfl (by decide) ?_
    refine g_goto (pc' := 40) dX12_unlikeAhead_31 (by decide) ?_
    refine g_mask [true, true, false, true, true, true, true] rfl ?_
    exact s_X12_unlikeAhead_40 v0 v1 w0 (0 : Int32) M _ hf
theorem s_X12_unlikeAhead (v0 : Nat) (v1 : Int32) (M : Mem) (r : (Int32 × Mem)) (hf : f_X12_unlikeAhead v0 v1 M = some r) : Sem mi_X12_unlikeAhead (3) [aR v0, aI v1] M (oI r.1) r.2 := by
  unfold f_X12_unlikeAhead at hf
  refine sem_of (by decide) rfl rfl rfl (Nat.le_of_ble_eq_true rfl) (lv := [some (aR v0), some (aI v1), none, none, none, none, none]) rfl ?_
  refine g_aload_n (pc' := 1) dX12_unlikeAhead_0 rfl rfl ?_
  refine g_iload_n (pc' := 2) dX12_unlikeAhead_1 rfl rfl ?_
  refine g_iconst (pc' := 3) (1 : Int32) dX12_unlikeAhead_2 rfl (by decide) ?_
  refine g_isub (pc' := 4) dX12_unlikeAhead_3 rfl ?_
  refine g_iload_n (pc' := 5) dX12_unlikeAhead_4 rfl rfl ?_
  obtain ⟨h1, hf⟩ := chk_s hf
  obtain ⟨r3, M2, e3, hf⟩ := bnd_some hf
  refine g_callVi (pc' := 8) (k' := 0) (u' := 0) (fr2 := 2) (As := [aI (v1 - (1 : Int32)), aI v1]) (b := v0) (st := []) cf_X12_both q_682 (by omega) (ci := 12) rfl rfl (by decide) dX12_unlikeAhead_5 rfl rfl rfl (Nat.le_of_ble_eq_true rfl) (Or.inl rfl) (Nat.le_refl _) (Nat.le_refl _) (Nat.le_refl _) (Nat.le_refl _) h1 (s_X12_both v0 (v1 - (1 : Int32)) v1 M _ e3) ?_
  refine g_istore_n (pc' := 9) (lv' := [some (aR v0), some (aI v1), some (aI r3), none, none, none, none]) dX12_unlikeAhead_8 rfl rfl (by decide) rfl ?_
  refine g_iload_n (pc' := 10) dX12_unlikeAhead_9 rfl rfl ?_
  refine g_iconst (pc' := 11) (-1 : Int32) dX12_unlikeAhead_10 rfl (by decide) ?_
  refine g_icmp_ne (pc' := 14) 18 dX12_unlikeAhead_11 rfl (by decide) (fun c4 => ?_) (fun c4 => ?_)
  · have hf := ite_f c4 hf
    refine g_aload_n (pc' := 19) dX12_unlikeAhead_18 rfl rfl ?_
    obtain ⟨h5, hf⟩ := chk_s hf
    refine g_getR (pc' := 22) 12 19 rfl rfl (by decide) inX12 (by decide) rfl rfl q_131 dX12_unlikeAhead_19 rfl h5 ?_
    refine g_iload_n (pc' := 23) dX12_unlikeAhead_22 rfl rfl ?_
    obtain ⟨h6, hf⟩ := chk_s hf
    obtain ⟨b7, hf⟩ := chk_s hf
    refine g_iald (pc' := 24) dX12_unlikeAhead_23 rfl h6 (inB_in b7) ?_
    refine g_widen (k' := 0) (u' := 0) (by omega) (by omega) ?_
    exact s_X12_unlikeAhead_24 v0 v1 r3 (mI M2 (mR M2 v0 19) r3.toNatClampNeg) M2 _ hf
  · have hf := ite_t c4 hf
    refine g_iconst (pc' := 15) (0 : Int32) dX12_unlikeAhead_14 rfl (by decide) ?_
    refine g_goto (pc' := 24) dX12_unlikeAhead_15 (by decide) ?_
    refine g_widen (k' := 0) (u' := 0) (by omega) (by omega) ?_
    exact s_X12_unlikeAhead_24 v0 v1 r3 (0 : Int32) M2 _ hf
def f_X12_checked_87 (k2 : Nat → Int32 → Mem → Option (Int32 × Mem)) (v0 : Nat) (v1 : Int32) (w0 : Int32) (M : Mem) : Option (Int32 × Mem) :=
  if w0 = (-1 : Int32) then
    k2 v0 (v1 + 1) M
  else
    if mK M v0 = 13 then
      bnd (f_X12_wrongIs v0 v1 w0 (5 : Int32) M) fun r4 M3 =>
      some (r4, M3)
    else none
def f_X12_checked_14 (k2 : Nat → Int32 → Mem → Option (Int32 × Mem)) : Nat → Nat → Int32 → Int32 → Mem → Option (Int32 × Mem)
  | 0, _, _, _, _ => none
  | n + 1, v0, v1, v2, M =>
    if mK M v0 = 13 then
      if mK M (mR M v0 28) = 21 then
        if inB v1 (mN M (mR M v0 28)) = true then
          if (mI M (mR M v0 28) v1.toNatClampNeg) ≤ v2 then
            bnd (f_X12_firstsOf v0 v1 M) fun r6 M5 =>
            if mK M5 v0 = 13 then
              if r6 = (mI M5 v0 30) then
                if v1 = 0 then
                  f_X12_checked_87 k2 v0 v1 (-1 : Int32) M5
                else
                  bnd (f_X12_unlikeAhead v0 v1 M5) fun r11 M10 =>
                  f_X12_checked_87 k2 v0 v1 r11 M10
              else
                if mK M5 (mR M5 v0 28) = 21 then
                  if inB v1 (mN M5 (mR M5 v0 28)) = true then
                    bnd (f_X12_wrongIs v0 v1 (mI M5 (mR M5 v0 28) v1.toNatClampNeg) (4 : Int32) M5) fun r15 M14 =>
                    some (r15, M14)
                  else none
                else none
            else none
          else
            bnd (f_X12_wrongAt v0 v1 v2 M) fun r17 M16 =>
            if r17 = 0 then
              f_X12_checked_14 k2 n v0 v1 (v2 + 1) M16
            else
              if mK M16 v0 = 13 then
                bnd (f_X12_wrongIs v0 v1 v2 r17 M16) fun r21 M20 =>
                some (r21, M20)
              else none
        else none
      else none
    else none
def f_X12_checked_2 : Nat → Nat → Int32 → Mem → Option (Int32 × Mem)
  | 0, _, _, _ => none
  | n + 1, v0, v1, M =>
    if mK M v0 = 13 then
      if mK M (mR M v0 24) = 21 then
        if inB (0 : Int32) (mN M (mR M v0 24)) = true then
          if (mI M (mR M v0 24) (0 : Int32).toNatClampNeg) ≤ v1 then
            bnd (f_X12_wrongIs v0 (-1 : Int32) (-1 : Int32) (0 : Int32) M) fun r6 M5 =>
            some (r6, M5)
          else
            f_X12_checked_14 (f_X12_checked_2 n) FUEL v0 v1 (0 : Int32) M
        else none
      else none
    else none
def f_X12_checked (v0 : Nat) (M : Mem) : Option (Int32 × Mem) :=
  f_X12_checked_2 FUEL v0 (0 : Int32) M
theorem s_X12_checked_87 (k2 : Nat → Int32 → Mem → Option (Int32 × Mem)) (hk2 : ∀ (v0 : Nat) (v1 : Int32) (M : Mem) (r : (Int32 × Mem)), k2 v0 v1 M = some r → G mi_X12_checked 4 (oI r.1) r.2 2 [some (aR v0), some (aI v1), none, none] [] M 0 0) (v0 : Nat) (v1 : Int32) (w0 : Int32) (M : Mem) (r : (Int32 × Mem)) (hf : f_X12_checked_87 k2 v0 v1 w0 M = some r) : G mi_X12_checked 4 (oI r.1) r.2 87 [some (aR v0), some (aI v1), none, none] [aI w0] M 0 0 := by
  unfold f_X12_checked_87 at hf
  refine g_istore_n (pc' := 88) (lv' := [some (aR v0), some (aI v1), some (aI w0), none]) dX12_checked_87 rfl rfl (by decide) rfl ?_
  refine g_iload_n (pc' := 89) dX12_checked_88 rfl rfl ?_
  refine g_iconst (pc' := 90) (-1 : Int32) dX12_checked_89 rfl (by decide) ?_
  refine g_icmp_eq (pc' := 93) 101 dX12_checked_90 rfl (by decide) (fun c1 => ?_) (fun c1 => ?_)
  · have hf := ite_t c1 hf
    refine g_iinc (pc' := 104) (lv' := [some (aR v0), some (aI (v1 + 1)), some (aI w0), none]) (v1 + 1) dX12_checked_101 rfl rfl (by rfl) rfl (by decide) rfl ?_
    refine g_goto (pc' := 2) dX12_checked_104 (by decide) ?_
    refine g_mask [true, true, false, true] rfl ?_
    exact hk2 v0 (v1 + 1) M _ hf
  · have hf := ite_f c1 hf
    refine g_aload_n (pc' := 94) dX12_checked_93 rfl rfl ?_
    refine g_iload_n (pc' := 95) dX12_checked_94 rfl rfl ?_
    refine g_iload_n (pc' := 96) dX12_checked_95 rfl rfl ?_
    refine g_iconst (pc' := 97) (5 : Int32) dX12_checked_96 rfl (by decide) ?_
    obtain ⟨h2, hf⟩ := chk_s hf
    obtain ⟨r4, M3, e4, hf⟩ := bnd_some hf
    refine g_callVi (pc' := 100) (k' := 0) (u' := 0) (fr2 := 1) (As := [aI v1, aI w0, aI (5 : Int32)]) (b := v0) (st := []) cf_X12_wrongIs q_668 (by omega) (ci := 12) rfl rfl (by decide) dX12_checked_97 rfl rfl rfl (Nat.le_of_ble_eq_true rfl) (Or.inl rfl) (Nat.le_refl _) (Nat.le_refl _) (Nat.le_refl _) (Nat.le_refl _) h2 (s_X12_wrongIs v0 v1 w0 (5 : Int32) M _ e4) ?_
    cases hf
    exact g_ireturn dX12_checked_100 rfl (Nat.le_of_ble_eq_true rfl) (Nat.le_of_ble_eq_true rfl)
theorem s_X12_checked_14 (k2 : Nat → Int32 → Mem → Option (Int32 × Mem)) (hk2 : ∀ (v0 : Nat) (v1 : Int32) (M : Mem) (r : (Int32 × Mem)), k2 v0 v1 M = some r → G mi_X12_checked 4 (oI r.1) r.2 2 [some (aR v0), some (aI v1), none, none] [] M 0 0) : ∀ (n : Nat) (v0 : Nat) (v1 : Int32) (v2 : Int32) (M : Mem) (r : (Int32 × Mem)), f_X12_checked_14 k2 n v0 v1 v2 M = some r → G mi_X12_checked 4 (oI r.1) r.2 14 [some (aR v0), some (aI v1), some (aI v2), none] [] M 0 0 := by
  intro n
  induction n with
  | zero => intro v0 v1 v2 M r hf; cases hf
  | succ n ih =>
    intro v0 v1 v2 M r hf
    unfold f_X12_checked_14 at hf
    refine g_iload_n (pc' := 15) dX12_checked_14 rfl rfl ?_
    refine g_aload_n (pc' := 16) dX12_checked_15 rfl rfl ?_
    obtain ⟨h1, hf⟩ := chk_s hf
    refine g_getR (pc' := 19) 12 28 rfl rfl (by decide) inX12 (by decide) rfl rfl q_139 dX12_checked_16 rfl h1 ?_
    refine g_iload_n (pc' := 20) dX12_checked_19 rfl rfl ?_
    obtain ⟨h2, hf⟩ := chk_s hf
    obtain ⟨b3, hf⟩ := chk_s hf
    refine g_iald (pc' := 21) dX12_checked_20 rfl h2 (inB_in b3) ?_
    refine g_icmp_ge (pc' := 24) 49 dX12_checked_21 rfl (by decide) (fun c4 => ?_) (fun c4 => ?_)
    · have hf := ite_t c4 hf
      refine g_aload_n (pc' := 50) dX12_checked_49 rfl rfl ?_
      refine g_iload_n (pc' := 51) dX12_checked_50 rfl rfl ?_
      obtain ⟨r6, M5, e6, hf⟩ := bnd_some hf
      refine g_callVi (pc' := 54) (k' := 0) (u' := 0) (fr2 := 2) (As := [aI v1]) (b := v0) (st := []) cf_X12_firstsOf q_674 (by omega) (ci := 12) rfl rfl (by decide) dX12_checked_51 rfl rfl rfl (Nat.le_of_ble_eq_true rfl) (Or.inl rfl) (Nat.le_refl _) (Nat.le_refl _) (Nat.le_refl _) (Nat.le_refl _) h1 (s_X12_firstsOf v0 v1 M _ e6) ?_
      refine g_aload_n (pc' := 55) dX12_checked_54 rfl rfl ?_
      obtain ⟨h7, hf⟩ := chk_s hf
      refine g_getI (pc' := 58) 12 30 rfl rfl (by decide) inX12 (by decide) rfl rfl q_364 dX12_checked_55 rfl h7 ?_
      refine g_icmp_eq (pc' := 61) 74 dX12_checked_58 rfl (by decide) (fun c8 => ?_) (fun c8 => ?_)
      · have hf := ite_t c8 hf
        refine g_iload_n (pc' := 75) dX12_checked_74 rfl rfl ?_
        refine g_if_ne (pc' := 78) 82 dX12_checked_75 rfl (by decide) (fun c9 => ?_) (fun c9 => ?_)
        · have hf := ite_f c9 hf
          refine g_aload_n (pc' := 83) dX12_checked_82 rfl rfl ?_
          refine g_iload_n (pc' := 84) dX12_checked_83 rfl rfl ?_
          obtain ⟨r11, M10, e11, hf⟩ := bnd_some hf
          refine g_callVi (pc' := 87) (k' := 0) (u' := 0) (fr2 := 3) (As := [aI v1]) (b := v0) (st := []) cf_X12_unlikeAhead q_678 (by omega) (ci := 12) rfl rfl (by decide) dX12_checked_84 rfl rfl rfl (Nat.le_of_ble_eq_true rfl) (Or.inl rfl) (Nat.le_refl _) (Nat.le_refl _) (Nat.le_refl _) (Nat.le_refl _) h7 (s_X12_unlikeAhead v0 v1 M5 _ e11) ?_
          refine g_mask [true, true, false, true] rfl ?_
          refine g_widen (k' := 0) (u' := 0) (by omega) (by omega) ?_
          exact s_X12_checked_87 k2 hk2 v0 v1 r11 M10 _ hf
        · have hf := ite_t c9 hf
          refine g_iconst (pc' := 79) (-1 : Int32) dX12_checked_78 rfl (by decide) ?_
          refine g_goto (pc' := 87) dX12_checked_79 (by decide) ?_
          refine g_mask [true, true, false, true] rfl ?_
          refine g_widen (k' := 0) (u' := 0) (by omega) (by omega) ?_
          exact s_X12_checked_87 k2 hk2 v0 v1 (-1 : Int32) M5 _ hf
      · have hf := ite_f c8 hf
        refine g_aload_n (pc' := 62) dX12_checked_61 rfl rfl ?_
        refine g_iload_n (pc' := 63) dX12_checked_62 rfl rfl ?_
        refine g_aload_n (pc' := 64) dX12_checked_63 rfl rfl ?_
        refine g_getR (pc' := 67) 12 28 rfl rfl (by decide) inX12 (by decide) rfl rfl q_139 dX12_checked_64 rfl h7 ?_
        refine g_iload_n (pc' := 68) dX12_checked_67 rfl rfl ?_
        obtain ⟨h12, hf⟩ := chk_s hf
        obtain ⟨b13, hf⟩ := chk_s hf
        refine g_iald (pc' := 69) dX12_checked_68 rfl h12 (inB_in b13) ?_
        refine g_iconst (pc' := 70) (4 : Int32) dX12_checked_69 rfl (by decide) ?_
        obtain ⟨r15, M14, e15, hf⟩ := bnd_some hf
        refine g_callVi (pc' := 73) (k' := 0) (u' := 0) (fr2 := 1) (As := [aI v1, aI (mI M5 (mR M5 v0 28) v1.toNatClampNeg), aI (4 : Int32)]) (b := v0) (st := []) cf_X12_wrongIs q_668 (by omega) (ci := 12) rfl rfl (by decide) dX12_checked_70 rfl rfl rfl (Nat.le_of_ble_eq_true rfl) (Or.inl rfl) (Nat.le_refl _) (Nat.le_refl _) (Nat.le_refl _) (Nat.le_refl _) h7 (s_X12_wrongIs v0 v1 (mI M5 (mR M5 v0 28) v1.toNatClampNeg) (4 : Int32) M5 _ e15) ?_
        cases hf
        exact g_ireturn dX12_checked_73 rfl (Nat.le_of_ble_eq_true rfl) (Nat.le_of_ble_eq_true rfl)
    · have hf := ite_f c4 hf
      refine g_aload_n (pc' := 25) dX12_checked_24 rfl rfl ?_
      refine g_iload_n (pc' := 26) dX12_checked_25 rfl rfl ?_
      refine g_iload_n (pc' := 27) dX12_checked_26 rfl rfl ?_
      obtain ⟨r17, M16, e17, hf⟩ := bnd_some hf
      refine g_callVi (pc' := 30) (k' := 0) (u' := 0) (fr2 := 2) (As := [aI v1, aI v2]) (b := v0) (st := []) cf_X12_wrongAt q_652 (by omega) (ci := 12) rfl rfl (by decide) dX12_checked_27 rfl rfl rfl (Nat.le_of_ble_eq_true rfl) (Or.inl rfl) (Nat.le_refl _) (Nat.le_refl _) (Nat.le_refl _) (Nat.le_refl _) h1 (s_X12_wrongAt v0 v1 v2 M _ e17) ?_
      refine g_istore_n (pc' := 31) (lv' := [some (aR v0), some (aI v1), some (aI v2), some (aI r17)]) dX12_checked_30 rfl rfl (by decide) rfl ?_
      refine g_iload_n (pc' := 32) dX12_checked_31 rfl rfl ?_
      refine g_if_eq (pc' := 35) 43 dX12_checked_32 rfl (by decide) (fun c18 => ?_) (fun c18 => ?_)
      · have hf := ite_t c18 hf
        refine g_iinc (pc' := 46) (lv' := [some (aR v0), some (aI v1), some (aI (v2 + 1)), some (aI r17)]) (v2 + 1) dX12_checked_43 rfl rfl (by rfl) rfl (by decide) rfl ?_
        refine g_goto (pc' := 14) dX12_checked_46 (by decide) ?_
        refine g_mask [true, true, true, false] rfl ?_
        refine g_widen (k' := 0) (u' := 0) (by omega) (by omega) ?_
        exact ih v0 v1 (v2 + 1) M16 _ hf
      · have hf := ite_f c18 hf
        refine g_aload_n (pc' := 36) dX12_checked_35 rfl rfl ?_
        refine g_iload_n (pc' := 37) dX12_checked_36 rfl rfl ?_
        refine g_iload_n (pc' := 38) dX12_checked_37 rfl rfl ?_
        refine g_iload_n (pc' := 39) dX12_checked_38 rfl rfl ?_
        obtain ⟨h19, hf⟩ := chk_s hf
        obtain ⟨r21, M20, e21, hf⟩ := bnd_some hf
        refine g_callVi (pc' := 42) (k' := 0) (u' := 0) (fr2 := 1) (As := [aI v1, aI v2, aI r17]) (b := v0) (st := []) cf_X12_wrongIs q_668 (by omega) (ci := 12) rfl rfl (by decide) dX12_checked_39 rfl rfl rfl (Nat.le_of_ble_eq_true rfl) (Or.inl rfl) (Nat.le_refl _) (Nat.le_refl _) (Nat.le_refl _) (Nat.le_refl _) h19 (s_X12_wrongIs v0 v1 v2 r17 M16 _ e21) ?_
        cases hf
        exact g_ireturn dX12_checked_42 rfl (Nat.le_of_ble_eq_true rfl) (Nat.le_of_ble_eq_true rfl)
theorem s_X12_checked_2 : ∀ (n : Nat) (v0 : Nat) (v1 : Int32) (M : Mem) (r : (Int32 × Mem)), f_X12_checked_2 n v0 v1 M = some r → G mi_X12_checked 4 (oI r.1) r.2 2 [some (aR v0), some (aI v1), none, none] [] M 0 0 := by
  intro n
  induction n with
  | zero => intro v0 v1 M r hf; cases hf
  | succ n ih =>
    intro v0 v1 M r hf
    unfold f_X12_checked_2 at hf
    refine g_iload_n (pc' := 3) dX12_checked_2 rfl rfl ?_
    refine g_aload_n (pc' := 4) dX12_checked_3 rfl rfl ?_
    obtain ⟨h1, hf⟩ := chk_s hf
    refine g_getR (pc' := 7) 12 24 rfl rfl (by decide) inX12 (by decide) rfl rfl q_136 dX12_checked_4 rfl h1 ?_
    refine g_iconst (pc' := 8) (0 : Int32) dX12_checked_7 rfl (by decide) ?_
    obtain ⟨h2, hf⟩ := chk_s hf
    obtain ⟨b3, hf⟩ := chk_s hf
    refine g_iald (pc' := 9) dX12_checked_8 rfl h2 (inB_in b3) ?_
    refine g_icmp_ge (pc' := 12) 107 dX12_checked_9 rfl (by decide) (fun c4 => ?_) (fun c4 => ?_)
    · have hf := ite_t c4 hf
      refine g_aload_n (pc' := 108) dX12_checked_107 rfl rfl ?_
      refine g_iconst (pc' := 109) (-1 : Int32) dX12_checked_108 rfl (by decide) ?_
      refine g_iconst (pc' := 110) (-1 : Int32) dX12_checked_109 rfl (by decide) ?_
      refine g_iconst (pc' := 111) (0 : Int32) dX12_checked_110 rfl (by decide) ?_
      obtain ⟨r6, M5, e6, hf⟩ := bnd_some hf
      refine g_callVi (pc' := 114) (k' := 0) (u' := 0) (fr2 := 1) (As := [aI (-1 : Int32), aI (-1 : Int32), aI (0 : Int32)]) (b := v0) (st := []) cf_X12_wrongIs q_668 (by omega) (ci := 12) rfl rfl (by decide) dX12_checked_111 rfl rfl rfl (Nat.le_of_ble_eq_true rfl) (Or.inl rfl) (Nat.le_refl _) (Nat.le_refl _) (Nat.le_refl _) (Nat.le_refl _) h1 (s_X12_wrongIs v0 (-1 : Int32) (-1 : Int32) (0 : Int32) M _ e6) ?_
      cases hf
      exact g_ireturn dX12_checked_114 rfl (Nat.le_of_ble_eq_true rfl) (Nat.le_of_ble_eq_true rfl)
    · have hf := ite_f c4 hf
      refine g_iconst (pc' := 13) (0 : Int32) dX12_checked_12 rfl (by decide) ?_
      refine g_istore_n (pc' := 14) (lv' := [some (aR v0), some (aI v1), some (aI (0 : Int32)), none]) dX12_checked_13 rfl rfl (by decide) rfl ?_
      exact s_X12_checked_14 (f_X12_checked_2 n) ih FUEL v0 v1 (0 : Int32) M _ hf
theorem s_X12_checked (v0 : Nat) (M : Mem) (r : (Int32 × Mem)) (hf : f_X12_checked v0 M = some r) : Sem mi_X12_checked (4) [aR v0] M (oI r.1) r.2 := by
  unfold f_X12_checked at hf
  refine sem_of (by decide) rfl rfl rfl (Nat.le_of_ble_eq_true rfl) (lv := [some (aR v0), none, none, none]) rfl ?_
  refine g_iconst (pc' := 1) (0 : Int32) dX12_checked_0 rfl (by decide) ?_
  refine g_istore_n (pc' := 2) (lv' := [some (aR v0), some (aI (0 : Int32)), none, none]) dX12_checked_1 rfl rfl (by decide) rfl ?_
  exact s_X12_checked_2 FUEL v0 (0 : Int32) M _ hf
def f_X12_mayBegin_51 (v0 : Nat) (M : Mem) : Option (Int32 × Mem) :=
  if mK M v0 = 13 then
    if mK M (mR M v0 17) = 21 then
      if inB (0 : Int32) (mN M (mR M v0 17)) = true then
        if (mI M (mR M v0 17) (0 : Int32).toNatClampNeg) = (-1 : Int32) then
          bnd (f_X12_isMarked v0 (40 : Int32) M) fun r7 M6 =>
          if zB r7 = true then
          some (r7, M6)
          else none
        else
          if (mI M v0 8) = (2 : Int32) then
            some ((1 : Int32), M)
          else
            some ((0 : Int32), M)
      else none
    else none
  else none
def f_X12_mayBegin_47 (w0 : Nat) (w1 : Int32) (M : Mem) : Option (Int32 × Mem) :=
  if mK M w0 = 13 then
    bnd (f_X12_isMarked w0 w1 M) fun r3 M2 =>
    if zB r3 = true then
    some (r3, M2)
    else none
  else none
def f_X12_mayBegin_29 (v0 : Nat) (M : Mem) : Option (Int32 × Mem) :=
  if mK M v0 = 13 then
    if mK M (mR M v0 15) = 21 then
      if inB (0 : Int32) (mN M (mR M v0 15)) = true then
        if (mI M (mR M v0 15) (0 : Int32).toNatClampNeg) = (2 : Int32) then
          f_X12_mayBegin_47 v0 (91 : Int32) M
        else
          f_X12_mayBegin_47 v0 (45 : Int32) M
      else none
    else none
  else none
def f_X12_mayBegin (v0 : Nat) (M : Mem) : Option (Int32 × Mem) :=
  if mK M v0 = 13 then
    if mK M (mR M v0 15) = 21 then
      if inB (0 : Int32) (mN M (mR M v0 15)) = true then
        if (mI M (mR M v0 15) (0 : Int32).toNatClampNeg) = (2 : Int32) then
          f_X12_mayBegin_29 v0 M
        else
          if (mI M (mR M v0 15) (0 : Int32).toNatClampNeg) = (1 : Int32) then
            bnd (f_X12_isMarked v0 (45 : Int32) M) fun r7 M6 =>
            if r7 = 0 then
              f_X12_mayBegin_51 v0 M6
            else
              f_X12_mayBegin_29 v0 M6
          else
            f_X12_mayBegin_51 v0 M
      else none
    else none
  else none
theorem s_X12_mayBegin_51 (v0 : Nat) (M : Mem) (r : (Int32 × Mem)) (hf : f_X12_mayBegin_51 v0 M = some r) : G mi_X12_mayBegin 2 (oI r.1) r.2 51 [some (aR v0)] [] M 0 0 := by
  unfold f_X12_mayBegin_51 at hf
  refine g_aload_n (pc' := 52) dX12_mayBegin_51 rfl rfl ?_
  obtain ⟨h1, hf⟩ := chk_s hf
  refine g_getR (pc' := 55) 12 17 rfl rfl (by decide) inX12 (by decide) rfl rfl q_129 dX12_mayBegin_52 rfl h1 ?_
  refine g_iconst (pc' := 56) (0 : Int32) dX12_mayBegin_55 rfl (by decide) ?_
  obtain ⟨h2, hf⟩ := chk_s hf
  obtain ⟨b3, hf⟩ := chk_s hf
  refine g_iald (pc' := 57) dX12_mayBegin_56 rfl h2 (inB_in b3) ?_
  refine g_iconst (pc' := 58) (-1 : Int32) dX12_mayBegin_57 rfl (by decide) ?_
  refine g_icmp_ne (pc' := 61) 70 dX12_mayBegin_58 rfl (by decide) (fun c4 => ?_) (fun c4 => ?_)
  · have hf := ite_f c4 hf
    refine g_aload_n (pc' := 71) dX12_mayBegin_70 rfl rfl ?_
    refine g_getI (pc' := 74) 12 8 rfl rfl (by decide) inX12 (by decide) rfl rfl q_383 dX12_mayBegin_71 rfl h1 ?_
    refine g_iconst (pc' := 75) (2 : Int32) dX12_mayBegin_74 rfl (by decide) ?_
    refine g_icmp_ne (pc' := 78) 82 dX12_mayBegin_75 rfl (by decide) (fun c5 => ?_) (fun c5 => ?_)
    · have hf := ite_f c5 hf
      refine g_iconst (pc' := 83) (0 : Int32) dX12_mayBegin_82 rfl (by decide) ?_
      cases hf
      exact g_zreturn dX12_mayBegin_83 rfl (Or.inl rfl) (Nat.le_of_ble_eq_true rfl) (Nat.le_of_ble_eq_true rfl)
    · have hf := ite_t c5 hf
      refine g_iconst (pc' := 79) (1 : Int32) dX12_mayBegin_78 rfl (by decide) ?_
      refine g_goto (pc' := 83) dX12_mayBegin_79 (by decide) ?_
      cases hf
      exact g_zreturn dX12_mayBegin_83 rfl (Or.inr rfl) (Nat.le_of_ble_eq_true rfl) (Nat.le_of_ble_eq_true rfl)
  · have hf := ite_t c4 hf
    refine g_aload_n (pc' := 62) dX12_mayBegin_61 rfl rfl ?_
    refine g_bipush (pc' := 64) (40 : Int32) dX12_mayBegin_62 rfl (by decide) ?_
    obtain ⟨r7, M6, e7, hf⟩ := bnd_some hf
    refine g_callVi (pc' := 67) (k' := 0) (u' := 0) (fr2 := 1) (As := [aI (40 : Int32)]) (b := v0) (st := []) cf_X12_isMarked q_411 (by omega) (ci := 12) rfl rfl (by decide) dX12_mayBegin_64 rfl rfl rfl (Nat.le_of_ble_eq_true rfl) (Or.inl rfl) (Nat.le_refl _) (Nat.le_refl _) (Nat.le_refl _) (Nat.le_refl _) h1 (s_X12_isMarked v0 (40 : Int32) M _ e7) ?_
    refine g_goto (pc' := 83) dX12_mayBegin_67 (by decide) ?_
    obtain ⟨hz, hf⟩ := chk_s hf
    cases hf
    exact g_zreturn dX12_mayBegin_83 rfl (zB_ok hz) (Nat.le_of_ble_eq_true rfl) (Nat.le_of_ble_eq_true rfl)
theorem s_X12_mayBegin_47 (w0 : Nat) (w1 : Int32) (M : Mem) (r : (Int32 × Mem)) (hf : f_X12_mayBegin_47 w0 w1 M = some r) : G mi_X12_mayBegin 2 (oI r.1) r.2 47 [none] [aI w1, aR w0] M 0 0 := by
  unfold f_X12_mayBegin_47 at hf
  obtain ⟨h1, hf⟩ := chk_s hf
  obtain ⟨r3, M2, e3, hf⟩ := bnd_some hf
  refine g_callVi (pc' := 50) (k' := 0) (u' := 0) (fr2 := 1) (As := [aI w1]) (b := w0) (st := []) cf_X12_isMarked q_411 (by omega) (ci := 12) rfl rfl (by decide) dX12_mayBegin_47 rfl rfl rfl (Nat.le_of_ble_eq_true rfl) (Or.inl rfl) (Nat.le_refl _) (Nat.le_refl _) (Nat.le_refl _) (Nat.le_refl _) h1 (s_X12_isMarked w0 w1 M _ e3) ?_
  obtain ⟨hz, hf⟩ := chk_s hf
  cases hf
  exact g_zreturn dX12_mayBegin_50 rfl (zB_ok hz) (Nat.le_of_ble_eq_true rfl) (Nat.le_of_ble_eq_true rfl)
theorem s_X12_mayBegin_29 (v0 : Nat) (M : Mem) (r : (Int32 × Mem)) (hf : f_X12_mayBegin_29 v0 M = some r) : G mi_X12_mayBegin 2 (oI r.1) r.2 29 [some (aR v0)] [] M 0 0 := by
  unfold f_X12_mayBegin_29 at hf
  refine g_aload_n (pc' := 30) dX12_mayBegin_29 rfl rfl ?_
  refine g_aload_n (pc' := 31) dX12_mayBegin_30 rfl rfl ?_
  obtain ⟨h1, hf⟩ := chk_s hf
  refine g_getR (pc' := 34) 12 15 rfl rfl (by decide) inX12 (by decide) rfl rfl q_127 dX12_mayBegin_31 rfl h1 ?_
  refine g_iconst (pc' := 35) (0 : Int32) dX12_mayBegin_34 rfl (by decide) ?_
  obtain ⟨h2, hf⟩ := chk_s hf
  obtain ⟨b3, hf⟩ := chk_s hf
  refine g_iald (pc' := 36) dX12_mayBegin_35 rfl h2 (inB_in b3) ?_
  refine g_iconst (pc' := 37) (2 : Int32) dX12_mayBegin_36 rfl (by decide) ?_
  refine g_icmp_ne (pc' := 40) 45 dX12_mayBegin_37 rfl (by decide) (fun c4 => ?_) (fun c4 => ?_)
  · have hf := ite_f c4 hf
    refine g_bipush (pc' := 47) (45 : Int32) dX12_mayBegin_45 rfl (by decide) ?_
    refine g_mask [false] rfl ?_
    exact s_X12_mayBegin_47 v0 (45 : Int32) M _ hf
  · have hf := ite_t c4 hf
    refine g_bipush (pc' := 42) (91 : Int32) dX12_mayBegin_40 rfl (by decide) ?_
    refine g_goto (pc' := 47) dX12_mayBegin_42 (by decide) ?_
    refine g_mask [false] rfl ?_
    exact s_X12_mayBegin_47 v0 (91 : Int32) M _ hf
theorem s_X12_mayBegin (v0 : Nat) (M : Mem) (r : (Int32 × Mem)) (hf : f_X12_mayBegin v0 M = some r) : Sem mi_X12_mayBegin (2) [aR v0] M (oI r.1) r.2 := by
  unfold f_X12_mayBegin at hf
  refine sem_of (by decide) rfl rfl rfl (Nat.le_of_ble_eq_true rfl) (lv := [some (aR v0)]) rfl ?_
  refine g_aload_n (pc' := 1) dX12_mayBegin_0 rfl rfl ?_
  obtain ⟨h1, hf⟩ := chk_s hf
  refine g_getR (pc' := 4) 12 15 rfl rfl (by decide) inX12 (by decide) rfl rfl q_127 dX12_mayBegin_1 rfl h1 ?_
  refine g_iconst (pc' := 5) (0 : Int32) dX12_mayBegin_4 rfl (by decide) ?_
  obtain ⟨h2, hf⟩ := chk_s hf
  obtain ⟨b3, hf⟩ := chk_s hf
  refine g_iald (pc' := 6) dX12_mayBegin_5 rfl h2 (inB_in b3) ?_
  refine g_iconst (pc' := 7) (2 : Int32) dX12_mayBegin_6 rfl (by decide) ?_
  refine g_icmp_eq (pc' := 10) 29 dX12_mayBegin_7 rfl (by decide) (fun c4 => ?_) (fun c4 => ?_)
  · have hf := ite_t c4 hf
    exact s_X12_mayBegin_29 v0 M _ hf
  · have hf := ite_f c4 hf
    refine g_aload_n (pc' := 11) dX12_mayBegin_10 rfl rfl ?_
    refine g_getR (pc' := 14) 12 15 rfl rfl (by decide) inX12 (by decide) rfl rfl q_127 dX12_mayBegin_11 rfl h1 ?_
    refine g_iconst (pc' := 15) (0 : Int32) dX12_mayBegin_14 rfl (by decide) ?_
    refine g_iald (pc' := 16) dX12_mayBegin_15 rfl h2 (inB_in b3) ?_
    refine g_iconst (pc' := 17) (1 : Int32) dX12_mayBegin_16 rfl (by decide) ?_
    refine g_icmp_ne (pc' := 20) 51 dX12_mayBegin_17 rfl (by decide) (fun c5 => ?_) (fun c5 => ?_)
    · have hf := ite_f c5 hf
      exact s_X12_mayBegin_51 v0 M _ hf
    · have hf := ite_t c5 hf
      refine g_aload_n (pc' := 21) dX12_mayBegin_20 rfl rfl ?_
      refine g_bipush (pc' := 23) (45 : Int32) dX12_mayBegin_21 rfl (by decide) ?_
      obtain ⟨r7, M6, e7, hf⟩ := bnd_some hf
      refine g_callVi (pc' := 26) (k' := 0) (u' := 0) (fr2 := 1) (As := [aI (45 : Int32)]) (b := v0) (st := []) cf_X12_isMarked q_411 (by omega) (ci := 12) rfl rfl (by decide) dX12_mayBegin_23 rfl rfl rfl (Nat.le_of_ble_eq_true rfl) (Or.inl rfl) (Nat.le_refl _) (Nat.le_refl _) (Nat.le_refl _) (Nat.le_refl _) h1 (s_X12_isMarked v0 (45 : Int32) M _ e7) ?_
      refine g_if_eq (pc' := 29) 51 dX12_mayBegin_26 rfl (by decide) (fun c8 => ?_) (fun c8 => ?_)
      · have hf := ite_t c8 hf
        refine g_widen (k' := 0) (u' := 0) (by omega) (by omega) ?_
        exact s_X12_mayBegin_51 v0 M6 _ hf
      · have hf := ite_f c8 hf
        refine g_widen (k' := 0) (u' := 0) (by omega) (by omega) ?_
        exact s_X12_mayBegin_29 v0 M6 _ hf
def f_X12_keep_54 (v0 : Nat) (M : Mem) : Option (Unit × Mem) :=
  if mK M v0 = 13 then
    bnd (f_X12_pack v0 (mR M v0 29) ((969 : Int32) * (mI M v0 31)) M) fun _ M2 =>
    if mK M2 v0 = 13 then
      ap (sI M2 v0 31 ((mI M2 v0 31) + (1 : Int32))) fun M5 =>
      some ((), M5)
    else none
  else none
def f_X12_keep_13 : Nat → Nat → Int32 → Mem → Option (Unit × Mem)
  | 0, _, _, _ => none
  | n + 1, v0, v1, M =>
    if mK M v0 = 13 then
      if mK M (mR M v0 29) = 21 then
        if (Int32.ofNat (mN M (mR M v0 29))) ≤ v1 then
          ap (sI M v0 31 ((mI M v0 31) - (1 : Int32))) fun M4 =>
          f_X12_keep_54 v0 M4
        else
          if inB v1 (mN M (mR M v0 29)) = true then
            if inB (v1 - (969 : Int32)) (mN M (mR M v0 29)) = true then
              ap (sI M (mR M v0 29) (v1 - (969 : Int32)).toNatClampNeg (mI M (mR M v0 29) v1.toNatClampNeg)) fun M7 =>
              f_X12_keep_13 n v0 (v1 + 1) M7
            else none
          else none
      else none
    else none
def f_X12_keep (v0 : Nat) (M : Mem) : Option (Unit × Mem) :=
  if mK M v0 = 13 then
    if (mI M v0 31) = (40 : Int32) then
      f_X12_keep_13 FUEL v0 (969 : Int32) M
    else
      f_X12_keep_54 v0 M
  else none
theorem s_X12_keep_54 (v0 : Nat) (M : Mem) (r : (Unit × Mem)) (hf : f_X12_keep_54 v0 M = some r) : G mi_X12_keep 2 (oU r.1) r.2 54 [some (aR v0), none] [] M 0 0 := by
  unfold f_X12_keep_54 at hf
  refine g_aload_n (pc' := 55) dX12_keep_54 rfl rfl ?_
  refine g_aload_n (pc' := 56) dX12_keep_55 rfl rfl ?_
  obtain ⟨h1, hf⟩ := chk_s hf
  refine g_getR (pc' := 59) 12 29 rfl rfl (by decide) inX12 (by decide) rfl rfl q_141 dX12_keep_56 rfl h1 ?_
  refine g_sipush (pc' := 62) (969 : Int32) dX12_keep_59 rfl (by decide) ?_
  refine g_aload_n (pc' := 63) dX12_keep_62 rfl rfl ?_
  refine g_getI (pc' := 66) 12 31 rfl rfl (by decide) inX12 (by decide) rfl rfl q_365 dX12_keep_63 rfl h1 ?_
  refine g_imul (pc' := 67) dX12_keep_66 rfl ?_
  obtain ⟨_, M2, e3, hf⟩ := bnd_some hf
  refine g_callVv (pc' := 70) (k' := 0) (u' := 0) (fr2 := 1) (As := [aR (mR M v0 29), aI ((969 : Int32) * (mI M v0 31))]) (b := v0) (st := []) cf_X12_pack q_694 (by omega) (ci := 12) rfl rfl (by decide) dX12_keep_67 rfl rfl rfl (Nat.le_of_ble_eq_true rfl) (Or.inl rfl) (Nat.le_refl _) (Nat.le_refl _) (Nat.le_refl _) (Nat.le_refl _) h1 (s_X12_pack v0 (mR M v0 29) ((969 : Int32) * (mI M v0 31)) M _ e3) ?_
  refine g_aload_n (pc' := 71) dX12_keep_70 rfl rfl ?_
  refine g_dup (pc' := 72) dX12_keep_71 rfl rfl ?_
  obtain ⟨h4, hf⟩ := chk_s hf
  refine g_getI (pc' := 75) 12 31 rfl rfl (by decide) inX12 (by decide) rfl rfl q_365 dX12_keep_72 rfl h4 ?_
  refine g_iconst (pc' := 76) (1 : Int32) dX12_keep_75 rfl (by decide) ?_
  refine g_iadd (pc' := 77) dX12_keep_76 rfl ?_
  refine g_putI (pc' := 80) 12 31 rfl rfl (by decide) inX12 tyX12_ok nmX12 (by decide) rfl rfl rfl rfl q_365 dX12_keep_77 rfl h4 (gM fun M5 hM5 => ?_)
  have hf := ap_eq hf hM5
  cases hf
  exact g_return dX12_keep_80 rfl (Nat.le_of_ble_eq_true rfl) (Nat.le_of_ble_eq_true rfl)
theorem s_X12_keep_13 : ∀ (n : Nat) (v0 : Nat) (v1 : Int32) (M : Mem) (r : (Unit × Mem)), f_X12_keep_13 n v0 v1 M = some r → G mi_X12_keep 2 (oU r.1) r.2 13 [some (aR v0), some (aI v1)] [] M 0 0 := by
  intro n
  induction n with
  | zero => intro v0 v1 M r hf; cases hf
  | succ n ih =>
    intro v0 v1 M r hf
    unfold f_X12_keep_13 at hf
    refine g_iload_n (pc' := 14) dX12_keep_13 rfl rfl ?_
    refine g_aload_n (pc' := 15) dX12_keep_14 rfl rfl ?_
    obtain ⟨h1, hf⟩ := chk_s hf
    refine g_getR (pc' := 18) 12 29 rfl rfl (by decide) inX12 (by decide) rfl rfl q_141 dX12_keep_15 rfl h1 ?_
    obtain ⟨h2, hf⟩ := chk_s hf
    refine g_alen (pc' := 19) (t0 := 0) (fun _ => rfl) (by decide) dX12_keep_18 rfl h2 ?_
    refine g_icmp_ge (pc' := 22) 44 dX12_keep_19 rfl (by decide) (fun c3 => ?_) (fun c3 => ?_)
    · have hf := ite_t c3 hf
      refine g_aload_n (pc' := 45) dX12_keep_44 rfl rfl ?_
      refine g_dup (pc' := 46) dX12_keep_45 rfl rfl ?_
      refine g_getI (pc' := 49) 12 31 rfl rfl (by decide) inX12 (by decide) rfl rfl q_365 dX12_keep_46 rfl h1 ?_
      refine g_iconst (pc' := 50) (1 : Int32) dX12_keep_49 rfl (by decide) ?_
      refine g_isub (pc' := 51) dX12_keep_50 rfl ?_
      refine g_putI (pc' := 54) 12 31 rfl rfl (by decide) inX12 tyX12_ok nmX12 (by decide) rfl rfl rfl rfl q_365 dX12_keep_51 rfl h1 (gM fun M4 hM4 => ?_)
      have hf := ap_eq hf hM4
      refine g_mask [true, false] rfl ?_
      exact s_X12_keep_54 v0 M4 _ hf
    · have hf := ite_f c3 hf
      refine g_aload_n (pc' := 23) dX12_keep_22 rfl rfl ?_
      refine g_getR (pc' := 26) 12 29 rfl rfl (by decide) inX12 (by decide) rfl rfl q_141 dX12_keep_23 rfl h1 ?_
      refine g_iload_n (pc' := 27) dX12_keep_26 rfl rfl ?_
      refine g_sipush (pc' := 30) (969 : Int32) dX12_keep_27 rfl (by decide) ?_
      refine g_isub (pc' := 31) dX12_keep_30 rfl ?_
      refine g_aload_n (pc' := 32) dX12_keep_31 rfl rfl ?_
      refine g_getR (pc' := 35) 12 29 rfl rfl (by decide) inX12 (by decide) rfl rfl q_141 dX12_keep_32 rfl h1 ?_
      refine g_iload_n (pc' := 36) dX12_keep_35 rfl rfl ?_
      obtain ⟨b5, hf⟩ := chk_s hf
      refine g_iald (pc' := 37) dX12_keep_36 rfl h2 (inB_in b5) ?_
      obtain ⟨b6, hf⟩ := chk_s hf
      refine g_iast (pc' := 38) dX12_keep_37 rfl h2 (inB_in b6) (gM fun M7 hM7 => ?_)
      have hf := ap_eq hf hM7
      refine g_iinc (pc' := 41) (lv' := [some (aR v0), some (aI (v1 + 1))]) (v1 + 1) dX12_keep_38 rfl rfl (by rfl) rfl (by decide) rfl ?_
      refine g_goto (pc' := 13) dX12_keep_41 (by decide) ?_
      exact ih v0 (v1 + 1) M7 _ hf
theorem s_X12_keep (v0 : Nat) (M : Mem) (r : (Unit × Mem)) (hf : f_X12_keep v0 M = some r) : Sem mi_X12_keep (2) [aR v0] M (oU r.1) r.2 := by
  unfold f_X12_keep at hf
  refine sem_of (by decide) rfl rfl rfl (Nat.le_of_ble_eq_true rfl) (lv := [some (aR v0), none]) rfl ?_
  refine g_aload_n (pc' := 1) dX12_keep_0 rfl rfl ?_
  obtain ⟨h1, hf⟩ := chk_s hf
  refine g_getI (pc' := 4) 12 31 rfl rfl (by decide) inX12 (by decide) rfl rfl q_365 dX12_keep_1 rfl h1 ?_
  refine g_bipush (pc' := 6) (40 : Int32) dX12_keep_4 rfl (by decide) ?_
  refine g_icmp_ne (pc' := 9) 54 dX12_keep_6 rfl (by decide) (fun c2 => ?_) (fun c2 => ?_)
  · have hf := ite_f c2 hf
    exact s_X12_keep_54 v0 M _ hf
  · have hf := ite_t c2 hf
    refine g_sipush (pc' := 12) (969 : Int32) dX12_keep_9 rfl (by decide) ?_
    refine g_istore_n (pc' := 13) (lv' := [some (aR v0), some (aI (969 : Int32))]) dX12_keep_12 rfl rfl (by decide) rfl ?_
    exact s_X12_keep_13 FUEL v0 (969 : Int32) M _ hf
def f_X12_add_156 (v0 : Nat) (M : Mem) : Option (Int32 × Mem) :=
  if mK M v0 = 13 then
    bnd (f_X12_ended v0 M) fun r3 M2 =>
    if r3 = 0 then
      if mK M2 v0 = 13 then
        bnd (f_X12_pack v0 (mR M2 v0 33) (0 : Int32) M2) fun _ M6 =>
        if mK M6 v0 = 13 then
          bnd (f_X12_unpack v0 (mR M6 v0 32) (0 : Int32) M6) fun _ M9 =>
          if mK M9 v0 = 13 then
            bnd (f_X12_keep v0 M9) fun _ M12 =>
            if mK M12 v0 = 13 then
              bnd (f_X12_unpack v0 (mR M12 v0 33) (0 : Int32) M12) fun _ M15 =>
              some ((0 : Int32), M15)
            else none
          else none
        else none
      else none
    else
      if mK M2 v0 = 13 then
        bnd (f_X12_unpack v0 (mR M2 v0 32) (0 : Int32) M2) fun _ M18 =>
        if mK M18 v0 = 13 then
          some (mI M18 v0 12, M18)
        else none
      else none
  else none
def f_X12_add_147 (k63 : Nat → Mem → Option (Int32 × Mem)) (v0 : Nat) (M : Mem) : Option (Int32 × Mem) :=
  if mK M v0 = 13 then
    bnd (f_X12_mark v0 (59 : Int32) M) fun _ M2 =>
    k63 v0 M2
  else none
def f_X12_add_102 (k63 : Nat → Mem → Option (Int32 × Mem)) (v0 : Nat) (M : Mem) : Option (Int32 × Mem) :=
  if mK M v0 = 13 then
    bnd (f_X12_readValues 6 v0 (-1 : Int32) (0 : Int32) (0 : Int32) M) fun _ M2 =>
    if mK M2 v0 = 13 then
      ap (sI M2 v0 30 ((mI M2 v0 30) + (1 : Int32))) fun M5 =>
      if mK M5 v0 = 13 then
        if (mI M5 v0 12) = 0 then
          bnd (f_X12_isMarked v0 (59 : Int32) M5) fun r9 M8 =>
          if r9 = 0 then
            f_X12_add_147 k63 v0 M8
          else
            if mK M8 v0 = 13 then
              bnd (f_X12_isTooMuch v0 M8) fun r13 M12 =>
              if r13 = 0 then
                f_X12_add_147 k63 v0 M12
              else
                if mK M12 v0 = 13 then
                  bnd (f_X12_wrong v0 (2 : Int32) M12) fun _ M16 =>
                  f_X12_add_147 k63 v0 M16
                else none
            else none
        else
          f_X12_add_147 k63 v0 M5
      else none
    else none
  else none
def f_X12_add_99 (k63 : Nat → Mem → Option (Int32 × Mem)) (v0 : Nat) (w0 : Nat) (w1 : Int32) (M : Mem) : Option (Int32 × Mem) :=
  if mK M w0 = 13 then
    bnd (f_X12_wrong w0 w1 M) fun _ M2 =>
    f_X12_add_102 k63 v0 M2
  else none
def f_X12_add_63 : Nat → Nat → Mem → Option (Int32 × Mem)
  | 0, _, _ => none
  | n + 1, v0, M =>
    if mK M v0 = 13 then
      if (mI M v0 12) = 0 then
        if (mI M v0 8) = 0 then
          f_X12_add_156 v0 M
        else
          if (mI M v0 30) = (30 : Int32) then
            bnd (f_X12_mayBegin v0 M) fun r6 M5 =>
            if r6 = 0 then
              f_X12_add_99 (f_X12_add_63 n) v0 v0 (1 : Int32) M5
            else
              f_X12_add_99 (f_X12_add_63 n) v0 v0 (2 : Int32) M5
          else
            f_X12_add_102 (f_X12_add_63 n) v0 M
      else
        f_X12_add_156 v0 M
    else none
def f_X12_add_26 (v0 : Nat) (M : Mem) : Option (Int32 × Mem) :=
  if mK M v0 = 13 then
    if mK M (mR M v0 4) = 21 then
      if inB (1 : Int32) (mN M (mR M v0 4)) = true then
        ap (sI M (mR M v0 4) (1 : Int32).toNatClampNeg ((mI M (mR M v0 4) (1 : Int32).toNatClampNeg) + (1 : Int32))) fun M4 =>
        some ((-1 : Int32), M4)
      else none
    else none
  else none
def f_X12_add (v0 : Nat) (v1 : Int32) (M : Mem) : Option (Int32 × Mem) :=
  if mK M v0 = 13 then
    bnd (f_X12_begin v0 v1 M) fun r3 M2 =>
    if r3 = 0 then
      some ((0 : Int32), M2)
    else
      if mK M2 v0 = 13 then
        if mK M2 (mR M2 v0 23) = 21 then
          if inB (0 : Int32) (mN M2 (mR M2 v0 23)) = true then
            if (mI M2 (mR M2 v0 23) (0 : Int32).toNatClampNeg) = 0 then
              f_X12_add_26 v0 M2
            else
              bnd (f_X12_checked v0 M2) fun r10 M9 =>
              if r10 = 0 then
                if mK M9 v0 = 13 then
                  bnd (f_X12_pack v0 (mR M9 v0 32) (0 : Int32) M9) fun _ M13 =>
                  if mK M13 v0 = 13 then
                    bnd (f_X12_stepOn v0 M13) fun _ M16 =>
                    if mK M16 v0 = 13 then
                      if (mI M16 v0 8) = 0 then
                        bnd (f_X12_wrong v0 (1 : Int32) M16) fun _ M20 =>
                        f_X12_add_63 FUEL v0 M20
                      else
                        f_X12_add_63 FUEL v0 M16
                    else none
                  else none
                else none
              else
                f_X12_add_26 v0 M9
          else none
        else none
      else none
  else none
theorem s_X12_add_156 (v0 : Nat) (M : Mem) (r : (Int32 × Mem)) (hf : f_X12_add_156 v0 M = some r) : G mi_X12_add 37 (oI r.1) r.2 156 [some (aR v0), none] [] M 0 0 := by
  unfold f_X12_add_156 at hf
  refine g_aload_n (pc' := 157) dX12_add_156 rfl rfl ?_
  obtain ⟨h1, hf⟩ := chk_s hf
  obtain ⟨r3, M2, e3, hf⟩ := bnd_some hf
  refine g_callVi (pc' := 160) (k' := 0) (u' := 0) (fr2 := 1) (As := []) (b := v0) (st := []) cf_X12_ended q_455 (by omega) (ci := 12) rfl rfl (by decide) dX12_add_157 rfl rfl rfl (Nat.le_of_ble_eq_true rfl) (Or.inl rfl) (Nat.le_refl _) (Nat.le_refl _) (Nat.le_refl _) (Nat.le_refl _) h1 (s_X12_ended v0 M _ e3) ?_
  refine g_if_eq (pc' := 163) 177 dX12_add_160 rfl (by decide) (fun c4 => ?_) (fun c4 => ?_)
  · have hf := ite_t c4 hf
    refine g_aload_n (pc' := 178) dX12_add_177 rfl rfl ?_
    refine g_aload_n (pc' := 179) dX12_add_178 rfl rfl ?_
    obtain ⟨h5, hf⟩ := chk_s hf
    refine g_getR (pc' := 182) 12 33 rfl rfl (by decide) inX12 (by decide) rfl rfl q_143 dX12_add_179 rfl h5 ?_
    refine g_iconst (pc' := 183) (0 : Int32) dX12_add_182 rfl (by decide) ?_
    obtain ⟨_, M6, e7, hf⟩ := bnd_some hf
    refine g_callVv (pc' := 186) (k' := 0) (u' := 0) (fr2 := 1) (As := [aR (mR M2 v0 33), aI (0 : Int32)]) (b := v0) (st := []) cf_X12_pack q_694 (by omega) (ci := 12) rfl rfl (by decide) dX12_add_183 rfl rfl rfl (Nat.le_of_ble_eq_true rfl) (Or.inl rfl) (Nat.le_refl _) (Nat.le_refl _) (Nat.le_refl _) (Nat.le_refl _) h5 (s_X12_pack v0 (mR M2 v0 33) (0 : Int32) M2 _ e7) ?_
    refine g_aload_n (pc' := 187) dX12_add_186 rfl rfl ?_
    refine g_aload_n (pc' := 188) dX12_add_187 rfl rfl ?_
    obtain ⟨h8, hf⟩ := chk_s hf
    refine g_getR (pc' := 191) 12 32 rfl rfl (by decide) inX12 (by decide) rfl rfl q_142 dX12_add_188 rfl h8 ?_
    refine g_iconst (pc' := 192) (0 : Int32) dX12_add_191 rfl (by decide) ?_
    obtain ⟨_, M9, e10, hf⟩ := bnd_some hf
    refine g_callVv (pc' := 195) (k' := 0) (u' := 0) (fr2 := 1) (As := [aR (mR M6 v0 32), aI (0 : Int32)]) (b := v0) (st := []) cf_X12_unpack q_734 (by omega) (ci := 12) rfl rfl (by decide) dX12_add_192 rfl rfl rfl (Nat.le_of_ble_eq_true rfl) (Or.inl rfl) (Nat.le_refl _) (Nat.le_refl _) (Nat.le_refl _) (Nat.le_refl _) h8 (s_X12_unpack v0 (mR M6 v0 32) (0 : Int32) M6 _ e10) ?_
    refine g_aload_n (pc' := 196) dX12_add_195 rfl rfl ?_
    obtain ⟨h11, hf⟩ := chk_s hf
    obtain ⟨_, M12, e13, hf⟩ := bnd_some hf
    refine g_callVv (pc' := 199) (k' := 0) (u' := 0) (fr2 := 2) (As := []) (b := v0) (st := []) cf_X12_keep q_738 (by omega) (ci := 12) rfl rfl (by decide) dX12_add_196 rfl rfl rfl (Nat.le_of_ble_eq_true rfl) (Or.inl rfl) (Nat.le_refl _) (Nat.le_refl _) (Nat.le_refl _) (Nat.le_refl _) h11 (s_X12_keep v0 M9 _ e13) ?_
    refine g_aload_n (pc' := 200) dX12_add_199 rfl rfl ?_
    refine g_aload_n (pc' := 201) dX12_add_200 rfl rfl ?_
    obtain ⟨h14, hf⟩ := chk_s hf
    refine g_getR (pc' := 204) 12 33 rfl rfl (by decide) inX12 (by decide) rfl rfl q_143 dX12_add_201 rfl h14 ?_
    refine g_iconst (pc' := 205) (0 : Int32) dX12_add_204 rfl (by decide) ?_
    obtain ⟨_, M15, e16, hf⟩ := bnd_some hf
    refine g_callVv (pc' := 208) (k' := 0) (u' := 0) (fr2 := 1) (As := [aR (mR M12 v0 33), aI (0 : Int32)]) (b := v0) (st := []) cf_X12_unpack q_734 (by omega) (ci := 12) rfl rfl (by decide) dX12_add_205 rfl rfl rfl (Nat.le_of_ble_eq_true rfl) (Or.inl rfl) (Nat.le_refl _) (Nat.le_refl _) (Nat.le_refl _) (Nat.le_refl _) h14 (s_X12_unpack v0 (mR M12 v0 33) (0 : Int32) M12 _ e16) ?_
    refine g_iconst (pc' := 209) (0 : Int32) dX12_add_208 rfl (by decide) ?_
    cases hf
    exact g_ireturn dX12_add_209 rfl (Nat.le_of_ble_eq_true rfl) (Nat.le_of_ble_eq_true rfl)
  · have hf := ite_f c4 hf
    refine g_aload_n (pc' := 164) dX12_add_163 rfl rfl ?_
    refine g_aload_n (pc' := 165) dX12_add_164 rfl rfl ?_
    obtain ⟨h17, hf⟩ := chk_s hf
    refine g_getR (pc' := 168) 12 32 rfl rfl (by decide) inX12 (by decide) rfl rfl q_142 dX12_add_165 rfl h17 ?_
    refine g_iconst (pc' := 169) (0 : Int32) dX12_add_168 rfl (by decide) ?_
    obtain ⟨_, M18, e19, hf⟩ := bnd_some hf
    refine g_callVv (pc' := 172) (k' := 0) (u' := 0) (fr2 := 1) (As := [aR (mR M2 v0 32), aI (0 : Int32)]) (b := v0) (st := []) cf_X12_unpack q_734 (by omega) (ci := 12) rfl rfl (by decide) dX12_add_169 rfl rfl rfl (Nat.le_of_ble_eq_true rfl) (Or.inl rfl) (Nat.le_refl _) (Nat.le_refl _) (Nat.le_refl _) (Nat.le_refl _) h17 (s_X12_unpack v0 (mR M2 v0 32) (0 : Int32) M2 _ e19) ?_
    refine g_aload_n (pc' := 173) dX12_add_172 rfl rfl ?_
    obtain ⟨h20, hf⟩ := chk_s hf
    refine g_getI (pc' := 176) 12 12 rfl rfl (by decide) inX12 (by decide) rfl rfl q_362 dX12_add_173 rfl h20 ?_
    cases hf
    exact g_ireturn dX12_add_176 rfl (Nat.le_of_ble_eq_true rfl) (Nat.le_of_ble_eq_true rfl)
theorem s_X12_add_147 (k63 : Nat → Mem → Option (Int32 × Mem)) (hk63 : ∀ (v0 : Nat) (M : Mem) (r : (Int32 × Mem)), k63 v0 M = some r → G mi_X12_add 37 (oI r.1) r.2 63 [some (aR v0), none] [] M 0 0) (v0 : Nat) (M : Mem) (r : (Int32 × Mem)) (hf : f_X12_add_147 k63 v0 M = some r) : G mi_X12_add 37 (oI r.1) r.2 147 [some (aR v0), none] [] M 0 0 := by
  unfold f_X12_add_147 at hf
  refine g_aload_n (pc' := 148) dX12_add_147 rfl rfl ?_
  refine g_bipush (pc' := 150) (59 : Int32) dX12_add_148 rfl (by decide) ?_
  obtain ⟨h1, hf⟩ := chk_s hf
  obtain ⟨_, M2, e3, hf⟩ := bnd_some hf
  refine g_callVv (pc' := 153) (k' := 0) (u' := 0) (fr2 := 3) (As := [aI (59 : Int32)]) (b := v0) (st := []) cf_X12_mark q_451 (by omega) (ci := 12) rfl rfl (by decide) dX12_add_150 rfl rfl rfl (Nat.le_of_ble_eq_true rfl) (Or.inl rfl) (Nat.le_refl _) (Nat.le_refl _) (Nat.le_refl _) (Nat.le_refl _) h1 (s_X12_mark v0 (59 : Int32) M _ e3) ?_
  refine g_goto (pc' := 63) dX12_add_153 (by decide) ?_
  refine g_widen (k' := 0) (u' := 0) (by omega) (by omega) ?_
  exact hk63 v0 M2 _ hf
theorem s_X12_add_102 (k63 : Nat → Mem → Option (Int32 × Mem)) (hk63 : ∀ (v0 : Nat) (M : Mem) (r : (Int32 × Mem)), k63 v0 M = some r → G mi_X12_add 37 (oI r.1) r.2 63 [some (aR v0), none] [] M 0 0) (v0 : Nat) (M : Mem) (r : (Int32 × Mem)) (hf : f_X12_add_102 k63 v0 M = some r) : G mi_X12_add 37 (oI r.1) r.2 102 [some (aR v0), none] [] M 0 0 := by
  unfold f_X12_add_102 at hf
  refine g_aload_n (pc' := 103) dX12_add_102 rfl rfl ?_
  refine g_iconst (pc' := 104) (-1 : Int32) dX12_add_103 rfl (by decide) ?_
  refine g_iconst (pc' := 105) (0 : Int32) dX12_add_104 rfl (by decide) ?_
  refine g_iconst (pc' := 106) (0 : Int32) dX12_add_105 rfl (by decide) ?_
  obtain ⟨h1, hf⟩ := chk_s hf
  obtain ⟨_, M2, e3, hf⟩ := bnd_some hf
  refine g_callVv (pc' := 109) (k' := 0) (u' := 0) (fr2 := 6 * 6 + 0) (As := [aI (-1 : Int32), aI (0 : Int32), aI (0 : Int32)]) (b := v0) (st := []) cf_X12_readValues q_702 (by omega) (ci := 12) rfl rfl (by decide) dX12_add_106 rfl rfl rfl (Nat.le_of_ble_eq_true rfl) (Or.inl rfl) (Nat.le_refl _) (Nat.le_refl _) (Nat.le_refl _) (Nat.le_refl _) h1 (s_X12_readValues 6 v0 (-1 : Int32) (0 : Int32) (0 : Int32) M _ e3) ?_
  refine g_aload_n (pc' := 110) dX12_add_109 rfl rfl ?_
  refine g_dup (pc' := 111) dX12_add_110 rfl rfl ?_
  obtain ⟨h4, hf⟩ := chk_s hf
  refine g_getI (pc' := 114) 12 30 rfl rfl (by decide) inX12 (by decide) rfl rfl q_364 dX12_add_111 rfl h4 ?_
  refine g_iconst (pc' := 115) (1 : Int32) dX12_add_114 rfl (by decide) ?_
  refine g_iadd (pc' := 116) dX12_add_115 rfl ?_
  refine g_putI (pc' := 119) 12 30 rfl rfl (by decide) inX12 tyX12_ok nmX12 (by decide) rfl rfl rfl rfl q_364 dX12_add_116 rfl h4 (gM fun M5 hM5 => ?_)
  have hf := ap_eq hf hM5
  refine g_aload_n (pc' := 120) dX12_add_119 rfl rfl ?_
  obtain ⟨h6, hf⟩ := chk_s hf
  refine g_getI (pc' := 123) 12 12 rfl rfl (by decide) inX12 (by decide) rfl rfl q_362 dX12_add_120 rfl h6 ?_
  refine g_if_ne (pc' := 126) 147 dX12_add_123 rfl (by decide) (fun c7 => ?_) (fun c7 => ?_)
  · have hf := ite_f c7 hf
    refine g_widen (k' := 0) (u' := 0) (by omega) (by omega) ?_
    exact s_X12_add_147 k63 hk63 v0 M5 _ hf
  · have hf := ite_t c7 hf
    refine g_aload_n (pc' := 127) dX12_add_126 rfl rfl ?_
    refine g_bipush (pc' := 129) (59 : Int32) dX12_add_127 rfl (by decide) ?_
    obtain ⟨r9, M8, e9, hf⟩ := bnd_some hf
    refine g_callVi (pc' := 132) (k' := 0) (u' := 0) (fr2 := 1) (As := [aI (59 : Int32)]) (b := v0) (st := []) cf_X12_isMarked q_411 (by omega) (ci := 12) rfl rfl (by decide) dX12_add_129 rfl rfl rfl (Nat.le_of_ble_eq_true rfl) (Or.inl rfl) (Nat.le_refl _) (Nat.le_refl _) (Nat.le_refl _) (Nat.le_refl _) h6 (s_X12_isMarked v0 (59 : Int32) M5 _ e9) ?_
    refine g_if_eq (pc' := 135) 147 dX12_add_132 rfl (by decide) (fun c10 => ?_) (fun c10 => ?_)
    · have hf := ite_t c10 hf
      refine g_widen (k' := 0) (u' := 0) (by omega) (by omega) ?_
      exact s_X12_add_147 k63 hk63 v0 M8 _ hf
    · have hf := ite_f c10 hf
      refine g_aload_n (pc' := 136) dX12_add_135 rfl rfl ?_
      obtain ⟨h11, hf⟩ := chk_s hf
      obtain ⟨r13, M12, e13, hf⟩ := bnd_some hf
      refine g_callVi (pc' := 139) (k' := 0) (u' := 0) (fr2 := 1) (As := []) (b := v0) (st := []) cf_X12_isTooMuch q_730 (by omega) (ci := 12) rfl rfl (by decide) dX12_add_136 rfl rfl rfl (Nat.le_of_ble_eq_true rfl) (Or.inl rfl) (Nat.le_refl _) (Nat.le_refl _) (Nat.le_refl _) (Nat.le_refl _) h11 (s_X12_isTooMuch v0 M8 _ e13) ?_
      refine g_if_eq (pc' := 142) 147 dX12_add_139 rfl (by decide) (fun c14 => ?_) (fun c14 => ?_)
      · have hf := ite_t c14 hf
        refine g_widen (k' := 0) (u' := 0) (by omega) (by omega) ?_
        exact s_X12_add_147 k63 hk63 v0 M12 _ hf
      · have hf := ite_f c14 hf
        refine g_aload_n (pc' := 143) dX12_add_142 rfl rfl ?_
        refine g_iconst (pc' := 144) (2 : Int32) dX12_add_143 rfl (by decide) ?_
        obtain ⟨h15, hf⟩ := chk_s hf
        obtain ⟨_, M16, e17, hf⟩ := bnd_some hf
        refine g_callVv (pc' := 147) (k' := 0) (u' := 0) (fr2 := 1) (As := [aI (2 : Int32)]) (b := v0) (st := []) cf_X12_wrong q_426 (by omega) (ci := 12) rfl rfl (by decide) dX12_add_144 rfl rfl rfl (Nat.le_of_ble_eq_true rfl) (Or.inl rfl) (Nat.le_refl _) (Nat.le_refl _) (Nat.le_refl _) (Nat.le_refl _) h15 (s_X12_wrong v0 (2 : Int32) M12 _ e17) ?_
        refine g_widen (k' := 0) (u' := 0) (by omega) (by omega) ?_
        exact s_X12_add_147 k63 hk63 v0 M16 _ hf
theorem s_X12_add_99 (k63 : Nat → Mem → Option (Int32 × Mem)) (hk63 : ∀ (v0 : Nat) (M : Mem) (r : (Int32 × Mem)), k63 v0 M = some r → G mi_X12_add 37 (oI r.1) r.2 63 [some (aR v0), none] [] M 0 0) (v0 : Nat) (w0 : Nat) (w1 : Int32) (M : Mem) (r : (Int32 × Mem)) (hf : f_X12_add_99 k63 v0 w0 w1 M = some r) : G mi_X12_add 37 (oI r.1) r.2 99 [some (aR v0), none] [aI w1, aR w0] M 0 0 := by
  unfold f_X12_add_99 at hf
  obtain ⟨h1, hf⟩ := chk_s hf
  obtain ⟨_, M2, e3, hf⟩ := bnd_some hf
  refine g_callVv (pc' := 102) (k' := 0) (u' := 0) (fr2 := 1) (As := [aI w1]) (b := w0) (st := []) cf_X12_wrong q_426 (by omega) (ci := 12) rfl rfl (by decide) dX12_add_99 rfl rfl rfl (Nat.le_of_ble_eq_true rfl) (Or.inl rfl) (Nat.le_refl _) (Nat.le_refl _) (Nat.le_refl _) (Nat.le_refl _) h1 (s_X12_wrong w0 w1 M _ e3) ?_
  refine g_widen (k' := 0) (u' := 0) (by omega) (by omega) ?_
  exact s_X12_add_102 k63 hk63 v0 M2 _ hf
theorem s_X12_add_63 : ∀ (n : Nat) (v0 : Nat) (M : Mem) (r : (Int32 × Mem)), f_X12_add_63 n v0 M = some r → G mi_X12_add 37 (oI r.1) r.2 63 [some (aR v0), none] [] M 0 0 := by
  intro n
  induction n with
  | zero => intro v0 M r hf; cases hf
  | succ n ih =>
    intro v0 M r hf
    unfold f_X12_add_63 at hf
    refine g_aload_n (pc' := 64) dX12_add_63 rfl rfl ?_
    obtain ⟨h1, hf⟩ := chk_s hf
    refine g_getI (pc' := 67) 12 12 rfl rfl (by decide) inX12 (by decide) rfl rfl q_362 dX12_add_64 rfl h1 ?_
    refine g_if_ne (pc' := 70) 156 dX12_add_67 rfl (by decide) (fun c2 => ?_) (fun c2 => ?_)
    · have hf := ite_f c2 hf
      exact s_X12_add_156 v0 M _ hf
    · have hf := ite_t c2 hf
      refine g_aload_n (pc' := 71) dX12_add_70 rfl rfl ?_
      refine g_getI (pc' := 74) 12 8 rfl rfl (by decide) inX12 (by decide) rfl rfl q_383 dX12_add_71 rfl h1 ?_
      refine g_if_eq (pc' := 77) 156 dX12_add_74 rfl (by decide) (fun c3 => ?_) (fun c3 => ?_)
      · have hf := ite_t c3 hf
        exact s_X12_add_156 v0 M _ hf
      · have hf := ite_f c3 hf
        refine g_aload_n (pc' := 78) dX12_add_77 rfl rfl ?_
        refine g_getI (pc' := 81) 12 30 rfl rfl (by decide) inX12 (by decide) rfl rfl q_364 dX12_add_78 rfl h1 ?_
        refine g_bipush (pc' := 83) (30 : Int32) dX12_add_81 rfl (by decide) ?_
        refine g_icmp_ne (pc' := 86) 102 dX12_add_83 rfl (by decide) (fun c4 => ?_) (fun c4 => ?_)
        · have hf := ite_f c4 hf
          exact s_X12_add_102 (f_X12_add_63 n) ih v0 M _ hf
        · have hf := ite_t c4 hf
          refine g_aload_n (pc' := 87) dX12_add_86 rfl rfl ?_
          refine g_aload_n (pc' := 88) dX12_add_87 rfl rfl ?_
          obtain ⟨r6, M5, e6, hf⟩ := bnd_some hf
          refine g_callVi (pc' := 91) (k' := 0) (u' := 0) (fr2 := 2) (As := []) (b := v0) (st := [aR v0]) cf_X12_mayBegin q_698 (by omega) (ci := 12) rfl rfl (by decide) dX12_add_88 rfl rfl rfl (Nat.le_of_ble_eq_true rfl) (Or.inl rfl) (Nat.le_refl _) (Nat.le_refl _) (Nat.le_refl _) (Nat.le_refl _) h1 (s_X12_mayBegin v0 M _ e6) ?_
          refine g_if_eq (pc' := 94) 98 dX12_add_91 rfl (by decide) (fun c7 => ?_) (fun c7 => ?_)
          · have hf := ite_t c7 hf
            refine g_iconst (pc' := 99) (1 : Int32) dX12_add_98 rfl (by decide) ?_
            refine g_widen (k' := 0) (u' := 0) (by omega) (by omega) ?_
            exact s_X12_add_99 (f_X12_add_63 n) ih v0 v0 (1 : Int32) M5 _ hf
          · have hf := ite_f c7 hf
            refine g_iconst (pc' := 95) (2 : Int32) dX12_add_94 rfl (by decide) ?_
            refine g_goto (pc' := 99) dX12_add_95 (by decide) ?_
            refine g_widen (k' := 0) (u' := 0) (by omega) (by omega) ?_
            exact s_X12_add_99 (f_X12_add_63 n) ih v0 v0 (2 : Int32) M5 _ hf
theorem s_X12_add_26 (v0 : Nat) (M : Mem) (r : (Int32 × Mem)) (hf : f_X12_add_26 v0 M = some r) : G mi_X12_add 37 (oI r.1) r.2 26 [some (aR v0), none] [] M 0 0 := by
  unfold f_X12_add_26 at hf
  refine g_aload_n (pc' := 27) dX12_add_26 rfl rfl ?_
  obtain ⟨h1, hf⟩ := chk_s hf
  refine g_getR (pc' := 30) 12 4 rfl rfl (by decide) inX12 (by decide) rfl rfl q_125 dX12_add_27 rfl h1 ?_
  refine g_iconst (pc' := 31) (1 : Int32) dX12_add_30 rfl (by decide) ?_
  refine g_dup2 (pc' := 32) dX12_add_31 rfl rfl rfl ?_
  obtain ⟨h2, hf⟩ := chk_s hf
  obtain ⟨b3, hf⟩ := chk_s hf
  refine g_iald (pc' := 33) dX12_add_32 rfl h2 (inB_in b3) ?_
  refine g_iconst (pc' := 34) (1 : Int32) dX12_add_33 rfl (by decide) ?_
  refine g_iadd (pc' := 35) dX12_add_34 rfl ?_
  refine g_iast (pc' := 36) dX12_add_35 rfl h2 (inB_in b3) (gM fun M4 hM4 => ?_)
  have hf := ap_eq hf hM4
  refine g_iconst (pc' := 37) (-1 : Int32) dX12_add_36 rfl (by decide) ?_
  cases hf
  exact g_ireturn dX12_add_37 rfl (Nat.le_of_ble_eq_true rfl) (Nat.le_of_ble_eq_true rfl)
theorem s_X12_add (v0 : Nat) (v1 : Int32) (M : Mem) (r : (Int32 × Mem)) (hf : f_X12_add v0 v1 M = some r) : Sem mi_X12_add (37) [aR v0, aI v1] M (oI r.1) r.2 := by
  unfold f_X12_add at hf
  refine sem_of (by decide) rfl rfl rfl (Nat.le_of_ble_eq_true rfl) (lv := [some (aR v0), some (aI v1)]) rfl ?_
  refine g_aload_n (pc' := 1) dX12_add_0 rfl rfl ?_
  refine g_iload_n (pc' := 2) dX12_add_1 rfl rfl ?_
  obtain ⟨h1, hf⟩ := chk_s hf
  obtain ⟨r3, M2, e3, hf⟩ := bnd_some hf
  refine g_callVi (pc' := 5) (k' := 0) (u' := 0) (fr2 := 1) (As := [aI v1]) (b := v0) (st := []) cf_X12_begin q_367 (by omega) (ci := 12) rfl rfl (by decide) dX12_add_2 rfl rfl rfl (Nat.le_of_ble_eq_true rfl) (Or.inl rfl) (Nat.le_refl _) (Nat.le_refl _) (Nat.le_refl _) (Nat.le_refl _) h1 (s_X12_begin v0 v1 M _ e3) ?_
  refine g_if_ne (pc' := 8) 10 dX12_add_5 rfl (by decide) (fun c4 => ?_) (fun c4 => ?_)
  · have hf := ite_f c4 hf
    refine g_aload_n (pc' := 11) dX12_add_10 rfl rfl ?_
    obtain ⟨h5, hf⟩ := chk_s hf
    refine g_getR (pc' := 14) 12 23 rfl rfl (by decide) inX12 (by decide) rfl rfl q_135 dX12_add_11 rfl h5 ?_
    refine g_iconst (pc' := 15) (0 : Int32) dX12_add_14 rfl (by decide) ?_
    obtain ⟨h6, hf⟩ := chk_s hf
    obtain ⟨b7, hf⟩ := chk_s hf
    refine g_iald (pc' := 16) dX12_add_15 rfl h6 (inB_in b7) ?_
    refine g_if_eq (pc' := 19) 26 dX12_add_16 rfl (by decide) (fun c8 => ?_) (fun c8 => ?_)
    · have hf := ite_t c8 hf
      refine g_mask [true, false] rfl ?_
      refine g_widen (k' := 0) (u' := 0) (by omega) (by omega) ?_
      exact s_X12_add_26 v0 M2 _ hf
    · have hf := ite_f c8 hf
      refine g_aload_n (pc' := 20) dX12_add_19 rfl rfl ?_
      obtain ⟨r10, M9, e10, hf⟩ := bnd_some hf
      refine g_callVi (pc' := 23) (k' := 0) (u' := 0) (fr2 := 4) (As := []) (b := v0) (st := []) cf_X12_checked q_648 (by omega) (ci := 12) rfl rfl (by decide) dX12_add_20 rfl rfl rfl (Nat.le_of_ble_eq_true rfl) (Or.inl rfl) (Nat.le_refl _) (Nat.le_refl _) (Nat.le_refl _) (Nat.le_refl _) h5 (s_X12_checked v0 M2 _ e10) ?_
      refine g_if_eq (pc' := 26) 38 dX12_add_23 rfl (by decide) (fun c11 => ?_) (fun c11 => ?_)
      · have hf := ite_t c11 hf
        refine g_aload_n (pc' := 39) dX12_add_38 rfl rfl ?_
        refine g_aload_n (pc' := 40) dX12_add_39 rfl rfl ?_
        obtain ⟨h12, hf⟩ := chk_s hf
        refine g_getR (pc' := 43) 12 32 rfl rfl (by decide) inX12 (by decide) rfl rfl q_142 dX12_add_40 rfl h12 ?_
        refine g_iconst (pc' := 44) (0 : Int32) dX12_add_43 rfl (by decide) ?_
        obtain ⟨_, M13, e14, hf⟩ := bnd_some hf
        refine g_callVv (pc' := 47) (k' := 0) (u' := 0) (fr2 := 1) (As := [aR (mR M9 v0 32), aI (0 : Int32)]) (b := v0) (st := []) cf_X12_pack q_694 (by omega) (ci := 12) rfl rfl (by decide) dX12_add_44 rfl rfl rfl (Nat.le_of_ble_eq_true rfl) (Or.inl rfl) (Nat.le_refl _) (Nat.le_refl _) (Nat.le_refl _) (Nat.le_refl _) h12 (s_X12_pack v0 (mR M9 v0 32) (0 : Int32) M9 _ e14) ?_
        refine g_aload_n (pc' := 48) dX12_add_47 rfl rfl ?_
        obtain ⟨h15, hf⟩ := chk_s hf
        obtain ⟨_, M16, e17, hf⟩ := bnd_some hf
        refine g_callVv (pc' := 51) (k' := 0) (u' := 0) (fr2 := 2) (As := []) (b := v0) (st := []) cf_X12_stepOn q_378 (by omega) (ci := 12) rfl rfl (by decide) dX12_add_48 rfl rfl rfl (Nat.le_of_ble_eq_true rfl) (Or.inl rfl) (Nat.le_refl _) (Nat.le_refl _) (Nat.le_refl _) (Nat.le_refl _) h15 (s_X12_stepOn v0 M13 _ e17) ?_
        refine g_aload_n (pc' := 52) dX12_add_51 rfl rfl ?_
        obtain ⟨h18, hf⟩ := chk_s hf
        refine g_getI (pc' := 55) 12 8 rfl rfl (by decide) inX12 (by decide) rfl rfl q_383 dX12_add_52 rfl h18 ?_
        refine g_if_ne (pc' := 58) 63 dX12_add_55 rfl (by decide) (fun c19 => ?_) (fun c19 => ?_)
        · have hf := ite_f c19 hf
          refine g_mask [true, false] rfl ?_
          refine g_widen (k' := 0) (u' := 0) (by omega) (by omega) ?_
          exact s_X12_add_63 FUEL v0 M16 _ hf
        · have hf := ite_t c19 hf
          refine g_aload_n (pc' := 59) dX12_add_58 rfl rfl ?_
          refine g_iconst (pc' := 60) (1 : Int32) dX12_add_59 rfl (by decide) ?_
          obtain ⟨_, M20, e21, hf⟩ := bnd_some hf
          refine g_callVv (pc' := 63) (k' := 0) (u' := 0) (fr2 := 1) (As := [aI (1 : Int32)]) (b := v0) (st := []) cf_X12_wrong q_426 (by omega) (ci := 12) rfl rfl (by decide) dX12_add_60 rfl rfl rfl (Nat.le_of_ble_eq_true rfl) (Or.inl rfl) (Nat.le_refl _) (Nat.le_refl _) (Nat.le_refl _) (Nat.le_refl _) h18 (s_X12_wrong v0 (1 : Int32) M16 _ e21) ?_
          refine g_mask [true, false] rfl ?_
          refine g_widen (k' := 0) (u' := 0) (by omega) (by omega) ?_
          exact s_X12_add_63 FUEL v0 M20 _ hf
      · have hf := ite_f c11 hf
        refine g_mask [true, false] rfl ?_
        refine g_widen (k' := 0) (u' := 0) (by omega) (by omega) ?_
        exact s_X12_add_26 v0 M9 _ hf
  · have hf := ite_t c4 hf
    refine g_iconst (pc' := 9) (0 : Int32) dX12_add_8 rfl (by decide) ?_
    cases hf
    exact g_ireturn dX12_add_9 rfl (Nat.le_of_ble_eq_true rfl) (Nat.le_of_ble_eq_true rfl)
def f_X12_isWrongBy_88  (M : Mem) : Option (Int32 × Mem) :=
  some ((1 : Int32), M)
def f_X12_isWrongBy_65 (v0 : Nat) (v1 : Int32) (M : Mem) : Option (Int32 × Mem) :=
  if mK M v0 = 13 then
    if mK M (mR M v0 24) = 21 then
      if inB (0 : Int32) (mN M (mR M v0 24)) = true then
        if (mI M (mR M v0 24) (0 : Int32).toNatClampNeg) ≤ (v1 + (1 : Int32)) then
          some ((0 : Int32), M)
        else
          bnd (f_X12_unlikeAhead v0 (v1 + (1 : Int32)) M) fun r6 M5 =>
          if r6 = (-1 : Int32) then
            some ((0 : Int32), M5)
          else
            f_X12_isWrongBy_88 M5
      else none
    else none
  else none
def f_X12_isWrongBy_52 (v0 : Nat) (v1 : Int32) (M : Mem) : Option (Int32 × Mem) :=
  if v1 ≤ 0 then
    f_X12_isWrongBy_65 v0 v1 M
  else
    if mK M v0 = 13 then
      bnd (f_X12_unlikeAhead v0 v1 M) fun r4 M3 =>
      if r4 = (-1 : Int32) then
        f_X12_isWrongBy_65 v0 v1 M3
      else
        f_X12_isWrongBy_88 M3
    else none
def f_X12_isWrongBy_34 (v0 : Nat) (v1 : Int32) (v3 : Int32) (M : Mem) : Option (Int32 × Mem) :=
  if v3 = 0 then
    if mK M v0 = 13 then
      bnd (f_X12_firstsOf v0 v1 M) fun r4 M3 =>
      if mK M3 v0 = 13 then
        if r4 = (mI M3 v0 30) then
          f_X12_isWrongBy_52 v0 v1 M3
        else
          some ((1 : Int32), M3)
      else none
    else none
  else
    f_X12_isWrongBy_52 v0 v1 M
def f_X12_isWrongBy (v0 : Nat) (v1 : Int32) (v2 : Int32) (v3 : Int32) (M : Mem) : Option (Int32 × Mem) :=
  if mK M v0 = 13 then
    bnd (f_X12_wrongAt v0 v1 v2 M) fun r3 M2 =>
    if r3 = 0 then
      if mK M2 v0 = 13 then
        if mK M2 (mR M2 v0 28) = 21 then
          if inB v1 (mN M2 (mR M2 v0 28)) = true then
            if (mI M2 (mR M2 v0 28) v1.toNatClampNeg) ≤ (v2 + (1 : Int32)) then
              f_X12_isWrongBy_34 v0 v1 v3 M2
            else
              bnd (f_X12_wrongAt v0 v1 (v2 + (1 : Int32)) M2) fun r10 M9 =>
              if r10 = 0 then
                f_X12_isWrongBy_34 v0 v1 v3 M9
              else
                some ((1 : Int32), M9)
          else none
        else none
      else none
    else
      some ((1 : Int32), M2)
  else none
theorem s_X12_isWrongBy_88  (M : Mem) (r : (Int32 × Mem)) (hf : f_X12_isWrongBy_88  M = some r) : G mi_X12_isWrongBy 4 (oI r.1) r.2 88 [none, none, none, none] [] M 0 0 := by
  unfold f_X12_isWrongBy_88 at hf
  refine g_iconst (pc' := 89) (1 : Int32) dX12_isWrongBy_88 rfl (by decide) ?_
  refine g_goto (pc' := 93) dX12_isWrongBy_89 (by decide) ?_
  cases hf
  exact g_zreturn dX12_isWrongBy_93 rfl (Or.inr rfl) (Nat.le_of_ble_eq_true rfl) (Nat.le_of_ble_eq_true rfl)
theorem s_X12_isWrongBy_65 (v0 : Nat) (v1 : Int32) (M : Mem) (r : (Int32 × Mem)) (hf : f_X12_isWrongBy_65 v0 v1 M = some r) : G mi_X12_isWrongBy 4 (oI r.1) r.2 65 [some (aR v0), some (aI v1), none, none] [] M 0 0 := by
  unfold f_X12_isWrongBy_65 at hf
  refine g_iload_n (pc' := 66) dX12_isWrongBy_65 rfl rfl ?_
  refine g_iconst (pc' := 67) (1 : Int32) dX12_isWrongBy_66 rfl (by decide) ?_
  refine g_iadd (pc' := 68) dX12_isWrongBy_67 rfl ?_
  refine g_aload_n (pc' := 69) dX12_isWrongBy_68 rfl rfl ?_
  obtain ⟨h1, hf⟩ := chk_s hf
  refine g_getR (pc' := 72) 12 24 rfl rfl (by decide) inX12 (by decide) rfl rfl q_136 dX12_isWrongBy_69 rfl h1 ?_
  refine g_iconst (pc' := 73) (0 : Int32) dX12_isWrongBy_72 rfl (by decide) ?_
  obtain ⟨h2, hf⟩ := chk_s hf
  obtain ⟨b3, hf⟩ := chk_s hf
  refine g_iald (pc' := 74) dX12_isWrongBy_73 rfl h2 (inB_in b3) ?_
  refine g_icmp_ge (pc' := 77) 92 dX12_isWrongBy_74 rfl (by decide) (fun c4 => ?_) (fun c4 => ?_)
  · have hf := ite_t c4 hf
    refine g_iconst (pc' := 93) (0 : Int32) dX12_isWrongBy_92 rfl (by decide) ?_
    cases hf
    exact g_zreturn dX12_isWrongBy_93 rfl (Or.inl rfl) (Nat.le_of_ble_eq_true rfl) (Nat.le_of_ble_eq_true rfl)
  · have hf := ite_f c4 hf
    refine g_aload_n (pc' := 78) dX12_isWrongBy_77 rfl rfl ?_
    refine g_iload_n (pc' := 79) dX12_isWrongBy_78 rfl rfl ?_
    refine g_iconst (pc' := 80) (1 : Int32) dX12_isWrongBy_79 rfl (by decide) ?_
    refine g_iadd (pc' := 81) dX12_isWrongBy_80 rfl ?_
    obtain ⟨r6, M5, e6, hf⟩ := bnd_some hf
    refine g_callVi (pc' := 84) (k' := 0) (u' := 0) (fr2 := 3) (As := [aI (v1 + (1 : Int32))]) (b := v0) (st := []) cf_X12_unlikeAhead q_678 (by omega) (ci := 12) rfl rfl (by decide) dX12_isWrongBy_81 rfl rfl rfl (Nat.le_of_ble_eq_true rfl) (Or.inl rfl) (Nat.le_refl _) (Nat.le_refl _) (Nat.le_refl _) (Nat.le_refl _) h1 (s_X12_unlikeAhead v0 (v1 + (1 : Int32)) M _ e6) ?_
    refine g_iconst (pc' := 85) (-1 : Int32) dX12_isWrongBy_84 rfl (by decide) ?_
    refine g_icmp_eq (pc' := 88) 92 dX12_isWrongBy_85 rfl (by decide) (fun c7 => ?_) (fun c7 => ?_)
    · have hf := ite_t c7 hf
      refine g_iconst (pc' := 93) (0 : Int32) dX12_isWrongBy_92 rfl (by decide) ?_
      cases hf
      exact g_zreturn dX12_isWrongBy_93 rfl (Or.inl rfl) (Nat.le_of_ble_eq_true rfl) (Nat.le_of_ble_eq_true rfl)
    · have hf := ite_f c7 hf
      refine g_mask [false, false, true, true] rfl ?_
      refine g_widen (k' := 0) (u' := 0) (by omega) (by omega) ?_
      exact s_X12_isWrongBy_88 M5 _ hf
theorem s_X12_isWrongBy_52 (v0 : Nat) (v1 : Int32) (M : Mem) (r : (Int32 × Mem)) (hf : f_X12_isWrongBy_52 v0 v1 M = some r) : G mi_X12_isWrongBy 4 (oI r.1) r.2 52 [some (aR v0), some (aI v1), none, none] [] M 0 0 := by
  unfold f_X12_isWrongBy_52 at hf
  refine g_iload_n (pc' := 53) dX12_isWrongBy_52 rfl rfl ?_
  refine g_if_le (pc' := 56) 65 dX12_isWrongBy_53 rfl (by decide) (fun c1 => ?_) (fun c1 => ?_)
  · have hf := ite_t c1 hf
    exact s_X12_isWrongBy_65 v0 v1 M _ hf
  · have hf := ite_f c1 hf
    refine g_aload_n (pc' := 57) dX12_isWrongBy_56 rfl rfl ?_
    refine g_iload_n (pc' := 58) dX12_isWrongBy_57 rfl rfl ?_
    obtain ⟨h2, hf⟩ := chk_s hf
    obtain ⟨r4, M3, e4, hf⟩ := bnd_some hf
    refine g_callVi (pc' := 61) (k' := 0) (u' := 0) (fr2 := 3) (As := [aI v1]) (b := v0) (st := []) cf_X12_unlikeAhead q_678 (by omega) (ci := 12) rfl rfl (by decide) dX12_isWrongBy_58 rfl rfl rfl (Nat.le_of_ble_eq_true rfl) (Or.inl rfl) (Nat.le_refl _) (Nat.le_refl _) (Nat.le_refl _) (Nat.le_refl _) h2 (s_X12_unlikeAhead v0 v1 M _ e4) ?_
    refine g_iconst (pc' := 62) (-1 : Int32) dX12_isWrongBy_61 rfl (by decide) ?_
    refine g_icmp_ne (pc' := 65) 88 dX12_isWrongBy_62 rfl (by decide) (fun c5 => ?_) (fun c5 => ?_)
    · have hf := ite_f c5 hf
      refine g_mask [false, false, true, true] rfl ?_
      refine g_widen (k' := 0) (u' := 0) (by omega) (by omega) ?_
      exact s_X12_isWrongBy_88 M3 _ hf
    · have hf := ite_t c5 hf
      refine g_widen (k' := 0) (u' := 0) (by omega) (by omega) ?_
      exact s_X12_isWrongBy_65 v0 v1 M3 _ hf
theorem s_X12_isWrongBy_34 (v0 : Nat) (v1 : Int32) (v3 : Int32) (M : Mem) (r : (Int32 × Mem)) (hf : f_X12_isWrongBy_34 v0 v1 v3 M = some r) : G mi_X12_isWrongBy 4 (oI r.1) r.2 34 [some (aR v0), some (aI v1), none, some (aI v3)] [] M 0 0 := by
  unfold f_X12_isWrongBy_34 at hf
  refine g_iload_n (pc' := 35) dX12_isWrongBy_34 rfl rfl ?_
  refine g_if_ne (pc' := 38) 52 dX12_isWrongBy_35 rfl (by decide) (fun c1 => ?_) (fun c1 => ?_)
  · have hf := ite_f c1 hf
    refine g_mask [true, true, true, false] rfl ?_
    exact s_X12_isWrongBy_52 v0 v1 M _ hf
  · have hf := ite_t c1 hf
    refine g_aload_n (pc' := 39) dX12_isWrongBy_38 rfl rfl ?_
    refine g_iload_n (pc' := 40) dX12_isWrongBy_39 rfl rfl ?_
    obtain ⟨h2, hf⟩ := chk_s hf
    obtain ⟨r4, M3, e4, hf⟩ := bnd_some hf
    refine g_callVi (pc' := 43) (k' := 0) (u' := 0) (fr2 := 2) (As := [aI v1]) (b := v0) (st := []) cf_X12_firstsOf q_674 (by omega) (ci := 12) rfl rfl (by decide) dX12_isWrongBy_40 rfl rfl rfl (Nat.le_of_ble_eq_true rfl) (Or.inl rfl) (Nat.le_refl _) (Nat.le_refl _) (Nat.le_refl _) (Nat.le_refl _) h2 (s_X12_firstsOf v0 v1 M _ e4) ?_
    refine g_aload_n (pc' := 44) dX12_isWrongBy_43 rfl rfl ?_
    obtain ⟨h5, hf⟩ := chk_s hf
    refine g_getI (pc' := 47) 12 30 rfl rfl (by decide) inX12 (by decide) rfl rfl q_364 dX12_isWrongBy_44 rfl h5 ?_
    refine g_icmp_eq (pc' := 50) 52 dX12_isWrongBy_47 rfl (by decide) (fun c6 => ?_) (fun c6 => ?_)
    · have hf := ite_t c6 hf
      refine g_mask [true, true, true, false] rfl ?_
      refine g_widen (k' := 0) (u' := 0) (by omega) (by omega) ?_
      exact s_X12_isWrongBy_52 v0 v1 M3 _ hf
    · have hf := ite_f c6 hf
      refine g_iconst (pc' := 51) (1 : Int32) dX12_isWrongBy_50 rfl (by decide) ?_
      cases hf
      exact g_zreturn dX12_isWrongBy_51 rfl (Or.inr rfl) (Nat.le_of_ble_eq_true rfl) (Nat.le_of_ble_eq_true rfl)
theorem s_X12_isWrongBy (v0 : Nat) (v1 : Int32) (v2 : Int32) (v3 : Int32) (M : Mem) (r : (Int32 × Mem)) (hf : f_X12_isWrongBy v0 v1 v2 v3 M = some r) : Sem mi_X12_isWrongBy (4) [aR v0, aI v1, aI v2, aI v3] M (oI r.1) r.2 := by
  unfold f_X12_isWrongBy at hf
  refine sem_of (by decide) rfl rfl rfl (Nat.le_of_ble_eq_true rfl) (lv := [some (aR v0), some (aI v1), some (aI v2), some (aI v3)]) rfl ?_
  refine g_aload_n (pc' := 1) dX12_isWrongBy_0 rfl rfl ?_
  refine g_iload_n (pc' := 2) dX12_isWrongBy_1 rfl rfl ?_
  refine g_iload_n (pc' := 3) dX12_isWrongBy_2 rfl rfl ?_
  obtain ⟨h1, hf⟩ := chk_s hf
  obtain ⟨r3, M2, e3, hf⟩ := bnd_some hf
  refine g_callVi (pc' := 6) (k' := 0) (u' := 0) (fr2 := 2) (As := [aI v1, aI v2]) (b := v0) (st := []) cf_X12_wrongAt q_652 (by omega) (ci := 12) rfl rfl (by decide) dX12_isWrongBy_3 rfl rfl rfl (Nat.le_of_ble_eq_true rfl) (Or.inl rfl) (Nat.le_refl _) (Nat.le_refl _) (Nat.le_refl _) (Nat.le_refl _) h1 (s_X12_wrongAt v0 v1 v2 M _ e3) ?_
  refine g_if_ne (pc' := 9) 32 dX12_isWrongBy_6 rfl (by decide) (fun c4 => ?_) (fun c4 => ?_)
  · have hf := ite_f c4 hf
    refine g_iconst (pc' := 33) (1 : Int32) dX12_isWrongBy_32 rfl (by decide) ?_
    cases hf
    exact g_zreturn dX12_isWrongBy_33 rfl (Or.inr rfl) (Nat.le_of_ble_eq_true rfl) (Nat.le_of_ble_eq_true rfl)
  · have hf := ite_t c4 hf
    refine g_iload_n (pc' := 10) dX12_isWrongBy_9 rfl rfl ?_
    refine g_iconst (pc' := 11) (1 : Int32) dX12_isWrongBy_10 rfl (by decide) ?_
    refine g_iadd (pc' := 12) dX12_isWrongBy_11 rfl ?_
    refine g_aload_n (pc' := 13) dX12_isWrongBy_12 rfl rfl ?_
    obtain ⟨h5, hf⟩ := chk_s hf
    refine g_getR (pc' := 16) 12 28 rfl rfl (by decide) inX12 (by decide) rfl rfl q_139 dX12_isWrongBy_13 rfl h5 ?_
    refine g_iload_n (pc' := 17) dX12_isWrongBy_16 rfl rfl ?_
    obtain ⟨h6, hf⟩ := chk_s hf
    obtain ⟨b7, hf⟩ := chk_s hf
    refine g_iald (pc' := 18) dX12_isWrongBy_17 rfl h6 (inB_in b7) ?_
    refine g_icmp_ge (pc' := 21) 34 dX12_isWrongBy_18 rfl (by decide) (fun c8 => ?_) (fun c8 => ?_)
    · have hf := ite_t c8 hf
      refine g_mask [true, true, false, true] rfl ?_
      refine g_widen (k' := 0) (u' := 0) (by omega) (by omega) ?_
      exact s_X12_isWrongBy_34 v0 v1 v3 M2 _ hf
    · have hf := ite_f c8 hf
      refine g_aload_n (pc' := 22) dX12_isWrongBy_21 rfl rfl ?_
      refine g_iload_n (pc' := 23) dX12_isWrongBy_22 rfl rfl ?_
      refine g_iload_n (pc' := 24) dX12_isWrongBy_23 rfl rfl ?_
      refine g_iconst (pc' := 25) (1 : Int32) dX12_isWrongBy_24 rfl (by decide) ?_
      refine g_iadd (pc' := 26) dX12_isWrongBy_25 rfl ?_
      obtain ⟨r10, M9, e10, hf⟩ := bnd_some hf
      refine g_callVi (pc' := 29) (k' := 0) (u' := 0) (fr2 := 2) (As := [aI v1, aI (v2 + (1 : Int32))]) (b := v0) (st := []) cf_X12_wrongAt q_652 (by omega) (ci := 12) rfl rfl (by decide) dX12_isWrongBy_26 rfl rfl rfl (Nat.le_of_ble_eq_true rfl) (Or.inl rfl) (Nat.le_refl _) (Nat.le_refl _) (Nat.le_refl _) (Nat.le_refl _) h5 (s_X12_wrongAt v0 v1 (v2 + (1 : Int32)) M2 _ e10) ?_
      refine g_if_eq (pc' := 32) 34 dX12_isWrongBy_29 rfl (by decide) (fun c11 => ?_) (fun c11 => ?_)
      · have hf := ite_t c11 hf
        refine g_mask [true, true, false, true] rfl ?_
        refine g_widen (k' := 0) (u' := 0) (by omega) (by omega) ?_
        exact s_X12_isWrongBy_34 v0 v1 v3 M9 _ hf
      · have hf := ite_f c11 hf
        refine g_iconst (pc' := 33) (1 : Int32) dX12_isWrongBy_32 rfl (by decide) ?_
        cases hf
        exact g_zreturn dX12_isWrongBy_33 rfl (Or.inr rfl) (Nat.le_of_ble_eq_true rfl) (Nat.le_of_ble_eq_true rfl)
def f_X12_tryLevel_112 (v0 : Nat) (v1 : Int32) (v2 : Int32) (v5 : Int32) (M : Mem) : Option (Unit × Mem) :=
  if mK M v0 = 13 then
    if mK M (mR M v0 27) = 21 then
      if inB (((120 : Int32) * v1) + v2) (mN M (mR M v0 27)) = true then
        ap (sI M (mR M v0 27) (((120 : Int32) * v1) + v2).toNatClampNeg v5) fun M4 =>
        some ((), M4)
      else none
    else none
  else none
def f_X12_tryLevel_102 (v0 : Nat) (v1 : Int32) (v2 : Int32) (v5 : Int32) (M : Mem) : Option (Unit × Mem) :=
  if mK M v0 = 13 then
    ap (sI M v0 36 ((mI M v0 36) + (1 : Int32))) fun M2 =>
    f_X12_tryLevel_112 v0 v1 v2 v5 M2
  else none
def f_X12_tryLevel_45 (v0 : Nat) (v1 : Int32) (v2 : Int32) (v3 : Int32) (v4 : Int32) (v5 : Int32) (v6 : Int32) (w0 : Int32) (M : Mem) : Option (Unit × Mem) :=
  if mK M v0 = 13 then
    bnd (f_X12_valueAt v0 v1 v2 M) fun r3 M2 =>
    if mK M2 v0 = 13 then
      bnd (f_X12_put v0 v1 v2 v6 w0 r3 M2) fun _ M5 =>
      if mK M5 v0 = 13 then
        bnd (f_X12_isWrongBy v0 v1 v2 v3 M5) fun r9 M8 =>
        if r9 = 0 then
          if mK M8 v0 = 13 then
            if (mI M8 v0 36) = 0 then
              ap (sI M8 v0 37 (((((10000 : Int32) * v1) + ((20 : Int32) * v2)) + ((10 : Int32) * v3)) + v4)) fun M13 =>
              f_X12_tryLevel_102 v0 v1 v2 v5 M13
            else
              f_X12_tryLevel_102 v0 v1 v2 v5 M8
          else none
        else
          f_X12_tryLevel_112 v0 v1 v2 v5 M8
      else none
    else none
  else none
def f_X12_tryLevel_28 (v0 : Nat) (v1 : Int32) (v2 : Int32) (v3 : Int32) (v4 : Int32) (v5 : Int32) (w0 : Int32) (M : Mem) : Option (Unit × Mem) :=
  if v3 = 0 then
    if mK M v0 = 13 then
      bnd (f_X12_defAt v0 v1 v2 M) fun r4 M3 =>
      f_X12_tryLevel_45 v0 v1 v2 v3 v4 v5 w0 r4 M3
    else none
  else
    f_X12_tryLevel_45 v0 v1 v2 v3 v4 v5 w0 v4 M
def f_X12_tryLevel (v0 : Nat) (v1 : Int32) (v2 : Int32) (v3 : Int32) (v4 : Int32) (M : Mem) : Option (Unit × Mem) :=
  if mK M v0 = 13 then
    if mK M (mR M v0 27) = 21 then
      if inB (((120 : Int32) * v1) + v2) (mN M (mR M v0 27)) = true then
        if v3 = 0 then
          f_X12_tryLevel_28 v0 v1 v2 v3 v4 (mI M (mR M v0 27) (((120 : Int32) * v1) + v2).toNatClampNeg) v4 M
        else
          bnd (f_X12_repAt v0 v1 v2 M) fun r6 M5 =>
          f_X12_tryLevel_28 v0 v1 v2 v3 v4 (mI M (mR M v0 27) (((120 : Int32) * v1) + v2).toNatClampNeg) r6 M5
      else none
    else none
  else none
theorem s_X12_tryLevel_112 (v0 : Nat) (v1 : Int32) (v2 : Int32) (v5 : Int32) (M : Mem) (r : (Unit × Mem)) (hf : f_X12_tryLevel_112 v0 v1 v2 v5 M = some r) : G mi_X12_tryLevel 5 (oU r.1) r.2 112 [some (aR v0), some (aI v1), some (aI v2), none, none, some (aI v5), none, none] [] M 0 0 := by
  unfold f_X12_tryLevel_112 at hf
  refine g_aload_n (pc' := 113) dX12_tryLevel_112 rfl rfl ?_
  obtain ⟨h1, hf⟩ := chk_s hf
  refine g_getR (pc' := 116) 12 27 rfl rfl (by decide) inX12 (by decide) rfl rfl q_138 dX12_tryLevel_113 rfl h1 ?_
  refine g_bipush (pc' := 118) (120 : Int32) dX12_tryLevel_116 rfl (by decide) ?_
  refine g_iload_n (pc' := 119) dX12_tryLevel_118 rfl rfl ?_
  refine g_imul (pc' := 120) dX12_tryLevel_119 rfl ?_
  refine g_iload_n (pc' := 121) dX12_tryLevel_120 rfl rfl ?_
  refine g_iadd (pc' := 122) dX12_tryLevel_121 rfl ?_
  refine g_iload (pc' := 124) dX12_tryLevel_122 rfl rfl ?_
  obtain ⟨h2, hf⟩ := chk_s hf
  obtain ⟨b3, hf⟩ := chk_s hf
  refine g_iast (pc' := 125) dX12_tryLevel_124 rfl h2 (inB_in b3) (gM fun M4 hM4 => ?_)
  have hf := ap_eq hf hM4
  cases hf
  exact g_return dX12_tryLevel_125 rfl (Nat.le_of_ble_eq_true rfl) (Nat.le_of_ble_eq_true rfl)
theorem s_X12_tryLevel_102 (v0 : Nat) (v1 : Int32) (v2 : Int32) (v5 : Int32) (M : Mem) (r : (Unit × Mem)) (hf : f_X12_tryLevel_102 v0 v1 v2 v5 M = some r) : G mi_X12_tryLevel 5 (oU r.1) r.2 102 [some (aR v0), some (aI v1), some (aI v2), none, none, some (aI v5), none, none] [] M 0 0 := by
  unfold f_X12_tryLevel_102 at hf
  refine g_aload_n (pc' := 103) dX12_tryLevel_102 rfl rfl ?_
  refine g_dup (pc' := 104) dX12_tryLevel_103 rfl rfl ?_
  obtain ⟨h1, hf⟩ := chk_s hf
  refine g_getI (pc' := 107) 12 36 rfl rfl (by decide) inX12 (by decide) rfl rfl q_863 dX12_tryLevel_104 rfl h1 ?_
  refine g_iconst (pc' := 108) (1 : Int32) dX12_tryLevel_107 rfl (by decide) ?_
  refine g_iadd (pc' := 109) dX12_tryLevel_108 rfl ?_
  refine g_putI (pc' := 112) 12 36 rfl rfl (by decide) inX12 tyX12_ok nmX12 (by decide) rfl rfl rfl rfl q_863 dX12_tryLevel_109 rfl h1 (gM fun M2 hM2 => ?_)
  have hf := ap_eq hf hM2
  exact s_X12_tryLevel_112 v0 v1 v2 v5 M2 _ hf
theorem s_X12_tryLevel_45 (v0 : Nat) (v1 : Int32) (v2 : Int32) (v3 : Int32) (v4 : Int32) (v5 : Int32) (v6 : Int32) (w0 : Int32) (M : Mem) (r : (Unit × Mem)) (hf : f_X12_tryLevel_45 v0 v1 v2 v3 v4 v5 v6 w0 M = some r) : G mi_X12_tryLevel 5 (oU r.1) r.2 45 [some (aR v0), some (aI v1), some (aI v2), some (aI v3), some (aI v4), some (aI v5), some (aI v6), none] [aI w0] M 0 0 := by
  unfold f_X12_tryLevel_45 at hf
  refine g_istore (pc' := 47) (lv' := [some (aR v0), some (aI v1), some (aI v2), some (aI v3), some (aI v4), some (aI v5), some (aI v6), some (aI w0)]) dX12_tryLevel_45 rfl rfl (by decide) rfl ?_
  refine g_aload_n (pc' := 48) dX12_tryLevel_47 rfl rfl ?_
  refine g_iload_n (pc' := 49) dX12_tryLevel_48 rfl rfl ?_
  refine g_iload_n (pc' := 50) dX12_tryLevel_49 rfl rfl ?_
  refine g_iload (pc' := 52) dX12_tryLevel_50 rfl rfl ?_
  refine g_iload (pc' := 54) dX12_tryLevel_52 rfl rfl ?_
  refine g_aload_n (pc' := 55) dX12_tryLevel_54 rfl rfl ?_
  refine g_iload_n (pc' := 56) dX12_tryLevel_55 rfl rfl ?_
  refine g_iload_n (pc' := 57) dX12_tryLevel_56 rfl rfl ?_
  obtain ⟨h1, hf⟩ := chk_s hf
  obtain ⟨r3, M2, e3, hf⟩ := bnd_some hf
  refine g_callVi (pc' := 60) (k' := 0) (u' := 0) (fr2 := 1) (As := [aI v1, aI v2]) (b := v0) (st := [aI w0, aI v6, aI v2, aI v1, aR v0]) cf_X12_valueAt q_896 (by omega) (ci := 12) rfl rfl (by decide) dX12_tryLevel_57 rfl rfl rfl (Nat.le_of_ble_eq_true rfl) (Or.inl rfl) (Nat.le_refl _) (Nat.le_refl _) (Nat.le_refl _) (Nat.le_refl _) h1 (s_X12_valueAt v0 v1 v2 M _ e3) ?_
  obtain ⟨h4, hf⟩ := chk_s hf
  obtain ⟨_, M5, e6, hf⟩ := bnd_some hf
  refine g_callVv (pc' := 63) (k' := 0) (u' := 0) (fr2 := 1) (As := [aI v1, aI v2, aI v6, aI w0, aI r3]) (b := v0) (st := []) cf_X12_put q_717 (by omega) (ci := 12) rfl rfl (by decide) dX12_tryLevel_60 rfl rfl rfl (Nat.le_of_ble_eq_true rfl) (Or.inl rfl) (Nat.le_refl _) (Nat.le_refl _) (Nat.le_refl _) (Nat.le_refl _) h4 (s_X12_put v0 v1 v2 v6 w0 r3 M2 _ e6) ?_
  refine g_aload_n (pc' := 64) dX12_tryLevel_63 rfl rfl ?_
  refine g_iload_n (pc' := 65) dX12_tryLevel_64 rfl rfl ?_
  refine g_iload_n (pc' := 66) dX12_tryLevel_65 rfl rfl ?_
  refine g_iload_n (pc' := 67) dX12_tryLevel_66 rfl rfl ?_
  obtain ⟨h7, hf⟩ := chk_s hf
  obtain ⟨r9, M8, e9, hf⟩ := bnd_some hf
  refine g_callVi (pc' := 70) (k' := 0) (u' := 0) (fr2 := 4) (As := [aI v1, aI v2, aI v3]) (b := v0) (st := []) cf_X12_isWrongBy q_900 (by omega) (ci := 12) rfl rfl (by decide) dX12_tryLevel_67 rfl rfl rfl (Nat.le_of_ble_eq_true rfl) (Or.inl rfl) (Nat.le_refl _) (Nat.le_refl _) (Nat.le_refl _) (Nat.le_refl _) h7 (s_X12_isWrongBy v0 v1 v2 v3 M5 _ e9) ?_
  refine g_if_ne (pc' := 73) 112 dX12_tryLevel_70 rfl (by decide) (fun c10 => ?_) (fun c10 => ?_)
  · have hf := ite_f c10 hf
    refine g_mask [true, true, true, false, false, true, false, false] rfl ?_
    refine g_widen (k' := 0) (u' := 0) (by omega) (by omega) ?_
    exact s_X12_tryLevel_112 v0 v1 v2 v5 M8 _ hf
  · have hf := ite_t c10 hf
    refine g_aload_n (pc' := 74) dX12_tryLevel_73 rfl rfl ?_
    obtain ⟨h11, hf⟩ := chk_s hf
    refine g_getI (pc' := 77) 12 36 rfl rfl (by decide) inX12 (by decide) rfl rfl q_863 dX12_tryLevel_74 rfl h11 ?_
    refine g_if_ne (pc' := 80) 102 dX12_tryLevel_77 rfl (by decide) (fun c12 => ?_) (fun c12 => ?_)
    · have hf := ite_f c12 hf
      refine g_mask [true, true, true, false, false, true, false, false] rfl ?_
      refine g_widen (k' := 0) (u' := 0) (by omega) (by omega) ?_
      exact s_X12_tryLevel_102 v0 v1 v2 v5 M8 _ hf
    · have hf := ite_t c12 hf
      refine g_aload_n (pc' := 81) dX12_tryLevel_80 rfl rfl ?_
      refine g_sipush (pc' := 84) (10000 : Int32) dX12_tryLevel_81 rfl (by decide) ?_
      refine g_iload_n (pc' := 85) dX12_tryLevel_84 rfl rfl ?_
      refine g_imul (pc' := 86) dX12_tryLevel_85 rfl ?_
      refine g_bipush (pc' := 88) (20 : Int32) dX12_tryLevel_86 rfl (by decide) ?_
      refine g_iload_n (pc' := 89) dX12_tryLevel_88 rfl rfl ?_
      refine g_imul (pc' := 90) dX12_tryLevel_89 rfl ?_
      refine g_iadd (pc' := 91) dX12_tryLevel_90 rfl ?_
      refine g_bipush (pc' := 93) (10 : Int32) dX12_tryLevel_91 rfl (by decide) ?_
      refine g_iload_n (pc' := 94) dX12_tryLevel_93 rfl rfl ?_
      refine g_imul (pc' := 95) dX12_tryLevel_94 rfl ?_
      refine g_iadd (pc' := 96) dX12_tryLevel_95 rfl ?_
      refine g_iload (pc' := 98) dX12_tryLevel_96 rfl rfl ?_
      refine g_iadd (pc' := 99) dX12_tryLevel_98 rfl ?_
      refine g_putI (pc' := 102) 12 37 rfl rfl (by decide) inX12 tyX12_ok nmX12 (by decide) rfl rfl rfl rfl q_864 dX12_tryLevel_99 rfl h11 (gM fun M13 hM13 => ?_)
      have hf := ap_eq hf hM13
      refine g_mask [true, true, true, false, false, true, false, false] rfl ?_
      refine g_widen (k' := 0) (u' := 0) (by omega) (by omega) ?_
      exact s_X12_tryLevel_102 v0 v1 v2 v5 M13 _ hf
theorem s_X12_tryLevel_28 (v0 : Nat) (v1 : Int32) (v2 : Int32) (v3 : Int32) (v4 : Int32) (v5 : Int32) (w0 : Int32) (M : Mem) (r : (Unit × Mem)) (hf : f_X12_tryLevel_28 v0 v1 v2 v3 v4 v5 w0 M = some r) : G mi_X12_tryLevel 5 (oU r.1) r.2 28 [some (aR v0), some (aI v1), some (aI v2), some (aI v3), some (aI v4), some (aI v5), none, none] [aI w0] M 0 0 := by
  unfold f_X12_tryLevel_28 at hf
  refine g_istore (pc' := 30) (lv' := [some (aR v0), some (aI v1), some (aI v2), some (aI v3), some (aI v4), some (aI v5), some (aI w0), none]) dX12_tryLevel_28 rfl rfl (by decide) rfl ?_
  refine g_iload_n (pc' := 31) dX12_tryLevel_30 rfl rfl ?_
  refine g_if_ne (pc' := 34) 43 dX12_tryLevel_31 rfl (by decide) (fun c1 => ?_) (fun c1 => ?_)
  · have hf := ite_f c1 hf
    refine g_iload (pc' := 45) dX12_tryLevel_43 rfl rfl ?_
    exact s_X12_tryLevel_45 v0 v1 v2 v3 v4 v5 w0 v4 M _ hf
  · have hf := ite_t c1 hf
    refine g_aload_n (pc' := 35) dX12_tryLevel_34 rfl rfl ?_
    refine g_iload_n (pc' := 36) dX12_tryLevel_35 rfl rfl ?_
    refine g_iload_n (pc' := 37) dX12_tryLevel_36 rfl rfl ?_
    obtain ⟨h2, hf⟩ := chk_s hf
    obtain ⟨r4, M3, e4, hf⟩ := bnd_some hf
    refine g_callVi (pc' := 40) (k' := 0) (u' := 0) (fr2 := 1) (As := [aI v1, aI v2]) (b := v0) (st := []) cf_X12_defAt q_660 (by omega) (ci := 12) rfl rfl (by decide) dX12_tryLevel_37 rfl rfl rfl (Nat.le_of_ble_eq_true rfl) (Or.inl rfl) (Nat.le_refl _) (Nat.le_refl _) (Nat.le_refl _) (Nat.le_refl _) h2 (s_X12_defAt v0 v1 v2 M _ e4) ?_
    refine g_goto (pc' := 45) dX12_tryLevel_40 (by decide) ?_
    refine g_widen (k' := 0) (u' := 0) (by omega) (by omega) ?_
    exact s_X12_tryLevel_45 v0 v1 v2 v3 v4 v5 w0 r4 M3 _ hf
theorem s_X12_tryLevel (v0 : Nat) (v1 : Int32) (v2 : Int32) (v3 : Int32) (v4 : Int32) (M : Mem) (r : (Unit × Mem)) (hf : f_X12_tryLevel v0 v1 v2 v3 v4 M = some r) : Sem mi_X12_tryLevel (5) [aR v0, aI v1, aI v2, aI v3, aI v4] M (oU r.1) r.2 := by
  unfold f_X12_tryLevel at hf
  refine sem_of (by decide) rfl rfl rfl (Nat.le_of_ble_eq_true rfl) (lv := [some (aR v0), some (aI v1), some (aI v2), some (aI v3), some (aI v4), none, none, none]) rfl ?_
  refine g_aload_n (pc' := 1) dX12_tryLevel_0 rfl rfl ?_
  obtain ⟨h1, hf⟩ := chk_s hf
  refine g_getR (pc' := 4) 12 27 rfl rfl (by decide) inX12 (by decide) rfl rfl q_138 dX12_tryLevel_1 rfl h1 ?_
  refine g_bipush (pc' := 6) (120 : Int32) dX12_tryLevel_4 rfl (by decide) ?_
  refine g_iload_n (pc' := 7) dX12_tryLevel_6 rfl rfl ?_
  refine g_imul (pc' := 8) dX12_tryLevel_7 rfl ?_
  refine g_iload_n (pc' := 9) dX12_tryLevel_8 rfl rfl ?_
  refine g_iadd (pc' := 10) dX12_tryLevel_9 rfl ?_
  obtain ⟨h2, hf⟩ := chk_s hf
  obtain ⟨b3, hf⟩ := chk_s hf
  refine g_iald (pc' := 11) dX12_tryLevel_10 rfl h2 (inB_in b3) ?_
  refine g_istore (pc' := 13) (lv' := [some (aR v0), some (aI v1), some (aI v2), some (aI v3), some (aI v4), some (aI (mI M (mR M v0 27) (((120 : Int32) * v1) + v2).toNatClampNeg)), none, none]) dX12_tryLevel_11 rfl rfl (by decide) rfl ?_
  refine g_iload_n (pc' := 14) dX12_tryLevel_13 rfl rfl ?_
  refine g_if_ne (pc' := 17) 22 dX12_tryLevel_14 rfl (by decide) (fun c4 => ?_) (fun c4 => ?_)
  · have hf := ite_f c4 hf
    refine g_aload_n (pc' := 23) dX12_tryLevel_22 rfl rfl ?_
    refine g_iload_n (pc' := 24) dX12_tryLevel_23 rfl rfl ?_
    refine g_iload_n (pc' := 25) dX12_tryLevel_24 rfl rfl ?_
    obtain ⟨r6, M5, e6, hf⟩ := bnd_some hf
    refine g_callVi (pc' := 28) (k' := 0) (u' := 0) (fr2 := 1) (As := [aI v1, aI v2]) (b := v0) (st := []) cf_X12_repAt q_656 (by omega) (ci := 12) rfl rfl (by decide) dX12_tryLevel_25 rfl rfl rfl (Nat.le_of_ble_eq_true rfl) (Or.inl rfl) (Nat.le_refl _) (Nat.le_refl _) (Nat.le_refl _) (Nat.le_refl _) h1 (s_X12_repAt v0 v1 v2 M _ e6) ?_
    refine g_widen (k' := 0) (u' := 0) (by omega) (by omega) ?_
    exact s_X12_tryLevel_28 v0 v1 v2 v3 v4 (mI M (mR M v0 27) (((120 : Int32) * v1) + v2).toNatClampNeg) r6 M5 _ hf
  · have hf := ite_t c4 hf
    refine g_iload (pc' := 19) dX12_tryLevel_17 rfl rfl ?_
    refine g_goto (pc' := 28) dX12_tryLevel_19 (by decide) ?_
    exact s_X12_tryLevel_28 v0 v1 v2 v3 v4 (mI M (mR M v0 27) (((120 : Int32) * v1) + v2).toNatClampNeg) v4 M _ hf
