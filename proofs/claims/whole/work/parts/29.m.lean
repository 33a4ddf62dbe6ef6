abbrev mi_X6_findTwin : MI := (yX6_findTwin, Cond.code yX6_findTwin cX6_findTwin 5 (some .boolean), cX6_findTwin, 5, (some .boolean), [], 0, 0, 0, none)
theorem cf_X6_findTwin : CFv mi_X6_findTwin 1 := ⟨⟨rfl, q_314, wall_i_LeafStripes_ShapeText, ⟨by decide, by decide, by decide +kernel⟩, by decide⟩, q_312, q_313⟩
abbrev mi_X6_readName : MI := (yX6_readName, Cond.code yX6_readName cX6_readName 2 (some .int), cX6_readName, 2, (some .int), [], 0, 0, 0, none)
theorem cf_X6_readName : CFv mi_X6_readName 1 := ⟨⟨rfl, q_302, wall_i_LeafStripes_ShapeText, ⟨by decide, by decide, by decide +kernel⟩, by decide⟩, q_300, q_301⟩
abbrev mi_X6_readLeafOrGroup : MI := (yX6_readLeafOrGroup, Cond.code yX6_readLeafOrGroup cX6_readLeafOrGroup 3 (some .int), cX6_readLeafOrGroup, 3, (some .int), [], 0, 0, 0, none)
theorem cf_X6_readLeafOrGroup : CFv mi_X6_readLeafOrGroup 1 := ⟨⟨rfl, q_328, wall_i_LeafStripes_ShapeText, ⟨by decide, by decide, by decide +kernel⟩, by decide⟩, q_326, q_327⟩
abbrev mi_X6_readField : MI := (yX6_readField, Cond.code yX6_readField cX6_readField 4 (some .int), cX6_readField, 4, (some .int), [], 0, 0, 0, none)
theorem cf_X6_readField : CFv mi_X6_readField 0 := ⟨⟨rfl, q_232, wall_i_LeafStripes_ShapeText, ⟨by decide, by decide, by decide +kernel⟩, by decide⟩, q_230, q_231⟩
abbrev mi_X6_read : MI := (yX6_read, Cond.code yX6_read cX6_read 7 (some .int), cX6_read, 7, (some .int), [], 0, 0, 0, none)
theorem cf_X6_read : CFv mi_X6_read 4 := ⟨⟨rfl, q_208, wall_i_LeafStripes_ShapeText, ⟨by decide, by decide, by decide +kernel⟩, by decide⟩, q_206, q_207⟩
abbrev mi_X7_init : MI := (yX7_init, Cond.code yX7_init cX7_init 2 none, cX7_init, 2, none, [], 34, 2974, 1, none)
theorem cf_X7_init : CFi mi_X7_init 0 := ⟨⟨rfl, q_82, wall_i_LeafStripes_State, ⟨by decide, by decide, by decide +kernel⟩, by decide⟩, q_81, rfl, rfl⟩
abbrev mi_X7_clear : MI := (yX7_clear, Cond.code yX7_clear cX7_clear 3 none, cX7_clear, 3, none, [], 0, 0, 0, none)
theorem cf_X7_clear : CFv mi_X7_clear 1 := ⟨⟨rfl, q_350, wall_i_LeafStripes_State, ⟨by decide, by decide, by decide +kernel⟩, by decide⟩, q_348, q_349⟩
abbrev mi_X7_copyFrom : MI := (yX7_copyFrom, Cond.code yX7_copyFrom cX7_copyFrom 3 none, cX7_copyFrom, 3, none, [], 0, 0, 0, none)
theorem cf_X7_copyFrom : CFv mi_X7_copyFrom 1 := ⟨⟨rfl, q_1562, wall_i_LeafStripes_State, ⟨by decide, by decide, by decide +kernel⟩, by decide⟩, q_1560, q_1561⟩
abbrev mi_X7_entriesOfAll : MI := (yX7_entriesOfAll, Cond.code yX7_entriesOfAll cX7_entriesOfAll 4 (some .int), cX7_entriesOfAll, 4, (some .int), [], 0, 0, 0, none)
theorem cf_X7_entriesOfAll : CFv mi_X7_entriesOfAll 1 := ⟨⟨rfl, q_804, wall_i_LeafStripes_State, ⟨by decide, by decide, by decide +kernel⟩, by decide⟩, q_802, q_803⟩
abbrev mi_X7_keep : MI := (yX7_keep, Cond.code yX7_keep cX7_keep 2 none, cX7_keep, 2, none, [], 0, 0, 0, none)
theorem cf_X7_keep : CFv mi_X7_keep 1 := ⟨⟨rfl, q_639, wall_i_LeafStripes_State, ⟨by decide, by decide, by decide +kernel⟩, by decide⟩, q_637, q_638⟩
abbrev mi_X7_addStaged : MI := (yX7_addStaged, Cond.code yX7_addStaged cX7_addStaged 5 none, cX7_addStaged, 5, none, [], 1, 5, 1, none)
theorem cf_X7_addStaged : CFv mi_X7_addStaged 3 := ⟨⟨rfl, q_624, wall_i_LeafStripes_State, ⟨by decide, by decide, by decide +kernel⟩, by decide⟩, q_622, q_623⟩
abbrev mi_X7_lastFirst : MI := (yX7_lastFirst, Cond.code yX7_lastFirst cX7_lastFirst 3 (some .int), cX7_lastFirst, 3, (some .int), [], 0, 0, 0, none)
theorem cf_X7_lastFirst : CFv mi_X7_lastFirst 1 := ⟨⟨rfl, q_1396, wall_i_LeafStripes_State, ⟨by decide, by decide, by decide +kernel⟩, by decide⟩, q_1394, q_1395⟩
abbrev mi_X7_tailRow : MI := (yX7_tailRow, Cond.code yX7_tailRow cX7_tailRow 9 (some (.array .int)), cX7_tailRow, 9, (some (.array .int)), [], 1, 1000, 1, none)
theorem cf_X7_tailRow : CFv mi_X7_tailRow 1 := ⟨⟨rfl, q_1392, wall_i_LeafStripes_State, ⟨by decide, by decide, by decide +kernel⟩, by decide⟩, q_1390, q_1391⟩
abbrev mi_X7_cutLastRecord : MI := (yX7_cutLastRecord, Cond.code yX7_cutLastRecord cX7_cutLastRecord 3 none, cX7_cutLastRecord, 3, none, [], 0, 0, 0, none)
theorem cf_X7_cutLastRecord : CFv mi_X7_cutLastRecord 1 := ⟨⟨rfl, q_1407, wall_i_LeafStripes_State, ⟨by decide, by decide, by decide +kernel⟩, by decide⟩, q_1405, q_1406⟩
abbrev mi_X7_bringBack : MI := (yX7_bringBack, Cond.code yX7_bringBack cX7_bringBack 7 none, cX7_bringBack, 7, none, [], 0, 0, 0, none)
theorem cf_X7_bringBack : CFv mi_X7_bringBack 2 := ⟨⟨rfl, q_1460, wall_i_LeafStripes_State, ⟨by decide, by decide, by decide +kernel⟩, by decide⟩, q_1458, q_1459⟩
def f_X6_findTwin_142  (M : Mem) : Option (Int32 × Mem) :=
  some ((1 : Int32), M)
def f_X6_findTwin_59 (v0 : Nat) (v1 : Int32) (v2 : Int32) (M : Mem) : Option (Int32 × Mem) :=
  if mK M v0 = 7 then
    if mK M (mR M v0 2) = 6 then
      bnd (f_X5_fieldNamed (mR M v0 2) v2 (mR M v0 1) v1 M) fun r4 M3 =>
      if mK M3 v0 = 7 then
        if mK M3 (mR M3 v0 1) = 6 then
          if mK M3 (mR M3 (mR M3 v0 1) 11) = 21 then
            if inB v1 (mN M3 (mR M3 (mR M3 v0 1) 11)) = true then
              ap (sI M3 (mR M3 (mR M3 v0 1) 11) v1.toNatClampNeg r4) fun M9 =>
              if mK M9 v0 = 7 then
                if mK M9 (mR M9 v0 1) = 6 then
                  if mK M9 (mR M9 (mR M9 v0 1) 2) = 21 then
                    if inB v1 (mN M9 (mR M9 (mR M9 v0 1) 2)) = true then
                      if r4 = (-1 : Int32) then
                        if (mI M9 (mR M9 (mR M9 v0 1) 2) v1.toNatClampNeg) = 0 then
                          some ((0 : Int32), M9)
                        else
                          some ((1 : Int32), M9)
                      else
                        if mK M9 (mR M9 v0 2) = 6 then
                          if mK M9 (mR M9 (mR M9 v0 2) 2) = 21 then
                            if inB r4 (mN M9 (mR M9 (mR M9 v0 2) 2)) = true then
                              if (mI M9 (mR M9 (mR M9 v0 2) 2) r4.toNatClampNeg) = (mI M9 (mR M9 (mR M9 v0 1) 2) v1.toNatClampNeg) then
                                f_X6_findTwin_142 M9
                              else
                                if (mI M9 (mR M9 (mR M9 v0 2) 2) r4.toNatClampNeg) = 0 then
                                  if (mI M9 (mR M9 (mR M9 v0 1) 2) v1.toNatClampNeg) = (1 : Int32) then
                                    f_X6_findTwin_142 M9
                                  else
                                    some ((0 : Int32), M9)
                                else
                                  some ((0 : Int32), M9)
                            else none
                          else none
                        else none
                    else none
                  else none
                else none
              else none
            else none
          else none
        else none
      else none
    else none
  else none
def f_X6_findTwin_43 (v0 : Nat) (v1 : Int32) (w0 : Int32) (M : Mem) : Option (Int32 × Mem) :=
  if mK M v0 = 7 then
    if (mI M v0 4) = (-1 : Int32) then
      f_X6_findTwin_59 v0 v1 w0 M
    else
      if w0 = (-1 : Int32) then
        some ((1 : Int32), M)
      else
        f_X6_findTwin_59 v0 v1 w0 M
  else none
def f_X6_findTwin (v0 : Nat) (v1 : Int32) (M : Mem) : Option (Int32 × Mem) :=
  if mK M v0 = 7 then
    if (mI M v0 3) = 0 then
      if mK M (mR M v0 1) = 6 then
        if mK M (mR M (mR M v0 1) 11) = 21 then
          if inB v1 (mN M (mR M (mR M v0 1) 11)) = true then
            ap (sI M (mR M (mR M v0 1) 11) v1.toNatClampNeg v1) fun M10 =>
            some ((1 : Int32), M10)
          else none
        else none
      else none
    else
      if (mI M v0 4) = (-1 : Int32) then
        f_X6_findTwin_43 v0 v1 (-1 : Int32) M
      else
        if mK M (mR M v0 1) = 6 then
          if mK M (mR M (mR M v0 1) 11) = 21 then
            if inB (mI M v0 4) (mN M (mR M (mR M v0 1) 11)) = true then
              f_X6_findTwin_43 v0 v1 (mI M (mR M (mR M v0 1) 11) (mI M v0 4).toNatClampNeg) M
            else none
          else none
        else none
  else none
theorem s_X6_findTwin_142  (M : Mem) (r : (Int32 × Mem)) (hf : f_X6_findTwin_142  M = some r) : G mi_X6_findTwin 3 (oI r.1) r.2 142 [none, none, none, none, none] [] M 0 0 := by
  unfold f_X6_findTwin_142 at hf
  refine g_iconst (pc' := 143) (1 : Int32) dX6_findTwin_142 rfl (by decide) ?_
  refine g_goto (pc' := 147) dX6_findTwin_143 (by decide) ?_
  cases hf
  exact g_zreturn dX6_findTwin_147 rfl (Or.inr rfl) (Nat.le_of_ble_eq_true rfl) (Nat.le_of_ble_eq_true rfl)
theorem s_X6_findTwin_59 (v0 : Nat) (v1 : Int32) (v2 : Int32) (M : Mem) (r : (Int32 × Mem)) (hf : f_X6_findTwin_59 v0 v1 v2 M = some r) : G mi_X6_findTwin 3 (oI r.1) r.2 59 [some (aR v0), some (aI v1), some (aI v2), none, none] [] M 0 0 := by
  unfold f_X6_findTwin_59 at hf
  refine g_aload_n (pc' := 60) dX6_findTwin_59 rfl rfl ?_
  obtain ⟨h1, hf⟩ := chk_s hf
  refine g_getR (pc' := 63) 6 2 rfl rfl (by decide) inX6 (by decide) rfl rfl q_211 dX6_findTwin_60 rfl h1 ?_
  refine g_iload_n (pc' := 64) dX6_findTwin_63 rfl rfl ?_
  refine g_aload_n (pc' := 65) dX6_findTwin_64 rfl rfl ?_
  refine g_getR (pc' := 68) 6 1 rfl rfl (by decide) inX6 (by decide) rfl rfl q_210 dX6_findTwin_65 rfl h1 ?_
  refine g_iload_n (pc' := 69) dX6_findTwin_68 rfl rfl ?_
  obtain ⟨h2, hf⟩ := chk_s hf
  obtain ⟨r4, M3, e4, hf⟩ := bnd_some hf
  refine g_callVi (pc' := 72) (k' := 0) (u' := 0) (fr2 := 2) (As := [aI v2, aR (mR M v0 1), aI v1]) (b := (mR M v0 2)) (st := []) cf_X5_fieldNamed q_317 (by omega) (ci := 5) rfl rfl (by decide) dX6_findTwin_69 rfl rfl rfl (Nat.le_of_ble_eq_true rfl) (Or.inl rfl) (Nat.le_refl _) (Nat.le_refl _) (Nat.le_refl _) (Nat.le_refl _) h2 (s_X5_fieldNamed (mR M v0 2) v2 (mR M v0 1) v1 M _ e4) ?_
  refine g_istore_n (pc' := 73) (lv' := [some (aR v0), some (aI v1), some (aI v2), some (aI r4), none]) dX6_findTwin_72 rfl rfl (by decide) rfl ?_
  refine g_aload_n (pc' := 74) dX6_findTwin_73 rfl rfl ?_
  obtain ⟨h5, hf⟩ := chk_s hf
  refine g_getR (pc' := 77) 6 1 rfl rfl (by decide) inX6 (by decide) rfl rfl q_210 dX6_findTwin_74 rfl h5 ?_
  obtain ⟨h6, hf⟩ := chk_s hf
  refine g_getR (pc' := 80) 5 11 rfl rfl (by decide) inX5 (by decide) rfl rfl q_315 dX6_findTwin_77 rfl h6 ?_
  refine g_iload_n (pc' := 81) dX6_findTwin_80 rfl rfl ?_
  refine g_iload_n (pc' := 82) dX6_findTwin_81 rfl rfl ?_
  obtain ⟨h7, hf⟩ := chk_s hf
  obtain ⟨b8, hf⟩ := chk_s hf
  refine g_iast (pc' := 83) dX6_findTwin_82 rfl h7 (inB_in b8) (gM fun M9 hM9 => ?_)
  have hf := ap_eq hf hM9
  refine g_aload_n (pc' := 84) dX6_findTwin_83 rfl rfl ?_
  obtain ⟨h10, hf⟩ := chk_s hf
  refine g_getR (pc' := 87) 6 1 rfl rfl (by decide) inX6 (by decide) rfl rfl q_210 dX6_findTwin_84 rfl h10 ?_
  obtain ⟨h11, hf⟩ := chk_s hf
  refine g_getR (pc' := 90) 5 2 rfl rfl (by decide) inX5 (by decide) rfl rfl q_316 dX6_findTwin_87 rfl h11 ?_
  refine g_iload_n (pc' := 91) dX6_findTwin_90 rfl rfl ?_
  obtain ⟨h12, hf⟩ := chk_s hf
  obtain ⟨b13, hf⟩ := chk_s hf
  refine g_iald (pc' := 92) dX6_findTwin_91 rfl h12 (inB_in b13) ?_
  refine g_istore (pc' := 94) (lv' := [some (aR v0), some (aI v1), some (aI v2), some (aI r4), some (aI (mI M9 (mR M9 (mR M9 v0 1) 2) v1.toNatClampNeg))]) dX6_findTwin_92 rfl rfl (by decide) rfl ?_
  refine g_iload_n (pc' := 95) dX6_findTwin_94 rfl rfl ?_
  refine g_iconst (pc' := 96) (-1 : Int32) dX6_findTwin_95 rfl (by decide) ?_
  refine g_icmp_ne (pc' := 99) 110 dX6_findTwin_96 rfl (by decide) (fun c14 => ?_) (fun c14 => ?_)
  · have hf := ite_f c14 hf
    refine g_aload_n (pc' := 111) dX6_findTwin_110 rfl rfl ?_
    refine g_getR (pc' := 114) 6 2 rfl rfl (by decide) inX6 (by decide) rfl rfl q_211 dX6_findTwin_111 rfl h10 ?_
    obtain ⟨h15, hf⟩ := chk_s hf
    refine g_getR (pc' := 117) 5 2 rfl rfl (by decide) inX5 (by decide) rfl rfl q_316 dX6_findTwin_114 rfl h15 ?_
    refine g_iload_n (pc' := 118) dX6_findTwin_117 rfl rfl ?_
    obtain ⟨h16, hf⟩ := chk_s hf
    obtain ⟨b17, hf⟩ := chk_s hf
    refine g_iald (pc' := 119) dX6_findTwin_118 rfl h16 (inB_in b17) ?_
    refine g_iload (pc' := 121) dX6_findTwin_119 rfl rfl ?_
    refine g_icmp_eq (pc' := 124) 142 dX6_findTwin_121 rfl (by decide) (fun c18 => ?_) (fun c18 => ?_)
    · have hf := ite_t c18 hf
      refine g_mask [false, false, false, false, false] rfl ?_
      refine g_widen (k' := 0) (u' := 0) (by omega) (by omega) ?_
      exact s_X6_findTwin_142 M9 _ hf
    · have hf := ite_f c18 hf
      refine g_aload_n (pc' := 125) dX6_findTwin_124 rfl rfl ?_
      refine g_getR (pc' := 128) 6 2 rfl rfl (by decide) inX6 (by decide) rfl rfl q_211 dX6_findTwin_125 rfl h10 ?_
      refine g_getR (pc' := 131) 5 2 rfl rfl (by decide) inX5 (by decide) rfl rfl q_316 dX6_findTwin_128 rfl h15 ?_
      refine g_iload_n (pc' := 132) dX6_findTwin_131 rfl rfl ?_
      refine g_iald (pc' := 133) dX6_findTwin_132 rfl h16 (inB_in b17) ?_
      refine g_if_ne (pc' := 136) 146 dX6_findTwin_133 rfl (by decide) (fun c19 => ?_) (fun c19 => ?_)
      · have hf := ite_f c19 hf
        refine g_iconst (pc' := 147) (0 : Int32) dX6_findTwin_146 rfl (by decide) ?_
        cases hf
        exact g_zreturn dX6_findTwin_147 rfl (Or.inl rfl) (Nat.le_of_ble_eq_true rfl) (Nat.le_of_ble_eq_true rfl)
      · have hf := ite_t c19 hf
        refine g_iload (pc' := 138) dX6_findTwin_136 rfl rfl ?_
        refine g_iconst (pc' := 139) (1 : Int32) dX6_findTwin_138 rfl (by decide) ?_
        refine g_icmp_ne (pc' := 142) 146 dX6_findTwin_139 rfl (by decide) (fun c20 => ?_) (fun c20 => ?_)
        · have hf := ite_f c20 hf
          refine g_iconst (pc' := 147) (0 : Int32) dX6_findTwin_146 rfl (by decide) ?_
          cases hf
          exact g_zreturn dX6_findTwin_147 rfl (Or.inl rfl) (Nat.le_of_ble_eq_true rfl) (Nat.le_of_ble_eq_true rfl)
        · have hf := ite_t c20 hf
          refine g_mask [false, false, false, false, false] rfl ?_
          refine g_widen (k' := 0) (u' := 0) (by omega) (by omega) ?_
          exact s_X6_findTwin_142 M9 _ hf
  · have hf := ite_t c14 hf
    refine g_iload (pc' := 101) dX6_findTwin_99 rfl rfl ?_
    refine g_if_eq (pc' := 104) 108 dX6_findTwin_101 rfl (by decide) (fun c21 => ?_) (fun c21 => ?_)
    · have hf := ite_t c21 hf
      refine g_iconst (pc' := 109) (0 : Int32) dX6_findTwin_108 rfl (by decide) ?_
      cases hf
      exact g_zreturn dX6_findTwin_109 rfl (Or.inl rfl) (Nat.le_of_ble_eq_true rfl) (Nat.le_of_ble_eq_true rfl)
    · have hf := ite_f c21 hf
      refine g_iconst (pc' := 105) (1 : Int32) dX6_findTwin_104 rfl (by decide) ?_
      refine g_goto (pc' := 109) dX6_findTwin_105 (by decide) ?_
      cases hf
      exact g_zreturn dX6_findTwin_109 rfl (Or.inr rfl) (Nat.le_of_ble_eq_true rfl) (Nat.le_of_ble_eq_true rfl)
theorem s_X6_findTwin_43 (v0 : Nat) (v1 : Int32) (w0 : Int32) (M : Mem) (r : (Int32 × Mem)) (hf : f_X6_findTwin_43 v0 v1 w0 M = some r) : G mi_X6_findTwin 3 (oI r.1) r.2 43 [some (aR v0), some (aI v1), none, none, none] [aI w0] M 0 0 := by
  unfold f_X6_findTwin_43 at hf
  refine g_istore_n (pc' := 44) (lv' := [some (aR v0), some (aI v1), some (aI w0), none, none]) dX6_findTwin_43 rfl rfl (by decide) rfl ?_
  refine g_aload_n (pc' := 45) dX6_findTwin_44 rfl rfl ?_
  obtain ⟨h1, hf⟩ := chk_s hf
  refine g_getI (pc' := 48) 6 4 rfl rfl (by decide) inX6 (by decide) rfl rfl q_213 dX6_findTwin_45 rfl h1 ?_
  refine g_iconst (pc' := 49) (-1 : Int32) dX6_findTwin_48 rfl (by decide) ?_
  refine g_icmp_eq (pc' := 52) 59 dX6_findTwin_49 rfl (by decide) (fun c2 => ?_) (fun c2 => ?_)
  · have hf := ite_t c2 hf
    exact s_X6_findTwin_59 v0 v1 w0 M _ hf
  · have hf := ite_f c2 hf
    refine g_iload_n (pc' := 53) dX6_findTwin_52 rfl rfl ?_
    refine g_iconst (pc' := 54) (-1 : Int32) dX6_findTwin_53 rfl (by decide) ?_
    refine g_icmp_ne (pc' := 57) 59 dX6_findTwin_54 rfl (by decide) (fun c3 => ?_) (fun c3 => ?_)
    · have hf := ite_f c3 hf
      exact s_X6_findTwin_59 v0 v1 w0 M _ hf
    · have hf := ite_t c3 hf
      refine g_iconst (pc' := 58) (1 : Int32) dX6_findTwin_57 rfl (by decide) ?_
      cases hf
      exact g_zreturn dX6_findTwin_58 rfl (Or.inr rfl) (Nat.le_of_ble_eq_true rfl) (Nat.le_of_ble_eq_true rfl)
theorem s_X6_findTwin (v0 : Nat) (v1 : Int32) (M : Mem) (r : (Int32 × Mem)) (hf : f_X6_findTwin v0 v1 M = some r) : Sem mi_X6_findTwin (3) [aR v0, aI v1] M (oI r.1) r.2 := by
  unfold f_X6_findTwin at hf
  refine sem_of (by decide) rfl rfl rfl (Nat.le_of_ble_eq_true rfl) (lv := [some (aR v0), some (aI v1), none, none, none]) rfl ?_
  refine g_aload_n (pc' := 1) dX6_findTwin_0 rfl rfl ?_
  obtain ⟨h1, hf⟩ := chk_s hf
  refine g_getI (pc' := 4) 6 3 rfl rfl (by decide) inX6 (by decide) rfl rfl q_212 dX6_findTwin_1 rfl h1 ?_
  refine g_if_ne (pc' := 7) 19 dX6_findTwin_4 rfl (by decide) (fun c2 => ?_) (fun c2 => ?_)
  · have hf := ite_f c2 hf
    refine g_aload_n (pc' := 20) dX6_findTwin_19 rfl rfl ?_
    refine g_getI (pc' := 23) 6 4 rfl rfl (by decide) inX6 (by decide) rfl rfl q_213 dX6_findTwin_20 rfl h1 ?_
    refine g_iconst (pc' := 24) (-1 : Int32) dX6_findTwin_23 rfl (by decide) ?_
    refine g_icmp_ne (pc' := 27) 31 dX6_findTwin_24 rfl (by decide) (fun c3 => ?_) (fun c3 => ?_)
    · have hf := ite_f c3 hf
      refine g_aload_n (pc' := 32) dX6_findTwin_31 rfl rfl ?_
      refine g_getR (pc' := 35) 6 1 rfl rfl (by decide) inX6 (by decide) rfl rfl q_210 dX6_findTwin_32 rfl h1 ?_
      obtain ⟨h4, hf⟩ := chk_s hf
      refine g_getR (pc' := 38) 5 11 rfl rfl (by decide) inX5 (by decide) rfl rfl q_315 dX6_findTwin_35 rfl h4 ?_
      refine g_aload_n (pc' := 39) dX6_findTwin_38 rfl rfl ?_
      refine g_getI (pc' := 42) 6 4 rfl rfl (by decide) inX6 (by decide) rfl rfl q_213 dX6_findTwin_39 rfl h1 ?_
      obtain ⟨h5, hf⟩ := chk_s hf
      obtain ⟨b6, hf⟩ := chk_s hf
      refine g_iald (pc' := 43) dX6_findTwin_42 rfl h5 (inB_in b6) ?_
      exact s_X6_findTwin_43 v0 v1 (mI M (mR M (mR M v0 1) 11) (mI M v0 4).toNatClampNeg) M _ hf
    · have hf := ite_t c3 hf
      refine g_iconst (pc' := 28) (-1 : Int32) dX6_findTwin_27 rfl (by decide) ?_
      refine g_goto (pc' := 43) dX6_findTwin_28 (by decide) ?_
      exact s_X6_findTwin_43 v0 v1 (-1 : Int32) M _ hf
  · have hf := ite_t c2 hf
    refine g_aload_n (pc' := 8) dX6_findTwin_7 rfl rfl ?_
    refine g_getR (pc' := 11) 6 1 rfl rfl (by decide) inX6 (by decide) rfl rfl q_210 dX6_findTwin_8 rfl h1 ?_
    obtain ⟨h7, hf⟩ := chk_s hf
    refine g_getR (pc' := 14) 5 11 rfl rfl (by decide) inX5 (by decide) rfl rfl q_315 dX6_findTwin_11 rfl h7 ?_
    refine g_iload_n (pc' := 15) dX6_findTwin_14 rfl rfl ?_
    refine g_iload_n (pc' := 16) dX6_findTwin_15 rfl rfl ?_
    obtain ⟨h8, hf⟩ := chk_s hf
    obtain ⟨b9, hf⟩ := chk_s hf
    refine g_iast (pc' := 17) dX6_findTwin_16 rfl h8 (inB_in b9) (gM fun M10 hM10 => ?_)
    have hf := ap_eq hf hM10
    refine g_iconst (pc' := 18) (1 : Int32) dX6_findTwin_17 rfl (by decide) ?_
    cases hf
    exact g_zreturn dX6_findTwin_18 rfl (Or.inr rfl) (Nat.le_of_ble_eq_true rfl) (Nat.le_of_ble_eq_true rfl)
def f_X6_readName (v0 : Nat) (v1 : Int32) (M : Mem) : Option (Int32 × Mem) :=
  if mK M v0 = 7 then
    if mK M (mR M v0 0) = 10 then
      if (mI M (mR M v0 0) 3) = (1 : Int32) then
        bnd (f_X9_width (mR M v0 0) M) fun r5 M4 =>
        if r5 ≤ (4 : Int32) then
          if mK M4 v0 = 7 then
            if mK M4 (mR M4 v0 1) = 6 then
              bnd (f_X5_putName (mR M4 v0 1) v1 (mR M4 v0 0) M4) fun _ M9 =>
              if mK M9 v0 = 7 then
                bnd (f_X6_findTwin v0 v1 M9) fun r13 M12 =>
                if r13 = 0 then
                  some ((3 : Int32), M12)
                else
                  if mK M12 v0 = 7 then
                    if mK M12 (mR M12 v0 1) = 6 then
                      bnd (f_X5_fieldNamed (mR M12 v0 1) (mI M12 v0 4) (mR M12 v0 1) v1 M12) fun r18 M17 =>
                      if v1 ≤ r18 then
                        some ((0 : Int32), M17)
                      else
                        some ((4 : Int32), M17)
                    else none
                  else none
              else none
            else none
          else none
        else
          some ((2 : Int32), M4)
      else
        some ((1 : Int32), M)
    else none
  else none
theorem s_X6_readName (v0 : Nat) (v1 : Int32) (M : Mem) (r : (Int32 × Mem)) (hf : f_X6_readName v0 v1 M = some r) : Sem mi_X6_readName (4) [aR v0, aI v1] M (oI r.1) r.2 := by
  unfold f_X6_readName at hf
  refine sem_of (by decide) rfl rfl rfl (Nat.le_of_ble_eq_true rfl) (lv := [some (aR v0), some (aI v1)]) rfl ?_
  refine g_aload_n (pc' := 1) dX6_readName_0 rfl rfl ?_
  obtain ⟨h1, hf⟩ := chk_s hf
  refine g_getR (pc' := 4) 6 0 rfl rfl (by decide) inX6 (by decide) rfl rfl q_209 dX6_readName_1 rfl h1 ?_
  obtain ⟨h2, hf⟩ := chk_s hf
  refine g_getI (pc' := 7) 9 3 rfl rfl (by decide) inX9 (by decide) rfl rfl q_215 dX6_readName_4 rfl h2 ?_
  refine g_iconst (pc' := 8) (1 : Int32) dX6_readName_7 rfl (by decide) ?_
  refine g_icmp_eq (pc' := 11) 13 dX6_readName_8 rfl (by decide) (fun c3 => ?_) (fun c3 => ?_)
  · have hf := ite_t c3 hf
    refine g_aload_n (pc' := 14) dX6_readName_13 rfl rfl ?_
    refine g_getR (pc' := 17) 6 0 rfl rfl (by decide) inX6 (by decide) rfl rfl q_209 dX6_readName_14 rfl h1 ?_
    obtain ⟨r5, M4, e5, hf⟩ := bnd_some hf
    refine g_callVi (pc' := 20) (k' := 0) (u' := 0) (fr2 := 1) (As := []) (b := (mR M v0 0)) (st := []) cf_X9_width q_303 (by omega) (ci := 9) rfl rfl (by decide) dX6_readName_17 rfl rfl rfl (Nat.le_of_ble_eq_true rfl) (Or.inl rfl) (Nat.le_refl _) (Nat.le_refl _) (Nat.le_refl _) (Nat.le_refl _) h2 (s_X9_width (mR M v0 0) M _ e5) ?_
    refine g_iconst (pc' := 21) (4 : Int32) dX6_readName_20 rfl (by decide) ?_
    refine g_icmp_le (pc' := 24) 26 dX6_readName_21 rfl (by decide) (fun c6 => ?_) (fun c6 => ?_)
    · have hf := ite_t c6 hf
      refine g_aload_n (pc' := 27) dX6_readName_26 rfl rfl ?_
      obtain ⟨h7, hf⟩ := chk_s hf
      refine g_getR (pc' := 30) 6 1 rfl rfl (by decide) inX6 (by decide) rfl rfl q_210 dX6_readName_27 rfl h7 ?_
      refine g_iload_n (pc' := 31) dX6_readName_30 rfl rfl ?_
      refine g_aload_n (pc' := 32) dX6_readName_31 rfl rfl ?_
      refine g_getR (pc' := 35) 6 0 rfl rfl (by decide) inX6 (by decide) rfl rfl q_209 dX6_readName_32 rfl h7 ?_
      obtain ⟨h8, hf⟩ := chk_s hf
      obtain ⟨_, M9, e10, hf⟩ := bnd_some hf
      refine g_callVv (pc' := 38) (k' := 0) (u' := 0) (fr2 := 2) (As := [aI v1, aR (mR M4 v0 0)]) (b := (mR M4 v0 1)) (st := []) cf_X5_putName q_304 (by omega) (ci := 5) rfl rfl (by decide) dX6_readName_35 rfl rfl rfl (Nat.le_of_ble_eq_true rfl) (Or.inl rfl) (Nat.le_refl _) (Nat.le_refl _) (Nat.le_refl _) (Nat.le_refl _) h8 (s_X5_putName (mR M4 v0 1) v1 (mR M4 v0 0) M4 _ e10) ?_
      refine g_aload_n (pc' := 39) dX6_readName_38 rfl rfl ?_
      refine g_iload_n (pc' := 40) dX6_readName_39 rfl rfl ?_
      obtain ⟨h11, hf⟩ := chk_s hf
      obtain ⟨r13, M12, e13, hf⟩ := bnd_some hf
      refine g_callVi (pc' := 43) (k' := 0) (u' := 0) (fr2 := 3) (As := [aI v1]) (b := v0) (st := []) cf_X6_findTwin q_311 (by omega) (ci := 6) rfl rfl (by decide) dX6_readName_40 rfl rfl rfl (Nat.le_of_ble_eq_true rfl) (Or.inl rfl) (Nat.le_refl _) (Nat.le_refl _) (Nat.le_refl _) (Nat.le_refl _) h11 (s_X6_findTwin v0 v1 M9 _ e13) ?_
      refine g_if_ne (pc' := 46) 48 dX6_readName_43 rfl (by decide) (fun c14 => ?_) (fun c14 => ?_)
      · have hf := ite_f c14 hf
        refine g_aload_n (pc' := 49) dX6_readName_48 rfl rfl ?_
        obtain ⟨h15, hf⟩ := chk_s hf
        refine g_getR (pc' := 52) 6 1 rfl rfl (by decide) inX6 (by decide) rfl rfl q_210 dX6_readName_49 rfl h15 ?_
        refine g_aload_n (pc' := 53) dX6_readName_52 rfl rfl ?_
        refine g_getI (pc' := 56) 6 4 rfl rfl (by decide) inX6 (by decide) rfl rfl q_213 dX6_readName_53 rfl h15 ?_
        refine g_aload_n (pc' := 57) dX6_readName_56 rfl rfl ?_
        refine g_getR (pc' := 60) 6 1 rfl rfl (by decide) inX6 (by decide) rfl rfl q_210 dX6_readName_57 rfl h15 ?_
        refine g_iload_n (pc' := 61) dX6_readName_60 rfl rfl ?_
        obtain ⟨h16, hf⟩ := chk_s hf
        obtain ⟨r18, M17, e18, hf⟩ := bnd_some hf
        refine g_callVi (pc' := 64) (k' := 0) (u' := 0) (fr2 := 2) (As := [aI (mI M12 v0 4), aR (mR M12 v0 1), aI v1]) (b := (mR M12 v0 1)) (st := []) cf_X5_fieldNamed q_317 (by omega) (ci := 5) rfl rfl (by decide) dX6_readName_61 rfl rfl rfl (Nat.le_of_ble_eq_true rfl) (Or.inl rfl) (Nat.le_refl _) (Nat.le_refl _) (Nat.le_refl _) (Nat.le_refl _) h16 (s_X5_fieldNamed (mR M12 v0 1) (mI M12 v0 4) (mR M12 v0 1) v1 M12 _ e18) ?_
        refine g_iload_n (pc' := 65) dX6_readName_64 rfl rfl ?_
        refine g_icmp_ge (pc' := 68) 72 dX6_readName_65 rfl (by decide) (fun c19 => ?_) (fun c19 => ?_)
        · have hf := ite_t c19 hf
          refine g_iconst (pc' := 73) (0 : Int32) dX6_readName_72 rfl (by decide) ?_
          cases hf
          exact g_ireturn dX6_readName_73 rfl (Nat.le_of_ble_eq_true rfl) (Nat.le_of_ble_eq_true rfl)
        · have hf := ite_f c19 hf
          refine g_iconst (pc' := 69) (4 : Int32) dX6_readName_68 rfl (by decide) ?_
          refine g_goto (pc' := 73) dX6_readName_69 (by decide) ?_
          cases hf
          exact g_ireturn dX6_readName_73 rfl (Nat.le_of_ble_eq_true rfl) (Nat.le_of_ble_eq_true rfl)
      · have hf := ite_t c14 hf
        refine g_iconst (pc' := 47) (3 : Int32) dX6_readName_46 rfl (by decide) ?_
        cases hf
        exact g_ireturn dX6_readName_47 rfl (Nat.le_of_ble_eq_true rfl) (Nat.le_of_ble_eq_true rfl)
    · have hf := ite_f c6 hf
      refine g_iconst (pc' := 25) (2 : Int32) dX6_readName_24 rfl (by decide) ?_
      cases hf
      exact g_ireturn dX6_readName_25 rfl (Nat.le_of_ble_eq_true rfl) (Nat.le_of_ble_eq_true rfl)
  · have hf := ite_f c3 hf
    refine g_iconst (pc' := 12) (1 : Int32) dX6_readName_11 rfl (by decide) ?_
    cases hf
    exact g_ireturn dX6_readName_12 rfl (Nat.le_of_ble_eq_true rfl) (Nat.le_of_ble_eq_true rfl)
def f_X6_readLeafOrGroup_20 (v0 : Nat) (v1 : Int32) (w0 : Int32) (M : Mem) : Option (Int32 × Mem) :=
  if mK M v0 = 7 then
    if mK M (mR M v0 0) = 10 then
      if (mI M (mR M v0 0) 3) = (59 : Int32) then
        if mK M (mR M v0 1) = 6 then
          if (mI M (mR M v0 1) 1) < (8 : Int32) then
            bnd (f_X5_makeLeaf (mR M v0 1) v1 M) fun _ M17 =>
            if w0 = (-1 : Int32) then
              some ((0 : Int32), M17)
            else
              if mK M17 v0 = 7 then
                if mK M17 (mR M17 v0 2) = 6 then
                  if mK M17 (mR M17 (mR M17 v0 2) 4) = 21 then
                    if inB w0 (mN M17 (mR M17 (mR M17 v0 2) 4)) = true then
                      if (mI M17 (mR M17 (mR M17 v0 2) 4) w0.toNatClampNeg) = (-1 : Int32) then
                        some ((3 : Int32), M17)
                      else
                        some ((0 : Int32), M17)
                    else none
                  else none
                else none
              else none
          else
            some ((2 : Int32), M)
        else none
      else
        if (mI M (mR M v0 0) 3) = (123 : Int32) then
          if (mI M v0 5) < (3 : Int32) then
            ap (sI M v0 4 v1) fun M6 =>
            if mK M6 v0 = 7 then
              ap (sI M6 v0 5 ((mI M6 v0 5) + (1 : Int32))) fun M8 =>
              if w0 = (-1 : Int32) then
                some ((0 : Int32), M8)
              else
                if mK M8 v0 = 7 then
                  if mK M8 (mR M8 v0 2) = 6 then
                    if mK M8 (mR M8 (mR M8 v0 2) 4) = 21 then
                      if inB w0 (mN M8 (mR M8 (mR M8 v0 2) 4)) = true then
                        if (mI M8 (mR M8 (mR M8 v0 2) 4) w0.toNatClampNeg) = (-1 : Int32) then
                          some ((0 : Int32), M8)
                        else
                          some ((3 : Int32), M8)
                      else none
                    else none
                  else none
                else none
            else none
          else
            some ((2 : Int32), M)
        else
          some ((1 : Int32), M)
    else none
  else none
def f_X6_readLeafOrGroup (v0 : Nat) (v1 : Int32) (M : Mem) : Option (Int32 × Mem) :=
  if mK M v0 = 7 then
    if (mI M v0 3) = 0 then
      f_X6_readLeafOrGroup_20 v0 v1 (-1 : Int32) M
    else
      if mK M (mR M v0 1) = 6 then
        if mK M (mR M (mR M v0 1) 11) = 21 then
          if inB v1 (mN M (mR M (mR M v0 1) 11)) = true then
            f_X6_readLeafOrGroup_20 v0 v1 (mI M (mR M (mR M v0 1) 11) v1.toNatClampNeg) M
          else none
        else none
      else none
  else none
theorem s_X6_readLeafOrGroup_20 (v0 : Nat) (v1 : Int32) (w0 : Int32) (M : Mem) (r : (Int32 × Mem)) (hf : f_X6_readLeafOrGroup_20 v0 v1 w0 M = some r) : G mi_X6_readLeafOrGroup 2 (oI r.1) r.2 20 [some (aR v0), some (aI v1), none] [aI w0] M 0 0 := by
  unfold f_X6_readLeafOrGroup_20 at hf
  refine g_istore_n (pc' := 21) (lv' := [some (aR v0), some (aI v1), some (aI w0)]) dX6_readLeafOrGroup_20 rfl rfl (by decide) rfl ?_
  refine g_aload_n (pc' := 22) dX6_readLeafOrGroup_21 rfl rfl ?_
  obtain ⟨h1, hf⟩ := chk_s hf
  refine g_getR (pc' := 25) 6 0 rfl rfl (by decide) inX6 (by decide) rfl rfl q_209 dX6_readLeafOrGroup_22 rfl h1 ?_
  obtain ⟨h2, hf⟩ := chk_s hf
  refine g_getI (pc' := 28) 9 3 rfl rfl (by decide) inX9 (by decide) rfl rfl q_215 dX6_readLeafOrGroup_25 rfl h2 ?_
  refine g_bipush (pc' := 30) (59 : Int32) dX6_readLeafOrGroup_28 rfl (by decide) ?_
  refine g_icmp_ne (pc' := 33) 79 dX6_readLeafOrGroup_30 rfl (by decide) (fun c3 => ?_) (fun c3 => ?_)
  · have hf := ite_f c3 hf
    refine g_aload_n (pc' := 80) dX6_readLeafOrGroup_79 rfl rfl ?_
    refine g_getR (pc' := 83) 6 0 rfl rfl (by decide) inX6 (by decide) rfl rfl q_209 dX6_readLeafOrGroup_80 rfl h1 ?_
    refine g_getI (pc' := 86) 9 3 rfl rfl (by decide) inX9 (by decide) rfl rfl q_215 dX6_readLeafOrGroup_83 rfl h2 ?_
    refine g_bipush (pc' := 88) (123 : Int32) dX6_readLeafOrGroup_86 rfl (by decide) ?_
    refine g_icmp_eq (pc' := 91) 93 dX6_readLeafOrGroup_88 rfl (by decide) (fun c4 => ?_) (fun c4 => ?_)
    · have hf := ite_t c4 hf
      refine g_aload_n (pc' := 94) dX6_readLeafOrGroup_93 rfl rfl ?_
      refine g_getI (pc' := 97) 6 5 rfl rfl (by decide) inX6 (by decide) rfl rfl q_214 dX6_readLeafOrGroup_94 rfl h1 ?_
      refine g_iconst (pc' := 98) (3 : Int32) dX6_readLeafOrGroup_97 rfl (by decide) ?_
      refine g_icmp_lt (pc' := 101) 103 dX6_readLeafOrGroup_98 rfl (by decide) (fun c5 => ?_) (fun c5 => ?_)
      · have hf := ite_t c5 hf
        refine g_aload_n (pc' := 104) dX6_readLeafOrGroup_103 rfl rfl ?_
        refine g_iload_n (pc' := 105) dX6_readLeafOrGroup_104 rfl rfl ?_
        refine g_putI (pc' := 108) 6 4 rfl rfl (by decide) inX6 tyX6_ok nmX6 (by decide) rfl rfl rfl rfl q_213 dX6_readLeafOrGroup_105 rfl h1 (gM fun M6 hM6 => ?_)
        have hf := ap_eq hf hM6
        refine g_aload_n (pc' := 109) dX6_readLeafOrGroup_108 rfl rfl ?_
        refine g_dup (pc' := 110) dX6_readLeafOrGroup_109 rfl rfl ?_
        obtain ⟨h7, hf⟩ := chk_s hf
        refine g_getI (pc' := 113) 6 5 rfl rfl (by decide) inX6 (by decide) rfl rfl q_214 dX6_readLeafOrGroup_110 rfl h7 ?_
        refine g_iconst (pc' := 114) (1 : Int32) dX6_readLeafOrGroup_113 rfl (by decide) ?_
        refine g_iadd (pc' := 115) dX6_readLeafOrGroup_114 rfl ?_
        refine g_putI (pc' := 118) 6 5 rfl rfl (by decide) inX6 tyX6_ok nmX6 (by decide) rfl rfl rfl rfl q_214 dX6_readLeafOrGroup_115 rfl h7 (gM fun M8 hM8 => ?_)
        have hf := ap_eq hf hM8
        refine g_iload_n (pc' := 119) dX6_readLeafOrGroup_118 rfl rfl ?_
        refine g_iconst (pc' := 120) (-1 : Int32) dX6_readLeafOrGroup_119 rfl (by decide) ?_
        refine g_icmp_eq (pc' := 123) 140 dX6_readLeafOrGroup_120 rfl (by decide) (fun c9 => ?_) (fun c9 => ?_)
        · have hf := ite_t c9 hf
          refine g_iconst (pc' := 141) (0 : Int32) dX6_readLeafOrGroup_140 rfl (by decide) ?_
          cases hf
          exact g_ireturn dX6_readLeafOrGroup_141 rfl (Nat.le_of_ble_eq_true rfl) (Nat.le_of_ble_eq_true rfl)
        · have hf := ite_f c9 hf
          refine g_aload_n (pc' := 124) dX6_readLeafOrGroup_123 rfl rfl ?_
          obtain ⟨h10, hf⟩ := chk_s hf
          refine g_getR (pc' := 127) 6 2 rfl rfl (by decide) inX6 (by decide) rfl rfl q_211 dX6_readLeafOrGroup_124 rfl h10 ?_
          obtain ⟨h11, hf⟩ := chk_s hf
          refine g_getR (pc' := 130) 5 4 rfl rfl (by decide) inX5 (by decide) rfl rfl q_330 dX6_readLeafOrGroup_127 rfl h11 ?_
          refine g_iload_n (pc' := 131) dX6_readLeafOrGroup_130 rfl rfl ?_
          obtain ⟨h12, hf⟩ := chk_s hf
          obtain ⟨b13, hf⟩ := chk_s hf
          refine g_iald (pc' := 132) dX6_readLeafOrGroup_131 rfl h12 (inB_in b13) ?_
          refine g_iconst (pc' := 133) (-1 : Int32) dX6_readLeafOrGroup_132 rfl (by decide) ?_
          refine g_icmp_eq (pc' := 136) 140 dX6_readLeafOrGroup_133 rfl (by decide) (fun c14 => ?_) (fun c14 => ?_)
          · have hf := ite_t c14 hf
            refine g_iconst (pc' := 141) (0 : Int32) dX6_readLeafOrGroup_140 rfl (by decide) ?_
            cases hf
            exact g_ireturn dX6_readLeafOrGroup_141 rfl (Nat.le_of_ble_eq_true rfl) (Nat.le_of_ble_eq_true rfl)
          · have hf := ite_f c14 hf
            refine g_iconst (pc' := 137) (3 : Int32) dX6_readLeafOrGroup_136 rfl (by decide) ?_
            refine g_goto (pc' := 141) dX6_readLeafOrGroup_137 (by decide) ?_
            cases hf
            exact g_ireturn dX6_readLeafOrGroup_141 rfl (Nat.le_of_ble_eq_true rfl) (Nat.le_of_ble_eq_true rfl)
      · have hf := ite_f c5 hf
        refine g_iconst (pc' := 102) (2 : Int32) dX6_readLeafOrGroup_101 rfl (by decide) ?_
        cases hf
        exact g_ireturn dX6_readLeafOrGroup_102 rfl (Nat.le_of_ble_eq_true rfl) (Nat.le_of_ble_eq_true rfl)
    · have hf := ite_f c4 hf
      refine g_iconst (pc' := 92) (1 : Int32) dX6_readLeafOrGroup_91 rfl (by decide) ?_
      cases hf
      exact g_ireturn dX6_readLeafOrGroup_92 rfl (Nat.le_of_ble_eq_true rfl) (Nat.le_of_ble_eq_true rfl)
  · have hf := ite_t c3 hf
    refine g_aload_n (pc' := 34) dX6_readLeafOrGroup_33 rfl rfl ?_
    refine g_getR (pc' := 37) 6 1 rfl rfl (by decide) inX6 (by decide) rfl rfl q_210 dX6_readLeafOrGroup_34 rfl h1 ?_
    obtain ⟨h15, hf⟩ := chk_s hf
    refine g_getI (pc' := 40) 5 1 rfl rfl (by decide) inX5 (by decide) rfl rfl q_329 dX6_readLeafOrGroup_37 rfl h15 ?_
    refine g_bipush (pc' := 42) (8 : Int32) dX6_readLeafOrGroup_40 rfl (by decide) ?_
    refine g_icmp_lt (pc' := 45) 47 dX6_readLeafOrGroup_42 rfl (by decide) (fun c16 => ?_) (fun c16 => ?_)
    · have hf := ite_t c16 hf
      refine g_aload_n (pc' := 48) dX6_readLeafOrGroup_47 rfl rfl ?_
      refine g_getR (pc' := 51) 6 1 rfl rfl (by decide) inX6 (by decide) rfl rfl q_210 dX6_readLeafOrGroup_48 rfl h1 ?_
      refine g_iload_n (pc' := 52) dX6_readLeafOrGroup_51 rfl rfl ?_
      obtain ⟨_, M17, e18, hf⟩ := bnd_some hf
      refine g_callVv (pc' := 55) (k' := 0) (u' := 0) (fr2 := 1) (As := [aI v1]) (b := (mR M v0 1)) (st := []) cf_X5_makeLeaf q_331 (by omega) (ci := 5) rfl rfl (by decide) dX6_readLeafOrGroup_52 rfl rfl rfl (Nat.le_of_ble_eq_true rfl) (Or.inl rfl) (Nat.le_refl _) (Nat.le_refl _) (Nat.le_refl _) (Nat.le_refl _) h15 (s_X5_makeLeaf (mR M v0 1) v1 M _ e18) ?_
      refine g_iload_n (pc' := 56) dX6_readLeafOrGroup_55 rfl rfl ?_
      refine g_iconst (pc' := 57) (-1 : Int32) dX6_readLeafOrGroup_56 rfl (by decide) ?_
      refine g_icmp_eq (pc' := 60) 77 dX6_readLeafOrGroup_57 rfl (by decide) (fun c19 => ?_) (fun c19 => ?_)
      · have hf := ite_t c19 hf
        refine g_iconst (pc' := 78) (0 : Int32) dX6_readLeafOrGroup_77 rfl (by decide) ?_
        cases hf
        exact g_ireturn dX6_readLeafOrGroup_78 rfl (Nat.le_of_ble_eq_true rfl) (Nat.le_of_ble_eq_true rfl)
      · have hf := ite_f c19 hf
        refine g_aload_n (pc' := 61) dX6_readLeafOrGroup_60 rfl rfl ?_
        obtain ⟨h20, hf⟩ := chk_s hf
        refine g_getR (pc' := 64) 6 2 rfl rfl (by decide) inX6 (by decide) rfl rfl q_211 dX6_readLeafOrGroup_61 rfl h20 ?_
        obtain ⟨h21, hf⟩ := chk_s hf
        refine g_getR (pc' := 67) 5 4 rfl rfl (by decide) inX5 (by decide) rfl rfl q_330 dX6_readLeafOrGroup_64 rfl h21 ?_
        refine g_iload_n (pc' := 68) dX6_readLeafOrGroup_67 rfl rfl ?_
        obtain ⟨h22, hf⟩ := chk_s hf
        obtain ⟨b23, hf⟩ := chk_s hf
        refine g_iald (pc' := 69) dX6_readLeafOrGroup_68 rfl h22 (inB_in b23) ?_
        refine g_iconst (pc' := 70) (-1 : Int32) dX6_readLeafOrGroup_69 rfl (by decide) ?_
        refine g_icmp_ne (pc' := 73) 77 dX6_readLeafOrGroup_70 rfl (by decide) (fun c24 => ?_) (fun c24 => ?_)
        · have hf := ite_f c24 hf
          refine g_iconst (pc' := 78) (0 : Int32) dX6_readLeafOrGroup_77 rfl (by decide) ?_
          cases hf
          exact g_ireturn dX6_readLeafOrGroup_78 rfl (Nat.le_of_ble_eq_true rfl) (Nat.le_of_ble_eq_true rfl)
        · have hf := ite_t c24 hf
          refine g_iconst (pc' := 74) (3 : Int32) dX6_readLeafOrGroup_73 rfl (by decide) ?_
          refine g_goto (pc' := 78) dX6_readLeafOrGroup_74 (by decide) ?_
          cases hf
          exact g_ireturn dX6_readLeafOrGroup_78 rfl (Nat.le_of_ble_eq_true rfl) (Nat.le_of_ble_eq_true rfl)
    · have hf := ite_f c16 hf
      refine g_iconst (pc' := 46) (2 : Int32) dX6_readLeafOrGroup_45 rfl (by decide) ?_
      cases hf
      exact g_ireturn dX6_readLeafOrGroup_46 rfl (Nat.le_of_ble_eq_true rfl) (Nat.le_of_ble_eq_true rfl)
theorem s_X6_readLeafOrGroup (v0 : Nat) (v1 : Int32) (M : Mem) (r : (Int32 × Mem)) (hf : f_X6_readLeafOrGroup v0 v1 M = some r) : Sem mi_X6_readLeafOrGroup (2) [aR v0, aI v1] M (oI r.1) r.2 := by
  unfold f_X6_readLeafOrGroup at hf
  refine sem_of (by decide) rfl rfl rfl (Nat.le_of_ble_eq_true rfl) (lv := [some (aR v0), some (aI v1), none]) rfl ?_
  refine g_aload_n (pc' := 1) dX6_readLeafOrGroup_0 rfl rfl ?_
  obtain ⟨h1, hf⟩ := chk_s hf
  refine g_getI (pc' := 4) 6 3 rfl rfl (by decide) inX6 (by decide) rfl rfl q_212 dX6_readLeafOrGroup_1 rfl h1 ?_
  refine g_if_eq (pc' := 7) 19 dX6_readLeafOrGroup_4 rfl (by decide) (fun c2 => ?_) (fun c2 => ?_)
  · have hf := ite_t c2 hf
    refine g_iconst (pc' := 20) (-1 : Int32) dX6_readLeafOrGroup_19 rfl (by decide) ?_
    exact s_X6_readLeafOrGroup_20 v0 v1 (-1 : Int32) M _ hf
  · have hf := ite_f c2 hf
    refine g_aload_n (pc' := 8) dX6_readLeafOrGroup_7 rfl rfl ?_
    refine g_getR (pc' := 11) 6 1 rfl rfl (by decide) inX6 (by decide) rfl rfl q_210 dX6_readLeafOrGroup_8 rfl h1 ?_
    obtain ⟨h3, hf⟩ := chk_s hf
    refine g_getR (pc' := 14) 5 11 rfl rfl (by decide) inX5 (by decide) rfl rfl q_315 dX6_readLeafOrGroup_11 rfl h3 ?_
    refine g_iload_n (pc' := 15) dX6_readLeafOrGroup_14 rfl rfl ?_
    obtain ⟨h4, hf⟩ := chk_s hf
    obtain ⟨b5, hf⟩ := chk_s hf
    refine g_iald (pc' := 16) dX6_readLeafOrGroup_15 rfl h4 (inB_in b5) ?_
    refine g_goto (pc' := 20) dX6_readLeafOrGroup_16 (by decide) ?_
    exact s_X6_readLeafOrGroup_20 v0 v1 (mI M (mR M (mR M v0 1) 11) v1.toNatClampNeg) M _ hf
def f_X6_readField (v0 : Nat) (M : Mem) : Option (Int32 × Mem) :=
  if mK M v0 = 7 then
    bnd (f_X6_kindTold v0 M) fun r3 M2 =>
    if r3 = (-1 : Int32) then
      some ((1 : Int32), M2)
    else
      if mK M2 v0 = 7 then
        if mK M2 (mR M2 v0 1) = 6 then
          if (mI M2 (mR M2 v0 1) 0) < (16 : Int32) then
            bnd (f_X5_openField (mR M2 v0 1) r3 (mI M2 v0 4) M2) fun r9 M8 =>
            if mK M8 v0 = 7 then
              if mK M8 (mR M8 v0 0) = 10 then
                bnd (f_X9_advance (mR M8 v0 0) M8) fun _ M12 =>
                if mK M12 v0 = 7 then
                  bnd (f_X6_readName v0 r9 M12) fun r16 M15 =>
                  if r16 = 0 then
                    if mK M15 v0 = 7 then
                      if mK M15 (mR M15 v0 0) = 10 then
                        bnd (f_X9_advance (mR M15 v0 0) M15) fun _ M20 =>
                        if mK M20 v0 = 7 then
                          bnd (f_X6_readLeafOrGroup v0 r9 M20) fun r24 M23 =>
                          some (r24, M23)
                        else none
                      else none
                    else none
                  else
                    some (r16, M15)
                else none
              else none
            else none
          else
            some ((2 : Int32), M2)
        else none
      else none
  else none
theorem s_X6_readField (v0 : Nat) (M : Mem) (r : (Int32 × Mem)) (hf : f_X6_readField v0 M = some r) : Sem mi_X6_readField (7) [aR v0] M (oI r.1) r.2 := by
  unfold f_X6_readField at hf
  refine sem_of (by decide) rfl rfl rfl (Nat.le_of_ble_eq_true rfl) (lv := [some (aR v0), none, none, none]) rfl ?_
  refine g_aload_n (pc' := 1) dX6_readField_0 rfl rfl ?_
  obtain ⟨h1, hf⟩ := chk_s hf
  obtain ⟨r3, M2, e3, hf⟩ := bnd_some hf
  refine g_callVi (pc' := 4) (k' := 0) (u' := 0) (fr2 := 6) (As := []) (b := v0) (st := []) cf_X6_kindTold q_233 (by omega) (ci := 6) rfl rfl (by decide) dX6_readField_1 rfl rfl rfl (Nat.le_of_ble_eq_true rfl) (Or.inl rfl) (Nat.le_refl _) (Nat.le_refl _) (Nat.le_refl _) (Nat.le_refl _) h1 (s_X6_kindTold v0 M _ e3) ?_
  refine g_istore_n (pc' := 5) (lv' := [some (aR v0), some (aI r3), none, none]) dX6_readField_4 rfl rfl (by decide) rfl ?_
  refine g_iload_n (pc' := 6) dX6_readField_5 rfl rfl ?_
  refine g_iconst (pc' := 7) (-1 : Int32) dX6_readField_6 rfl (by decide) ?_
  refine g_icmp_ne (pc' := 10) 12 dX6_readField_7 rfl (by decide) (fun c4 => ?_) (fun c4 => ?_)
  · have hf := ite_f c4 hf
    refine g_aload_n (pc' := 13) dX6_readField_12 rfl rfl ?_
    obtain ⟨h5, hf⟩ := chk_s hf
    refine g_getR (pc' := 16) 6 1 rfl rfl (by decide) inX6 (by decide) rfl rfl q_210 dX6_readField_13 rfl h5 ?_
    obtain ⟨h6, hf⟩ := chk_s hf
    refine g_getI (pc' := 19) 5 0 rfl rfl (by decide) inX5 (by decide) rfl rfl q_216 dX6_readField_16 rfl h6 ?_
    refine g_bipush (pc' := 21) (16 : Int32) dX6_readField_19 rfl (by decide) ?_
    refine g_icmp_lt (pc' := 24) 26 dX6_readField_21 rfl (by decide) (fun c7 => ?_) (fun c7 => ?_)
    · have hf := ite_t c7 hf
      refine g_aload_n (pc' := 27) dX6_readField_26 rfl rfl ?_
      refine g_getR (pc' := 30) 6 1 rfl rfl (by decide) inX6 (by decide) rfl rfl q_210 dX6_readField_27 rfl h5 ?_
      refine g_iload_n (pc' := 31) dX6_readField_30 rfl rfl ?_
      refine g_aload_n (pc' := 32) dX6_readField_31 rfl rfl ?_
      refine g_getI (pc' := 35) 6 4 rfl rfl (by decide) inX6 (by decide) rfl rfl q_213 dX6_readField_32 rfl h5 ?_
      obtain ⟨r9, M8, e9, hf⟩ := bnd_some hf
      refine g_callVi (pc' := 38) (k' := 0) (u' := 0) (fr2 := 1) (As := [aI r3, aI (mI M2 v0 4)]) (b := (mR M2 v0 1)) (st := []) cf_X5_openField q_294 (by omega) (ci := 5) rfl rfl (by decide) dX6_readField_35 rfl rfl rfl (Nat.le_of_ble_eq_true rfl) (Or.inl rfl) (Nat.le_refl _) (Nat.le_refl _) (Nat.le_refl _) (Nat.le_refl _) h6 (s_X5_openField (mR M2 v0 1) r3 (mI M2 v0 4) M2 _ e9) ?_
      refine g_istore_n (pc' := 39) (lv' := [some (aR v0), some (aI r3), some (aI r9), none]) dX6_readField_38 rfl rfl (by decide) rfl ?_
      refine g_aload_n (pc' := 40) dX6_readField_39 rfl rfl ?_
      obtain ⟨h10, hf⟩ := chk_s hf
      refine g_getR (pc' := 43) 6 0 rfl rfl (by decide) inX6 (by decide) rfl rfl q_209 dX6_readField_40 rfl h10 ?_
      obtain ⟨h11, hf⟩ := chk_s hf
      obtain ⟨_, M12, e13, hf⟩ := bnd_some hf
      refine g_callVv (pc' := 46) (k' := 0) (u' := 0) (fr2 := 2) (As := []) (b := (mR M8 v0 0)) (st := []) cf_X9_advance q_298 (by omega) (ci := 9) rfl rfl (by decide) dX6_readField_43 rfl rfl rfl (Nat.le_of_ble_eq_true rfl) (Or.inl rfl) (Nat.le_refl _) (Nat.le_refl _) (Nat.le_refl _) (Nat.le_refl _) h11 (s_X9_advance (mR M8 v0 0) M8 _ e13) ?_
      refine g_aload_n (pc' := 47) dX6_readField_46 rfl rfl ?_
      refine g_iload_n (pc' := 48) dX6_readField_47 rfl rfl ?_
      obtain ⟨h14, hf⟩ := chk_s hf
      obtain ⟨r16, M15, e16, hf⟩ := bnd_some hf
      refine g_callVi (pc' := 51) (k' := 0) (u' := 0) (fr2 := 4) (As := [aI r9]) (b := v0) (st := []) cf_X6_readName q_299 (by omega) (ci := 6) rfl rfl (by decide) dX6_readField_48 rfl rfl rfl (Nat.le_of_ble_eq_true rfl) (Or.inl rfl) (Nat.le_refl _) (Nat.le_refl _) (Nat.le_refl _) (Nat.le_refl _) h14 (s_X6_readName v0 r9 M12 _ e16) ?_
      refine g_istore_n (pc' := 52) (lv' := [some (aR v0), some (aI r3), some (aI r9), some (aI r16)]) dX6_readField_51 rfl rfl (by decide) rfl ?_
      refine g_iload_n (pc' := 53) dX6_readField_52 rfl rfl ?_
      refine g_if_eq (pc' := 56) 58 dX6_readField_53 rfl (by decide) (fun c17 => ?_) (fun c17 => ?_)
      · have hf := ite_t c17 hf
        refine g_aload_n (pc' := 59) dX6_readField_58 rfl rfl ?_
        obtain ⟨h18, hf⟩ := chk_s hf
        refine g_getR (pc' := 62) 6 0 rfl rfl (by decide) inX6 (by decide) rfl rfl q_209 dX6_readField_59 rfl h18 ?_
        obtain ⟨h19, hf⟩ := chk_s hf
        obtain ⟨_, M20, e21, hf⟩ := bnd_some hf
        refine g_callVv (pc' := 65) (k' := 0) (u' := 0) (fr2 := 2) (As := []) (b := (mR M15 v0 0)) (st := []) cf_X9_advance q_298 (by omega) (ci := 9) rfl rfl (by decide) dX6_readField_62 rfl rfl rfl (Nat.le_of_ble_eq_true rfl) (Or.inl rfl) (Nat.le_refl _) (Nat.le_refl _) (Nat.le_refl _) (Nat.le_refl _) h19 (s_X9_advance (mR M15 v0 0) M15 _ e21) ?_
        refine g_aload_n (pc' := 66) dX6_readField_65 rfl rfl ?_
        refine g_iload_n (pc' := 67) dX6_readField_66 rfl rfl ?_
        obtain ⟨h22, hf⟩ := chk_s hf
        obtain ⟨r24, M23, e24, hf⟩ := bnd_some hf
        refine g_callVi (pc' := 70) (k' := 0) (u' := 0) (fr2 := 2) (As := [aI r9]) (b := v0) (st := []) cf_X6_readLeafOrGroup q_325 (by omega) (ci := 6) rfl rfl (by decide) dX6_readField_67 rfl rfl rfl (Nat.le_of_ble_eq_true rfl) (Or.inl rfl) (Nat.le_refl _) (Nat.le_refl _) (Nat.le_refl _) (Nat.le_refl _) h22 (s_X6_readLeafOrGroup v0 r9 M20 _ e24) ?_
        cases hf
        exact g_ireturn dX6_readField_70 rfl (Nat.le_of_ble_eq_true rfl) (Nat.le_of_ble_eq_true rfl)
      · have hf := ite_f c17 hf
        refine g_iload_n (pc' := 57) dX6_readField_56 rfl rfl ?_
        cases hf
        exact g_ireturn dX6_readField_57 rfl (Nat.le_of_ble_eq_true rfl) (Nat.le_of_ble_eq_true rfl)
    · have hf := ite_f c7 hf
      refine g_iconst (pc' := 25) (2 : Int32) dX6_readField_24 rfl (by decide) ?_
      cases hf
      exact g_ireturn dX6_readField_25 rfl (Nat.le_of_ble_eq_true rfl) (Nat.le_of_ble_eq_true rfl)
  · have hf := ite_t c4 hf
    refine g_iconst (pc' := 11) (1 : Int32) dX6_readField_10 rfl (by decide) ?_
    cases hf
    exact g_ireturn dX6_readField_11 rfl (Nat.le_of_ble_eq_true rfl) (Nat.le_of_ble_eq_true rfl)
def f_X6_read_106 (k41 : Nat → Int32 → Mem → Option (Int32 × Mem)) (v0 : Nat) (v5 : Int32) (w0 : Int32) (M : Mem) : Option (Int32 × Mem) :=
  if w0 = 0 then
    if mK M v0 = 7 then
      if mK M (mR M v0 0) = 10 then
        bnd (f_X9_advance (mR M v0 0) M) fun _ M4 =>
        k41 v0 (v5 + 1) M4
      else none
    else none
  else
    some (w0, M)
def f_X6_read_41 : Nat → Nat → Int32 → Mem → Option (Int32 × Mem)
  | 0, _, _, _ => none
  | n + 1, v0, v5, M =>
    if (700 : Int32) < v5 then
      some ((1 : Int32), M)
    else
      if mK M v0 = 7 then
        if mK M (mR M v0 0) = 10 then
          if (mI M (mR M v0 0) 3) = 0 then
            if (mI M v0 4) = (-1 : Int32) then
              if mK M (mR M v0 1) = 6 then
                if (mI M (mR M v0 1) 0) ≤ 0 then
                  some ((1 : Int32), M)
                else
                  some ((0 : Int32), M)
              else none
            else
              some ((1 : Int32), M)
          else
            if (mI M (mR M v0 0) 3) = (125 : Int32) then
              bnd (f_X6_readClose v0 M) fun r9 M8 =>
              f_X6_read_106 (f_X6_read_41 n) v0 v5 r9 M8
            else
              bnd (f_X6_readField v0 M) fun r7 M6 =>
              f_X6_read_106 (f_X6_read_41 n) v0 v5 r7 M6
        else none
      else none
def f_X6_read (v0 : Nat) (v1 : Nat) (v2 : Nat) (v3 : Nat) (v4 : Int32) (M : Mem) : Option (Int32 × Mem) :=
  if mK M v0 = 7 then
    if okrB M [v1] = true then
      ap (sR M v0 0 v1) fun M2 =>
      if mK M2 v0 = 7 then
        if okrB M2 [v2] = true then
          ap (sR M2 v0 1 v2) fun M5 =>
          if mK M5 v0 = 7 then
            if okrB M5 [v3] = true then
              ap (sR M5 v0 2 v3) fun M8 =>
              if mK M8 v0 = 7 then
                if zB v4 = true then
                  ap (sI M8 v0 3 v4) fun M11 =>
                  if mK M11 v0 = 7 then
                    ap (sI M11 v0 4 (-1 : Int32)) fun M14 =>
                    if mK M14 v0 = 7 then
                      ap (sI M14 v0 5 (0 : Int32)) fun M16 =>
                      if mK M16 v0 = 7 then
                        if mK M16 (mR M16 v0 1) = 6 then
                          bnd (f_X5_clear (mR M16 v0 1) M16) fun _ M19 =>
                          f_X6_read_41 FUEL v0 (0 : Int32) M19
                        else none
                      else none
                    else none
                  else none
                else none
              else none
            else none
          else none
        else none
      else none
    else none
  else none
theorem s_X6_read_106 (k41 : Nat → Int32 → Mem → Option (Int32 × Mem)) (hk41 : ∀ (v0 : Nat) (v5 : Int32) (M : Mem) (r : (Int32 × Mem)), k41 v0 v5 M = some r → G mi_X6_read 8 (oI r.1) r.2 41 [some (aR v0), none, none, none, none, some (aI v5), none] [] M 0 0) (v0 : Nat) (v5 : Int32) (w0 : Int32) (M : Mem) (r : (Int32 × Mem)) (hf : f_X6_read_106 k41 v0 v5 w0 M = some r) : G mi_X6_read 8 (oI r.1) r.2 106 [some (aR v0), none, none, none, none, some (aI v5), none] [aI w0] M 0 0 := by
  unfold f_X6_read_106 at hf
  refine g_istore (pc' := 108) (lv' := [some (aR v0), none, none, none, none, some (aI v5), some (aI w0)]) dX6_read_106 rfl rfl (by decide) rfl ?_
  refine g_iload (pc' := 110) dX6_read_108 rfl rfl ?_
  refine g_if_eq (pc' := 113) 116 dX6_read_110 rfl (by decide) (fun c1 => ?_) (fun c1 => ?_)
  · have hf := ite_t c1 hf
    refine g_aload_n (pc' := 117) dX6_read_116 rfl rfl ?_
    obtain ⟨h2, hf⟩ := chk_s hf
    refine g_getR (pc' := 120) 6 0 rfl rfl (by decide) inX6 (by decide) rfl rfl q_209 dX6_read_117 rfl h2 ?_
    obtain ⟨h3, hf⟩ := chk_s hf
    obtain ⟨_, M4, e5, hf⟩ := bnd_some hf
    refine g_callVv (pc' := 123) (k' := 0) (u' := 0) (fr2 := 2) (As := []) (b := (mR M v0 0)) (st := []) cf_X9_advance q_298 (by omega) (ci := 9) rfl rfl (by decide) dX6_read_120 rfl rfl rfl (Nat.le_of_ble_eq_true rfl) (Or.inl rfl) (Nat.le_refl _) (Nat.le_refl _) (Nat.le_refl _) (Nat.le_refl _) h3 (s_X9_advance (mR M v0 0) M _ e5) ?_
    refine g_iinc (pc' := 126) (lv' := [some (aR v0), none, none, none, none, some (aI (v5 + 1)), some (aI w0)]) (v5 + 1) dX6_read_123 rfl rfl (by rfl) rfl (by decide) rfl ?_
    refine g_goto (pc' := 41) dX6_read_126 (by decide) ?_
    refine g_mask [true, true, true, true, true, true, false] rfl ?_
    refine g_widen (k' := 0) (u' := 0) (by omega) (by omega) ?_
    exact hk41 v0 (v5 + 1) M4 _ hf
  · have hf := ite_f c1 hf
    refine g_iload (pc' := 115) dX6_read_113 rfl rfl ?_
    cases hf
    exact g_ireturn dX6_read_115 rfl (Nat.le_of_ble_eq_true rfl) (Nat.le_of_ble_eq_true rfl)
theorem s_X6_read_41 : ∀ (n : Nat) (v0 : Nat) (v5 : Int32) (M : Mem) (r : (Int32 × Mem)), f_X6_read_41 n v0 v5 M = some r → G mi_X6_read 8 (oI r.1) r.2 41 [some (aR v0), none, none, none, none, some (aI v5), none] [] M 0 0 := by
  intro n
  induction n with
  | zero => intro v0 v5 M r hf; cases hf
  | succ n ih =>
    intro v0 v5 M r hf
    unfold f_X6_read_41 at hf
    refine g_iload (pc' := 43) dX6_read_41 rfl rfl ?_
    refine g_sipush (pc' := 46) (700 : Int32) dX6_read_43 rfl (by decide) ?_
    refine g_icmp_gt (pc' := 49) 129 dX6_read_46 rfl (by decide) (fun c1 => ?_) (fun c1 => ?_)
    · have hf := ite_t c1 hf
      refine g_iconst (pc' := 130) (1 : Int32) dX6_read_129 rfl (by decide) ?_
      cases hf
      exact g_ireturn dX6_read_130 rfl (Nat.le_of_ble_eq_true rfl) (Nat.le_of_ble_eq_true rfl)
    · have hf := ite_f c1 hf
      refine g_aload_n (pc' := 50) dX6_read_49 rfl rfl ?_
      obtain ⟨h2, hf⟩ := chk_s hf
      refine g_getR (pc' := 53) 6 0 rfl rfl (by decide) inX6 (by decide) rfl rfl q_209 dX6_read_50 rfl h2 ?_
      obtain ⟨h3, hf⟩ := chk_s hf
      refine g_getI (pc' := 56) 9 3 rfl rfl (by decide) inX9 (by decide) rfl rfl q_215 dX6_read_53 rfl h3 ?_
      refine g_if_ne (pc' := 59) 83 dX6_read_56 rfl (by decide) (fun c4 => ?_) (fun c4 => ?_)
      · have hf := ite_f c4 hf
        refine g_aload_n (pc' := 84) dX6_read_83 rfl rfl ?_
        refine g_getR (pc' := 87) 6 0 rfl rfl (by decide) inX6 (by decide) rfl rfl q_209 dX6_read_84 rfl h2 ?_
        refine g_getI (pc' := 90) 9 3 rfl rfl (by decide) inX9 (by decide) rfl rfl q_215 dX6_read_87 rfl h3 ?_
        refine g_bipush (pc' := 92) (125 : Int32) dX6_read_90 rfl (by decide) ?_
        refine g_icmp_ne (pc' := 95) 102 dX6_read_92 rfl (by decide) (fun c5 => ?_) (fun c5 => ?_)
        · have hf := ite_f c5 hf
          refine g_aload_n (pc' := 103) dX6_read_102 rfl rfl ?_
          obtain ⟨r7, M6, e7, hf⟩ := bnd_some hf
          refine g_callVi (pc' := 106) (k' := 0) (u' := 0) (fr2 := 7) (As := []) (b := v0) (st := []) cf_X6_readField q_229 (by omega) (ci := 6) rfl rfl (by decide) dX6_read_103 rfl rfl rfl (Nat.le_of_ble_eq_true rfl) (Or.inl rfl) (Nat.le_refl _) (Nat.le_refl _) (Nat.le_refl _) (Nat.le_refl _) h2 (s_X6_readField v0 M _ e7) ?_
          refine g_widen (k' := 0) (u' := 0) (by omega) (by omega) ?_
          exact s_X6_read_106 (f_X6_read_41 n) ih v0 v5 r7 M6 _ hf
        · have hf := ite_t c5 hf
          refine g_aload_n (pc' := 96) dX6_read_95 rfl rfl ?_
          obtain ⟨r9, M8, e9, hf⟩ := bnd_some hf
          refine g_callVi (pc' := 99) (k' := 0) (u' := 0) (fr2 := 1) (As := []) (b := v0) (st := []) cf_X6_readClose q_223 (by omega) (ci := 6) rfl rfl (by decide) dX6_read_96 rfl rfl rfl (Nat.le_of_ble_eq_true rfl) (Or.inl rfl) (Nat.le_refl _) (Nat.le_refl _) (Nat.le_refl _) (Nat.le_refl _) h2 (s_X6_readClose v0 M _ e9) ?_
          refine g_goto (pc' := 106) dX6_read_99 (by decide) ?_
          refine g_widen (k' := 0) (u' := 0) (by omega) (by omega) ?_
          exact s_X6_read_106 (f_X6_read_41 n) ih v0 v5 r9 M8 _ hf
      · have hf := ite_t c4 hf
        refine g_aload_n (pc' := 60) dX6_read_59 rfl rfl ?_
        refine g_getI (pc' := 63) 6 4 rfl rfl (by decide) inX6 (by decide) rfl rfl q_213 dX6_read_60 rfl h2 ?_
        refine g_iconst (pc' := 64) (-1 : Int32) dX6_read_63 rfl (by decide) ?_
        refine g_icmp_ne (pc' := 67) 81 dX6_read_64 rfl (by decide) (fun c10 => ?_) (fun c10 => ?_)
        · have hf := ite_f c10 hf
          refine g_iconst (pc' := 82) (1 : Int32) dX6_read_81 rfl (by decide) ?_
          cases hf
          exact g_ireturn dX6_read_82 rfl (Nat.le_of_ble_eq_true rfl) (Nat.le_of_ble_eq_true rfl)
        · have hf := ite_t c10 hf
          refine g_aload_n (pc' := 68) dX6_read_67 rfl rfl ?_
          refine g_getR (pc' := 71) 6 1 rfl rfl (by decide) inX6 (by decide) rfl rfl q_210 dX6_read_68 rfl h2 ?_
          obtain ⟨h11, hf⟩ := chk_s hf
          refine g_getI (pc' := 74) 5 0 rfl rfl (by decide) inX5 (by decide) rfl rfl q_216 dX6_read_71 rfl h11 ?_
          refine g_if_le (pc' := 77) 81 dX6_read_74 rfl (by decide) (fun c12 => ?_) (fun c12 => ?_)
          · have hf := ite_t c12 hf
            refine g_iconst (pc' := 82) (1 : Int32) dX6_read_81 rfl (by decide) ?_
            cases hf
            exact g_ireturn dX6_read_82 rfl (Nat.le_of_ble_eq_true rfl) (Nat.le_of_ble_eq_true rfl)
          · have hf := ite_f c12 hf
            refine g_iconst (pc' := 78) (0 : Int32) dX6_read_77 rfl (by decide) ?_
            refine g_goto (pc' := 82) dX6_read_78 (by decide) ?_
            cases hf
            exact g_ireturn dX6_read_82 rfl (Nat.le_of_ble_eq_true rfl) (Nat.le_of_ble_eq_true rfl)
theorem s_X6_read (v0 : Nat) (v1 : Nat) (v2 : Nat) (v3 : Nat) (v4 : Int32) (M : Mem) (r : (Int32 × Mem)) (hf : f_X6_read v0 v1 v2 v3 v4 M = some r) : Sem mi_X6_read (8) [aR v0, aR v1, aR v2, aR v3, aI v4] M (oI r.1) r.2 := by
  unfold f_X6_read at hf
  refine sem_of (by decide) rfl rfl rfl (Nat.le_of_ble_eq_true rfl) (lv := [some (aR v0), some (aR v1), some (aR v2), some (aR v3), some (aI v4), none, none]) rfl ?_
  refine g_aload_n (pc' := 1) dX6_read_0 rfl rfl ?_
  refine g_aload_n (pc' := 2) dX6_read_1 rfl rfl ?_
  obtain ⟨h1, hf⟩ := chk_s hf
  obtain ⟨hr3, hf⟩ := chk_s hf
  refine g_putR (pc' := 5) 6 0 rfl rfl (by decide) inX6 tyX6_ok nmX6 (by decide) rfl rfl rfl (Or.inl ⟨_, rfl⟩) (okrB_1 hr3) q_209 dX6_read_2 rfl h1 (gM fun M2 hM2 => ?_)
  have hf := ap_eq hf hM2
  refine g_aload_n (pc' := 6) dX6_read_5 rfl rfl ?_
  refine g_aload_n (pc' := 7) dX6_read_6 rfl rfl ?_
  obtain ⟨h4, hf⟩ := chk_s hf
  obtain ⟨hr6, hf⟩ := chk_s hf
  refine g_putR (pc' := 10) 6 1 rfl rfl (by decide) inX6 tyX6_ok nmX6 (by decide) rfl rfl rfl (Or.inl ⟨_, rfl⟩) (okrB_1 hr6) q_210 dX6_read_7 rfl h4 (gM fun M5 hM5 => ?_)
  have hf := ap_eq hf hM5
  refine g_aload_n (pc' := 11) dX6_read_10 rfl rfl ?_
  refine g_aload_n (pc' := 12) dX6_read_11 rfl rfl ?_
  obtain ⟨h7, hf⟩ := chk_s hf
  obtain ⟨hr9, hf⟩ := chk_s hf
  refine g_putR (pc' := 15) 6 2 rfl rfl (by decide) inX6 tyX6_ok nmX6 (by decide) rfl rfl rfl (Or.inl ⟨_, rfl⟩) (okrB_1 hr9) q_211 dX6_read_12 rfl h7 (gM fun M8 hM8 => ?_)
  have hf := ap_eq hf hM8
  refine g_aload_n (pc' := 16) dX6_read_15 rfl rfl ?_
  refine g_iload (pc' := 18) dX6_read_16 rfl rfl ?_
  obtain ⟨h10, hf⟩ := chk_s hf
  obtain ⟨hb12, hf⟩ := chk_s hf
  refine g_putZ (pc' := 21) 6 3 rfl rfl (by decide) inX6 tyX6_ok nmX6 (by decide) rfl rfl rfl rfl (zB_ok hb12) q_212 dX6_read_18 rfl h10 (gM fun M11 hM11 => ?_)
  have hf := ap_eq hf hM11
  refine g_aload_n (pc' := 22) dX6_read_21 rfl rfl ?_
  refine g_iconst (pc' := 23) (-1 : Int32) dX6_read_22 rfl (by decide) ?_
  obtain ⟨h13, hf⟩ := chk_s hf
  refine g_putI (pc' := 26) 6 4 rfl rfl (by decide) inX6 tyX6_ok nmX6 (by decide) rfl rfl rfl rfl q_213 dX6_read_23 rfl h13 (gM fun M14 hM14 => ?_)
  have hf := ap_eq hf hM14
  refine g_aload_n (pc' := 27) dX6_read_26 rfl rfl ?_
  refine g_iconst (pc' := 28) (0 : Int32) dX6_read_27 rfl (by decide) ?_
  obtain ⟨h15, hf⟩ := chk_s hf
  refine g_putI (pc' := 31) 6 5 rfl rfl (by decide) inX6 tyX6_ok nmX6 (by decide) rfl rfl rfl rfl q_214 dX6_read_28 rfl h15 (gM fun M16 hM16 => ?_)
  have hf := ap_eq hf hM16
  refine g_aload_n (pc' := 32) dX6_read_31 rfl rfl ?_
  obtain ⟨h17, hf⟩ := chk_s hf
  refine g_getR (pc' := 35) 6 1 rfl rfl (by decide) inX6 (by decide) rfl rfl q_210 dX6_read_32 rfl h17 ?_
  obtain ⟨h18, hf⟩ := chk_s hf
  obtain ⟨_, M19, e20, hf⟩ := bnd_some hf
  refine g_callVv (pc' := 38) (k' := 0) (u' := 0) (fr2 := 1) (As := []) (b := (mR M16 v0 1)) (st := []) cf_X5_clear q_217 (by omega) (ci := 5) rfl rfl (by decide) dX6_read_35 rfl rfl rfl (Nat.le_of_ble_eq_true rfl) (Or.inl rfl) (Nat.le_refl _) (Nat.le_refl _) (Nat.le_refl _) (Nat.le_refl _) h18 (s_X5_clear (mR M16 v0 1) M16 _ e20) ?_
  refine g_iconst (pc' := 39) (0 : Int32) dX6_read_38 rfl (by decide) ?_
  refine g_istore (pc' := 41) (lv' := [some (aR v0), some (aR v1), some (aR v2), some (aR v3), some (aI v4), some (aI (0 : Int32)), none]) dX6_read_39 rfl rfl (by decide) rfl ?_
  refine g_mask [true, false, false, false, false, true, true] rfl ?_
  refine g_widen (k' := 0) (u' := 0) (by omega) (by omega) ?_
  exact s_X6_read_41 FUEL v0 (0 : Int32) M19 _ hf
set_option maxRecDepth 100000 in
set_option maxHeartbeats 4000000 in
def f_X7_init (v0 : Nat) (M : Mem) : Option (Unit × Mem) :=
  if ¬ v0 = 0 then
    if mn M + 1 < 900000 then
      if okrB M [v0, v0] = true then
        ap (mNew M 23 (8 : Int32).toNatClampNeg) fun M2 =>
        if mK M2 v0 = 8 then
          if okrB M2 [(mn M + 1)] = true then
            ap (sR M2 v0 0 (mn M + 1)) fun M4 =>
            if mn M4 + 1 < 900000 then
              if okrB M4 [v0, v0] = true then
                ap (mNew M4 24 (40 : Int32).toNatClampNeg) fun M7 =>
                if mK M7 v0 = 8 then
                  if okrB M7 [(mn M4 + 1)] = true then
                    ap (sR M7 v0 2 (mn M4 + 1)) fun M9 =>
                    if mK M9 v0 = 8 then
                      if mn M9 + 1 < 900000 then
                        if okrB M9 [v0, (mR M9 v0 0)] = true then
                        ap (mNew M9 3 0) fun M14 =>
                        if ¬ (mn M9 + 1) = 0 then
                          if okrB M14 [v0, (mn M9 + 1), (mR M9 v0 0)] = true then
                            bnd (f_X2_init (mn M9 + 1) M14) fun _ M16 =>
                            if mK M16 (mR M9 v0 0) = 23 then
                              if inB (0 : Int32) (mN M16 (mR M9 v0 0)) = true then
                                if mK M16 (mn M9 + 1) = 3 then
                                  ap (sR M16 (mR M9 v0 0) (0 : Int32).toNatClampNeg (mn M9 + 1)) fun M21 =>
                                  if mK M21 v0 = 8 then
                                    if mn M21 + 1 < 900000 then
                                      if okrB M21 [v0, (mR M21 v0 0)] = true then
                                      ap (mNew M21 3 0) fun M26 =>
                                      if ¬ (mn M21 + 1) = 0 then
                                        if okrB M26 [v0, (mn M21 + 1), (mR M21 v0 0)] = true then
                                          bnd (f_X2_init (mn M21 + 1) M26) fun _ M28 =>
                                          if mK M28 (mR M21 v0 0) = 23 then
                                            if inB (1 : Int32) (mN M28 (mR M21 v0 0)) = true then
                                              if mK M28 (mn M21 + 1) = 3 then
                                                ap (sR M28 (mR M21 v0 0) (1 : Int32).toNatClampNeg (mn M21 + 1)) fun M33 =>
                                                if mK M33 v0 = 8 then
                                                  if mn M33 + 1 < 900000 then
                                                    if okrB M33 [v0, (mR M33 v0 0)] = true then
                                                    ap (mNew M33 3 0) fun M38 =>
                                                    if ¬ (mn M33 + 1) = 0 then
                                                      if okrB M38 [v0, (mn M33 + 1), (mR M33 v0 0)] = true then
                                                        bnd (f_X2_init (mn M33 + 1) M38) fun _ M40 =>
                                                        if mK M40 (mR M33 v0 0) = 23 then
                                                          if inB (2 : Int32) (mN M40 (mR M33 v0 0)) = true then
                                                            if mK M40 (mn M33 + 1) = 3 then
                                                              ap (sR M40 (mR M33 v0 0) (2 : Int32).toNatClampNeg (mn M33 + 1)) fun M45 =>
                                                              if mK M45 v0 = 8 then
                                                                if mn M45 + 1 < 900000 then
                                                                  if okrB M45 [v0, (mR M45 v0 0)] = true then
                                                                  ap (mNew M45 3 0) fun M50 =>
                                                                  if ¬ (mn M45 + 1) = 0 then
                                                                    if okrB M50 [v0, (mn M45 + 1), (mR M45 v0 0)] = true then
                                                                      bnd (f_X2_init (mn M45 + 1) M50) fun _ M52 =>
                                                                      if mK M52 (mR M45 v0 0) = 23 then
                                                                        if inB (3 : Int32) (mN M52 (mR M45 v0 0)) = true then
                                                                          if mK M52 (mn M45 + 1) = 3 then
                                                                            ap (sR M52 (mR M45 v0 0) (3 : Int32).toNatClampNeg (mn M45 + 1)) fun M57 =>
                                                                            if mK M57 v0 = 8 then
                                                                              if mn M57 + 1 < 900000 then
                                                                                if okrB M57 [v0, (mR M57 v0 0)] = true then
                                                                                ap (mNew M57 3 0) fun M62 =>
                                                                                if ¬ (mn M57 + 1) = 0 then
                                                                                  if okrB M62 [v0, (mn M57 + 1), (mR M57 v0 0)] = true then
                                                                                    bnd (f_X2_init (mn M57 + 1) M62) fun _ M64 =>
                                                                                    if mK M64 (mR M57 v0 0) = 23 then
                                                                                      if inB (4 : Int32) (mN M64 (mR M57 v0 0)) = true then
                                                                                        if mK M64 (mn M57 + 1) = 3 then
                                                                                          ap (sR M64 (mR M57 v0 0) (4 : Int32).toNatClampNeg (mn M57 + 1)) fun M69 =>
                                                                                          if mK M69 v0 = 8 then
                                                                                            if mn M69 + 1 < 900000 then
                                                                                              if okrB M69 [v0, (mR M69 v0 0)] = true then
                                                                                              ap (mNew M69 3 0) fun M74 =>
                                                                                              if ¬ (mn M69 + 1) = 0 then
                                                                                                if okrB M74 [v0, (mn M69 + 1), (mR M69 v0 0)] = true then
                                                                                                  bnd (f_X2_init (mn M69 + 1) M74) fun _ M76 =>
                                                                                                  if mK M76 (mR M69 v0 0) = 23 then
                                                                                                    if inB (5 : Int32) (mN M76 (mR M69 v0 0)) = true then
                                                                                                      if mK M76 (mn M69 + 1) = 3 then
                                                                                                        ap (sR M76 (mR M69 v0 0) (5 : Int32).toNatClampNeg (mn M69 + 1)) fun M81 =>
                                                                                                        if mK M81 v0 = 8 then
                                                                                                          if mn M81 + 1 < 900000 then
                                                                                                            if okrB M81 [v0, (mR M81 v0 0)] = true then
                                                                                                            ap (mNew M81 3 0) fun M86 =>
                                                                                                            if ¬ (mn M81 + 1) = 0 then
                                                                                                              if okrB M86 [v0, (mn M81 + 1), (mR M81 v0 0)] = true then
                                                                                                                bnd (f_X2_init (mn M81 + 1) M86) fun _ M88 =>
                                                                                                                if mK M88 (mR M81 v0 0) = 23 then
                                                                                                                  if inB (6 : Int32) (mN M88 (mR M81 v0 0)) = true then
                                                                                                                    if mK M88 (mn M81 + 1) = 3 then
                                                                                                                      ap (sR M88 (mR M81 v0 0) (6 : Int32).toNatClampNeg (mn M81 + 1)) fun M93 =>
                                                                                                                      if mK M93 v0 = 8 then
                                                                                                                        if mn M93 + 1 < 900000 then
                                                                                                                          if okrB M93 [v0, (mR M93 v0 0)] = true then
                                                                                                                          ap (mNew M93 3 0) fun M98 =>
                                                                                                                          if ¬ (mn M93 + 1) = 0 then
                                                                                                                            if okrB M98 [v0, (mn M93 + 1), (mR M93 v0 0)] = true then
                                                                                                                              bnd (f_X2_init (mn M93 + 1) M98) fun _ M100 =>
                                                                                                                              if mK M100 (mR M93 v0 0) = 23 then
                                                                                                                                if inB (7 : Int32) (mN M100 (mR M93 v0 0)) = true then
                                                                                                                                  if mK M100 (mn M93 + 1) = 3 then
                                                                                                                                    ap (sR M100 (mR M93 v0 0) (7 : Int32).toNatClampNeg (mn M93 + 1)) fun M105 =>
                                                                                                                                    some ((), M105)
                                                                                                                                  else none
                                                                                                                                else none
                                                                                                                              else none
                                                                                                                            else none
                                                                                                                          else none
                                                                                                                          else none
                                                                                                                        else none
                                                                                                                      else none
                                                                                                                    else none
                                                                                                                  else none
                                                                                                                else none
                                                                                                              else none
                                                                                                            else none
                                                                                                            else none
                                                                                                          else none
                                                                                                        else none
                                                                                                      else none
                                                                                                    else none
                                                                                                  else none
                                                                                                else none
                                                                                              else none
                                                                                              else none
                                                                                            else none
                                                                                          else none
                                                                                        else none
                                                                                      else none
                                                                                    else none
                                                                                  else none
                                                                                else none
                                                                                else none
                                                                              else none
                                                                            else none
                                                                          else none
                                                                        else none
                                                                      else none
                                                                    else none
                                                                  else none
                                                                  else none
                                                                else none
                                                              else none
                                                            else none
                                                          else none
                                                        else none
                                                      else none
                                                    else none
                                                    else none
                                                  else none
                                                else none
                                              else none
                                            else none
                                          else none
                                        else none
                                      else none
                                      else none
                                    else none
                                  else none
                                else none
                              else none
                            else none
                          else none
                        else none
                        else none
                      else none
                    else none
                  else none
                else none
              else none
            else none
          else none
        else none
      else none
    else none
  else none
set_option maxRecDepth 100000 in
set_option maxHeartbeats 4000000 in
theorem s_X7_init (v0 : Nat) (M : Mem) (r : (Unit × Mem)) (hf : f_X7_init v0 M = some r) : Sem mi_X7_init (2) [aR v0] M (oU r.1) r.2 := by
  unfold f_X7_init at hf
  refine sem_of (by decide) rfl rfl rfl (Nat.le_of_ble_eq_true rfl) (lv := [some (aR v0), none]) rfl ?_
  refine g_aload_n (pc' := 1) dX7_init_0 rfl rfl ?_
  obtain ⟨ho108, hf⟩ := chk_s hf
  refine g_obj (pc' := 4) q_83 q_11 q_12 (by omega) ho108 (Nat.le_of_ble_eq_true rfl) dX7_init_1 rfl ?_
  refine g_aload_n (pc' := 5) dX7_init_4 rfl rfl ?_
  refine g_bipush (pc' := 7) (8 : Int32) dX7_init_5 rfl (by decide) ?_
  obtain ⟨hm1, hf⟩ := chk_s hf
  obtain ⟨ha1, hf⟩ := chk_s hf
  refine g_newQ (pc' := 10) (k' := 1) (u' := 8) (t0 := 2) (fun _ => rfl) (by decide) (List.mem_of_getElem? (i := 0) rfl) (by decide) q_84 dX7_init_7 rfl (by decide) (by decide) hm1 (okrB_ok ha1 rfl) (by omega) (by show 0 + 8 ≤ 8; omega) (by show 1 ≤ 34; omega) (by show 8 ≤ 2974; omega) (gM fun M2 hM2 => ?_)
  have hf := ap_eq hf hM2
  obtain ⟨h3, hf⟩ := chk_s hf
  obtain ⟨hr5, hf⟩ := chk_s hf
  refine g_putFR (pc' := 13) 7 0 rfl rfl (by decide) inX7 tyX7_ok nmX7 (by decide) rfl rfl rfl rfl rfl (Or.inr ⟨_, rfl⟩) (okrB_1 hr5) q_85 dX7_init_10 rfl h3 (gM fun M4 hM4 => ?_)
  have hf := ap_eq hf hM4
  refine g_aload_n (pc' := 14) dX7_init_13 rfl rfl ?_
  refine g_bipush (pc' := 16) (40 : Int32) dX7_init_14 rfl (by decide) ?_
  obtain ⟨hm6, hf⟩ := chk_s hf
  obtain ⟨ha6, hf⟩ := chk_s hf
  refine g_newQ (pc' := 19) (k' := 2) (u' := 48) (t0 := 3) (fun _ => rfl) (by decide) (List.mem_of_getElem? (i := 1) rfl) (by decide) q_86 dX7_init_16 rfl (by decide) (by decide) hm6 (okrB_ok ha6 rfl) (by omega) (by show 8 + 40 ≤ 48; omega) (by show 2 ≤ 34; omega) (by show 48 ≤ 2974; omega) (gM fun M7 hM7 => ?_)
  have hf := ap_eq hf hM7
  obtain ⟨h8, hf⟩ := chk_s hf
  obtain ⟨hr10, hf⟩ := chk_s hf
  refine g_putFR (pc' := 22) 7 2 rfl rfl (by decide) inX7 tyX7_ok nmX7 (by decide) rfl rfl rfl rfl rfl (Or.inr ⟨_, rfl⟩) (okrB_1 hr10) q_87 dX7_init_19 rfl h8 (gM fun M9 hM9 => ?_)
  have hf := ap_eq hf hM9
  refine g_iconst (pc' := 23) (0 : Int32) dX7_init_22 rfl (by decide) ?_
  refine g_istore_n (pc' := 24) (lv' := [some (aR v0), some (aI (0 : Int32))]) dX7_init_23 rfl rfl (by decide) rfl ?_
  refine g_iload_n (pc' := 25) dX7_init_24 rfl rfl ?_
  refine g_bipush (pc' := 27) (8 : Int32) dX7_init_25 rfl (by decide) ?_
  refine g_icmp_ge (pc' := 30) 49 dX7_init_27 rfl (by decide) (fun c11 => absurd c11 (by decide)) (fun c11 => ?_)
  refine g_aload_n (pc' := 31) dX7_init_30 rfl rfl ?_
  obtain ⟨h12, hf⟩ := chk_s hf
  refine g_getR (pc' := 34) 7 0 rfl rfl (by decide) inX7 (by decide) rfl rfl q_85 dX7_init_31 rfl h12 ?_
  refine g_iload_n (pc' := 35) dX7_init_34 rfl rfl ?_
  obtain ⟨hm13, hf⟩ := chk_s hf
  obtain ⟨ha13, hf⟩ := chk_s hf
  refine g_new (pc' := 38) (k' := 3) (u' := 53) 2 rfl rfl (by decide) inX2 tyX2_ok dfX2 (by decide) q_84 q_88 q_89 dX7_init_35 rfl hm13 (okrB_ok ha13 rfl) (by omega) (by omega) (by show 3 ≤ 34; omega) (by show 53 ≤ 2974; omega) (gM fun M14 hM14 => ?_)
  have hf := ap_eq hf hM14
  refine g_dup (pc' := 39) dX7_init_38 rfl rfl ?_
  obtain ⟨ho15, hf⟩ := chk_s hf
  obtain ⟨ha18, hf⟩ := chk_s hf
  obtain ⟨_, M16, e17, hf⟩ := bnd_some hf
  refine g_callINv (pc' := 42) (k' := 6) (u' := 413) (fr2 := 1) (As := []) (b := (mn M9 + 1)) (st := [aR (mn M9 + 1), aI (0 : Int32), aR (mR M9 v0 0)]) cf_X2_init (List.mem_of_getElem? (i := 6) rfl) (by omega) ho15 dX7_init_39 rfl rfl rfl (Nat.le_of_ble_eq_true rfl) (Or.inr ⟨by decide, okrB_ok ha18 rfl⟩) (by show 3 + 3 ≤ 6; omega) (by show 53 + 360 ≤ 413; omega) (by show 6 ≤ 34; omega) (by show 413 ≤ 2974; omega) (s_X2_init (mn M9 + 1) M14 _ e17) ?_
  obtain ⟨h19, hf⟩ := chk_s hf
  obtain ⟨b20, hf⟩ := chk_s hf
  obtain ⟨h22, hf⟩ := chk_s hf
  refine g_aast (pc' := 43) (ci := 2) (t0 := 2) (fun _ => rfl) (by decide) rfl (by decide) dX7_init_42 rfl h19 (inB_in b20) h22 (gM fun M21 hM21 => ?_)
  have hf := ap_eq hf hM21
  refine g_iinc (pc' := 46) (lv' := [some (aR v0), some (aI (1 : Int32))]) (1 : Int32) dX7_init_43 rfl rfl (by decide) rfl (by decide) rfl ?_
  refine g_goto (pc' := 24) dX7_init_46 (by decide) ?_
  refine g_iload_n (pc' := 25) dX7_init_24 rfl rfl ?_
  refine g_bipush (pc' := 27) (8 : Int32) dX7_init_25 rfl (by decide) ?_
  refine g_icmp_ge (pc' := 30) 49 dX7_init_27 rfl (by decide) (fun c23 => absurd c23 (by decide)) (fun c23 => ?_)
  refine g_aload_n (pc' := 31) dX7_init_30 rfl rfl ?_
  obtain ⟨h24, hf⟩ := chk_s hf
  refine g_getR (pc' := 34) 7 0 rfl rfl (by decide) inX7 (by decide) rfl rfl q_85 dX7_init_31 rfl h24 ?_
  refine g_iload_n (pc' := 35) dX7_init_34 rfl rfl ?_
  obtain ⟨hm25, hf⟩ := chk_s hf
  obtain ⟨ha25, hf⟩ := chk_s hf
  refine g_new (pc' := 38) (k' := 7) (u' := 418) 2 rfl rfl (by decide) inX2 tyX2_ok dfX2 (by decide) q_84 q_88 q_89 dX7_init_35 rfl hm25 (okrB_ok ha25 rfl) (by omega) (by omega) (by show 7 ≤ 34; omega) (by show 418 ≤ 2974; omega) (gM fun M26 hM26 => ?_)
  have hf := ap_eq hf hM26
  refine g_dup (pc' := 39) dX7_init_38 rfl rfl ?_
  obtain ⟨ho27, hf⟩ := chk_s hf
  obtain ⟨ha30, hf⟩ := chk_s hf
  obtain ⟨_, M28, e29, hf⟩ := bnd_some hf
  refine g_callINv (pc' := 42) (k' := 10) (u' := 778) (fr2 := 1) (As := []) (b := (mn M21 + 1)) (st := [aR (mn M21 + 1), aI (1 : Int32), aR (mR M21 v0 0)]) cf_X2_init (List.mem_of_getElem? (i := 6) rfl) (by omega) ho27 dX7_init_39 rfl rfl rfl (Nat.le_of_ble_eq_true rfl) (Or.inr ⟨by decide, okrB_ok ha30 rfl⟩) (by show 7 + 3 ≤ 10; omega) (by show 418 + 360 ≤ 778; omega) (by show 10 ≤ 34; omega) (by show 778 ≤ 2974; omega) (s_X2_init (mn M21 + 1) M26 _ e29) ?_
  obtain ⟨h31, hf⟩ := chk_s hf
  obtain ⟨b32, hf⟩ := chk_s hf
  obtain ⟨h34, hf⟩ := chk_s hf
  refine g_aast (pc' := 43) (ci := 2) (t0 := 2) (fun _ => rfl) (by decide) rfl (by decide) dX7_init_42 rfl h31 (inB_in b32) h34 (gM fun M33 hM33 => ?_)
  have hf := ap_eq hf hM33
  refine g_iinc (pc' := 46) (lv' := [some (aR v0), some (aI (2 : Int32))]) (2 : Int32) dX7_init_43 rfl rfl (by decide) rfl (by decide) rfl ?_
  refine g_goto (pc' := 24) dX7_init_46 (by decide) ?_
  refine g_iload_n (pc' := 25) dX7_init_24 rfl rfl ?_
  refine g_bipush (pc' := 27) (8 : Int32) dX7_init_25 rfl (by decide) ?_
  refine g_icmp_ge (pc' := 30) 49 dX7_init_27 rfl (by decide) (fun c35 => absurd c35 (by decide)) (fun c35 => ?_)
  refine g_aload_n (pc' := 31) dX7_init_30 rfl rfl ?_
  obtain ⟨h36, hf⟩ := chk_s hf
  refine g_getR (pc' := 34) 7 0 rfl rfl (by decide) inX7 (by decide) rfl rfl q_85 dX7_init_31 rfl h36 ?_
  refine g_iload_n (pc' := 35) dX7_init_34 rfl rfl ?_
  obtain ⟨hm37, hf⟩ := chk_s hf
  obtain ⟨ha37, hf⟩ := chk_s hf
  refine g_new (pc' := 38) (k' := 11) (u' := 783) 2 rfl rfl (by decide) inX2 tyX2_ok dfX2 (by decide) q_84 q_88 q_89 dX7_init_35 rfl hm37 (okrB_ok ha37 rfl) (by omega) (by omega) (by show 11 ≤ 34; omega) (by show 783 ≤ 2974; omega) (gM fun M38 hM38 => ?_)
  have hf := ap_eq hf hM38
  refine g_dup (pc' := 39) dX7_init_38 rfl rfl ?_
  obtain ⟨ho39, hf⟩ := chk_s hf
  obtain ⟨ha42, hf⟩ := chk_s hf
  obtain ⟨_, M40, e41, hf⟩ := bnd_some hf
  refine g_callINv (pc' := 42) (k' := 14) (u' := 1143) (fr2 := 1) (As := []) (b := (mn M33 + 1)) (st := [aR (mn M33 + 1), aI (2 : Int32), aR (mR M33 v0 0)]) cf_X2_init (List.mem_of_getElem? (i := 6) rfl) (by omega) ho39 dX7_init_39 rfl rfl rfl (Nat.le_of_ble_eq_true rfl) (Or.inr ⟨by decide, okrB_ok ha42 rfl⟩) (by show 11 + 3 ≤ 14; omega) (by show 783 + 360 ≤ 1143; omega) (by show 14 ≤ 34; omega) (by show 1143 ≤ 2974; omega) (s_X2_init (mn M33 + 1) M38 _ e41) ?_
  obtain ⟨h43, hf⟩ := chk_s hf
  obtain ⟨b44, hf⟩ := chk_s hf
  obtain ⟨h46, hf⟩ := chk_s hf
  refine g_aast (pc' := 43) (ci := 2) (t0 := 2) (fun _ => rfl) (by decide) rfl (by decide) dX7_init_42 rfl h43 (inB_in b44) h46 (gM fun M45 hM45 => ?_)
  have hf := ap_eq hf hM45
  refine g_iinc (pc' := 46) (lv' := [some (aR v0), some (aI (3 : Int32))]) (3 : Int32) dX7_init_43 rfl rfl (by decide) rfl (by decide) rfl ?_
  refine g_goto (pc' := 24) dX7_init_46 (by decide) ?_
  refine g_iload_n (pc' := 25) dX7_init_24 rfl rfl ?_
  refine g_bipush (pc' := 27) (8 : Int32) dX7_init_25 rfl (by decide) ?_
  refine g_icmp_ge (pc' := 30) 49 dX7_init_27 rfl (by decide) (fun c47 => absurd c47 (by decide)) (fun c47 => ?_)
  refine g_aload_n (pc' := 31) dX7_init_30 rfl rfl ?_
  obtain ⟨h48, hf⟩ := chk_s hf
  refine g_getR (pc' := 34) 7 0 rfl rfl (by decide) inX7 (by decide) rfl rfl q_85 dX7_init_31 rfl h48 ?_
  refine g_iload_n (pc' := 35) dX7_init_34 rfl rfl ?_
  obtain ⟨hm49, hf⟩ := chk_s hf
  obtain ⟨ha49, hf⟩ := chk_s hf
  refine g_new (pc' := 38) (k' := 15) (u' := 1148) 2 rfl rfl (by decide) inX2 tyX2_ok dfX2 (by decide) q_84 q_88 q_89 dX7_init_35 rfl hm49 (okrB_ok ha49 rfl) (by omega) (by omega) (by show 15 ≤ 34; omega) (by show 1148 ≤ 2974; omega) (gM fun M50 hM50 => ?_)
  have hf := ap_eq hf hM50
  refine g_dup (pc' := 39) dX7_init_38 rfl rfl ?_
  obtain ⟨ho51, hf⟩ := chk_s hf
  obtain ⟨ha54, hf⟩ := chk_s hf
  obtain ⟨_, M52, e53, hf⟩ := bnd_some hf
  refine g_callINv (pc' := 42) (k' := 18) (u' := 1508) (fr2 := 1) (As := []) (b := (mn M45 + 1)) (st := [aR (mn M45 + 1), aI (3 : Int32), aR (mR M45 v0 0)]) cf_X2_init (List.mem_of_getElem? (i := 6) rfl) (by omega) ho51 dX7_init_39 rfl rfl rfl (Nat.le_of_ble_eq_true rfl) (Or.inr ⟨by decide, okrB_ok ha54 rfl⟩) (by show 15 + 3 ≤ 18; omega) (by show 1148 + 360 ≤ 1508; omega) (by show 18 ≤ 34; omega) (by show 1508 ≤ 2974; omega) (s_X2_init (mn M45 + 1) M50 _ e53) ?_
  obtain ⟨h55, hf⟩ := chk_s hf
  obtain ⟨b56, hf⟩ := chk_s hf
  obtain ⟨h58, hf⟩ := chk_s hf
  refine g_aast (pc' := 43) (ci := 2) (t0 := 2) (fun _ => rfl) (by decide) rfl (by decide) dX7_init_42 rfl h55 (inB_in b56) h58 (gM fun M57 hM57 => ?_)
  have hf := ap_eq hf hM57
  refine g_iinc (pc' := 46) (lv' := [some (aR v0), some (aI (4 : Int32))]) (4 : Int32) dX7_init_43 rfl rfl (by decide) rfl (by decide) rfl ?_
  refine g_goto (pc' := 24) dX7_init_46 (by decide) ?_
  refine g_iload_n (pc' := 25) dX7_init_24 rfl rfl ?_
  refine g_bipush (pc' := 27) (8 : Int32) dX7_init_25 rfl (by decide) ?_
  refine g_icmp_ge (pc' := 30) 49 dX7_init_27 rfl (by decide) (fun c59 => absurd c59 (by decide)) (fun c59 => ?_)
  refine g_aload_n (pc' := 31) dX7_init_30 rfl rfl ?_
  obtain ⟨h60, hf⟩ := chk_s hf
  refine g_getR (pc' := 34) 7 0 rfl rfl (by decide) inX7 (by decide) rfl rfl q_85 dX7_init_31 rfl h60 ?_
  refine g_iload_n (pc' := 35) dX7_init_34 rfl rfl ?_
  obtain ⟨hm61, hf⟩ := chk_s hf
  obtain ⟨ha61, hf⟩ := chk_s hf
  refine g_new (pc' := 38) (k' := 19) (u' := 1513) 2 rfl rfl (by decide) inX2 tyX2_ok dfX2 (by decide) q_84 q_88 q_89 dX7_init_35 rfl hm61 (okrB_ok ha61 rfl) (by omega) (by omega) (by show 19 ≤ 34; omega) (by show 1513 ≤ 2974; omega) (gM fun M62 hM62 => ?_)
  have hf := ap_eq hf hM62
  refine g_dup (pc' := 39) dX7_init_38 rfl rfl ?_
  obtain ⟨ho63, hf⟩ := chk_s hf
  obtain ⟨ha66, hf⟩ := chk_s hf
  obtain ⟨_, M64, e65, hf⟩ := bnd_some hf
  refine g_callINv (pc' := 42) (k' := 22) (u' := 1873) (fr2 := 1) (As := []) (b := (mn M57 + 1)) (st := [aR (mn M57 + 1), aI (4 : Int32), aR (mR M57 v0 0)]) cf_X2_init (List.mem_of_getElem? (i := 6) rfl) (by omega) ho63 dX7_init_39 rfl rfl rfl (Nat.le_of_ble_eq_true rfl) (Or.inr ⟨by decide, okrB_ok ha66 rfl⟩) (by show 19 + 3 ≤ 22; omega) (by show 1513 + 360 ≤ 1873; omega) (by show 22 ≤ 34; omega) (by show 1873 ≤ 2974; omega) (s_X2_init (mn M57 + 1) M62 _ e65) ?_
  obtain ⟨h67, hf⟩ := chk_s hf
  obtain ⟨b68, hf⟩ := chk_s hf
  obtain ⟨h70, hf⟩ := chk_s hf
  refine g_aast (pc' := 43) (ci := 2) (t0 := 2) (fun _ => rfl) (by decide) rfl (by decide) dX7_init_42 rfl h67 (inB_in b68) h70 (gM fun M69 hM69 => ?_)
  have hf := ap_eq hf hM69
  refine g_iinc (pc' := 46) (lv' := [some (aR v0), some (aI (5 : Int32))]) (5 : Int32) dX7_init_43 rfl rfl (by decide) rfl (by decide) rfl ?_
  refine g_goto (pc' := 24) dX7_init_46 (by decide) ?_
  refine g_iload_n (pc' := 25) dX7_init_24 rfl rfl ?_
  refine g_bipush (pc' := 27) (8 : Int32) dX7_init_25 rfl (by decide) ?_
  refine g_icmp_ge (pc' := 30) 49 dX7_init_27 rfl (by decide) (fun c71 => absurd c71 (by decide)) (fun c71 => ?_)
  refine g_aload_n (pc' := 31) dX7_init_30 rfl rfl ?_
  obtain ⟨h72, hf⟩ := chk_s hf
  refine g_getR (pc' := 34) 7 0 rfl rfl (by decide) inX7 (by decide) rfl rfl q_85 dX7_init_31 rfl h72 ?_
  refine g_iload_n (pc' := 35) dX7_init_34 rfl rfl ?_
  obtain ⟨hm73, hf⟩ := chk_s hf
  obtain ⟨ha73, hf⟩ := chk_s hf
  refine g_new (pc' := 38) (k' := 23) (u' := 1878) 2 rfl rfl (by decide) inX2 tyX2_ok dfX2 (by decide) q_84 q_88 q_89 dX7_init_35 rfl hm73 (okrB_ok ha73 rfl) (by omega) (by omega) (by show 23 ≤ 34; omega) (by show 1878 ≤ 2974; omega) (gM fun M74 hM74 => ?_)
  have hf := ap_eq hf hM74
  refine g_dup (pc' := 39) dX7_init_38 rfl rfl ?_
  obtain ⟨ho75, hf⟩ := chk_s hf
  obtain ⟨ha78, hf⟩ := chk_s hf
  obtain ⟨_, M76, e77, hf⟩ := bnd_some hf
  refine g_callINv (pc' := 42) (k' := 26) (u' := 2238) (fr2 := 1) (As := []) (b := (mn M69 + 1)) (st := [aR (mn M69 + 1), aI (5 : Int32), aR (mR M69 v0 0)]) cf_X2_init (List.mem_of_getElem? (i := 6) rfl) (by omega) ho75 dX7_init_39 rfl rfl rfl (Nat.le_of_ble_eq_true rfl) (Or.inr ⟨by decide, okrB_ok ha78 rfl⟩) (by show 23 + 3 ≤ 26; omega) (by show 1878 + 360 ≤ 2238; omega) (by show 26 ≤ 34; omega) (by show 2238 ≤ 2974; omega) (s_X2_init (mn M69 + 1) M74 _ e77) ?_
  obtain ⟨h79, hf⟩ := chk_s hf
  obtain ⟨b80, hf⟩ := chk_s hf
  obtain ⟨h82, hf⟩ := chk_s hf
  refine g_aast (pc' := 43) (ci := 2) (t0 := 2) (fun _ => rfl) (by decide) rfl (by decide) dX7_init_42 rfl h79 (inB_in b80) h82 (gM fun M81 hM81 => ?_)
  have hf := ap_eq hf hM81
  refine g_iinc (pc' := 46) (lv' := [some (aR v0), some (aI (6 : Int32))]) (6 : Int32) dX7_init_43 rfl rfl (by decide) rfl (by decide) rfl ?_
  refine g_goto (pc' := 24) dX7_init_46 (by decide) ?_
  refine g_iload_n (pc' := 25) dX7_init_24 rfl rfl ?_
  refine g_bipush (pc' := 27) (8 : Int32) dX7_init_25 rfl (by decide) ?_
  refine g_icmp_ge (pc' := 30) 49 dX7_init_27 rfl (by decide) (fun c83 => absurd c83 (by decide)) (fun c83 => ?_)
  refine g_aload_n (pc' := 31) dX7_init_30 rfl rfl ?_
  obtain ⟨h84, hf⟩ := chk_s hf
  refine g_getR (pc' := 34) 7 0 rfl rfl (by decide) inX7 (by decide) rfl rfl q_85 dX7_init_31 rfl h84 ?_
  refine g_iload_n (pc' := 35) dX7_init_34 rfl rfl ?_
  obtain ⟨hm85, hf⟩ := chk_s hf
  obtain ⟨ha85, hf⟩ := chk_s hf
  refine g_new (pc' := 38) (k' := 27) (u' := 2243) 2 rfl rfl (by decide) inX2 tyX2_ok dfX2 (by decide) q_84 q_88 q_89 dX7_init_35 rfl hm85 (okrB_ok ha85 rfl) (by omega) (by omega) (by show 27 ≤ 34; omega) (by show 2243 ≤ 2974; omega) (gM fun M86 hM86 => ?_)
  have hf := ap_eq hf hM86
  refine g_dup (pc' := 39) dX7_init_38 rfl rfl ?_
  obtain ⟨ho87, hf⟩ := chk_s hf
  obtain ⟨ha90, hf⟩ := chk_s hf
  obtain ⟨_, M88, e89, hf⟩ := bnd_some hf
  refine g_callINv (pc' := 42) (k' := 30) (u' := 2603) (fr2 := 1) (As := []) (b := (mn M81 + 1)) (st := [aR (mn M81 + 1), aI (6 : Int32), aR (mR M81 v0 0)]) cf_X2_init (List.mem_of_getElem? (i := 6) rfl) (by omega) ho87 dX7_init_39 rfl rfl rfl (Nat.le_of_ble_eq_true rfl) (Or.inr ⟨by decide, okrB_ok ha90 rfl⟩) (by show 27 + 3 ≤ 30; omega) (by show 2243 + 360 ≤ 2603; omega) (by show 30 ≤ 34; omega) (by show 2603 ≤ 2974; omega) (s_X2_init (mn M81 + 1) M86 _ e89) ?_
  obtain ⟨h91, hf⟩ := chk_s hf
  obtain ⟨b92, hf⟩ := chk_s hf
  obtain ⟨h94, hf⟩ := chk_s hf
  refine g_aast (pc' := 43) (ci := 2) (t0 := 2) (fun _ => rfl) (by decide) rfl (by decide) dX7_init_42 rfl h91 (inB_in b92) h94 (gM fun M93 hM93 => ?_)
  have hf := ap_eq hf hM93
  refine g_iinc (pc' := 46) (lv' := [some (aR v0), some (aI (7 : Int32))]) (7 : Int32) dX7_init_43 rfl rfl (by decide) rfl (by decide) rfl ?_
  refine g_goto (pc' := 24) dX7_init_46 (by decide) ?_
  refine g_iload_n (pc' := 25) dX7_init_24 rfl rfl ?_
  refine g_bipush (pc' := 27) (8 : Int32) dX7_init_25 rfl (by decide) ?_
  refine g_icmp_ge (pc' := 30) 49 dX7_init_27 rfl (by decide) (fun c95 => absurd c95 (by decide)) (fun c95 => ?_)
  refine g_aload_n (pc' := 31) dX7_init_30 rfl rfl ?_
  obtain ⟨h96, hf⟩ := chk_s hf
  refine g_getR (pc' := 34) 7 0 rfl rfl (by decide) inX7 (by decide) rfl rfl q_85 dX7_init_31 rfl h96 ?_
  refine g_iload_n (pc' := 35) dX7_init_34 rfl rfl ?_
  obtain ⟨hm97, hf⟩ := chk_s hf
  obtain ⟨ha97, hf⟩ := chk_s hf
  refine g_new (pc' := 38) (k' := 31) (u' := 2608) 2 rfl rfl (by decide) inX2 tyX2_ok dfX2 (by decide) q_84 q_88 q_89 dX7_init_35 rfl hm97 (okrB_ok ha97 rfl) (by omega) (by omega) (by show 31 ≤ 34; omega) (by show 2608 ≤ 2974; omega) (gM fun M98 hM98 => ?_)
  have hf := ap_eq hf hM98
  refine g_dup (pc' := 39) dX7_init_38 rfl rfl ?_
  obtain ⟨ho99, hf⟩ := chk_s hf
  obtain ⟨ha102, hf⟩ := chk_s hf
  obtain ⟨_, M100, e101, hf⟩ := bnd_some hf
  refine g_callINv (pc' := 42) (k' := 34) (u' := 2968) (fr2 := 1) (As := []) (b := (mn M93 + 1)) (st := [aR (mn M93 + 1), aI (7 : Int32), aR (mR M93 v0 0)]) cf_X2_init (List.mem_of_getElem? (i := 6) rfl) (by omega) ho99 dX7_init_39 rfl rfl rfl (Nat.le_of_ble_eq_true rfl) (Or.inr ⟨by decide, okrB_ok ha102 rfl⟩) (by show 31 + 3 ≤ 34; omega) (by show 2608 + 360 ≤ 2968; omega) (by show 34 ≤ 34; omega) (by show 2968 ≤ 2974; omega) (s_X2_init (mn M93 + 1) M98 _ e101) ?_
  obtain ⟨h103, hf⟩ := chk_s hf
  obtain ⟨b104, hf⟩ := chk_s hf
  obtain ⟨h106, hf⟩ := chk_s hf
  refine g_aast (pc' := 43) (ci := 2) (t0 := 2) (fun _ => rfl) (by decide) rfl (by decide) dX7_init_42 rfl h103 (inB_in b104) h106 (gM fun M105 hM105 => ?_)
  have hf := ap_eq hf hM105
  refine g_iinc (pc' := 46) (lv' := [some (aR v0), some (aI (8 : Int32))]) (8 : Int32) dX7_init_43 rfl rfl (by decide) rfl (by decide) rfl ?_
  refine g_goto (pc' := 24) dX7_init_46 (by decide) ?_
  refine g_iload_n (pc' := 25) dX7_init_24 rfl rfl ?_
  refine g_bipush (pc' := 27) (8 : Int32) dX7_init_25 rfl (by decide) ?_
  refine g_icmp_ge (pc' := 30) 49 dX7_init_27 rfl (by decide) (fun c107 => ?_) (fun c107 => absurd (by decide) c107)
  cases hf
  exact g_return dX7_init_49 rfl (Nat.le_of_ble_eq_true rfl) (Nat.le_of_ble_eq_true rfl)
def f_X7_clear_57 (k12 : Nat → Nat → Int32 → Mem → Option (Unit × Mem)) (v0 : Nat) (v1 : Nat) (v2 : Int32) (w0 : Nat) (w1 : Int32) (M : Mem) : Option (Unit × Mem) :=
  if mK M w0 = 3 then
    ap (sI M w0 4 w1) fun M2 =>
    k12 v0 v1 (v2 + 1) M2
  else none
def f_X7_clear_12 : Nat → Nat → Nat → Int32 → Mem → Option (Unit × Mem)
  | 0, _, _, _, _ => none
  | n + 1, v0, v1, v2, M =>
    if (8 : Int32) ≤ v2 then
      some ((), M)
    else
      if mK M v0 = 8 then
        if mK M (mR M v0 0) = 23 then
          if inB v2 (mN M (mR M v0 0)) = true then
            if mK M (mR M (mR M v0 0) v2.toNatClampNeg) = 3 then
              ap (sI M (mR M (mR M v0 0) v2.toNatClampNeg) 3 (0 : Int32)) fun M6 =>
              if mK M6 v0 = 8 then
                if mK M6 (mR M6 v0 0) = 23 then
                  if inB v2 (mN M6 (mR M6 v0 0)) = true then
                    if mK M6 v1 = 6 then
                      if (mI M6 v1 1) ≤ v2 then
                        f_X7_clear_57 (f_X7_clear_12 n) v0 v1 v2 (mR M6 (mR M6 v0 0) v2.toNatClampNeg) (0 : Int32) M6
                      else
                        if mK M6 (mR M6 v1 12) = 21 then
                          if inB v2 (mN M6 (mR M6 v1 12)) = true then
                            if mK M6 (mR M6 v1 5) = 21 then
                              if inB (mI M6 (mR M6 v1 12) v2.toNatClampNeg) (mN M6 (mR M6 v1 5)) = true then
                                f_X7_clear_57 (f_X7_clear_12 n) v0 v1 v2 (mR M6 (mR M6 v0 0) v2.toNatClampNeg) (mI M6 (mR M6 v1 5) (mI M6 (mR M6 v1 12) v2.toNatClampNeg).toNatClampNeg) M6
                              else none
                            else none
                          else none
                        else none
                    else none
                  else none
                else none
              else none
            else none
          else none
        else none
      else none
def f_X7_clear (v0 : Nat) (v1 : Nat) (M : Mem) : Option (Unit × Mem) :=
  if mK M v0 = 8 then
    ap (sI M v0 1 (0 : Int32)) fun M2 =>
    if mK M2 v0 = 8 then
      ap (sI M2 v0 3 (0 : Int32)) fun M4 =>
      f_X7_clear_12 FUEL v0 v1 (0 : Int32) M4
    else none
  else none
theorem s_X7_clear_57 (k12 : Nat → Nat → Int32 → Mem → Option (Unit × Mem)) (hk12 : ∀ (v0 : Nat) (v1 : Nat) (v2 : Int32) (M : Mem) (r : (Unit × Mem)), k12 v0 v1 v2 M = some r → G mi_X7_clear 1 (oU r.1) r.2 12 [some (aR v0), some (aR v1), some (aI v2)] [] M 0 0) (v0 : Nat) (v1 : Nat) (v2 : Int32) (w0 : Nat) (w1 : Int32) (M : Mem) (r : (Unit × Mem)) (hf : f_X7_clear_57 k12 v0 v1 v2 w0 w1 M = some r) : G mi_X7_clear 1 (oU r.1) r.2 57 [some (aR v0), some (aR v1), some (aI v2)] [aI w1, aR w0] M 0 0 := by
  unfold f_X7_clear_57 at hf
  obtain ⟨h1, hf⟩ := chk_s hf
  refine g_putI (pc' := 60) 2 4 rfl rfl (by decide) inX2 tyX2_ok nmX2 (by decide) rfl rfl rfl rfl q_357 dX7_clear_57 rfl h1 (gM fun M2 hM2 => ?_)
  have hf := ap_eq hf hM2
  refine g_iinc (pc' := 63) (lv' := [some (aR v0), some (aR v1), some (aI (v2 + 1))]) (v2 + 1) dX7_clear_60 rfl rfl (by rfl) rfl (by decide) rfl ?_
  refine g_goto (pc' := 12) dX7_clear_63 (by decide) ?_
  exact hk12 v0 v1 (v2 + 1) M2 _ hf
theorem s_X7_clear_12 : ∀ (n : Nat) (v0 : Nat) (v1 : Nat) (v2 : Int32) (M : Mem) (r : (Unit × Mem)), f_X7_clear_12 n v0 v1 v2 M = some r → G mi_X7_clear 1 (oU r.1) r.2 12 [some (aR v0), some (aR v1), some (aI v2)] [] M 0 0 := by
  intro n
  induction n with
  | zero => intro v0 v1 v2 M r hf; cases hf
  | succ n ih =>
    intro v0 v1 v2 M r hf
    unfold f_X7_clear_12 at hf
    refine g_iload_n (pc' := 13) dX7_clear_12 rfl rfl ?_
    refine g_bipush (pc' := 15) (8 : Int32) dX7_clear_13 rfl (by decide) ?_
    refine g_icmp_ge (pc' := 18) 66 dX7_clear_15 rfl (by decide) (fun c1 => ?_) (fun c1 => ?_)
    · have hf := ite_t c1 hf
      cases hf
      exact g_return dX7_clear_66 rfl (Nat.le_of_ble_eq_true rfl) (Nat.le_of_ble_eq_true rfl)
    · have hf := ite_f c1 hf
      refine g_aload_n (pc' := 19) dX7_clear_18 rfl rfl ?_
      obtain ⟨h2, hf⟩ := chk_s hf
      refine g_getR (pc' := 22) 7 0 rfl rfl (by decide) inX7 (by decide) rfl rfl q_85 dX7_clear_19 rfl h2 ?_
      refine g_iload_n (pc' := 23) dX7_clear_22 rfl rfl ?_
      obtain ⟨h3, hf⟩ := chk_s hf
      obtain ⟨b4, hf⟩ := chk_s hf
      refine g_aald (pc' := 24) (t0 := 2) (fun _ => rfl) (by decide) dX7_clear_23 rfl h3 (inB_in b4) ?_
      refine g_iconst (pc' := 25) (0 : Int32) dX7_clear_24 rfl (by decide) ?_
      obtain ⟨h5, hf⟩ := chk_s hf
      refine g_putI (pc' := 28) 2 3 rfl rfl (by decide) inX2 tyX2_ok nmX2 (by decide) rfl rfl rfl rfl q_353 dX7_clear_25 rfl h5 (gM fun M6 hM6 => ?_)
      have hf := ap_eq hf hM6
      refine g_aload_n (pc' := 29) dX7_clear_28 rfl rfl ?_
      obtain ⟨h7, hf⟩ := chk_s hf
      refine g_getR (pc' := 32) 7 0 rfl rfl (by decide) inX7 (by decide) rfl rfl q_85 dX7_clear_29 rfl h7 ?_
      refine g_iload_n (pc' := 33) dX7_clear_32 rfl rfl ?_
      obtain ⟨h8, hf⟩ := chk_s hf
      obtain ⟨b9, hf⟩ := chk_s hf
      refine g_aald (pc' := 34) (t0 := 2) (fun _ => rfl) (by decide) dX7_clear_33 rfl h8 (inB_in b9) ?_
      refine g_iload_n (pc' := 35) dX7_clear_34 rfl rfl ?_
      refine g_aload_n (pc' := 36) dX7_clear_35 rfl rfl ?_
      obtain ⟨h10, hf⟩ := chk_s hf
      refine g_getI (pc' := 39) 5 1 rfl rfl (by decide) inX5 (by decide) rfl rfl q_354 dX7_clear_36 rfl h10 ?_
      refine g_icmp_ge (pc' := 42) 56 dX7_clear_39 rfl (by decide) (fun c11 => ?_) (fun c11 => ?_)
      · have hf := ite_t c11 hf
        refine g_iconst (pc' := 57) (0 : Int32) dX7_clear_56 rfl (by decide) ?_
        exact s_X7_clear_57 (f_X7_clear_12 n) ih v0 v1 v2 (mR M6 (mR M6 v0 0) v2.toNatClampNeg) (0 : Int32) M6 _ hf
      · have hf := ite_f c11 hf
        refine g_aload_n (pc' := 43) dX7_clear_42 rfl rfl ?_
        refine g_getR (pc' := 46) 5 5 rfl rfl (by decide) inX5 (by decide) rfl rfl q_355 dX7_clear_43 rfl h10 ?_
        refine g_aload_n (pc' := 47) dX7_clear_46 rfl rfl ?_
        refine g_getR (pc' := 50) 5 12 rfl rfl (by decide) inX5 (by decide) rfl rfl q_356 dX7_clear_47 rfl h10 ?_
        refine g_iload_n (pc' := 51) dX7_clear_50 rfl rfl ?_
        obtain ⟨h12, hf⟩ := chk_s hf
        obtain ⟨b13, hf⟩ := chk_s hf
        refine g_iald (pc' := 52) dX7_clear_51 rfl h12 (inB_in b13) ?_
        obtain ⟨h14, hf⟩ := chk_s hf
        obtain ⟨b15, hf⟩ := chk_s hf
        refine g_iald (pc' := 53) dX7_clear_52 rfl h14 (inB_in b15) ?_
        refine g_goto (pc' := 57) dX7_clear_53 (by decide) ?_
        exact s_X7_clear_57 (f_X7_clear_12 n) ih v0 v1 v2 (mR M6 (mR M6 v0 0) v2.toNatClampNeg) (mI M6 (mR M6 v1 5) (mI M6 (mR M6 v1 12) v2.toNatClampNeg).toNatClampNeg) M6 _ hf
theorem s_X7_clear (v0 : Nat) (v1 : Nat) (M : Mem) (r : (Unit × Mem)) (hf : f_X7_clear v0 v1 M = some r) : Sem mi_X7_clear (1) [aR v0, aR v1] M (oU r.1) r.2 := by
  unfold f_X7_clear at hf
  refine sem_of (by decide) rfl rfl rfl (Nat.le_of_ble_eq_true rfl) (lv := [some (aR v0), some (aR v1), none]) rfl ?_
  refine g_aload_n (pc' := 1) dX7_clear_0 rfl rfl ?_
  refine g_iconst (pc' := 2) (0 : Int32) dX7_clear_1 rfl (by decide) ?_
  obtain ⟨h1, hf⟩ := chk_s hf
  refine g_putI (pc' := 5) 7 1 rfl rfl (by decide) inX7 tyX7_ok nmX7 (by decide) rfl rfl rfl rfl q_351 dX7_clear_2 rfl h1 (gM fun M2 hM2 => ?_)
  have hf := ap_eq hf hM2
  refine g_aload_n (pc' := 6) dX7_clear_5 rfl rfl ?_
  refine g_iconst (pc' := 7) (0 : Int32) dX7_clear_6 rfl (by decide) ?_
  obtain ⟨h3, hf⟩ := chk_s hf
  refine g_putI (pc' := 10) 7 3 rfl rfl (by decide) inX7 tyX7_ok nmX7 (by decide) rfl rfl rfl rfl q_352 dX7_clear_7 rfl h3 (gM fun M4 hM4 => ?_)
  have hf := ap_eq hf hM4
  refine g_iconst (pc' := 11) (0 : Int32) dX7_clear_10 rfl (by decide) ?_
  refine g_istore_n (pc' := 12) (lv' := [some (aR v0), some (aR v1), some (aI (0 : Int32))]) dX7_clear_11 rfl rfl (by decide) rfl ?_
  exact s_X7_clear_12 FUEL v0 v1 (0 : Int32) M4 _ hf
def f_X7_copyFrom_2 : Nat → Nat → Nat → Int32 → Mem → Option (Unit × Mem)
  | 0, _, _, _, _ => none
  | n + 1, v0, v1, v2, M =>
    if (8 : Int32) ≤ v2 then
      if mK M v1 = 8 then
        if mK M v0 = 8 then
          ap (sI M v0 1 (mI M v1 1)) fun M4 =>
          if mK M4 v1 = 8 then
            if mK M4 v0 = 8 then
              if mK M4 (mR M4 v1 2) = 24 then
                if mK M4 (mR M4 v0 2) = 24 then
                  if copyB M4 (mR M4 v1 2) (mR M4 v0 2) (0 : Int32) (0 : Int32) (mI M4 v1 3) = true then
                    if actsB M4 (mR M4 v1 2) (0 : Int32).toNatClampNeg (mI M4 v1 3).toNatClampNeg = true then
                      ap (cpR M4 (mR M4 v1 2) (mR M4 v0 2) (0 : Int32).toNatClampNeg (0 : Int32).toNatClampNeg (mI M4 v1 3).toNatClampNeg) fun M10 =>
                      if mK M10 v1 = 8 then
                        if mK M10 v0 = 8 then
                          ap (sI M10 v0 3 (mI M10 v1 3)) fun M14 =>
                          if mK M14 v1 = 8 then
                            if mK M14 v0 = 8 then
                              ap (sI M14 v0 4 (mI M14 v1 4)) fun M17 =>
                              if mK M17 v1 = 8 then
                                if mK M17 v0 = 8 then
                                  ap (sI M17 v0 5 (mI M17 v1 5)) fun M20 =>
                                  some ((), M20)
                                else none
                              else none
                            else none
                          else none
                        else none
                      else none
                    else none
                  else none
                else none
              else none
            else none
          else none
        else none
      else none
    else
      if mK M v0 = 8 then
        if mK M (mR M v0 0) = 23 then
          if inB v2 (mN M (mR M v0 0)) = true then
            if mK M v1 = 8 then
              if mK M (mR M v1 0) = 23 then
                if inB v2 (mN M (mR M v1 0)) = true then
                  if mK M (mR M (mR M v0 0) v2.toNatClampNeg) = 3 then
                    bnd (f_X2_copyFrom (mR M (mR M v0 0) v2.toNatClampNeg) (mR M (mR M v1 0) v2.toNatClampNeg) M) fun _ M28 =>
                    f_X7_copyFrom_2 n v0 v1 (v2 + 1) M28
                  else none
                else none
              else none
            else none
          else none
        else none
      else none
def f_X7_copyFrom (v0 : Nat) (v1 : Nat) (M : Mem) : Option (Unit × Mem) :=
  f_X7_copyFrom_2 FUEL v0 v1 (0 : Int32) M
theorem s_X7_copyFrom_2 : ∀ (n : Nat) (v0 : Nat) (v1 : Nat) (v2 : Int32) (M : Mem) (r : (Unit × Mem)), f_X7_copyFrom_2 n v0 v1 v2 M = some r → G mi_X7_copyFrom 2 (oU r.1) r.2 2 [some (aR v0), some (aR v1), some (aI v2)] [] M 0 0 := by
  intro n
  induction n with
  | zero => intro v0 v1 v2 M r hf; cases hf
  | succ n ih =>
    intro v0 v1 v2 M r hf
    unfold f_X7_copyFrom_2 at hf
    refine g_iload_n (pc' := 3) dX7_copyFrom_2 rfl rfl ?_
    refine g_bipush (pc' := 5) (8 : Int32) dX7_copyFrom_3 rfl (by decide) ?_
    refine g_icmp_ge (pc' := 8) 29 dX7_copyFrom_5 rfl (by decide) (fun c1 => ?_) (fun c1 => ?_)
    · have hf := ite_t c1 hf
      refine g_aload_n (pc' := 30) dX7_copyFrom_29 rfl rfl ?_
      refine g_aload_n (pc' := 31) dX7_copyFrom_30 rfl rfl ?_
      obtain ⟨h2, hf⟩ := chk_s hf
      refine g_getI (pc' := 34) 7 1 rfl rfl (by decide) inX7 (by decide) rfl rfl q_351 dX7_copyFrom_31 rfl h2 ?_
      obtain ⟨h3, hf⟩ := chk_s hf
      refine g_putI (pc' := 37) 7 1 rfl rfl (by decide) inX7 tyX7_ok nmX7 (by decide) rfl rfl rfl rfl q_351 dX7_copyFrom_34 rfl h3 (gM fun M4 hM4 => ?_)
      have hf := ap_eq hf hM4
      refine g_aload_n (pc' := 38) dX7_copyFrom_37 rfl rfl ?_
      obtain ⟨h5, hf⟩ := chk_s hf
      refine g_getR (pc' := 41) 7 2 rfl rfl (by decide) inX7 (by decide) rfl rfl q_87 dX7_copyFrom_38 rfl h5 ?_
      refine g_iconst (pc' := 42) (0 : Int32) dX7_copyFrom_41 rfl (by decide) ?_
      refine g_aload_n (pc' := 43) dX7_copyFrom_42 rfl rfl ?_
      obtain ⟨h6, hf⟩ := chk_s hf
      refine g_getR (pc' := 46) 7 2 rfl rfl (by decide) inX7 (by decide) rfl rfl q_87 dX7_copyFrom_43 rfl h6 ?_
      refine g_iconst (pc' := 47) (0 : Int32) dX7_copyFrom_46 rfl (by decide) ?_
      refine g_aload_n (pc' := 48) dX7_copyFrom_47 rfl rfl ?_
      refine g_getI (pc' := 51) 7 3 rfl rfl (by decide) inX7 (by decide) rfl rfl q_352 dX7_copyFrom_48 rfl h5 ?_
      obtain ⟨h7, hf⟩ := chk_s hf
      obtain ⟨h8, hf⟩ := chk_s hf
      obtain ⟨hc9, hf⟩ := chk_s hf
      obtain ⟨he11, hf⟩ := chk_s hf
      refine g_copyA (pc' := 54) q_640 q_641 q_642 wall_i_java_lang_System (by omega) (Nat.le_of_ble_eq_true rfl) dX7_copyFrom_51 rfl h7 h8 (copyB_ok hc9) (actsB_ok he11) (gM fun M10 hM10 => ?_)
      have hf := ap_eq hf hM10
      refine g_aload_n (pc' := 55) dX7_copyFrom_54 rfl rfl ?_
      refine g_aload_n (pc' := 56) dX7_copyFrom_55 rfl rfl ?_
      obtain ⟨h12, hf⟩ := chk_s hf
      refine g_getI (pc' := 59) 7 3 rfl rfl (by decide) inX7 (by decide) rfl rfl q_352 dX7_copyFrom_56 rfl h12 ?_
      obtain ⟨h13, hf⟩ := chk_s hf
      refine g_putI (pc' := 62) 7 3 rfl rfl (by decide) inX7 tyX7_ok nmX7 (by decide) rfl rfl rfl rfl q_352 dX7_copyFrom_59 rfl h13 (gM fun M14 hM14 => ?_)
      have hf := ap_eq hf hM14
      refine g_aload_n (pc' := 63) dX7_copyFrom_62 rfl rfl ?_
      refine g_aload_n (pc' := 64) dX7_copyFrom_63 rfl rfl ?_
      obtain ⟨h15, hf⟩ := chk_s hf
      refine g_getI (pc' := 67) 7 4 rfl rfl (by decide) inX7 (by decide) rfl rfl q_1563 dX7_copyFrom_64 rfl h15 ?_
      obtain ⟨h16, hf⟩ := chk_s hf
      refine g_putI (pc' := 70) 7 4 rfl rfl (by decide) inX7 tyX7_ok nmX7 (by decide) rfl rfl rfl rfl q_1563 dX7_copyFrom_67 rfl h16 (gM fun M17 hM17 => ?_)
      have hf := ap_eq hf hM17
      refine g_aload_n (pc' := 71) dX7_copyFrom_70 rfl rfl ?_
      refine g_aload_n (pc' := 72) dX7_copyFrom_71 rfl rfl ?_
      obtain ⟨h18, hf⟩ := chk_s hf
      refine g_getI (pc' := 75) 7 5 rfl rfl (by decide) inX7 (by decide) rfl rfl q_1564 dX7_copyFrom_72 rfl h18 ?_
      obtain ⟨h19, hf⟩ := chk_s hf
      refine g_putI (pc' := 78) 7 5 rfl rfl (by decide) inX7 tyX7_ok nmX7 (by decide) rfl rfl rfl rfl q_1564 dX7_copyFrom_75 rfl h19 (gM fun M20 hM20 => ?_)
      have hf := ap_eq hf hM20
      cases hf
      exact g_return dX7_copyFrom_78 rfl (Nat.le_of_ble_eq_true rfl) (Nat.le_of_ble_eq_true rfl)
    · have hf := ite_f c1 hf
      refine g_aload_n (pc' := 9) dX7_copyFrom_8 rfl rfl ?_
      obtain ⟨h21, hf⟩ := chk_s hf
      refine g_getR (pc' := 12) 7 0 rfl rfl (by decide) inX7 (by decide) rfl rfl q_85 dX7_copyFrom_9 rfl h21 ?_
      refine g_iload_n (pc' := 13) dX7_copyFrom_12 rfl rfl ?_
      obtain ⟨h22, hf⟩ := chk_s hf
      obtain ⟨b23, hf⟩ := chk_s hf
      refine g_aald (pc' := 14) (t0 := 2) (fun _ => rfl) (by decide) dX7_copyFrom_13 rfl h22 (inB_in b23) ?_
      refine g_aload_n (pc' := 15) dX7_copyFrom_14 rfl rfl ?_
      obtain ⟨h24, hf⟩ := chk_s hf
      refine g_getR (pc' := 18) 7 0 rfl rfl (by decide) inX7 (by decide) rfl rfl q_85 dX7_copyFrom_15 rfl h24 ?_
      refine g_iload_n (pc' := 19) dX7_copyFrom_18 rfl rfl ?_
      obtain ⟨h25, hf⟩ := chk_s hf
      obtain ⟨b26, hf⟩ := chk_s hf
      refine g_aald (pc' := 20) (t0 := 2) (fun _ => rfl) (by decide) dX7_copyFrom_19 rfl h25 (inB_in b26) ?_
      obtain ⟨h27, hf⟩ := chk_s hf
      obtain ⟨_, M28, e29, hf⟩ := bnd_some hf
      refine g_callVv (pc' := 23) (k' := 0) (u' := 0) (fr2 := 1) (As := [aR (mR M (mR M v1 0) v2.toNatClampNeg)]) (b := (mR M (mR M v0 0) v2.toNatClampNeg)) (st := []) cf_X2_copyFrom q_1565 (by omega) (ci := 2) rfl rfl (by decide) dX7_copyFrom_20 rfl rfl rfl (Nat.le_of_ble_eq_true rfl) (Or.inl rfl) (Nat.le_refl _) (Nat.le_refl _) (Nat.le_refl _) (Nat.le_refl _) h27 (s_X2_copyFrom (mR M (mR M v0 0) v2.toNatClampNeg) (mR M (mR M v1 0) v2.toNatClampNeg) M _ e29) ?_
      refine g_iinc (pc' := 26) (lv' := [some (aR v0), some (aR v1), some (aI (v2 + 1))]) (v2 + 1) dX7_copyFrom_23 rfl rfl (by rfl) rfl (by decide) rfl ?_
      refine g_goto (pc' := 2) dX7_copyFrom_26 (by decide) ?_
      refine g_widen (k' := 0) (u' := 0) (by omega) (by omega) ?_
      exact ih v0 v1 (v2 + 1) M28 _ hf
theorem s_X7_copyFrom (v0 : Nat) (v1 : Nat) (M : Mem) (r : (Unit × Mem)) (hf : f_X7_copyFrom v0 v1 M = some r) : Sem mi_X7_copyFrom (2) [aR v0, aR v1] M (oU r.1) r.2 := by
  unfold f_X7_copyFrom at hf
  refine sem_of (by decide) rfl rfl rfl (Nat.le_of_ble_eq_true rfl) (lv := [some (aR v0), some (aR v1), none]) rfl ?_
  refine g_iconst (pc' := 1) (0 : Int32) dX7_copyFrom_0 rfl (by decide) ?_
  refine g_istore_n (pc' := 2) (lv' := [some (aR v0), some (aR v1), some (aI (0 : Int32))]) dX7_copyFrom_1 rfl rfl (by decide) rfl ?_
  exact s_X7_copyFrom_2 FUEL v0 v1 (0 : Int32) M _ hf
def f_X7_entriesOfAll_4 : Nat → Nat → Int32 → Int32 → Int32 → Mem → Option (Int32 × Mem)
  | 0, _, _, _, _, _ => none
  | n + 1, v0, v1, v2, v3, M =>
    if v1 ≤ v3 then
      some (v2, M)
    else
      if mK M v0 = 8 then
        if mK M (mR M v0 0) = 23 then
          if inB v3 (mN M (mR M v0 0)) = true then
            if mK M (mR M (mR M v0 0) v3.toNatClampNeg) = 3 then
              f_X7_entriesOfAll_4 n v0 v1 (v2 + (mI M (mR M (mR M v0 0) v3.toNatClampNeg) 3)) (v3 + 1) M
            else none
          else none
        else none
      else none
def f_X7_entriesOfAll (v0 : Nat) (v1 : Int32) (M : Mem) : Option (Int32 × Mem) :=
  f_X7_entriesOfAll_4 FUEL v0 v1 (0 : Int32) (0 : Int32) M
theorem s_X7_entriesOfAll_4 : ∀ (n : Nat) (v0 : Nat) (v1 : Int32) (v2 : Int32) (v3 : Int32) (M : Mem) (r : (Int32 × Mem)), f_X7_entriesOfAll_4 n v0 v1 v2 v3 M = some r → G mi_X7_entriesOfAll 1 (oI r.1) r.2 4 [some (aR v0), some (aI v1), some (aI v2), some (aI v3)] [] M 0 0 := by
  intro n
  induction n with
  | zero => intro v0 v1 v2 v3 M r hf; cases hf
  | succ n ih =>
    intro v0 v1 v2 v3 M r hf
    unfold f_X7_entriesOfAll_4 at hf
    refine g_iload_n (pc' := 5) dX7_entriesOfAll_4 rfl rfl ?_
    refine g_iload_n (pc' := 6) dX7_entriesOfAll_5 rfl rfl ?_
    refine g_icmp_ge (pc' := 9) 27 dX7_entriesOfAll_6 rfl (by decide) (fun c1 => ?_) (fun c1 => ?_)
    · have hf := ite_t c1 hf
      refine g_iload_n (pc' := 28) dX7_entriesOfAll_27 rfl rfl ?_
      cases hf
      exact g_ireturn dX7_entriesOfAll_28 rfl (Nat.le_of_ble_eq_true rfl) (Nat.le_of_ble_eq_true rfl)
    · have hf := ite_f c1 hf
      refine g_iload_n (pc' := 10) dX7_entriesOfAll_9 rfl rfl ?_
      refine g_aload_n (pc' := 11) dX7_entriesOfAll_10 rfl rfl ?_
      obtain ⟨h2, hf⟩ := chk_s hf
      refine g_getR (pc' := 14) 7 0 rfl rfl (by decide) inX7 (by decide) rfl rfl q_85 dX7_entriesOfAll_11 rfl h2 ?_
      refine g_iload_n (pc' := 15) dX7_entriesOfAll_14 rfl rfl ?_
      obtain ⟨h3, hf⟩ := chk_s hf
      obtain ⟨b4, hf⟩ := chk_s hf
      refine g_aald (pc' := 16) (t0 := 2) (fun _ => rfl) (by decide) dX7_entriesOfAll_15 rfl h3 (inB_in b4) ?_
      obtain ⟨h5, hf⟩ := chk_s hf
      refine g_getI (pc' := 19) 2 3 rfl rfl (by decide) inX2 (by decide) rfl rfl q_353 dX7_entriesOfAll_16 rfl h5 ?_
      refine g_iadd (pc' := 20) dX7_entriesOfAll_19 rfl ?_
      refine g_istore_n (pc' := 21) (lv' := [some (aR v0), some (aI v1), some (aI (v2 + (mI M (mR M (mR M v0 0) v3.toNatClampNeg) 3))), some (aI v3)]) dX7_entriesOfAll_20 rfl rfl (by decide) rfl ?_
      refine g_iinc (pc' := 24) (lv' := [some (aR v0), some (aI v1), some (aI (v2 + (mI M (mR M (mR M v0 0) v3.toNatClampNeg) 3))), some (aI (v3 + 1))]) (v3 + 1) dX7_entriesOfAll_21 rfl rfl (by rfl) rfl (by decide) rfl ?_
      refine g_goto (pc' := 4) dX7_entriesOfAll_24 (by decide) ?_
      exact ih v0 v1 (v2 + (mI M (mR M (mR M v0 0) v3.toNatClampNeg) 3)) (v3 + 1) M _ hf
theorem s_X7_entriesOfAll (v0 : Nat) (v1 : Int32) (M : Mem) (r : (Int32 × Mem)) (hf : f_X7_entriesOfAll v0 v1 M = some r) : Sem mi_X7_entriesOfAll (1) [aR v0, aI v1] M (oI r.1) r.2 := by
  unfold f_X7_entriesOfAll at hf
  refine sem_of (by decide) rfl rfl rfl (Nat.le_of_ble_eq_true rfl) (lv := [some (aR v0), some (aI v1), none, none]) rfl ?_
  refine g_iconst (pc' := 1) (0 : Int32) dX7_entriesOfAll_0 rfl (by decide) ?_
  refine g_istore_n (pc' := 2) (lv' := [some (aR v0), some (aI v1), some (aI (0 : Int32)), none]) dX7_entriesOfAll_1 rfl rfl (by decide) rfl ?_
  refine g_iconst (pc' := 3) (0 : Int32) dX7_entriesOfAll_2 rfl (by decide) ?_
  refine g_istore_n (pc' := 4) (lv' := [some (aR v0), some (aI v1), some (aI (0 : Int32)), some (aI (0 : Int32))]) dX7_entriesOfAll_3 rfl rfl (by decide) rfl ?_
  exact s_X7_entriesOfAll_4 FUEL v0 v1 (0 : Int32) (0 : Int32) M _ hf
def f_X7_keep_30 (v0 : Nat) (v1 : Nat) (M : Mem) : Option (Unit × Mem) :=
  if mK M v0 = 8 then
    if mK M (mR M v0 2) = 24 then
      if inB (mI M v0 3) (mN M (mR M v0 2)) = true then
        if mK M v1 = 1 then
          ap (sR M (mR M v0 2) (mI M v0 3).toNatClampNeg v1) fun M4 =>
          if mK M4 v0 = 8 then
            ap (sI M4 v0 3 ((mI M4 v0 3) + (1 : Int32))) fun M7 =>
            some ((), M7)
          else none
        else none
      else none
    else none
  else none
def f_X7_keep (v0 : Nat) (v1 : Nat) (M : Mem) : Option (Unit × Mem) :=
  if mK M v0 = 8 then
    if (mI M v0 3) < (40 : Int32) then
      f_X7_keep_30 v0 v1 M
    else
      if mK M (mR M v0 2) = 24 then
        if copyB M (mR M v0 2) (mR M v0 2) (1 : Int32) (0 : Int32) (39 : Int32) = true then
          if actsB M (mR M v0 2) (1 : Int32).toNatClampNeg (39 : Int32).toNatClampNeg = true then
            ap (cpR M (mR M v0 2) (mR M v0 2) (1 : Int32).toNatClampNeg (0 : Int32).toNatClampNeg (39 : Int32).toNatClampNeg) fun M5 =>
            if mK M5 v0 = 8 then
              ap (sI M5 v0 3 (39 : Int32)) fun M8 =>
              f_X7_keep_30 v0 v1 M8
            else none
          else none
        else none
      else none
  else none
theorem s_X7_keep_30 (v0 : Nat) (v1 : Nat) (M : Mem) (r : (Unit × Mem)) (hf : f_X7_keep_30 v0 v1 M = some r) : G mi_X7_keep 1 (oU r.1) r.2 30 [some (aR v0), some (aR v1)] [] M 0 0 := by
  unfold f_X7_keep_30 at hf
  refine g_aload_n (pc' := 31) dX7_keep_30 rfl rfl ?_
  obtain ⟨h1, hf⟩ := chk_s hf
  refine g_getR (pc' := 34) 7 2 rfl rfl (by decide) inX7 (by decide) rfl rfl q_87 dX7_keep_31 rfl h1 ?_
  refine g_aload_n (pc' := 35) dX7_keep_34 rfl rfl ?_
  refine g_getI (pc' := 38) 7 3 rfl rfl (by decide) inX7 (by decide) rfl rfl q_352 dX7_keep_35 rfl h1 ?_
  refine g_aload_n (pc' := 39) dX7_keep_38 rfl rfl ?_
  obtain ⟨h2, hf⟩ := chk_s hf
  obtain ⟨b3, hf⟩ := chk_s hf
  obtain ⟨h5, hf⟩ := chk_s hf
  refine g_aast (pc' := 40) (ci := 0) (t0 := 3) (fun _ => rfl) (by decide) rfl (by decide) dX7_keep_39 rfl h2 (inB_in b3) h5 (gM fun M4 hM4 => ?_)
  have hf := ap_eq hf hM4
  refine g_aload_n (pc' := 41) dX7_keep_40 rfl rfl ?_
  refine g_dup (pc' := 42) dX7_keep_41 rfl rfl ?_
  obtain ⟨h6, hf⟩ := chk_s hf
  refine g_getI (pc' := 45) 7 3 rfl rfl (by decide) inX7 (by decide) rfl rfl q_352 dX7_keep_42 rfl h6 ?_
  refine g_iconst (pc' := 46) (1 : Int32) dX7_keep_45 rfl (by decide) ?_
  refine g_iadd (pc' := 47) dX7_keep_46 rfl ?_
  refine g_putI (pc' := 50) 7 3 rfl rfl (by decide) inX7 tyX7_ok nmX7 (by decide) rfl rfl rfl rfl q_352 dX7_keep_47 rfl h6 (gM fun M7 hM7 => ?_)
  have hf := ap_eq hf hM7
  cases hf
  exact g_return dX7_keep_50 rfl (Nat.le_of_ble_eq_true rfl) (Nat.le_of_ble_eq_true rfl)
theorem s_X7_keep (v0 : Nat) (v1 : Nat) (M : Mem) (r : (Unit × Mem)) (hf : f_X7_keep v0 v1 M = some r) : Sem mi_X7_keep (1) [aR v0, aR v1] M (oU r.1) r.2 := by
  unfold f_X7_keep at hf
  refine sem_of (by decide) rfl rfl rfl (Nat.le_of_ble_eq_true rfl) (lv := [some (aR v0), some (aR v1)]) rfl ?_
  refine g_aload_n (pc' := 1) dX7_keep_0 rfl rfl ?_
  obtain ⟨h1, hf⟩ := chk_s hf
  refine g_getI (pc' := 4) 7 3 rfl rfl (by decide) inX7 (by decide) rfl rfl q_352 dX7_keep_1 rfl h1 ?_
  refine g_bipush (pc' := 6) (40 : Int32) dX7_keep_4 rfl (by decide) ?_
  refine g_icmp_lt (pc' := 9) 30 dX7_keep_6 rfl (by decide) (fun c2 => ?_) (fun c2 => ?_)
  · have hf := ite_t c2 hf
    exact s_X7_keep_30 v0 v1 M _ hf
  · have hf := ite_f c2 hf
    refine g_aload_n (pc' := 10) dX7_keep_9 rfl rfl ?_
    refine g_getR (pc' := 13) 7 2 rfl rfl (by decide) inX7 (by decide) rfl rfl q_87 dX7_keep_10 rfl h1 ?_
    refine g_iconst (pc' := 14) (1 : Int32) dX7_keep_13 rfl (by decide) ?_
    refine g_aload_n (pc' := 15) dX7_keep_14 rfl rfl ?_
    refine g_getR (pc' := 18) 7 2 rfl rfl (by decide) inX7 (by decide) rfl rfl q_87 dX7_keep_15 rfl h1 ?_
    refine g_iconst (pc' := 19) (0 : Int32) dX7_keep_18 rfl (by decide) ?_
    refine g_bipush (pc' := 21) (39 : Int32) dX7_keep_19 rfl (by decide) ?_
    obtain ⟨h3, hf⟩ := chk_s hf
    obtain ⟨hc4, hf⟩ := chk_s hf
    obtain ⟨he6, hf⟩ := chk_s hf
    refine g_copyA (pc' := 24) q_640 q_641 q_642 wall_i_java_lang_System (by omega) (Nat.le_of_ble_eq_true rfl) dX7_keep_21 rfl h3 h3 (copyB_ok hc4) (actsB_ok he6) (gM fun M5 hM5 => ?_)
    have hf := ap_eq hf hM5
    refine g_aload_n (pc' := 25) dX7_keep_24 rfl rfl ?_
    refine g_bipush (pc' := 27) (39 : Int32) dX7_keep_25 rfl (by decide) ?_
    obtain ⟨h7, hf⟩ := chk_s hf
    refine g_putI (pc' := 30) 7 3 rfl rfl (by decide) inX7 tyX7_ok nmX7 (by decide) rfl rfl rfl rfl q_352 dX7_keep_27 rfl h7 (gM fun M8 hM8 => ?_)
    have hf := ap_eq hf hM8
    exact s_X7_keep_30 v0 v1 M8 _ hf
def f_X7_addStaged_29 : Nat → Nat → Nat → Int32 → Int32 → Mem → Option (Unit × Mem)
  | 0, _, _, _, _, _ => none
  | n + 1, v0, v2, v3, v4, M =>
    if v3 ≤ v4 then
      some ((), M)
    else
      if mK M v0 = 8 then
        if mK M (mR M v0 0) = 23 then
          if inB v4 (mN M (mR M v0 0)) = true then
            if mK M v2 = 21 then
              if inB v4 (mN M v2) = true then
                if mK M (mR M (mR M v0 0) v4.toNatClampNeg) = 3 then
                  ap (sI M (mR M (mR M v0 0) v4.toNatClampNeg) 3 (mI M v2 v4.toNatClampNeg)) fun M8 =>
                  f_X7_addStaged_29 n v0 v2 v3 (v4 + 1) M8
                else none
              else none
            else none
          else none
        else none
      else none
def f_X7_addStaged (v0 : Nat) (v1 : Int32) (v2 : Nat) (v3 : Int32) (M : Mem) : Option (Unit × Mem) :=
  if mn M + 1 < 900000 then
    if okrB M [v0, v2, v0] = true then
    ap (mNew M 1 0) fun M2 =>
    if mK M2 v0 = 8 then
      if ¬ (mn M + 1) = 0 then
        bnd (f_X0_init (mn M + 1) (0 : Int32) (0 : Int32) (0 : Int32) (v1 - (mI M2 v0 1)) 0 M2) fun _ M5 =>
        if mK M5 v0 = 8 then
          bnd (f_X7_keep v0 (mn M + 1) M5) fun _ M8 =>
          if mK M8 v0 = 8 then
            ap (sI M8 v0 1 v1) fun M11 =>
            f_X7_addStaged_29 FUEL v0 v2 v3 (0 : Int32) M11
          else none
        else none
      else none
    else none
    else none
  else none
theorem s_X7_addStaged_29 : ∀ (n : Nat) (v0 : Nat) (v2 : Nat) (v3 : Int32) (v4 : Int32) (M : Mem) (r : (Unit × Mem)), f_X7_addStaged_29 n v0 v2 v3 v4 M = some r → G mi_X7_addStaged 2 (oU r.1) r.2 29 [some (aR v0), none, some (aR v2), some (aI v3), some (aI v4)] [] M 1 5 := by
  intro n
  induction n with
  | zero => intro v0 v2 v3 v4 M r hf; cases hf
  | succ n ih =>
    intro v0 v2 v3 v4 M r hf
    unfold f_X7_addStaged_29 at hf
    refine g_iload (pc' := 31) dX7_addStaged_29 rfl rfl ?_
    refine g_iload_n (pc' := 32) dX7_addStaged_31 rfl rfl ?_
    refine g_icmp_ge (pc' := 35) 55 dX7_addStaged_32 rfl (by decide) (fun c1 => ?_) (fun c1 => ?_)
    · have hf := ite_t c1 hf
      cases hf
      exact g_return dX7_addStaged_55 rfl (Nat.le_of_ble_eq_true rfl) (Nat.le_of_ble_eq_true rfl)
    · have hf := ite_f c1 hf
      refine g_aload_n (pc' := 36) dX7_addStaged_35 rfl rfl ?_
      obtain ⟨h2, hf⟩ := chk_s hf
      refine g_getR (pc' := 39) 7 0 rfl rfl (by decide) inX7 (by decide) rfl rfl q_85 dX7_addStaged_36 rfl h2 ?_
      refine g_iload (pc' := 41) dX7_addStaged_39 rfl rfl ?_
      obtain ⟨h3, hf⟩ := chk_s hf
      obtain ⟨b4, hf⟩ := chk_s hf
      refine g_aald (pc' := 42) (t0 := 2) (fun _ => rfl) (by decide) dX7_addStaged_41 rfl h3 (inB_in b4) ?_
      refine g_aload_n (pc' := 43) dX7_addStaged_42 rfl rfl ?_
      refine g_iload (pc' := 45) dX7_addStaged_43 rfl rfl ?_
      obtain ⟨h5, hf⟩ := chk_s hf
      obtain ⟨b6, hf⟩ := chk_s hf
      refine g_iald (pc' := 46) dX7_addStaged_45 rfl h5 (inB_in b6) ?_
      obtain ⟨h7, hf⟩ := chk_s hf
      refine g_putI (pc' := 49) 2 3 rfl rfl (by decide) inX2 tyX2_ok nmX2 (by decide) rfl rfl rfl rfl q_353 dX7_addStaged_46 rfl h7 (gM fun M8 hM8 => ?_)
      have hf := ap_eq hf hM8
      refine g_iinc (pc' := 52) (lv' := [some (aR v0), none, some (aR v2), some (aI v3), some (aI (v4 + 1))]) (v4 + 1) dX7_addStaged_49 rfl rfl (by rfl) rfl (by decide) rfl ?_
      refine g_goto (pc' := 29) dX7_addStaged_52 (by decide) ?_
      exact ih v0 v2 v3 (v4 + 1) M8 _ hf
theorem s_X7_addStaged (v0 : Nat) (v1 : Int32) (v2 : Nat) (v3 : Int32) (M : Mem) (r : (Unit × Mem)) (hf : f_X7_addStaged v0 v1 v2 v3 M = some r) : Sem mi_X7_addStaged (2) [aR v0, aI v1, aR v2, aI v3] M (oU r.1) r.2 := by
  unfold f_X7_addStaged at hf
  refine sem_of (by decide) rfl rfl rfl (Nat.le_of_ble_eq_true rfl) (lv := [some (aR v0), some (aI v1), some (aR v2), some (aI v3), none]) rfl ?_
  refine g_aload_n (pc' := 1) dX7_addStaged_0 rfl rfl ?_
  obtain ⟨hm1, hf⟩ := chk_s hf
  obtain ⟨ha1, hf⟩ := chk_s hf
  refine g_new (pc' := 4) (k' := 1) (u' := 5) 0 rfl rfl (by decide) inX0 tyX0_ok dfX0 (by decide) q_86 q_625 q_626 dX7_addStaged_1 rfl hm1 (okrB_ok ha1 rfl) (by omega) (by omega) (by show 1 ≤ 1; omega) (by show 5 ≤ 5; omega) (gM fun M2 hM2 => ?_)
  have hf := ap_eq hf hM2
  refine g_dup (pc' := 5) dX7_addStaged_4 rfl rfl ?_
  refine g_iconst (pc' := 6) (0 : Int32) dX7_addStaged_5 rfl (by decide) ?_
  refine g_iconst (pc' := 7) (0 : Int32) dX7_addStaged_6 rfl (by decide) ?_
  refine g_iconst (pc' := 8) (0 : Int32) dX7_addStaged_7 rfl (by decide) ?_
  refine g_iload_n (pc' := 9) dX7_addStaged_8 rfl rfl ?_
  refine g_aload_n (pc' := 10) dX7_addStaged_9 rfl rfl ?_
  obtain ⟨h3, hf⟩ := chk_s hf
  refine g_getI (pc' := 13) 7 1 rfl rfl (by decide) inX7 (by decide) rfl rfl q_351 dX7_addStaged_10 rfl h3 ?_
  refine g_isub (pc' := 14) dX7_addStaged_13 rfl ?_
  refine g_null (pc' := 15) dX7_addStaged_14 rfl ?_
  obtain ⟨ho4, hf⟩ := chk_s hf
  obtain ⟨_, M5, e6, hf⟩ := bnd_some hf
  refine g_callIv (pc' := 18) (k' := 1) (u' := 5) (fr2 := 1) (As := [aI (0 : Int32), aI (0 : Int32), aI (0 : Int32), aI (v1 - (mI M2 v0 1)), aR 0]) (b := (mn M + 1)) (st := [aR (mn M + 1), aR v0]) cf_X0_init q_627 (by omega) ho4 dX7_addStaged_15 rfl rfl rfl (Nat.le_of_ble_eq_true rfl) (Or.inl rfl) (by show 1 + 0 ≤ 1; omega) (by show 5 + 0 ≤ 5; omega) (by show 1 ≤ 1; omega) (by show 5 ≤ 5; omega) (s_X0_init (mn M + 1) (0 : Int32) (0 : Int32) (0 : Int32) (v1 - (mI M2 v0 1)) 0 M2 _ e6) ?_
  obtain ⟨h7, hf⟩ := chk_s hf
  obtain ⟨_, M8, e9, hf⟩ := bnd_some hf
  refine g_callVv (pc' := 21) (k' := 1) (u' := 5) (fr2 := 1) (As := [aR (mn M + 1)]) (b := v0) (st := []) cf_X7_keep q_636 (by omega) (ci := 7) rfl rfl (by decide) dX7_addStaged_18 rfl rfl rfl (Nat.le_of_ble_eq_true rfl) (Or.inl rfl) (by show 1 + 0 ≤ 1; omega) (by show 5 + 0 ≤ 5; omega) (by show 1 ≤ 1; omega) (by show 5 ≤ 5; omega) h7 (s_X7_keep v0 (mn M + 1) M5 _ e9) ?_
  refine g_aload_n (pc' := 22) dX7_addStaged_21 rfl rfl ?_
  refine g_iload_n (pc' := 23) dX7_addStaged_22 rfl rfl ?_
  obtain ⟨h10, hf⟩ := chk_s hf
  refine g_putI (pc' := 26) 7 1 rfl rfl (by decide) inX7 tyX7_ok nmX7 (by decide) rfl rfl rfl rfl q_351 dX7_addStaged_23 rfl h10 (gM fun M11 hM11 => ?_)
  have hf := ap_eq hf hM11
  refine g_iconst (pc' := 27) (0 : Int32) dX7_addStaged_26 rfl (by decide) ?_
  refine g_istore (pc' := 29) (lv' := [some (aR v0), some (aI v1), some (aR v2), some (aI v3), some (aI (0 : Int32))]) dX7_addStaged_27 rfl rfl (by decide) rfl ?_
  refine g_mask [true, false, true, true, true] rfl ?_
  refine g_widen (k' := 1) (u' := 5) (by omega) (by omega) ?_
  exact s_X7_addStaged_29 FUEL v0 v2 v3 (0 : Int32) M11 _ hf
def f_X7_lastFirst (v0 : Nat) (v1 : Int32) (M : Mem) : Option (Int32 × Mem) :=
  if mK M v0 = 8 then
    if mK M (mR M v0 0) = 23 then
      if inB v1 (mN M (mR M v0 0)) = true then
        if mK M (mR M (mR M v0 0) v1.toNatClampNeg) = 3 then
          bnd (f_X2_firstOf (mR M (mR M v0 0) v1.toNatClampNeg) ((mI M v0 1) - (1 : Int32)) M) fun r6 M5 =>
          if r6 = (-1 : Int32) then
            if mK M5 v0 = 8 then
              if mK M5 (mR M5 v0 0) = 23 then
                if inB v1 (mN M5 (mR M5 v0 0)) = true then
                  if mK M5 (mR M5 (mR M5 v0 0) v1.toNatClampNeg) = 3 then
                    some (mI M5 (mR M5 (mR M5 v0 0) v1.toNatClampNeg) 3, M5)
                  else none
                else none
              else none
            else none
          else
            some (r6, M5)
        else none
      else none
    else none
  else none
theorem s_X7_lastFirst (v0 : Nat) (v1 : Int32) (M : Mem) (r : (Int32 × Mem)) (hf : f_X7_lastFirst v0 v1 M = some r) : Sem mi_X7_lastFirst (2) [aR v0, aI v1] M (oI r.1) r.2 := by
  unfold f_X7_lastFirst at hf
  refine sem_of (by decide) rfl rfl rfl (Nat.le_of_ble_eq_true rfl) (lv := [some (aR v0), some (aI v1), none]) rfl ?_
  refine g_aload_n (pc' := 1) dX7_lastFirst_0 rfl rfl ?_
  obtain ⟨h1, hf⟩ := chk_s hf
  refine g_getR (pc' := 4) 7 0 rfl rfl (by decide) inX7 (by decide) rfl rfl q_85 dX7_lastFirst_1 rfl h1 ?_
  refine g_iload_n (pc' := 5) dX7_lastFirst_4 rfl rfl ?_
  obtain ⟨h2, hf⟩ := chk_s hf
  obtain ⟨b3, hf⟩ := chk_s hf
  refine g_aald (pc' := 6) (t0 := 2) (fun _ => rfl) (by decide) dX7_lastFirst_5 rfl h2 (inB_in b3) ?_
  refine g_aload_n (pc' := 7) dX7_lastFirst_6 rfl rfl ?_
  refine g_getI (pc' := 10) 7 1 rfl rfl (by decide) inX7 (by decide) rfl rfl q_351 dX7_lastFirst_7 rfl h1 ?_
  refine g_iconst (pc' := 11) (1 : Int32) dX7_lastFirst_10 rfl (by decide) ?_
  refine g_isub (pc' := 12) dX7_lastFirst_11 rfl ?_
  obtain ⟨h4, hf⟩ := chk_s hf
  obtain ⟨r6, M5, e6, hf⟩ := bnd_some hf
  refine g_callVi (pc' := 15) (k' := 0) (u' := 0) (fr2 := 1) (As := [aI ((mI M v0 1) - (1 : Int32))]) (b := (mR M (mR M v0 0) v1.toNatClampNeg)) (st := []) cf_X2_firstOf q_1397 (by omega) (ci := 2) rfl rfl (by decide) dX7_lastFirst_12 rfl rfl rfl (Nat.le_of_ble_eq_true rfl) (Or.inl rfl) (Nat.le_refl _) (Nat.le_refl _) (Nat.le_refl _) (Nat.le_refl _) h4 (s_X2_firstOf (mR M (mR M v0 0) v1.toNatClampNeg) ((mI M v0 1) - (1 : Int32)) M _ e6) ?_
  refine g_istore_n (pc' := 16) (lv' := [some (aR v0), some (aI v1), some (aI r6)]) dX7_lastFirst_15 rfl rfl (by decide) rfl ?_
  refine g_iload_n (pc' := 17) dX7_lastFirst_16 rfl rfl ?_
  refine g_iconst (pc' := 18) (-1 : Int32) dX7_lastFirst_17 rfl (by decide) ?_
  refine g_icmp_ne (pc' := 21) 33 dX7_lastFirst_18 rfl (by decide) (fun c7 => ?_) (fun c7 => ?_)
  · have hf := ite_f c7 hf
    refine g_iload_n (pc' := 34) dX7_lastFirst_33 rfl rfl ?_
    cases hf
    exact g_ireturn dX7_lastFirst_34 rfl (Nat.le_of_ble_eq_true rfl) (Nat.le_of_ble_eq_true rfl)
  · have hf := ite_t c7 hf
    refine g_aload_n (pc' := 22) dX7_lastFirst_21 rfl rfl ?_
    obtain ⟨h8, hf⟩ := chk_s hf
    refine g_getR (pc' := 25) 7 0 rfl rfl (by decide) inX7 (by decide) rfl rfl q_85 dX7_lastFirst_22 rfl h8 ?_
    refine g_iload_n (pc' := 26) dX7_lastFirst_25 rfl rfl ?_
    obtain ⟨h9, hf⟩ := chk_s hf
    obtain ⟨b10, hf⟩ := chk_s hf
    refine g_aald (pc' := 27) (t0 := 2) (fun _ => rfl) (by decide) dX7_lastFirst_26 rfl h9 (inB_in b10) ?_
    obtain ⟨h11, hf⟩ := chk_s hf
    refine g_getI (pc' := 30) 2 3 rfl rfl (by decide) inX2 (by decide) rfl rfl q_353 dX7_lastFirst_27 rfl h11 ?_
    refine g_goto (pc' := 34) dX7_lastFirst_30 (by decide) ?_
    cases hf
    exact g_ireturn dX7_lastFirst_34 rfl (Nat.le_of_ble_eq_true rfl) (Nat.le_of_ble_eq_true rfl)
def f_X7_tailRow_85 (k43 : Nat → Int32 → Nat → Int32 → Int32 → Mem → Option (Nat × Mem)) : Nat → Nat → Int32 → Nat → Int32 → Int32 → Nat → Int32 → Mem → Option (Nat × Mem)
  | 0, _, _, _, _, _, _, _, _ => none
  | n + 1, v0, v1, v3, v4, v5, v6, v8, M =>
    if mK M v6 = 3 then
      if (mI M v6 3) ≤ v8 then
        k43 v0 v1 v3 v4 (v5 + 1) M
      else
        bnd (f_X2_packed v6 v8 M) fun r4 M3 =>
        if mK M3 v3 = 21 then
          if inB v4 (mN M3 v3) = true then
            ap (sI M3 v3 v4.toNatClampNeg r4) fun M7 =>
            f_X7_tailRow_85 k43 n v0 v1 v3 (v4 + 1) v5 v6 (v8 + 1) M7
          else none
        else none
    else none
def f_X7_tailRow_43 : Nat → Nat → Int32 → Nat → Int32 → Int32 → Mem → Option (Nat × Mem)
  | 0, _, _, _, _, _, _ => none
  | n + 1, v0, v1, v3, v4, v5, M =>
    if v1 ≤ v5 then
      some (v3, M)
    else
      if mK M v0 = 8 then
        if mK M (mR M v0 0) = 23 then
          if inB v5 (mN M (mR M v0 0)) = true then
            bnd (f_X7_lastFirst v0 v5 M) fun r6 M5 =>
            if mK M5 (mR M (mR M v0 0) v5.toNatClampNeg) = 3 then
              if mK M5 v3 = 21 then
                if inB v4 (mN M5 v3) = true then
                  ap (sI M5 v3 v4.toNatClampNeg ((mI M5 (mR M (mR M v0 0) v5.toNatClampNeg) 3) - r6)) fun M10 =>
                  f_X7_tailRow_85 (f_X7_tailRow_43 n) FUEL v0 v1 v3 (v4 + 1) v5 (mR M (mR M v0 0) v5.toNatClampNeg) r6 M10
                else none
              else none
            else none
          else none
        else none
      else none
def f_X7_tailRow_4 : Nat → Nat → Int32 → Int32 → Int32 → Mem → Option (Nat × Mem)
  | 0, _, _, _, _, _ => none
  | n + 1, v0, v1, v2, v3, M =>
    if v1 ≤ v3 then
      if mn M + 1 < 900000 then
        if okrB M [v0] = true then
          if ¬ v2 < 0 then
            if v2.toNatClampNeg ≤ 1000 then
              ap (mNew M 21 v2.toNatClampNeg) fun M3 =>
              f_X7_tailRow_43 FUEL v0 v1 (mn M + 1) (0 : Int32) (0 : Int32) M3
            else none
          else none
        else none
      else none
    else
      if mK M v0 = 8 then
        if mK M (mR M v0 0) = 23 then
          if inB v3 (mN M (mR M v0 0)) = true then
            if mK M (mR M (mR M v0 0) v3.toNatClampNeg) = 3 then
              bnd (f_X7_lastFirst v0 v3 M) fun r9 M8 =>
              f_X7_tailRow_4 n v0 v1 (v2 + ((mI M (mR M (mR M v0 0) v3.toNatClampNeg) 3) - r9)) (v3 + 1) M8
            else none
          else none
        else none
      else none
def f_X7_tailRow (v0 : Nat) (v1 : Int32) (M : Mem) : Option (Nat × Mem) :=
  f_X7_tailRow_4 FUEL v0 v1 v1 (0 : Int32) M
theorem s_X7_tailRow_85 (k43 : Nat → Int32 → Nat → Int32 → Int32 → Mem → Option (Nat × Mem)) (hk43 : ∀ (v0 : Nat) (v1 : Int32) (v3 : Nat) (v4 : Int32) (v5 : Int32) (M : Mem) (r : (Nat × Mem)), k43 v0 v1 v3 v4 v5 M = some r → G mi_X7_tailRow 3 (oR r.1) r.2 43 [some (aR v0), some (aI v1), none, some (aR v3), some (aI v4), some (aI v5), none, none, none] [] M 1 1000) : ∀ (n : Nat) (v0 : Nat) (v1 : Int32) (v3 : Nat) (v4 : Int32) (v5 : Int32) (v6 : Nat) (v8 : Int32) (M : Mem) (r : (Nat × Mem)), f_X7_tailRow_85 k43 n v0 v1 v3 v4 v5 v6 v8 M = some r → G mi_X7_tailRow 3 (oR r.1) r.2 85 [some (aR v0), some (aI v1), none, some (aR v3), some (aI v4), some (aI v5), some (aR v6), none, some (aI v8)] [] M 1 1000 := by
  intro n
  induction n with
  | zero => intro v0 v1 v3 v4 v5 v6 v8 M r hf; cases hf
  | succ n ih =>
    intro v0 v1 v3 v4 v5 v6 v8 M r hf
    unfold f_X7_tailRow_85 at hf
    refine g_iload (pc' := 87) dX7_tailRow_85 rfl rfl ?_
    refine g_aload (pc' := 89) dX7_tailRow_87 rfl rfl ?_
    obtain ⟨h1, hf⟩ := chk_s hf
    refine g_getI (pc' := 92) 2 3 rfl rfl (by decide) inX2 (by decide) rfl rfl q_353 dX7_tailRow_89 rfl h1 ?_
    refine g_icmp_ge (pc' := 95) 115 dX7_tailRow_92 rfl (by decide) (fun c2 => ?_) (fun c2 => ?_)
    · have hf := ite_t c2 hf
      refine g_iinc (pc' := 118) (lv' := [some (aR v0), some (aI v1), none, some (aR v3), some (aI v4), some (aI (v5 + 1)), some (aR v6), none, some (aI v8)]) (v5 + 1) dX7_tailRow_115 rfl rfl (by rfl) rfl (by decide) rfl ?_
      refine g_goto (pc' := 43) dX7_tailRow_118 (by decide) ?_
      refine g_mask [true, true, true, true, true, true, false, true, false] rfl ?_
      exact hk43 v0 v1 v3 v4 (v5 + 1) M _ hf
    · have hf := ite_f c2 hf
      refine g_aload_n (pc' := 96) dX7_tailRow_95 rfl rfl ?_
      refine g_iload (pc' := 98) dX7_tailRow_96 rfl rfl ?_
      refine g_aload (pc' := 100) dX7_tailRow_98 rfl rfl ?_
      refine g_iload (pc' := 102) dX7_tailRow_100 rfl rfl ?_
      obtain ⟨r4, M3, e4, hf⟩ := bnd_some hf
      refine g_callVi (pc' := 105) (k' := 1) (u' := 1000) (fr2 := 1) (As := [aI v8]) (b := v6) (st := [aI v4, aR v3]) cf_X2_packed q_1398 (by omega) (ci := 2) rfl rfl (by decide) dX7_tailRow_102 rfl rfl rfl (Nat.le_of_ble_eq_true rfl) (Or.inl rfl) (by show 1 + 0 ≤ 1; omega) (by show 1000 + 0 ≤ 1000; omega) (by show 1 ≤ 1; omega) (by show 1000 ≤ 1000; omega) h1 (s_X2_packed v6 v8 M _ e4) ?_
      obtain ⟨h5, hf⟩ := chk_s hf
      obtain ⟨b6, hf⟩ := chk_s hf
      refine g_iast (pc' := 106) dX7_tailRow_105 rfl h5 (inB_in b6) (gM fun M7 hM7 => ?_)
      have hf := ap_eq hf hM7
      refine g_iinc (pc' := 109) (lv' := [some (aR v0), some (aI v1), none, some (aR v3), some (aI (v4 + 1)), some (aI v5), some (aR v6), none, some (aI v8)]) (v4 + 1) dX7_tailRow_106 rfl rfl (by rfl) rfl (by decide) rfl ?_
      refine g_iinc (pc' := 112) (lv' := [some (aR v0), some (aI v1), none, some (aR v3), some (aI (v4 + 1)), some (aI v5), some (aR v6), none, some (aI (v8 + 1))]) (v8 + 1) dX7_tailRow_109 rfl rfl (by rfl) rfl (by decide) rfl ?_
      refine g_goto (pc' := 85) dX7_tailRow_112 (by decide) ?_
      refine g_widen (k' := 1) (u' := 1000) (by omega) (by omega) ?_
      exact ih v0 v1 v3 (v4 + 1) v5 v6 (v8 + 1) M7 _ hf
theorem s_X7_tailRow_43 : ∀ (n : Nat) (v0 : Nat) (v1 : Int32) (v3 : Nat) (v4 : Int32) (v5 : Int32) (M : Mem) (r : (Nat × Mem)), f_X7_tailRow_43 n v0 v1 v3 v4 v5 M = some r → G mi_X7_tailRow 3 (oR r.1) r.2 43 [some (aR v0), some (aI v1), none, some (aR v3), some (aI v4), some (aI v5), none, none, none] [] M 1 1000 := by
  intro n
  induction n with
  | zero => intro v0 v1 v3 v4 v5 M r hf; cases hf
  | succ n ih =>
    intro v0 v1 v3 v4 v5 M r hf
    unfold f_X7_tailRow_43 at hf
    refine g_iload (pc' := 45) dX7_tailRow_43 rfl rfl ?_
    refine g_iload_n (pc' := 46) dX7_tailRow_45 rfl rfl ?_
    refine g_icmp_ge (pc' := 49) 121 dX7_tailRow_46 rfl (by decide) (fun c1 => ?_) (fun c1 => ?_)
    · have hf := ite_t c1 hf
      refine g_aload_n (pc' := 122) dX7_tailRow_121 rfl rfl ?_
      cases hf
      exact g_areturn dX7_tailRow_122 rfl (Nat.le_of_ble_eq_true rfl) (Nat.le_of_ble_eq_true rfl)
    · have hf := ite_f c1 hf
      refine g_aload_n (pc' := 50) dX7_tailRow_49 rfl rfl ?_
      obtain ⟨h2, hf⟩ := chk_s hf
      refine g_getR (pc' := 53) 7 0 rfl rfl (by decide) inX7 (by decide) rfl rfl q_85 dX7_tailRow_50 rfl h2 ?_
      refine g_iload (pc' := 55) dX7_tailRow_53 rfl rfl ?_
      obtain ⟨h3, hf⟩ := chk_s hf
      obtain ⟨b4, hf⟩ := chk_s hf
      refine g_aald (pc' := 56) (t0 := 2) (fun _ => rfl) (by decide) dX7_tailRow_55 rfl h3 (inB_in b4) ?_
      refine g_astore (pc' := 58) (lv' := [some (aR v0), some (aI v1), none, some (aR v3), some (aI v4), some (aI v5), some (aR (mR M (mR M v0 0) v5.toNatClampNeg)), none, none]) dX7_tailRow_56 rfl rfl (by decide) rfl ?_
      refine g_aload_n (pc' := 59) dX7_tailRow_58 rfl rfl ?_
      refine g_iload (pc' := 61) dX7_tailRow_59 rfl rfl ?_
      obtain ⟨r6, M5, e6, hf⟩ := bnd_some hf
      refine g_callVi (pc' := 64) (k' := 1) (u' := 1000) (fr2 := 2) (As := [aI v5]) (b := v0) (st := []) cf_X7_lastFirst q_1393 (by omega) (ci := 7) rfl rfl (by decide) dX7_tailRow_61 rfl rfl rfl (Nat.le_of_ble_eq_true rfl) (Or.inl rfl) (by show 1 + 0 ≤ 1; omega) (by show 1000 + 0 ≤ 1000; omega) (by show 1 ≤ 1; omega) (by show 1000 ≤ 1000; omega) h2 (s_X7_lastFirst v0 v5 M _ e6) ?_
      refine g_istore (pc' := 66) (lv' := [some (aR v0), some (aI v1), none, some (aR v3), some (aI v4), some (aI v5), some (aR (mR M (mR M v0 0) v5.toNatClampNeg)), some (aI r6), none]) dX7_tailRow_64 rfl rfl (by decide) rfl ?_
      refine g_aload_n (pc' := 67) dX7_tailRow_66 rfl rfl ?_
      refine g_iload (pc' := 69) dX7_tailRow_67 rfl rfl ?_
      refine g_aload (pc' := 71) dX7_tailRow_69 rfl rfl ?_
      obtain ⟨h7, hf⟩ := chk_s hf
      refine g_getI (pc' := 74) 2 3 rfl rfl (by decide) inX2 (by decide) rfl rfl q_353 dX7_tailRow_71 rfl h7 ?_
      refine g_iload (pc' := 76) dX7_tailRow_74 rfl rfl ?_
      refine g_isub (pc' := 77) dX7_tailRow_76 rfl ?_
      obtain ⟨h8, hf⟩ := chk_s hf
      obtain ⟨b9, hf⟩ := chk_s hf
      refine g_iast (pc' := 78) dX7_tailRow_77 rfl h8 (inB_in b9) (gM fun M10 hM10 => ?_)
      have hf := ap_eq hf hM10
      refine g_iinc (pc' := 81) (lv' := [some (aR v0), some (aI v1), none, some (aR v3), some (aI (v4 + 1)), some (aI v5), some (aR (mR M (mR M v0 0) v5.toNatClampNeg)), some (aI r6), none]) (v4 + 1) dX7_tailRow_78 rfl rfl (by rfl) rfl (by decide) rfl ?_
      refine g_iload (pc' := 83) dX7_tailRow_81 rfl rfl ?_
      refine g_istore (pc' := 85) (lv' := [some (aR v0), some (aI v1), none, some (aR v3), some (aI (v4 + 1)), some (aI v5), some (aR (mR M (mR M v0 0) v5.toNatClampNeg)), some (aI r6), some (aI r6)]) dX7_tailRow_83 rfl rfl (by decide) rfl ?_
      refine g_mask [true, true, true, true, true, true, true, false, true] rfl ?_
      refine g_widen (k' := 1) (u' := 1000) (by omega) (by omega) ?_
      exact s_X7_tailRow_85 (f_X7_tailRow_43 n) ih FUEL v0 v1 v3 (v4 + 1) v5 (mR M (mR M v0 0) v5.toNatClampNeg) r6 M10 _ hf
theorem s_X7_tailRow_4 : ∀ (n : Nat) (v0 : Nat) (v1 : Int32) (v2 : Int32) (v3 : Int32) (M : Mem) (r : (Nat × Mem)), f_X7_tailRow_4 n v0 v1 v2 v3 M = some r → G mi_X7_tailRow 3 (oR r.1) r.2 4 [some (aR v0), some (aI v1), some (aI v2), some (aI v3), none, none, none, none, none] [] M 0 0 := by
  intro n
  induction n with
  | zero => intro v0 v1 v2 v3 M r hf; cases hf
  | succ n ih =>
    intro v0 v1 v2 v3 M r hf
    unfold f_X7_tailRow_4 at hf
    refine g_iload_n (pc' := 5) dX7_tailRow_4 rfl rfl ?_
    refine g_iload_n (pc' := 6) dX7_tailRow_5 rfl rfl ?_
    refine g_icmp_ge (pc' := 9) 33 dX7_tailRow_6 rfl (by decide) (fun c1 => ?_) (fun c1 => ?_)
    · have hf := ite_t c1 hf
      refine g_iload_n (pc' := 34) dX7_tailRow_33 rfl rfl ?_
      obtain ⟨hm2, hf⟩ := chk_s hf
      obtain ⟨ha2, hf⟩ := chk_s hf
      obtain ⟨hn2, hf⟩ := chk_s hf
      obtain ⟨hq2, hf⟩ := chk_s hf
      refine g_newI (pc' := 36) (k' := 1) (u' := 1000) (by decide) wall_aint dX7_tailRow_34 rfl hn2 (by omega) hm2 (okrB_ok ha2 rfl) (by omega) (by omega) (by show 1 ≤ 1; omega) (by show 1000 ≤ 1000; omega) (gM fun M3 hM3 => ?_)
      have hf := ap_eq hf hM3
      refine g_astore_n (pc' := 37) (lv' := [some (aR v0), some (aI v1), some (aI v2), some (aR (mn M + 1)), none, none, none, none, none]) dX7_tailRow_36 rfl rfl (by decide) rfl ?_
      refine g_iconst (pc' := 38) (0 : Int32) dX7_tailRow_37 rfl (by decide) ?_
      refine g_istore (pc' := 40) (lv' := [some (aR v0), some (aI v1), some (aI v2), some (aR (mn M + 1)), some (aI (0 : Int32)), none, none, none, none]) dX7_tailRow_38 rfl rfl (by decide) rfl ?_
      refine g_iconst (pc' := 41) (0 : Int32) dX7_tailRow_40 rfl (by decide) ?_
      refine g_istore (pc' := 43) (lv' := [some (aR v0), some (aI v1), some (aI v2), some (aR (mn M + 1)), some (aI (0 : Int32)), some (aI (0 : Int32)), none, none, none]) dX7_tailRow_41 rfl rfl (by decide) rfl ?_
      refine g_mask [true, true, false, true, true, true, true, true, true] rfl ?_
      refine g_widen (k' := 1) (u' := 1000) (by omega) (by omega) ?_
      exact s_X7_tailRow_43 FUEL v0 v1 (mn M + 1) (0 : Int32) (0 : Int32) M3 _ hf
    · have hf := ite_f c1 hf
      refine g_iload_n (pc' := 10) dX7_tailRow_9 rfl rfl ?_
      refine g_aload_n (pc' := 11) dX7_tailRow_10 rfl rfl ?_
      obtain ⟨h4, hf⟩ := chk_s hf
      refine g_getR (pc' := 14) 7 0 rfl rfl (by decide) inX7 (by decide) rfl rfl q_85 dX7_tailRow_11 rfl h4 ?_
      refine g_iload_n (pc' := 15) dX7_tailRow_14 rfl rfl ?_
      obtain ⟨h5, hf⟩ := chk_s hf
      obtain ⟨b6, hf⟩ := chk_s hf
      refine g_aald (pc' := 16) (t0 := 2) (fun _ => rfl) (by decide) dX7_tailRow_15 rfl h5 (inB_in b6) ?_
      obtain ⟨h7, hf⟩ := chk_s hf
      refine g_getI (pc' := 19) 2 3 rfl rfl (by decide) inX2 (by decide) rfl rfl q_353 dX7_tailRow_16 rfl h7 ?_
      refine g_aload_n (pc' := 20) dX7_tailRow_19 rfl rfl ?_
      refine g_iload_n (pc' := 21) dX7_tailRow_20 rfl rfl ?_
      obtain ⟨r9, M8, e9, hf⟩ := bnd_some hf
      refine g_callVi (pc' := 24) (k' := 0) (u' := 0) (fr2 := 2) (As := [aI v3]) (b := v0) (st := [aI (mI M (mR M (mR M v0 0) v3.toNatClampNeg) 3), aI v2]) cf_X7_lastFirst q_1393 (by omega) (ci := 7) rfl rfl (by decide) dX7_tailRow_21 rfl rfl rfl (Nat.le_of_ble_eq_true rfl) (Or.inl rfl) (by show 0 + 0 ≤ 0; omega) (by show 0 + 0 ≤ 0; omega) (by show 0 ≤ 1; omega) (by show 0 ≤ 1000; omega) h4 (s_X7_lastFirst v0 v3 M _ e9) ?_
      refine g_isub (pc' := 25) dX7_tailRow_24 rfl ?_
      refine g_iadd (pc' := 26) dX7_tailRow_25 rfl ?_
      refine g_istore_n (pc' := 27) (lv' := [some (aR v0), some (aI v1), some (aI (v2 + ((mI M (mR M (mR M v0 0) v3.toNatClampNeg) 3) - r9))), some (aI v3), none, none, none, none, none]) dX7_tailRow_26 rfl rfl (by decide) rfl ?_
      refine g_iinc (pc' := 30) (lv' := [some (aR v0), some (aI v1), some (aI (v2 + ((mI M (mR M (mR M v0 0) v3.toNatClampNeg) 3) - r9))), some (aI (v3 + 1)), none, none, none, none, none]) (v3 + 1) dX7_tailRow_27 rfl rfl (by rfl) rfl (by decide) rfl ?_
      refine g_goto (pc' := 4) dX7_tailRow_30 (by decide) ?_
      refine g_widen (k' := 0) (u' := 0) (by omega) (by omega) ?_
      exact ih v0 v1 (v2 + ((mI M (mR M (mR M v0 0) v3.toNatClampNeg) 3) - r9)) (v3 + 1) M8 _ hf
theorem s_X7_tailRow (v0 : Nat) (v1 : Int32) (M : Mem) (r : (Nat × Mem)) (hf : f_X7_tailRow v0 v1 M = some r) : Sem mi_X7_tailRow (3) [aR v0, aI v1] M (oR r.1) r.2 := by
  unfold f_X7_tailRow at hf
  refine sem_of (by decide) rfl rfl rfl (Nat.le_of_ble_eq_true rfl) (lv := [some (aR v0), some (aI v1), none, none, none, none, none, none, none]) rfl ?_
  refine g_iload_n (pc' := 1) dX7_tailRow_0 rfl rfl ?_
  refine g_istore_n (pc' := 2) (lv' := [some (aR v0), some (aI v1), some (aI v1), none, none, none, none, none, none]) dX7_tailRow_1 rfl rfl (by decide) rfl ?_
  refine g_iconst (pc' := 3) (0 : Int32) dX7_tailRow_2 rfl (by decide) ?_
  refine g_istore_n (pc' := 4) (lv' := [some (aR v0), some (aI v1), some (aI v1), some (aI (0 : Int32)), none, none, none, none, none]) dX7_tailRow_3 rfl rfl (by decide) rfl ?_
  exact s_X7_tailRow_4 FUEL v0 v1 v1 (0 : Int32) M _ hf
def f_X7_cutLastRecord_2 : Nat → Nat → Int32 → Int32 → Mem → Option (Unit × Mem)
  | 0, _, _, _, _ => none
  | n + 1, v0, v1, v2, M =>
    if v1 ≤ v2 then
      if mK M v0 = 8 then
        ap (sI M v0 1 ((mI M v0 1) - (1 : Int32))) fun M3 =>
        some ((), M3)
      else none
    else
      if mK M v0 = 8 then
        if mK M (mR M v0 0) = 23 then
          if inB v2 (mN M (mR M v0 0)) = true then
            bnd (f_X7_lastFirst v0 v2 M) fun r8 M7 =>
            if mK M7 (mR M (mR M v0 0) v2.toNatClampNeg) = 3 then
              ap (sI M7 (mR M (mR M v0 0) v2.toNatClampNeg) 3 r8) fun M10 =>
              f_X7_cutLastRecord_2 n v0 v1 (v2 + 1) M10
            else none
          else none
        else none
      else none
def f_X7_cutLastRecord (v0 : Nat) (v1 : Int32) (M : Mem) : Option (Unit × Mem) :=
  f_X7_cutLastRecord_2 FUEL v0 v1 (0 : Int32) M
theorem s_X7_cutLastRecord_2 : ∀ (n : Nat) (v0 : Nat) (v1 : Int32) (v2 : Int32) (M : Mem) (r : (Unit × Mem)), f_X7_cutLastRecord_2 n v0 v1 v2 M = some r → G mi_X7_cutLastRecord 3 (oU r.1) r.2 2 [some (aR v0), some (aI v1), some (aI v2)] [] M 0 0 := by
  intro n
  induction n with
  | zero => intro v0 v1 v2 M r hf; cases hf
  | succ n ih =>
    intro v0 v1 v2 M r hf
    unfold f_X7_cutLastRecord_2 at hf
    refine g_iload_n (pc' := 3) dX7_cutLastRecord_2 rfl rfl ?_
    refine g_iload_n (pc' := 4) dX7_cutLastRecord_3 rfl rfl ?_
    refine g_icmp_ge (pc' := 7) 27 dX7_cutLastRecord_4 rfl (by decide) (fun c1 => ?_) (fun c1 => ?_)
    · have hf := ite_t c1 hf
      refine g_aload_n (pc' := 28) dX7_cutLastRecord_27 rfl rfl ?_
      refine g_dup (pc' := 29) dX7_cutLastRecord_28 rfl rfl ?_
      obtain ⟨h2, hf⟩ := chk_s hf
      refine g_getI (pc' := 32) 7 1 rfl rfl (by decide) inX7 (by decide) rfl rfl q_351 dX7_cutLastRecord_29 rfl h2 ?_
      refine g_iconst (pc' := 33) (1 : Int32) dX7_cutLastRecord_32 rfl (by decide) ?_
      refine g_isub (pc' := 34) dX7_cutLastRecord_33 rfl ?_
      refine g_putI (pc' := 37) 7 1 rfl rfl (by decide) inX7 tyX7_ok nmX7 (by decide) rfl rfl rfl rfl q_351 dX7_cutLastRecord_34 rfl h2 (gM fun M3 hM3 => ?_)
      have hf := ap_eq hf hM3
      cases hf
      exact g_return dX7_cutLastRecord_37 rfl (Nat.le_of_ble_eq_true rfl) (Nat.le_of_ble_eq_true rfl)
    · have hf := ite_f c1 hf
      refine g_aload_n (pc' := 8) dX7_cutLastRecord_7 rfl rfl ?_
      obtain ⟨h4, hf⟩ := chk_s hf
      refine g_getR (pc' := 11) 7 0 rfl rfl (by decide) inX7 (by decide) rfl rfl q_85 dX7_cutLastRecord_8 rfl h4 ?_
      refine g_iload_n (pc' := 12) dX7_cutLastRecord_11 rfl rfl ?_
      obtain ⟨h5, hf⟩ := chk_s hf
      obtain ⟨b6, hf⟩ := chk_s hf
      refine g_aald (pc' := 13) (t0 := 2) (fun _ => rfl) (by decide) dX7_cutLastRecord_12 rfl h5 (inB_in b6) ?_
      refine g_aload_n (pc' := 14) dX7_cutLastRecord_13 rfl rfl ?_
      refine g_iload_n (pc' := 15) dX7_cutLastRecord_14 rfl rfl ?_
      obtain ⟨r8, M7, e8, hf⟩ := bnd_some hf
      refine g_callVi (pc' := 18) (k' := 0) (u' := 0) (fr2 := 2) (As := [aI v2]) (b := v0) (st := [aR (mR M (mR M v0 0) v2.toNatClampNeg)]) cf_X7_lastFirst q_1393 (by omega) (ci := 7) rfl rfl (by decide) dX7_cutLastRecord_15 rfl rfl rfl (Nat.le_of_ble_eq_true rfl) (Or.inl rfl) (Nat.le_refl _) (Nat.le_refl _) (Nat.le_refl _) (Nat.le_refl _) h4 (s_X7_lastFirst v0 v2 M _ e8) ?_
      obtain ⟨h9, hf⟩ := chk_s hf
      refine g_putI (pc' := 21) 2 3 rfl rfl (by decide) inX2 tyX2_ok nmX2 (by decide) rfl rfl rfl rfl q_353 dX7_cutLastRecord_18 rfl h9 (gM fun M10 hM10 => ?_)
      have hf := ap_eq hf hM10
      refine g_iinc (pc' := 24) (lv' := [some (aR v0), some (aI v1), some (aI (v2 + 1))]) (v2 + 1) dX7_cutLastRecord_21 rfl rfl (by rfl) rfl (by decide) rfl ?_
      refine g_goto (pc' := 2) dX7_cutLastRecord_24 (by decide) ?_
      refine g_widen (k' := 0) (u' := 0) (by omega) (by omega) ?_
      exact ih v0 v1 (v2 + 1) M10 _ hf
theorem s_X7_cutLastRecord (v0 : Nat) (v1 : Int32) (M : Mem) (r : (Unit × Mem)) (hf : f_X7_cutLastRecord v0 v1 M = some r) : Sem mi_X7_cutLastRecord (3) [aR v0, aI v1] M (oU r.1) r.2 := by
  unfold f_X7_cutLastRecord at hf
  refine sem_of (by decide) rfl rfl rfl (Nat.le_of_ble_eq_true rfl) (lv := [some (aR v0), some (aI v1), none]) rfl ?_
  refine g_iconst (pc' := 1) (0 : Int32) dX7_cutLastRecord_0 rfl (by decide) ?_
  refine g_istore_n (pc' := 2) (lv' := [some (aR v0), some (aI v1), some (aI (0 : Int32))]) dX7_cutLastRecord_1 rfl rfl (by decide) rfl ?_
  exact s_X7_cutLastRecord_2 FUEL v0 v1 (0 : Int32) M _ hf
def f_X7_bringBack_95 (v0 : Nat) (M : Mem) : Option (Unit × Mem) :=
  if mK M v0 = 8 then
    ap (sI M v0 1 ((mI M v0 1) + (1 : Int32))) fun M2 =>
    some ((), M2)
  else none
def f_X7_bringBack_89 (k5 : Nat → Nat → Int32 → Int32 → Int32 → Mem → Option (Unit × Mem)) (v0 : Nat) (v1 : Nat) (v2 : Int32) (v3 : Int32) (v4 : Int32) (M : Mem) : Option (Unit × Mem) :=
  k5 v0 v1 v2 v3 (v4 + 1) M
def f_X7_bringBack_37 (k5 : Nat → Nat → Int32 → Int32 → Int32 → Mem → Option (Unit × Mem)) : Nat → Nat → Nat → Int32 → Int32 → Int32 → Nat → Int32 → Mem → Option (Unit × Mem)
  | 0, _, _, _, _, _, _, _, _ => none
  | n + 1, v0, v1, v2, v3, v4, v5, v6, M =>
    if v6 < v3 then
      f_X7_bringBack_89 k5 v0 v1 v2 v3 v4 M
    else
      if mK M v1 = 21 then
        if (Int32.ofNat (mN M v1)) ≤ v3 then
          f_X7_bringBack_89 k5 v0 v1 v2 v3 v4 M
        else
          if mK M v5 = 3 then
            if (120 : Int32) ≤ (mI M v5 3) then
              f_X7_bringBack_89 k5 v0 v1 v2 v3 v4 M
            else
              if inB v3 (mN M v1) = true then
                bnd (f_X2_unpack v5 (mI M v5 3) (mI M v1 v3.toNatClampNeg) M) fun _ M7 =>
                if mK M7 v5 = 3 then
                  ap (sI M7 v5 3 ((mI M7 v5 3) + (1 : Int32))) fun M10 =>
                  f_X7_bringBack_37 k5 n v0 v1 v2 (v3 + 1) v4 v5 v6 M10
                else none
              else none
          else none
      else none
def f_X7_bringBack_5 : Nat → Nat → Nat → Int32 → Int32 → Int32 → Mem → Option (Unit × Mem)
  | 0, _, _, _, _, _, _ => none
  | n + 1, v0, v1, v2, v3, v4, M =>
    if v2 ≤ v4 then
      f_X7_bringBack_95 v0 M
    else
      if mK M v1 = 21 then
        if (Int32.ofNat (mN M v1)) ≤ v3 then
          f_X7_bringBack_95 v0 M
        else
          if mK M v0 = 8 then
            if mK M (mR M v0 0) = 23 then
              if inB v4 (mN M (mR M v0 0)) = true then
                if inB v3 (mN M v1) = true then
                  f_X7_bringBack_37 (f_X7_bringBack_5 n) FUEL v0 v1 v2 (v3 + (1 : Int32)) v4 (mR M (mR M v0 0) v4.toNatClampNeg) (v3 + (mI M v1 v3.toNatClampNeg)) M
                else none
              else none
            else none
          else none
      else none
def f_X7_bringBack (v0 : Nat) (v1 : Nat) (v2 : Int32) (M : Mem) : Option (Unit × Mem) :=
  f_X7_bringBack_5 FUEL v0 v1 v2 (0 : Int32) (0 : Int32) M
theorem s_X7_bringBack_95 (v0 : Nat) (M : Mem) (r : (Unit × Mem)) (hf : f_X7_bringBack_95 v0 M = some r) : G mi_X7_bringBack 3 (oU r.1) r.2 95 [some (aR v0), none, none, none, none, none, none] [] M 0 0 := by
  unfold f_X7_bringBack_95 at hf
  refine g_aload_n (pc' := 96) dX7_bringBack_95 rfl rfl ?_
  refine g_dup (pc' := 97) dX7_bringBack_96 rfl rfl ?_
  obtain ⟨h1, hf⟩ := chk_s hf
  refine g_getI (pc' := 100) 7 1 rfl rfl (by decide) inX7 (by decide) rfl rfl q_351 dX7_bringBack_97 rfl h1 ?_
  refine g_iconst (pc' := 101) (1 : Int32) dX7_bringBack_100 rfl (by decide) ?_
  refine g_iadd (pc' := 102) dX7_bringBack_101 rfl ?_
  refine g_putI (pc' := 105) 7 1 rfl rfl (by decide) inX7 tyX7_ok nmX7 (by decide) rfl rfl rfl rfl q_351 dX7_bringBack_102 rfl h1 (gM fun M2 hM2 => ?_)
  have hf := ap_eq hf hM2
  cases hf
  exact g_return dX7_bringBack_105 rfl (Nat.le_of_ble_eq_true rfl) (Nat.le_of_ble_eq_true rfl)
theorem s_X7_bringBack_89 (k5 : Nat → Nat → Int32 → Int32 → Int32 → Mem → Option (Unit × Mem)) (hk5 : ∀ (v0 : Nat) (v1 : Nat) (v2 : Int32) (v3 : Int32) (v4 : Int32) (M : Mem) (r : (Unit × Mem)), k5 v0 v1 v2 v3 v4 M = some r → G mi_X7_bringBack 3 (oU r.1) r.2 5 [some (aR v0), some (aR v1), some (aI v2), some (aI v3), some (aI v4), none, none] [] M 0 0) (v0 : Nat) (v1 : Nat) (v2 : Int32) (v3 : Int32) (v4 : Int32) (M : Mem) (r : (Unit × Mem)) (hf : f_X7_bringBack_89 k5 v0 v1 v2 v3 v4 M = some r) : G mi_X7_bringBack 3 (oU r.1) r.2 89 [some (aR v0), some (aR v1), some (aI v2), some (aI v3), some (aI v4), none, none] [] M 0 0 := by
  unfold f_X7_bringBack_89 at hf
  refine g_iinc (pc' := 92) (lv' := [some (aR v0), some (aR v1), some (aI v2), some (aI v3), some (aI (v4 + 1)), none, none]) (v4 + 1) dX7_bringBack_89 rfl rfl (by rfl) rfl (by decide) rfl ?_
  refine g_goto (pc' := 5) dX7_bringBack_92 (by decide) ?_
  exact hk5 v0 v1 v2 v3 (v4 + 1) M _ hf
theorem s_X7_bringBack_37 (k5 : Nat → Nat → Int32 → Int32 → Int32 → Mem → Option (Unit × Mem)) (hk5 : ∀ (v0 : Nat) (v1 : Nat) (v2 : Int32) (v3 : Int32) (v4 : Int32) (M : Mem) (r : (Unit × Mem)), k5 v0 v1 v2 v3 v4 M = some r → G mi_X7_bringBack 3 (oU r.1) r.2 5 [some (aR v0), some (aR v1), some (aI v2), some (aI v3), some (aI v4), none, none] [] M 0 0) : ∀ (n : Nat) (v0 : Nat) (v1 : Nat) (v2 : Int32) (v3 : Int32) (v4 : Int32) (v5 : Nat) (v6 : Int32) (M : Mem) (r : (Unit × Mem)), f_X7_bringBack_37 k5 n v0 v1 v2 v3 v4 v5 v6 M = some r → G mi_X7_bringBack 3 (oU r.1) r.2 37 [some (aR v0), some (aR v1), some (aI v2), some (aI v3), some (aI v4), some (aR v5), some (aI v6)] [] M 0 0 := by
  intro n
  induction n with
  | zero => intro v0 v1 v2 v3 v4 v5 v6 M r hf; cases hf
  | succ n ih =>
    intro v0 v1 v2 v3 v4 v5 v6 M r hf
    unfold f_X7_bringBack_37 at hf
    refine g_iload_n (pc' := 38) dX7_bringBack_37 rfl rfl ?_
    refine g_iload (pc' := 40) dX7_bringBack_38 rfl rfl ?_
    refine g_icmp_gt (pc' := 43) 89 dX7_bringBack_40 rfl (by decide) (fun c1 => ?_) (fun c1 => ?_)
    · have hf := ite_t c1 hf
      refine g_mask [true, true, true, true, true, false, false] rfl ?_
      exact s_X7_bringBack_89 k5 hk5 v0 v1 v2 v3 v4 M _ hf
    · have hf := ite_f c1 hf
      refine g_iload_n (pc' := 44) dX7_bringBack_43 rfl rfl ?_
      refine g_aload_n (pc' := 45) dX7_bringBack_44 rfl rfl ?_
      obtain ⟨h2, hf⟩ := chk_s hf
      refine g_alen (pc' := 46) (t0 := 0) (fun _ => rfl) (by decide) dX7_bringBack_45 rfl h2 ?_
      refine g_icmp_ge (pc' := 49) 89 dX7_bringBack_46 rfl (by decide) (fun c3 => ?_) (fun c3 => ?_)
      · have hf := ite_t c3 hf
        refine g_mask [true, true, true, true, true, false, false] rfl ?_
        exact s_X7_bringBack_89 k5 hk5 v0 v1 v2 v3 v4 M _ hf
      · have hf := ite_f c3 hf
        refine g_aload (pc' := 51) dX7_bringBack_49 rfl rfl ?_
        obtain ⟨h4, hf⟩ := chk_s hf
        refine g_getI (pc' := 54) 2 3 rfl rfl (by decide) inX2 (by decide) rfl rfl q_353 dX7_bringBack_51 rfl h4 ?_
        refine g_bipush (pc' := 56) (120 : Int32) dX7_bringBack_54 rfl (by decide) ?_
        refine g_icmp_ge (pc' := 59) 89 dX7_bringBack_56 rfl (by decide) (fun c5 => ?_) (fun c5 => ?_)
        · have hf := ite_t c5 hf
          refine g_mask [true, true, true, true, true, false, false] rfl ?_
          exact s_X7_bringBack_89 k5 hk5 v0 v1 v2 v3 v4 M _ hf
        · have hf := ite_f c5 hf
          refine g_aload (pc' := 61) dX7_bringBack_59 rfl rfl ?_
          refine g_aload (pc' := 63) dX7_bringBack_61 rfl rfl ?_
          refine g_getI (pc' := 66) 2 3 rfl rfl (by decide) inX2 (by decide) rfl rfl q_353 dX7_bringBack_63 rfl h4 ?_
          refine g_aload_n (pc' := 67) dX7_bringBack_66 rfl rfl ?_
          refine g_iload_n (pc' := 68) dX7_bringBack_67 rfl rfl ?_
          obtain ⟨b6, hf⟩ := chk_s hf
          refine g_iald (pc' := 69) dX7_bringBack_68 rfl h2 (inB_in b6) ?_
          obtain ⟨_, M7, e8, hf⟩ := bnd_some hf
          refine g_callVv (pc' := 72) (k' := 0) (u' := 0) (fr2 := 2) (As := [aI (mI M v5 3), aI (mI M v1 v3.toNatClampNeg)]) (b := v5) (st := []) cf_X2_unpack q_1461 (by omega) (ci := 2) rfl rfl (by decide) dX7_bringBack_69 rfl rfl rfl (Nat.le_of_ble_eq_true rfl) (Or.inl rfl) (Nat.le_refl _) (Nat.le_refl _) (Nat.le_refl _) (Nat.le_refl _) h4 (s_X2_unpack v5 (mI M v5 3) (mI M v1 v3.toNatClampNeg) M _ e8) ?_
          refine g_aload (pc' := 74) dX7_bringBack_72 rfl rfl ?_
          refine g_dup (pc' := 75) dX7_bringBack_74 rfl rfl ?_
          obtain ⟨h9, hf⟩ := chk_s hf
          refine g_getI (pc' := 78) 2 3 rfl rfl (by decide) inX2 (by decide) rfl rfl q_353 dX7_bringBack_75 rfl h9 ?_
          refine g_iconst (pc' := 79) (1 : Int32) dX7_bringBack_78 rfl (by decide) ?_
          refine g_iadd (pc' := 80) dX7_bringBack_79 rfl ?_
          refine g_putI (pc' := 83) 2 3 rfl rfl (by decide) inX2 tyX2_ok nmX2 (by decide) rfl rfl rfl rfl q_353 dX7_bringBack_80 rfl h9 (gM fun M10 hM10 => ?_)
          have hf := ap_eq hf hM10
          refine g_iinc (pc' := 86) (lv' := [some (aR v0), some (aR v1), some (aI v2), some (aI (v3 + 1)), some (aI v4), some (aR v5), some (aI v6)]) (v3 + 1) dX7_bringBack_83 rfl rfl (by rfl) rfl (by decide) rfl ?_
          refine g_goto (pc' := 37) dX7_bringBack_86 (by decide) ?_
          refine g_widen (k' := 0) (u' := 0) (by omega) (by omega) ?_
          exact ih v0 v1 v2 (v3 + 1) v4 v5 v6 M10 _ hf
theorem s_X7_bringBack_5 : ∀ (n : Nat) (v0 : Nat) (v1 : Nat) (v2 : Int32) (v3 : Int32) (v4 : Int32) (M : Mem) (r : (Unit × Mem)), f_X7_bringBack_5 n v0 v1 v2 v3 v4 M = some r → G mi_X7_bringBack 3 (oU r.1) r.2 5 [some (aR v0), some (aR v1), some (aI v2), some (aI v3), some (aI v4), none, none] [] M 0 0 := by
  intro n
  induction n with
  | zero => intro v0 v1 v2 v3 v4 M r hf; cases hf
  | succ n ih =>
    intro v0 v1 v2 v3 v4 M r hf
    unfold f_X7_bringBack_5 at hf
    refine g_iload (pc' := 7) dX7_bringBack_5 rfl rfl ?_
    refine g_iload_n (pc' := 8) dX7_bringBack_7 rfl rfl ?_
    refine g_icmp_ge (pc' := 11) 95 dX7_bringBack_8 rfl (by decide) (fun c1 => ?_) (fun c1 => ?_)
    · have hf := ite_t c1 hf
      refine g_mask [true, false, false, false, false, true, true] rfl ?_
      exact s_X7_bringBack_95 v0 M _ hf
    · have hf := ite_f c1 hf
      refine g_iload_n (pc' := 12) dX7_bringBack_11 rfl rfl ?_
      refine g_aload_n (pc' := 13) dX7_bringBack_12 rfl rfl ?_
      obtain ⟨h2, hf⟩ := chk_s hf
      refine g_alen (pc' := 14) (t0 := 0) (fun _ => rfl) (by decide) dX7_bringBack_13 rfl h2 ?_
      refine g_icmp_ge (pc' := 17) 95 dX7_bringBack_14 rfl (by decide) (fun c3 => ?_) (fun c3 => ?_)
      · have hf := ite_t c3 hf
        refine g_mask [true, false, false, false, false, true, true] rfl ?_
        exact s_X7_bringBack_95 v0 M _ hf
      · have hf := ite_f c3 hf
        refine g_aload_n (pc' := 18) dX7_bringBack_17 rfl rfl ?_
        obtain ⟨h4, hf⟩ := chk_s hf
        refine g_getR (pc' := 21) 7 0 rfl rfl (by decide) inX7 (by decide) rfl rfl q_85 dX7_bringBack_18 rfl h4 ?_
        refine g_iload (pc' := 23) dX7_bringBack_21 rfl rfl ?_
        obtain ⟨h5, hf⟩ := chk_s hf
        obtain ⟨b6, hf⟩ := chk_s hf
        refine g_aald (pc' := 24) (t0 := 2) (fun _ => rfl) (by decide) dX7_bringBack_23 rfl h5 (inB_in b6) ?_
        refine g_astore (pc' := 26) (lv' := [some (aR v0), some (aR v1), some (aI v2), some (aI v3), some (aI v4), some (aR (mR M (mR M v0 0) v4.toNatClampNeg)), none]) dX7_bringBack_24 rfl rfl (by decide) rfl ?_
        refine g_iload_n (pc' := 27) dX7_bringBack_26 rfl rfl ?_
        refine g_aload_n (pc' := 28) dX7_bringBack_27 rfl rfl ?_
        refine g_iload_n (pc' := 29) dX7_bringBack_28 rfl rfl ?_
        obtain ⟨b7, hf⟩ := chk_s hf
        refine g_iald (pc' := 30) dX7_bringBack_29 rfl h2 (inB_in b7) ?_
        refine g_iadd (pc' := 31) dX7_bringBack_30 rfl ?_
        refine g_istore (pc' := 33) (lv' := [some (aR v0), some (aR v1), some (aI v2), some (aI v3), some (aI v4), some (aR (mR M (mR M v0 0) v4.toNatClampNeg)), some (aI (v3 + (mI M v1 v3.toNatClampNeg)))]) dX7_bringBack_31 rfl rfl (by decide) rfl ?_
        refine g_iload_n (pc' := 34) dX7_bringBack_33 rfl rfl ?_
        refine g_iconst (pc' := 35) (1 : Int32) dX7_bringBack_34 rfl (by decide) ?_
        refine g_iadd (pc' := 36) dX7_bringBack_35 rfl ?_
        refine g_istore_n (pc' := 37) (lv' := [some (aR v0), some (aR v1), some (aI v2), some (aI (v3 + (1 : Int32))), some (aI v4), some (aR (mR M (mR M v0 0) v4.toNatClampNeg)), some (aI (v3 + (mI M v1 v3.toNatClampNeg)))]) dX7_bringBack_36 rfl rfl (by decide) rfl ?_
        exact s_X7_bringBack_37 (f_X7_bringBack_5 n) ih FUEL v0 v1 v2 (v3 + (1 : Int32)) v4 (mR M (mR M v0 0) v4.toNatClampNeg) (v3 + (mI M v1 v3.toNatClampNeg)) M _ hf
theorem s_X7_bringBack (v0 : Nat) (v1 : Nat) (v2 : Int32) (M : Mem) (r : (Unit × Mem)) (hf : f_X7_bringBack v0 v1 v2 M = some r) : Sem mi_X7_bringBack (3) [aR v0, aR v1, aI v2] M (oU r.1) r.2 := by
  unfold f_X7_bringBack at hf
  refine sem_of (by decide) rfl rfl rfl (Nat.le_of_ble_eq_true rfl) (lv := [some (aR v0), some (aR v1), some (aI v2), none, none, none, none]) rfl ?_
  refine g_iconst (pc' := 1) (0 : Int32) dX7_bringBack_0 rfl (by decide) ?_
  refine g_istore_n (pc' := 2) (lv' := [some (aR v0), some (aR v1), some (aI v2), some (aI (0 : Int32)), none, none, none]) dX7_bringBack_1 rfl rfl (by decide) rfl ?_
  refine g_iconst (pc' := 3) (0 : Int32) dX7_bringBack_2 rfl (by decide) ?_
  refine g_istore (pc' := 5) (lv' := [some (aR v0), some (aR v1), some (aI v2), some (aI (0 : Int32)), some (aI (0 : Int32)), none, none]) dX7_bringBack_3 rfl rfl (by decide) rfl ?_
  exact s_X7_bringBack_5 FUEL v0 v1 v2 (0 : Int32) (0 : Int32) M _ hf
