abbrev mi_X12_goesThrough : MI := (yX12_goesThrough, Cond.code yX12_goesThrough cX12_goesThrough 4 (some .boolean), cX12_goesThrough, 4, (some .boolean), [], 0, 0, 0, none)
theorem cf_X12_goesThrough : CFv mi_X12_goesThrough 1 := ⟨⟨rfl, q_1383, wall_i_LeafStripesModel, ⟨by decide, by decide, by decide +kernel⟩, by decide⟩, q_1381, q_1382⟩
abbrev mi_X12_piped : MI := (yX12_piped, Cond.code yX12_piped cX12_piped 6 (some .int), cX12_piped, 6, (some .int), [], 0, 0, 0, none)
theorem cf_X12_piped : CFv mi_X12_piped 2 := ⟨⟨rfl, q_1378, wall_i_LeafStripesModel, ⟨by decide, by decide, by decide +kernel⟩, by decide⟩, q_1376, q_1377⟩
abbrev mi_X12_refuse : MI := (yX12_refuse, Cond.code yX12_refuse cX12_refuse 1 (some .int), cX12_refuse, 1, (some .int), [], 0, 0, 0, none)
theorem cf_X12_refuse : CFv mi_X12_refuse 0 := ⟨⟨rfl, q_1415, wall_i_LeafStripesModel, ⟨by decide, by decide, by decide +kernel⟩, by decide⟩, q_1413, q_1414⟩
abbrev mi_X12_drop : MI := (yX12_drop, Cond.code yX12_drop cX12_drop 2 (some .int), cX12_drop, 2, (some .int), [], 0, 0, 0, none)
theorem cf_X12_drop : CFv mi_X12_drop 0 := ⟨⟨rfl, q_1411, wall_i_LeafStripesModel, ⟨by decide, by decide, by decide +kernel⟩, by decide⟩, q_1409, q_1410⟩
abbrev mi_X12_set : MI := (yX12_set, Cond.code yX12_set cX12_set 5 (some .int), cX12_set, 5, (some .int), [], 0, 0, 0, none)
theorem cf_X12_set : CFv mi_X12_set 3 := ⟨⟨rfl, q_1426, wall_i_LeafStripesModel, ⟨by decide, by decide, by decide +kernel⟩, by decide⟩, q_1424, q_1425⟩
abbrev mi_X12_damage : MI := (yX12_damage, Cond.code yX12_damage cX12_damage 6 (some .int), cX12_damage, 6, (some .int), [], 0, 0, 0, none)
theorem cf_X12_damage : CFv mi_X12_damage 4 := ⟨⟨rfl, q_1438, wall_i_LeafStripesModel, ⟨by decide, by decide, by decide +kernel⟩, by decide⟩, q_1436, q_1437⟩
abbrev mi_X12_undo : MI := (yX12_undo, Cond.code yX12_undo cX12_undo 1 (some .int), cX12_undo, 1, (some .int), [], 0, 0, 0, none)
theorem cf_X12_undo : CFv mi_X12_undo 0 := ⟨⟨rfl, q_1469, wall_i_LeafStripesModel, ⟨by decide, by decide, by decide +kernel⟩, by decide⟩, q_1467, q_1468⟩
abbrev mi_X12_drawOf : MI := (yX12_drawOf, Cond.code yX12_drawOf cX12_drawOf 2 (some .int), cX12_drawOf, 2, (some .int), [], 0, 0, 0, none)
theorem cf_X12_drawOf : CFv mi_X12_drawOf 1 := ⟨⟨rfl, q_1545, wall_i_LeafStripesModel, ⟨by decide, by decide, by decide +kernel⟩, by decide⟩, q_1543, q_1544⟩
abbrev mi_X12_drawItem : MI := (yX12_drawItem, Cond.code yX12_drawItem cX12_drawItem 4 none, cX12_drawItem, 4, none, [], 0, 0, 0, none)
theorem cf_X12_drawItem : CFv mi_X12_drawItem 3 := ⟨⟨rfl, q_1550, wall_i_LeafStripesModel, ⟨by decide, by decide, by decide +kernel⟩, by decide⟩, q_1548, q_1549⟩
abbrev mi_X12_drawValues : MI := (yX12_drawValues, Cond.code yX12_drawValues cX12_drawValues 7 none, cX12_drawValues, 7, none, [], 0, 0, 0, none)
theorem cf_X12_drawValues : CFv mi_X12_drawValues 3 := ⟨⟨rfl, q_1541, wall_i_LeafStripesModel, ⟨by decide, by decide, by decide +kernel⟩, by decide⟩, q_1539, q_1540⟩
abbrev mi_X12_valuesSum : MI := (yX12_valuesSum, Cond.code yX12_valuesSum cX12_valuesSum 4 (some .int), cX12_valuesSum, 4, (some .int), [], 0, 0, 0, none)
theorem cf_X12_valuesSum : CFv mi_X12_valuesSum 0 := ⟨⟨rfl, q_1554, wall_i_LeafStripesModel, ⟨by decide, by decide, by decide +kernel⟩, by decide⟩, q_1552, q_1553⟩
abbrev mi_X12_years : MI := (yX12_years, Cond.code yX12_years cX12_years 5 (some .int), cX12_years, 5, (some .int), [], 0, 0, 0, none)
theorem cf_X12_years : CFv mi_X12_years 3 := ⟨⟨rfl, q_1534, wall_i_LeafStripesModel, ⟨by decide, by decide, by decide +kernel⟩, by decide⟩, q_1532, q_1533⟩
abbrev mi_X12_copyTo : MI := (yX12_copyTo, Cond.code yX12_copyTo cX12_copyTo 3 none, cX12_copyTo, 3, none, [], 0, 0, 0, none)
theorem cf_X12_copyTo : CFs mi_X12_copyTo 2 := ⟨⟨rfl, q_1577, wall_i_LeafStripesModel, ⟨by decide, by decide, by decide +kernel⟩, by decide⟩, q_1576⟩
abbrev mi_X12_image : MI := (yX12_image, Cond.code yX12_image cX12_image 1 none, cX12_image, 1, none, [], 0, 0, 0, none)
theorem cf_X12_image : CFv mi_X12_image 0 := ⟨⟨rfl, q_1573, wall_i_LeafStripesModel, ⟨by decide, by decide, by decide +kernel⟩, by decide⟩, q_1571, q_1572⟩
abbrev mi_X12_restore : MI := (yX12_restore, Cond.code yX12_restore cX12_restore 1 (some .boolean), cX12_restore, 1, (some .boolean), [], 0, 0, 0, none)
theorem cf_X12_restore : CFv mi_X12_restore 0 := ⟨⟨rfl, q_1585, wall_i_LeafStripesModel, ⟨by decide, by decide, by decide +kernel⟩, by decide⟩, q_1583, q_1584⟩
def f_X12_goesThrough (v0 : Nat) (v1 : Int32) (M : Mem) : Option (Int32 × Mem) :=
  if mK M v0 = 13 then
    if mK M (mR M v0 45) = 21 then
      if inB v1 (mN M (mR M v0 45)) = true then
        if mK M (mR M v0 46) = 21 then
          if inB v1 (mN M (mR M v0 46)) = true then
            ap (sI M (mR M v0 46) v1.toNatClampNeg ((mI M (mR M v0 46) v1.toNatClampNeg) + (1 : Int32))) fun M6 =>
            if mK M6 v0 = 13 then
              if mK M6 (mR M6 v0 44) = 21 then
                if inB v1 (mN M6 (mR M6 v0 44)) = true then
                  if (mI M6 (mR M6 v0 44) v1.toNatClampNeg) = (0 : Int32) then
                    ap (sI M6 v0 48 ((mI M6 v0 48) + (mI M (mR M v0 45) v1.toNatClampNeg))) fun M11 =>
                    some ((1 : Int32), M11)
                  else
                  if (mI M6 (mR M6 v0 44) v1.toNatClampNeg) = (1 : Int32) then
                    ap (sI M6 v0 48 ((mI M6 v0 48) * (mI M (mR M v0 45) v1.toNatClampNeg))) fun M13 =>
                    some ((1 : Int32), M13)
                  else
                  if (mI M6 (mR M6 v0 44) v1.toNatClampNeg) = (2 : Int32) then
                    if ¬ (mI M (mR M v0 45) v1.toNatClampNeg) = 0 then
                    ap (sI M6 v0 48 ((mI M6 v0 48) - (mI M6 v0 48) / (mI M (mR M v0 45) v1.toNatClampNeg) * (mI M (mR M v0 45) v1.toNatClampNeg))) fun M16 =>
                    some ((1 : Int32), M16)
                    else none
                  else
                  if (mI M6 (mR M6 v0 44) v1.toNatClampNeg) = (3 : Int32) then
                    if (mI M (mR M v0 45) v1.toNatClampNeg) ≤ (mI M6 v0 48) then
                      some ((0 : Int32), M6)
                    else
                      some ((1 : Int32), M6)
                  else
                  if (mI M6 (mR M6 v0 44) v1.toNatClampNeg) = (4 : Int32) then
                    if (mI M6 v0 48) ≤ (mI M (mR M v0 45) v1.toNatClampNeg) then
                      some ((0 : Int32), M6)
                    else
                      some ((1 : Int32), M6)
                  else
                  if (mI M6 (mR M6 v0 44) v1.toNatClampNeg) = (5 : Int32) then
                    if (mI M (mR M v0 45) v1.toNatClampNeg) ≤ (mI M (mR M v0 46) v1.toNatClampNeg) then
                      some ((0 : Int32), M6)
                    else
                      some ((1 : Int32), M6)
                  else
                  if ¬ ((mI M (mR M v0 45) v1.toNatClampNeg) + (1 : Int32)) = 0 then
                  if ((mI M (mR M v0 46) v1.toNatClampNeg) - (mI M (mR M v0 46) v1.toNatClampNeg) / ((mI M (mR M v0 45) v1.toNatClampNeg) + (1 : Int32)) * ((mI M (mR M v0 45) v1.toNatClampNeg) + (1 : Int32))) = 0 then
                    some ((1 : Int32), M6)
                  else
                    some ((0 : Int32), M6)
                  else none
                else none
              else none
            else none
          else none
        else none
      else none
    else none
  else none
theorem s_X12_goesThrough (v0 : Nat) (v1 : Int32) (M : Mem) (r : (Int32 × Mem)) (hf : f_X12_goesThrough v0 v1 M = some r) : Sem mi_X12_goesThrough (1) [aR v0, aI v1] M (oI r.1) r.2 := by
  unfold f_X12_goesThrough at hf
  refine sem_of (by decide) rfl rfl rfl (Nat.le_of_ble_eq_true rfl) (lv := [some (aR v0), some (aI v1), none, none]) rfl ?_
  refine g_aload_n (pc' := 1) dX12_goesThrough_0 rfl rfl ?_
  obtain ⟨h1, hf⟩ := chk_s hf
  refine g_getR (pc' := 4) 12 45 rfl rfl (by decide) inX12 (by decide) rfl rfl q_148 dX12_goesThrough_1 rfl h1 ?_
  refine g_iload_n (pc' := 5) dX12_goesThrough_4 rfl rfl ?_
  obtain ⟨h2, hf⟩ := chk_s hf
  obtain ⟨b3, hf⟩ := chk_s hf
  refine g_iald (pc' := 6) dX12_goesThrough_5 rfl h2 (inB_in b3) ?_
  refine g_istore_n (pc' := 7) (lv' := [some (aR v0), some (aI v1), some (aI (mI M (mR M v0 45) v1.toNatClampNeg)), none]) dX12_goesThrough_6 rfl rfl (by decide) rfl ?_
  refine g_aload_n (pc' := 8) dX12_goesThrough_7 rfl rfl ?_
  refine g_getR (pc' := 11) 12 46 rfl rfl (by decide) inX12 (by decide) rfl rfl q_149 dX12_goesThrough_8 rfl h1 ?_
  refine g_iload_n (pc' := 12) dX12_goesThrough_11 rfl rfl ?_
  obtain ⟨h4, hf⟩ := chk_s hf
  obtain ⟨b5, hf⟩ := chk_s hf
  refine g_iald (pc' := 13) dX12_goesThrough_12 rfl h4 (inB_in b5) ?_
  refine g_istore_n (pc' := 14) (lv' := [some (aR v0), some (aI v1), some (aI (mI M (mR M v0 45) v1.toNatClampNeg)), some (aI (mI M (mR M v0 46) v1.toNatClampNeg))]) dX12_goesThrough_13 rfl rfl (by decide) rfl ?_
  refine g_aload_n (pc' := 15) dX12_goesThrough_14 rfl rfl ?_
  refine g_getR (pc' := 18) 12 46 rfl rfl (by decide) inX12 (by decide) rfl rfl q_149 dX12_goesThrough_15 rfl h1 ?_
  refine g_iload_n (pc' := 19) dX12_goesThrough_18 rfl rfl ?_
  refine g_dup2 (pc' := 20) dX12_goesThrough_19 rfl rfl rfl ?_
  refine g_iald (pc' := 21) dX12_goesThrough_20 rfl h4 (inB_in b5) ?_
  refine g_iconst (pc' := 22) (1 : Int32) dX12_goesThrough_21 rfl (by decide) ?_
  refine g_iadd (pc' := 23) dX12_goesThrough_22 rfl ?_
  refine g_iast (pc' := 24) dX12_goesThrough_23 rfl h4 (inB_in b5) (gM fun M6 hM6 => ?_)
  have hf := ap_eq hf hM6
  refine g_aload_n (pc' := 25) dX12_goesThrough_24 rfl rfl ?_
  obtain ⟨h7, hf⟩ := chk_s hf
  refine g_getR (pc' := 28) 12 44 rfl rfl (by decide) inX12 (by decide) rfl rfl q_147 dX12_goesThrough_25 rfl h7 ?_
  refine g_iload_n (pc' := 29) dX12_goesThrough_28 rfl rfl ?_
  obtain ⟨h8, hf⟩ := chk_s hf
  obtain ⟨b9, hf⟩ := chk_s hf
  refine g_iald (pc' := 30) dX12_goesThrough_29 rfl h8 (inB_in b9) ?_
  by_cases c10 : (mI M6 (mR M6 v0 44) v1.toNatClampNeg) = (0 : Int32)
  · have hf := ite_t c10 hf
    refine g_tsw (pc' := 68) (0 : Int32) dX12_goesThrough_30 c10 (by decide) (by decide) rfl (by decide) ?_
    refine g_aload_n (pc' := 69) dX12_goesThrough_68 rfl rfl ?_
    refine g_dup (pc' := 70) dX12_goesThrough_69 rfl rfl ?_
    refine g_getI (pc' := 73) 12 48 rfl rfl (by decide) inX12 (by decide) rfl rfl q_1379 dX12_goesThrough_70 rfl h7 ?_
    refine g_iload_n (pc' := 74) dX12_goesThrough_73 rfl rfl ?_
    refine g_iadd (pc' := 75) dX12_goesThrough_74 rfl ?_
    refine g_putI (pc' := 78) 12 48 rfl rfl (by decide) inX12 tyX12_ok nmX12 (by decide) rfl rfl rfl rfl q_1379 dX12_goesThrough_75 rfl h7 (gM fun M11 hM11 => ?_)
    have hf := ap_eq hf hM11
    refine g_iconst (pc' := 79) (1 : Int32) dX12_goesThrough_78 rfl (by decide) ?_
    cases hf
    exact g_zreturn dX12_goesThrough_79 rfl (Or.inr rfl) (Nat.le_of_ble_eq_true rfl) (Nat.le_of_ble_eq_true rfl)
  have hf := ite_f c10 hf
  by_cases c12 : (mI M6 (mR M6 v0 44) v1.toNatClampNeg) = (1 : Int32)
  · have hf := ite_t c12 hf
    refine g_tsw (pc' := 80) (1 : Int32) dX12_goesThrough_30 c12 (by decide) (by decide) rfl (by decide) ?_
    refine g_aload_n (pc' := 81) dX12_goesThrough_80 rfl rfl ?_
    refine g_dup (pc' := 82) dX12_goesThrough_81 rfl rfl ?_
    refine g_getI (pc' := 85) 12 48 rfl rfl (by decide) inX12 (by decide) rfl rfl q_1379 dX12_goesThrough_82 rfl h7 ?_
    refine g_iload_n (pc' := 86) dX12_goesThrough_85 rfl rfl ?_
    refine g_imul (pc' := 87) dX12_goesThrough_86 rfl ?_
    refine g_putI (pc' := 90) 12 48 rfl rfl (by decide) inX12 tyX12_ok nmX12 (by decide) rfl rfl rfl rfl q_1379 dX12_goesThrough_87 rfl h7 (gM fun M13 hM13 => ?_)
    have hf := ap_eq hf hM13
    refine g_iconst (pc' := 91) (1 : Int32) dX12_goesThrough_90 rfl (by decide) ?_
    cases hf
    exact g_zreturn dX12_goesThrough_91 rfl (Or.inr rfl) (Nat.le_of_ble_eq_true rfl) (Nat.le_of_ble_eq_true rfl)
  have hf := ite_f c12 hf
  by_cases c14 : (mI M6 (mR M6 v0 44) v1.toNatClampNeg) = (2 : Int32)
  · have hf := ite_t c14 hf
    refine g_tsw (pc' := 92) (2 : Int32) dX12_goesThrough_30 c14 (by decide) (by decide) rfl (by decide) ?_
    refine g_aload_n (pc' := 93) dX12_goesThrough_92 rfl rfl ?_
    refine g_dup (pc' := 94) dX12_goesThrough_93 rfl rfl ?_
    refine g_getI (pc' := 97) 12 48 rfl rfl (by decide) inX12 (by decide) rfl rfl q_1379 dX12_goesThrough_94 rfl h7 ?_
    refine g_iload_n (pc' := 98) dX12_goesThrough_97 rfl rfl ?_
    obtain ⟨hz15, hf⟩ := chk_s hf
    refine g_irem (pc' := 99) dX12_goesThrough_98 rfl hz15 ?_
    refine g_putI (pc' := 102) 12 48 rfl rfl (by decide) inX12 tyX12_ok nmX12 (by decide) rfl rfl rfl rfl q_1379 dX12_goesThrough_99 rfl h7 (gM fun M16 hM16 => ?_)
    have hf := ap_eq hf hM16
    refine g_iconst (pc' := 103) (1 : Int32) dX12_goesThrough_102 rfl (by decide) ?_
    cases hf
    exact g_zreturn dX12_goesThrough_103 rfl (Or.inr rfl) (Nat.le_of_ble_eq_true rfl) (Nat.le_of_ble_eq_true rfl)
  have hf := ite_f c14 hf
  by_cases c17 : (mI M6 (mR M6 v0 44) v1.toNatClampNeg) = (3 : Int32)
  · have hf := ite_t c17 hf
    refine g_tsw (pc' := 104) (3 : Int32) dX12_goesThrough_30 c17 (by decide) (by decide) rfl (by decide) ?_
    refine g_aload_n (pc' := 105) dX12_goesThrough_104 rfl rfl ?_
    refine g_getI (pc' := 108) 12 48 rfl rfl (by decide) inX12 (by decide) rfl rfl q_1379 dX12_goesThrough_105 rfl h7 ?_
    refine g_iload_n (pc' := 109) dX12_goesThrough_108 rfl rfl ?_
    refine g_icmp_ge (pc' := 112) 116 dX12_goesThrough_109 rfl (by decide) (fun c18 => ?_) (fun c18 => ?_)
    · have hf := ite_t c18 hf
      refine g_iconst (pc' := 117) (0 : Int32) dX12_goesThrough_116 rfl (by decide) ?_
      cases hf
      exact g_zreturn dX12_goesThrough_117 rfl (Or.inl rfl) (Nat.le_of_ble_eq_true rfl) (Nat.le_of_ble_eq_true rfl)
    · have hf := ite_f c18 hf
      refine g_iconst (pc' := 113) (1 : Int32) dX12_goesThrough_112 rfl (by decide) ?_
      refine g_goto (pc' := 117) dX12_goesThrough_113 (by decide) ?_
      cases hf
      exact g_zreturn dX12_goesThrough_117 rfl (Or.inr rfl) (Nat.le_of_ble_eq_true rfl) (Nat.le_of_ble_eq_true rfl)
  have hf := ite_f c17 hf
  by_cases c19 : (mI M6 (mR M6 v0 44) v1.toNatClampNeg) = (4 : Int32)
  · have hf := ite_t c19 hf
    refine g_tsw (pc' := 118) (4 : Int32) dX12_goesThrough_30 c19 (by decide) (by decide) rfl (by decide) ?_
    refine g_aload_n (pc' := 119) dX12_goesThrough_118 rfl rfl ?_
    refine g_getI (pc' := 122) 12 48 rfl rfl (by decide) inX12 (by decide) rfl rfl q_1379 dX12_goesThrough_119 rfl h7 ?_
    refine g_iload_n (pc' := 123) dX12_goesThrough_122 rfl rfl ?_
    refine g_icmp_le (pc' := 126) 130 dX12_goesThrough_123 rfl (by decide) (fun c20 => ?_) (fun c20 => ?_)
    · have hf := ite_t c20 hf
      refine g_iconst (pc' := 131) (0 : Int32) dX12_goesThrough_130 rfl (by decide) ?_
      cases hf
      exact g_zreturn dX12_goesThrough_131 rfl (Or.inl rfl) (Nat.le_of_ble_eq_true rfl) (Nat.le_of_ble_eq_true rfl)
    · have hf := ite_f c20 hf
      refine g_iconst (pc' := 127) (1 : Int32) dX12_goesThrough_126 rfl (by decide) ?_
      refine g_goto (pc' := 131) dX12_goesThrough_127 (by decide) ?_
      cases hf
      exact g_zreturn dX12_goesThrough_131 rfl (Or.inr rfl) (Nat.le_of_ble_eq_true rfl) (Nat.le_of_ble_eq_true rfl)
  have hf := ite_f c19 hf
  by_cases c21 : (mI M6 (mR M6 v0 44) v1.toNatClampNeg) = (5 : Int32)
  · have hf := ite_t c21 hf
    refine g_tsw (pc' := 132) (5 : Int32) dX12_goesThrough_30 c21 (by decide) (by decide) rfl (by decide) ?_
    refine g_iload_n (pc' := 133) dX12_goesThrough_132 rfl rfl ?_
    refine g_iload_n (pc' := 134) dX12_goesThrough_133 rfl rfl ?_
    refine g_icmp_ge (pc' := 137) 141 dX12_goesThrough_134 rfl (by decide) (fun c22 => ?_) (fun c22 => ?_)
    · have hf := ite_t c22 hf
      refine g_iconst (pc' := 142) (0 : Int32) dX12_goesThrough_141 rfl (by decide) ?_
      cases hf
      exact g_zreturn dX12_goesThrough_142 rfl (Or.inl rfl) (Nat.le_of_ble_eq_true rfl) (Nat.le_of_ble_eq_true rfl)
    · have hf := ite_f c22 hf
      refine g_iconst (pc' := 138) (1 : Int32) dX12_goesThrough_137 rfl (by decide) ?_
      refine g_goto (pc' := 142) dX12_goesThrough_138 (by decide) ?_
      cases hf
      exact g_zreturn dX12_goesThrough_142 rfl (Or.inr rfl) (Nat.le_of_ble_eq_true rfl) (Nat.le_of_ble_eq_true rfl)
  have hf := ite_f c21 hf
  have nc10 := nei c10 (z := 0) (by decide)
  have nc12 := nei c12 (z := 1) (by decide)
  have nc14 := nei c14 (z := 2) (by decide)
  have nc17 := nei c17 (z := 3) (by decide)
  have nc19 := nei c19 (z := 4) (by decide)
  have nc21 := nei c21 (z := 5) (by decide)
  refine g_tableOut (pc' := 143) dX12_goesThrough_30 (by omega) (by decide) ?_
  refine g_iload_n (pc' := 144) dX12_goesThrough_143 rfl rfl ?_
  refine g_iload_n (pc' := 145) dX12_goesThrough_144 rfl rfl ?_
  refine g_iconst (pc' := 146) (1 : Int32) dX12_goesThrough_145 rfl (by decide) ?_
  refine g_iadd (pc' := 147) dX12_goesThrough_146 rfl ?_
  obtain ⟨hz23, hf⟩ := chk_s hf
  refine g_irem (pc' := 148) dX12_goesThrough_147 rfl hz23 ?_
  refine g_if_ne (pc' := 151) 155 dX12_goesThrough_148 rfl (by decide) (fun c24 => ?_) (fun c24 => ?_)
  · have hf := ite_f c24 hf
    refine g_iconst (pc' := 156) (0 : Int32) dX12_goesThrough_155 rfl (by decide) ?_
    cases hf
    exact g_zreturn dX12_goesThrough_156 rfl (Or.inl rfl) (Nat.le_of_ble_eq_true rfl) (Nat.le_of_ble_eq_true rfl)
  · have hf := ite_t c24 hf
    refine g_iconst (pc' := 152) (1 : Int32) dX12_goesThrough_151 rfl (by decide) ?_
    refine g_goto (pc' := 156) dX12_goesThrough_152 (by decide) ?_
    cases hf
    exact g_zreturn dX12_goesThrough_156 rfl (Or.inr rfl) (Nat.le_of_ble_eq_true rfl) (Nat.le_of_ble_eq_true rfl)
def f_X12_piped_135 (k48 : Nat → Int32 → Int32 → Int32 → Int32 → Mem → Option (Int32 × Mem)) (v0 : Nat) (v1 : Int32) (v2 : Int32) (v3 : Int32) (v4 : Int32) (M : Mem) : Option (Int32 × Mem) :=
  k48 v0 v1 v2 v3 (v4 + 1) M
def f_X12_piped_110 (k48 : Nat → Int32 → Int32 → Int32 → Int32 → Mem → Option (Int32 × Mem)) (v0 : Nat) (v1 : Int32) (v2 : Int32) (v3 : Int32) (v4 : Int32) (v5 : Int32) (M : Mem) : Option (Int32 × Mem) :=
  if mK M v0 = 13 then
    if (mI M v0 47) ≤ v5 then
      if v3 = v2 then
        some (mI M v0 48, M)
      else
        f_X12_piped_135 k48 v0 v1 v2 (v3 + 1) v4 M
    else
      f_X12_piped_135 k48 v0 v1 v2 v3 v4 M
  else none
def f_X12_piped_86 (k48 : Nat → Int32 → Int32 → Int32 → Int32 → Mem → Option (Int32 × Mem)) : Nat → Nat → Int32 → Int32 → Int32 → Int32 → Int32 → Mem → Option (Int32 × Mem)
  | 0, _, _, _, _, _, _, _ => none
  | n + 1, v0, v1, v2, v3, v4, v5, M =>
    if mK M v0 = 13 then
      if (mI M v0 47) ≤ v5 then
        f_X12_piped_110 k48 v0 v1 v2 v3 v4 v5 M
      else
        bnd (f_X12_goesThrough v0 v5 M) fun r4 M3 =>
        if r4 = 0 then
          f_X12_piped_110 k48 v0 v1 v2 v3 v4 v5 M3
        else
          f_X12_piped_86 k48 n v0 v1 v2 v3 v4 (v5 + 1) M3
    else none
def f_X12_piped_48 : Nat → Nat → Int32 → Int32 → Int32 → Int32 → Mem → Option (Int32 × Mem)
  | 0, _, _, _, _, _, _ => none
  | n + 1, v0, v1, v2, v3, v4, M =>
    if mK M v0 = 13 then
      if mK M (mR M v0 28) = 21 then
        if inB v1 (mN M (mR M v0 28)) = true then
          if (mI M (mR M v0 28) v1.toNatClampNeg) ≤ v4 then
            if v2 = (-1 : Int32) then
              some (v3, M)
            else
              bnd (f_X12_fail v0 (1 : Int32) M) fun r7 M6 =>
              some (r7, M6)
          else
            bnd (f_X12_hasValue v0 v1 v4 M) fun r9 M8 =>
            if r9 = 0 then
              f_X12_piped_135 (f_X12_piped_48 n) v0 v1 v2 v3 v4 M8
            else
              if mK M8 v0 = 13 then
                bnd (f_X12_valueAt v0 v1 v4 M8) fun r13 M12 =>
                if mK M12 v0 = 13 then
                  ap (sI M12 v0 48 r13) fun M15 =>
                  f_X12_piped_86 (f_X12_piped_48 n) FUEL v0 v1 v2 v3 v4 (0 : Int32) M15
                else none
              else none
        else none
      else none
    else none
def f_X12_piped_24 : Nat → Nat → Int32 → Int32 → Int32 → Int32 → Mem → Option (Int32 × Mem)
  | 0, _, _, _, _, _, _ => none
  | n + 1, v0, v1, v2, v3, v4, M =>
    if (8 : Int32) ≤ v4 then
      f_X12_piped_48 FUEL v0 v1 v2 v3 (0 : Int32) M
    else
      if mK M v0 = 13 then
        if mK M (mR M v0 46) = 21 then
          if inB v4 (mN M (mR M v0 46)) = true then
            ap (sI M (mR M v0 46) v4.toNatClampNeg (0 : Int32)) fun M5 =>
            f_X12_piped_24 n v0 v1 v2 v3 (v4 + 1) M5
          else none
        else none
      else none
def f_X12_piped (v0 : Nat) (v1 : Int32) (v2 : Int32) (M : Mem) : Option (Int32 × Mem) :=
  if mK M v0 = 13 then
    ap (sI M v0 2 (0 : Int32)) fun M2 =>
    if mK M2 v0 = 13 then
      bnd (f_X12_isLeaf v0 v1 M2) fun r5 M4 =>
      if r5 = 0 then
        if mK M4 v0 = 13 then
          bnd (f_X12_fail v0 (1 : Int32) M4) fun r9 M8 =>
          some (r9, M8)
        else none
      else
        f_X12_piped_24 FUEL v0 v1 v2 (0 : Int32) (0 : Int32) M4
    else none
  else none
theorem s_X12_piped_135 (k48 : Nat → Int32 → Int32 → Int32 → Int32 → Mem → Option (Int32 × Mem)) (hk48 : ∀ (v0 : Nat) (v1 : Int32) (v2 : Int32) (v3 : Int32) (v4 : Int32) (M : Mem) (r : (Int32 × Mem)), k48 v0 v1 v2 v3 v4 M = some r → G mi_X12_piped 3 (oI r.1) r.2 48 [some (aR v0), some (aI v1), some (aI v2), some (aI v3), some (aI v4), none] [] M 0 0) (v0 : Nat) (v1 : Int32) (v2 : Int32) (v3 : Int32) (v4 : Int32) (M : Mem) (r : (Int32 × Mem)) (hf : f_X12_piped_135 k48 v0 v1 v2 v3 v4 M = some r) : G mi_X12_piped 3 (oI r.1) r.2 135 [some (aR v0), some (aI v1), some (aI v2), some (aI v3), some (aI v4), none] [] M 0 0 := by
  unfold f_X12_piped_135 at hf
  refine g_iinc (pc' := 138) (lv' := [some (aR v0), some (aI v1), some (aI v2), some (aI v3), some (aI (v4 + 1)), none]) (v4 + 1) dX12_piped_135 rfl rfl (by rfl) rfl (by decide) rfl ?_
  refine g_goto (pc' := 48) dX12_piped_138 (by decide) ?_
  exact hk48 v0 v1 v2 v3 (v4 + 1) M _ hf
theorem s_X12_piped_110 (k48 : Nat → Int32 → Int32 → Int32 → Int32 → Mem → Option (Int32 × Mem)) (hk48 : ∀ (v0 : Nat) (v1 : Int32) (v2 : Int32) (v3 : Int32) (v4 : Int32) (M : Mem) (r : (Int32 × Mem)), k48 v0 v1 v2 v3 v4 M = some r → G mi_X12_piped 3 (oI r.1) r.2 48 [some (aR v0), some (aI v1), some (aI v2), some (aI v3), some (aI v4), none] [] M 0 0) (v0 : Nat) (v1 : Int32) (v2 : Int32) (v3 : Int32) (v4 : Int32) (v5 : Int32) (M : Mem) (r : (Int32 × Mem)) (hf : f_X12_piped_110 k48 v0 v1 v2 v3 v4 v5 M = some r) : G mi_X12_piped 3 (oI r.1) r.2 110 [some (aR v0), some (aI v1), some (aI v2), some (aI v3), some (aI v4), some (aI v5)] [] M 0 0 := by
  unfold f_X12_piped_110 at hf
  refine g_iload (pc' := 112) dX12_piped_110 rfl rfl ?_
  refine g_aload_n (pc' := 113) dX12_piped_112 rfl rfl ?_
  obtain ⟨h1, hf⟩ := chk_s hf
  refine g_getI (pc' := 116) 12 47 rfl rfl (by decide) inX12 (by decide) rfl rfl q_363 dX12_piped_113 rfl h1 ?_
  refine g_icmp_ge (pc' := 119) 122 dX12_piped_116 rfl (by decide) (fun c2 => ?_) (fun c2 => ?_)
  · have hf := ite_t c2 hf
    refine g_iload_n (pc' := 123) dX12_piped_122 rfl rfl ?_
    refine g_iload_n (pc' := 124) dX12_piped_123 rfl rfl ?_
    refine g_icmp_ne (pc' := 127) 132 dX12_piped_124 rfl (by decide) (fun c3 => ?_) (fun c3 => ?_)
    · have hf := ite_f c3 hf
      refine g_iinc (pc' := 135) (lv' := [some (aR v0), some (aI v1), some (aI v2), some (aI (v3 + 1)), some (aI v4), some (aI v5)]) (v3 + 1) dX12_piped_132 rfl rfl (by rfl) rfl (by decide) rfl ?_
      refine g_mask [true, true, true, true, true, false] rfl ?_
      exact s_X12_piped_135 k48 hk48 v0 v1 v2 (v3 + 1) v4 M _ hf
    · have hf := ite_t c3 hf
      refine g_aload_n (pc' := 128) dX12_piped_127 rfl rfl ?_
      refine g_getI (pc' := 131) 12 48 rfl rfl (by decide) inX12 (by decide) rfl rfl q_1379 dX12_piped_128 rfl h1 ?_
      cases hf
      exact g_ireturn dX12_piped_131 rfl (Nat.le_of_ble_eq_true rfl) (Nat.le_of_ble_eq_true rfl)
  · have hf := ite_f c2 hf
    refine g_goto (pc' := 135) dX12_piped_119 (by decide) ?_
    refine g_mask [true, true, true, true, true, false] rfl ?_
    exact s_X12_piped_135 k48 hk48 v0 v1 v2 v3 v4 M _ hf
theorem s_X12_piped_86 (k48 : Nat → Int32 → Int32 → Int32 → Int32 → Mem → Option (Int32 × Mem)) (hk48 : ∀ (v0 : Nat) (v1 : Int32) (v2 : Int32) (v3 : Int32) (v4 : Int32) (M : Mem) (r : (Int32 × Mem)), k48 v0 v1 v2 v3 v4 M = some r → G mi_X12_piped 3 (oI r.1) r.2 48 [some (aR v0), some (aI v1), some (aI v2), some (aI v3), some (aI v4), none] [] M 0 0) : ∀ (n : Nat) (v0 : Nat) (v1 : Int32) (v2 : Int32) (v3 : Int32) (v4 : Int32) (v5 : Int32) (M : Mem) (r : (Int32 × Mem)), f_X12_piped_86 k48 n v0 v1 v2 v3 v4 v5 M = some r → G mi_X12_piped 3 (oI r.1) r.2 86 [some (aR v0), some (aI v1), some (aI v2), some (aI v3), some (aI v4), some (aI v5)] [] M 0 0 := by
  intro n
  induction n with
  | zero => intro v0 v1 v2 v3 v4 v5 M r hf; cases hf
  | succ n ih =>
    intro v0 v1 v2 v3 v4 v5 M r hf
    unfold f_X12_piped_86 at hf
    refine g_iload (pc' := 88) dX12_piped_86 rfl rfl ?_
    refine g_aload_n (pc' := 89) dX12_piped_88 rfl rfl ?_
    obtain ⟨h1, hf⟩ := chk_s hf
    refine g_getI (pc' := 92) 12 47 rfl rfl (by decide) inX12 (by decide) rfl rfl q_363 dX12_piped_89 rfl h1 ?_
    refine g_icmp_ge (pc' := 95) 110 dX12_piped_92 rfl (by decide) (fun c2 => ?_) (fun c2 => ?_)
    · have hf := ite_t c2 hf
      exact s_X12_piped_110 k48 hk48 v0 v1 v2 v3 v4 v5 M _ hf
    · have hf := ite_f c2 hf
      refine g_aload_n (pc' := 96) dX12_piped_95 rfl rfl ?_
      refine g_iload (pc' := 98) dX12_piped_96 rfl rfl ?_
      obtain ⟨r4, M3, e4, hf⟩ := bnd_some hf
      refine g_callVi (pc' := 101) (k' := 0) (u' := 0) (fr2 := 1) (As := [aI v5]) (b := v0) (st := []) cf_X12_goesThrough q_1380 (by omega) (ci := 12) rfl rfl (by decide) dX12_piped_98 rfl rfl rfl (Nat.le_of_ble_eq_true rfl) (Or.inl rfl) (Nat.le_refl _) (Nat.le_refl _) (Nat.le_refl _) (Nat.le_refl _) h1 (s_X12_goesThrough v0 v5 M _ e4) ?_
      refine g_if_eq (pc' := 104) 110 dX12_piped_101 rfl (by decide) (fun c5 => ?_) (fun c5 => ?_)
      · have hf := ite_t c5 hf
        refine g_widen (k' := 0) (u' := 0) (by omega) (by omega) ?_
        exact s_X12_piped_110 k48 hk48 v0 v1 v2 v3 v4 v5 M3 _ hf
      · have hf := ite_f c5 hf
        refine g_iinc (pc' := 107) (lv' := [some (aR v0), some (aI v1), some (aI v2), some (aI v3), some (aI v4), some (aI (v5 + 1))]) (v5 + 1) dX12_piped_104 rfl rfl (by rfl) rfl (by decide) rfl ?_
        refine g_goto (pc' := 86) dX12_piped_107 (by decide) ?_
        refine g_widen (k' := 0) (u' := 0) (by omega) (by omega) ?_
        exact ih v0 v1 v2 v3 v4 (v5 + 1) M3 _ hf
theorem s_X12_piped_48 : ∀ (n : Nat) (v0 : Nat) (v1 : Int32) (v2 : Int32) (v3 : Int32) (v4 : Int32) (M : Mem) (r : (Int32 × Mem)), f_X12_piped_48 n v0 v1 v2 v3 v4 M = some r → G mi_X12_piped 3 (oI r.1) r.2 48 [some (aR v0), some (aI v1), some (aI v2), some (aI v3), some (aI v4), none] [] M 0 0 := by
  intro n
  induction n with
  | zero => intro v0 v1 v2 v3 v4 M r hf; cases hf
  | succ n ih =>
    intro v0 v1 v2 v3 v4 M r hf
    unfold f_X12_piped_48 at hf
    refine g_iload (pc' := 50) dX12_piped_48 rfl rfl ?_
    refine g_aload_n (pc' := 51) dX12_piped_50 rfl rfl ?_
    obtain ⟨h1, hf⟩ := chk_s hf
    refine g_getR (pc' := 54) 12 28 rfl rfl (by decide) inX12 (by decide) rfl rfl q_139 dX12_piped_51 rfl h1 ?_
    refine g_iload_n (pc' := 55) dX12_piped_54 rfl rfl ?_
    obtain ⟨h2, hf⟩ := chk_s hf
    obtain ⟨b3, hf⟩ := chk_s hf
    refine g_iald (pc' := 56) dX12_piped_55 rfl h2 (inB_in b3) ?_
    refine g_icmp_ge (pc' := 59) 141 dX12_piped_56 rfl (by decide) (fun c4 => ?_) (fun c4 => ?_)
    · have hf := ite_t c4 hf
      refine g_iload_n (pc' := 142) dX12_piped_141 rfl rfl ?_
      refine g_iconst (pc' := 143) (-1 : Int32) dX12_piped_142 rfl (by decide) ?_
      refine g_icmp_ne (pc' := 146) 150 dX12_piped_143 rfl (by decide) (fun c5 => ?_) (fun c5 => ?_)
      · have hf := ite_f c5 hf
        refine g_aload_n (pc' := 151) dX12_piped_150 rfl rfl ?_
        refine g_iconst (pc' := 152) (1 : Int32) dX12_piped_151 rfl (by decide) ?_
        obtain ⟨r7, M6, e7, hf⟩ := bnd_some hf
        refine g_callVi (pc' := 155) (k' := 0) (u' := 0) (fr2 := 1) (As := [aI (1 : Int32)]) (b := v0) (st := []) cf_X12_fail q_904 (by omega) (ci := 12) rfl rfl (by decide) dX12_piped_152 rfl rfl rfl (Nat.le_of_ble_eq_true rfl) (Or.inl rfl) (Nat.le_refl _) (Nat.le_refl _) (Nat.le_refl _) (Nat.le_refl _) h1 (s_X12_fail v0 (1 : Int32) M _ e7) ?_
        cases hf
        exact g_ireturn dX12_piped_155 rfl (Nat.le_of_ble_eq_true rfl) (Nat.le_of_ble_eq_true rfl)
      · have hf := ite_t c5 hf
        refine g_iload_n (pc' := 147) dX12_piped_146 rfl rfl ?_
        refine g_goto (pc' := 155) dX12_piped_147 (by decide) ?_
        cases hf
        exact g_ireturn dX12_piped_155 rfl (Nat.le_of_ble_eq_true rfl) (Nat.le_of_ble_eq_true rfl)
    · have hf := ite_f c4 hf
      refine g_aload_n (pc' := 60) dX12_piped_59 rfl rfl ?_
      refine g_iload_n (pc' := 61) dX12_piped_60 rfl rfl ?_
      refine g_iload (pc' := 63) dX12_piped_61 rfl rfl ?_
      obtain ⟨r9, M8, e9, hf⟩ := bnd_some hf
      refine g_callVi (pc' := 66) (k' := 0) (u' := 0) (fr2 := 2) (As := [aI v1, aI v4]) (b := v0) (st := []) cf_X12_hasValue q_1010 (by omega) (ci := 12) rfl rfl (by decide) dX12_piped_63 rfl rfl rfl (Nat.le_of_ble_eq_true rfl) (Or.inl rfl) (Nat.le_refl _) (Nat.le_refl _) (Nat.le_refl _) (Nat.le_refl _) h1 (s_X12_hasValue v0 v1 v4 M _ e9) ?_
      refine g_if_ne (pc' := 69) 72 dX12_piped_66 rfl (by decide) (fun c10 => ?_) (fun c10 => ?_)
      · have hf := ite_f c10 hf
        refine g_aload_n (pc' := 73) dX12_piped_72 rfl rfl ?_
        refine g_aload_n (pc' := 74) dX12_piped_73 rfl rfl ?_
        refine g_iload_n (pc' := 75) dX12_piped_74 rfl rfl ?_
        refine g_iload (pc' := 77) dX12_piped_75 rfl rfl ?_
        obtain ⟨h11, hf⟩ := chk_s hf
        obtain ⟨r13, M12, e13, hf⟩ := bnd_some hf
        refine g_callVi (pc' := 80) (k' := 0) (u' := 0) (fr2 := 1) (As := [aI v1, aI v4]) (b := v0) (st := [aR v0]) cf_X12_valueAt q_896 (by omega) (ci := 12) rfl rfl (by decide) dX12_piped_77 rfl rfl rfl (Nat.le_of_ble_eq_true rfl) (Or.inl rfl) (Nat.le_refl _) (Nat.le_refl _) (Nat.le_refl _) (Nat.le_refl _) h11 (s_X12_valueAt v0 v1 v4 M8 _ e13) ?_
        obtain ⟨h14, hf⟩ := chk_s hf
        refine g_putI (pc' := 83) 12 48 rfl rfl (by decide) inX12 tyX12_ok nmX12 (by decide) rfl rfl rfl rfl q_1379 dX12_piped_80 rfl h14 (gM fun M15 hM15 => ?_)
        have hf := ap_eq hf hM15
        refine g_iconst (pc' := 84) (0 : Int32) dX12_piped_83 rfl (by decide) ?_
        refine g_istore (pc' := 86) (lv' := [some (aR v0), some (aI v1), some (aI v2), some (aI v3), some (aI v4), some (aI (0 : Int32))]) dX12_piped_84 rfl rfl (by decide) rfl ?_
        refine g_widen (k' := 0) (u' := 0) (by omega) (by omega) ?_
        exact s_X12_piped_86 (f_X12_piped_48 n) ih FUEL v0 v1 v2 v3 v4 (0 : Int32) M15 _ hf
      · have hf := ite_t c10 hf
        refine g_goto (pc' := 135) dX12_piped_69 (by decide) ?_
        refine g_widen (k' := 0) (u' := 0) (by omega) (by omega) ?_
        exact s_X12_piped_135 (f_X12_piped_48 n) ih v0 v1 v2 v3 v4 M8 _ hf
theorem s_X12_piped_24 : ∀ (n : Nat) (v0 : Nat) (v1 : Int32) (v2 : Int32) (v3 : Int32) (v4 : Int32) (M : Mem) (r : (Int32 × Mem)), f_X12_piped_24 n v0 v1 v2 v3 v4 M = some r → G mi_X12_piped 3 (oI r.1) r.2 24 [some (aR v0), some (aI v1), some (aI v2), some (aI v3), some (aI v4), none] [] M 0 0 := by
  intro n
  induction n with
  | zero => intro v0 v1 v2 v3 v4 M r hf; cases hf
  | succ n ih =>
    intro v0 v1 v2 v3 v4 M r hf
    unfold f_X12_piped_24 at hf
    refine g_iload (pc' := 26) dX12_piped_24 rfl rfl ?_
    refine g_bipush (pc' := 28) (8 : Int32) dX12_piped_26 rfl (by decide) ?_
    refine g_icmp_ge (pc' := 31) 45 dX12_piped_28 rfl (by decide) (fun c1 => ?_) (fun c1 => ?_)
    · have hf := ite_t c1 hf
      refine g_iconst (pc' := 46) (0 : Int32) dX12_piped_45 rfl (by decide) ?_
      refine g_istore (pc' := 48) (lv' := [some (aR v0), some (aI v1), some (aI v2), some (aI v3), some (aI (0 : Int32)), none]) dX12_piped_46 rfl rfl (by decide) rfl ?_
      exact s_X12_piped_48 FUEL v0 v1 v2 v3 (0 : Int32) M _ hf
    · have hf := ite_f c1 hf
      refine g_aload_n (pc' := 32) dX12_piped_31 rfl rfl ?_
      obtain ⟨h2, hf⟩ := chk_s hf
      refine g_getR (pc' := 35) 12 46 rfl rfl (by decide) inX12 (by decide) rfl rfl q_149 dX12_piped_32 rfl h2 ?_
      refine g_iload (pc' := 37) dX12_piped_35 rfl rfl ?_
      refine g_iconst (pc' := 38) (0 : Int32) dX12_piped_37 rfl (by decide) ?_
      obtain ⟨h3, hf⟩ := chk_s hf
      obtain ⟨b4, hf⟩ := chk_s hf
      refine g_iast (pc' := 39) dX12_piped_38 rfl h3 (inB_in b4) (gM fun M5 hM5 => ?_)
      have hf := ap_eq hf hM5
      refine g_iinc (pc' := 42) (lv' := [some (aR v0), some (aI v1), some (aI v2), some (aI v3), some (aI (v4 + 1)), none]) (v4 + 1) dX12_piped_39 rfl rfl (by rfl) rfl (by decide) rfl ?_
      refine g_goto (pc' := 24) dX12_piped_42 (by decide) ?_
      exact ih v0 v1 v2 v3 (v4 + 1) M5 _ hf
theorem s_X12_piped (v0 : Nat) (v1 : Int32) (v2 : Int32) (M : Mem) (r : (Int32 × Mem)) (hf : f_X12_piped v0 v1 v2 M = some r) : Sem mi_X12_piped (3) [aR v0, aI v1, aI v2] M (oI r.1) r.2 := by
  unfold f_X12_piped at hf
  refine sem_of (by decide) rfl rfl rfl (Nat.le_of_ble_eq_true rfl) (lv := [some (aR v0), some (aI v1), some (aI v2), none, none, none]) rfl ?_
  refine g_aload_n (pc' := 1) dX12_piped_0 rfl rfl ?_
  refine g_iconst (pc' := 2) (0 : Int32) dX12_piped_1 rfl (by decide) ?_
  obtain ⟨h1, hf⟩ := chk_s hf
  refine g_putI (pc' := 5) 12 2 rfl rfl (by decide) inX12 tyX12_ok nmX12 (by decide) rfl rfl rfl rfl q_167 dX12_piped_2 rfl h1 (gM fun M2 hM2 => ?_)
  have hf := ap_eq hf hM2
  refine g_aload_n (pc' := 6) dX12_piped_5 rfl rfl ?_
  refine g_iload_n (pc' := 7) dX12_piped_6 rfl rfl ?_
  obtain ⟨h3, hf⟩ := chk_s hf
  obtain ⟨r5, M4, e5, hf⟩ := bnd_some hf
  refine g_callVi (pc' := 10) (k' := 0) (u' := 0) (fr2 := 2) (As := [aI v1]) (b := v0) (st := []) cf_X12_isLeaf q_974 (by omega) (ci := 12) rfl rfl (by decide) dX12_piped_7 rfl rfl rfl (Nat.le_of_ble_eq_true rfl) (Or.inl rfl) (Nat.le_refl _) (Nat.le_refl _) (Nat.le_refl _) (Nat.le_refl _) h3 (s_X12_isLeaf v0 v1 M2 _ e5) ?_
  refine g_if_ne (pc' := 13) 19 dX12_piped_10 rfl (by decide) (fun c6 => ?_) (fun c6 => ?_)
  · have hf := ite_f c6 hf
    refine g_iconst (pc' := 20) (0 : Int32) dX12_piped_19 rfl (by decide) ?_
    refine g_istore_n (pc' := 21) (lv' := [some (aR v0), some (aI v1), some (aI v2), some (aI (0 : Int32)), none, none]) dX12_piped_20 rfl rfl (by decide) rfl ?_
    refine g_iconst (pc' := 22) (0 : Int32) dX12_piped_21 rfl (by decide) ?_
    refine g_istore (pc' := 24) (lv' := [some (aR v0), some (aI v1), some (aI v2), some (aI (0 : Int32)), some (aI (0 : Int32)), none]) dX12_piped_22 rfl rfl (by decide) rfl ?_
    refine g_widen (k' := 0) (u' := 0) (by omega) (by omega) ?_
    exact s_X12_piped_24 FUEL v0 v1 v2 (0 : Int32) (0 : Int32) M4 _ hf
  · have hf := ite_t c6 hf
    refine g_aload_n (pc' := 14) dX12_piped_13 rfl rfl ?_
    refine g_iconst (pc' := 15) (1 : Int32) dX12_piped_14 rfl (by decide) ?_
    obtain ⟨h7, hf⟩ := chk_s hf
    obtain ⟨r9, M8, e9, hf⟩ := bnd_some hf
    refine g_callVi (pc' := 18) (k' := 0) (u' := 0) (fr2 := 1) (As := [aI (1 : Int32)]) (b := v0) (st := []) cf_X12_fail q_904 (by omega) (ci := 12) rfl rfl (by decide) dX12_piped_15 rfl rfl rfl (Nat.le_of_ble_eq_true rfl) (Or.inl rfl) (Nat.le_refl _) (Nat.le_refl _) (Nat.le_refl _) (Nat.le_refl _) h7 (s_X12_fail v0 (1 : Int32) M4 _ e9) ?_
    cases hf
    exact g_ireturn dX12_piped_18 rfl (Nat.le_of_ble_eq_true rfl) (Nat.le_of_ble_eq_true rfl)
def f_X12_refuse (v0 : Nat) (M : Mem) : Option (Int32 × Mem) :=
  if mK M v0 = 13 then
    if mK M (mR M v0 4) = 21 then
      if inB (1 : Int32) (mN M (mR M v0 4)) = true then
        ap (sI M (mR M v0 4) (1 : Int32).toNatClampNeg ((mI M (mR M v0 4) (1 : Int32).toNatClampNeg) + (1 : Int32))) fun M4 =>
        some ((-1 : Int32), M4)
      else none
    else none
  else none
theorem s_X12_refuse (v0 : Nat) (M : Mem) (r : (Int32 × Mem)) (hf : f_X12_refuse v0 M = some r) : Sem mi_X12_refuse (1) [aR v0] M (oI r.1) r.2 := by
  unfold f_X12_refuse at hf
  refine sem_of (by decide) rfl rfl rfl (Nat.le_of_ble_eq_true rfl) (lv := [some (aR v0)]) rfl ?_
  refine g_aload_n (pc' := 1) dX12_refuse_0 rfl rfl ?_
  obtain ⟨h1, hf⟩ := chk_s hf
  refine g_getR (pc' := 4) 12 4 rfl rfl (by decide) inX12 (by decide) rfl rfl q_125 dX12_refuse_1 rfl h1 ?_
  refine g_iconst (pc' := 5) (1 : Int32) dX12_refuse_4 rfl (by decide) ?_
  refine g_dup2 (pc' := 6) dX12_refuse_5 rfl rfl rfl ?_
  obtain ⟨h2, hf⟩ := chk_s hf
  obtain ⟨b3, hf⟩ := chk_s hf
  refine g_iald (pc' := 7) dX12_refuse_6 rfl h2 (inB_in b3) ?_
  refine g_iconst (pc' := 8) (1 : Int32) dX12_refuse_7 rfl (by decide) ?_
  refine g_iadd (pc' := 9) dX12_refuse_8 rfl ?_
  refine g_iast (pc' := 10) dX12_refuse_9 rfl h2 (inB_in b3) (gM fun M4 hM4 => ?_)
  have hf := ap_eq hf hM4
  refine g_iconst (pc' := 11) (-1 : Int32) dX12_refuse_10 rfl (by decide) ?_
  cases hf
  exact g_ireturn dX12_refuse_11 rfl (Nat.le_of_ble_eq_true rfl) (Nat.le_of_ble_eq_true rfl)
def f_X12_drop_30 : Nat → Nat → Int32 → Mem → Option (Int32 × Mem)
  | 0, _, _, _ => none
  | n + 1, v0, v1, M =>
    if mK M v0 = 13 then
      if mK M (mR M v0 24) = 21 then
        if inB (0 : Int32) (mN M (mR M v0 24)) = true then
          if (mI M (mR M v0 24) (0 : Int32).toNatClampNeg) ≤ v1 then
            ap (sI M v0 30 ((mI M v0 30) - (1 : Int32))) fun M5 =>
            if mK M5 v0 = 13 then
              some (mI M5 v0 30, M5)
            else none
          else
            bnd (f_X12_firstOf v0 v1 ((mI M v0 30) - (1 : Int32)) M) fun r8 M7 =>
            if mK M7 (mR M v0 28) = 21 then
              if inB v1 (mN M7 (mR M v0 28)) = true then
                ap (sI M7 (mR M v0 28) v1.toNatClampNeg r8) fun M11 =>
                f_X12_drop_30 n v0 (v1 + 1) M11
              else none
            else none
        else none
      else none
    else none
def f_X12_drop_19 (v0 : Nat) (M : Mem) : Option (Int32 × Mem) :=
  if mK M v0 = 13 then
    bnd (f_X12_refuse v0 M) fun r3 M2 =>
    some (r3, M2)
  else none
def f_X12_drop (v0 : Nat) (M : Mem) : Option (Int32 × Mem) :=
  if mK M v0 = 13 then
    ap (sI M v0 2 (0 : Int32)) fun M2 =>
    if mK M2 v0 = 13 then
      if (mI M2 v0 30) = 0 then
        f_X12_drop_19 v0 M2
      else
        bnd (f_X12_checked v0 M2) fun r6 M5 =>
        if r6 = 0 then
          if mK M5 v0 = 13 then
            bnd (f_X12_keep v0 M5) fun _ M9 =>
            f_X12_drop_30 FUEL v0 (0 : Int32) M9
          else none
        else
          f_X12_drop_19 v0 M5
    else none
  else none
theorem s_X12_drop_30 : ∀ (n : Nat) (v0 : Nat) (v1 : Int32) (M : Mem) (r : (Int32 × Mem)), f_X12_drop_30 n v0 v1 M = some r → G mi_X12_drop 5 (oI r.1) r.2 30 [some (aR v0), some (aI v1)] [] M 0 0 := by
  intro n
  induction n with
  | zero => intro v0 v1 M r hf; cases hf
  | succ n ih =>
    intro v0 v1 M r hf
    unfold f_X12_drop_30 at hf
    refine g_iload_n (pc' := 31) dX12_drop_30 rfl rfl ?_
    refine g_aload_n (pc' := 32) dX12_drop_31 rfl rfl ?_
    obtain ⟨h1, hf⟩ := chk_s hf
    refine g_getR (pc' := 35) 12 24 rfl rfl (by decide) inX12 (by decide) rfl rfl q_136 dX12_drop_32 rfl h1 ?_
    refine g_iconst (pc' := 36) (0 : Int32) dX12_drop_35 rfl (by decide) ?_
    obtain ⟨h2, hf⟩ := chk_s hf
    obtain ⟨b3, hf⟩ := chk_s hf
    refine g_iald (pc' := 37) dX12_drop_36 rfl h2 (inB_in b3) ?_
    refine g_icmp_ge (pc' := 40) 63 dX12_drop_37 rfl (by decide) (fun c4 => ?_) (fun c4 => ?_)
    · have hf := ite_t c4 hf
      refine g_aload_n (pc' := 64) dX12_drop_63 rfl rfl ?_
      refine g_dup (pc' := 65) dX12_drop_64 rfl rfl ?_
      refine g_getI (pc' := 68) 12 30 rfl rfl (by decide) inX12 (by decide) rfl rfl q_364 dX12_drop_65 rfl h1 ?_
      refine g_iconst (pc' := 69) (1 : Int32) dX12_drop_68 rfl (by decide) ?_
      refine g_isub (pc' := 70) dX12_drop_69 rfl ?_
      refine g_putI (pc' := 73) 12 30 rfl rfl (by decide) inX12 tyX12_ok nmX12 (by decide) rfl rfl rfl rfl q_364 dX12_drop_70 rfl h1 (gM fun M5 hM5 => ?_)
      have hf := ap_eq hf hM5
      refine g_aload_n (pc' := 74) dX12_drop_73 rfl rfl ?_
      obtain ⟨h6, hf⟩ := chk_s hf
      refine g_getI (pc' := 77) 12 30 rfl rfl (by decide) inX12 (by decide) rfl rfl q_364 dX12_drop_74 rfl h6 ?_
      cases hf
      exact g_ireturn dX12_drop_77 rfl (Nat.le_of_ble_eq_true rfl) (Nat.le_of_ble_eq_true rfl)
    · have hf := ite_f c4 hf
      refine g_aload_n (pc' := 41) dX12_drop_40 rfl rfl ?_
      refine g_getR (pc' := 44) 12 28 rfl rfl (by decide) inX12 (by decide) rfl rfl q_139 dX12_drop_41 rfl h1 ?_
      refine g_iload_n (pc' := 45) dX12_drop_44 rfl rfl ?_
      refine g_aload_n (pc' := 46) dX12_drop_45 rfl rfl ?_
      refine g_iload_n (pc' := 47) dX12_drop_46 rfl rfl ?_
      refine g_aload_n (pc' := 48) dX12_drop_47 rfl rfl ?_
      refine g_getI (pc' := 51) 12 30 rfl rfl (by decide) inX12 (by decide) rfl rfl q_364 dX12_drop_48 rfl h1 ?_
      refine g_iconst (pc' := 52) (1 : Int32) dX12_drop_51 rfl (by decide) ?_
      refine g_isub (pc' := 53) dX12_drop_52 rfl ?_
      obtain ⟨r8, M7, e8, hf⟩ := bnd_some hf
      refine g_callVi (pc' := 56) (k' := 0) (u' := 0) (fr2 := 2) (As := [aI v1, aI ((mI M v0 30) - (1 : Int32))]) (b := v0) (st := [aI v1, aR (mR M v0 28)]) cf_X12_firstOf q_1038 (by omega) (ci := 12) rfl rfl (by decide) dX12_drop_53 rfl rfl rfl (Nat.le_of_ble_eq_true rfl) (Or.inl rfl) (Nat.le_refl _) (Nat.le_refl _) (Nat.le_refl _) (Nat.le_refl _) h1 (s_X12_firstOf v0 v1 ((mI M v0 30) - (1 : Int32)) M _ e8) ?_
      obtain ⟨h9, hf⟩ := chk_s hf
      obtain ⟨b10, hf⟩ := chk_s hf
      refine g_iast (pc' := 57) dX12_drop_56 rfl h9 (inB_in b10) (gM fun M11 hM11 => ?_)
      have hf := ap_eq hf hM11
      refine g_iinc (pc' := 60) (lv' := [some (aR v0), some (aI (v1 + 1))]) (v1 + 1) dX12_drop_57 rfl rfl (by rfl) rfl (by decide) rfl ?_
      refine g_goto (pc' := 30) dX12_drop_60 (by decide) ?_
      refine g_widen (k' := 0) (u' := 0) (by omega) (by omega) ?_
      exact ih v0 (v1 + 1) M11 _ hf
theorem s_X12_drop_19 (v0 : Nat) (M : Mem) (r : (Int32 × Mem)) (hf : f_X12_drop_19 v0 M = some r) : G mi_X12_drop 5 (oI r.1) r.2 19 [some (aR v0), none] [] M 0 0 := by
  unfold f_X12_drop_19 at hf
  refine g_aload_n (pc' := 20) dX12_drop_19 rfl rfl ?_
  obtain ⟨h1, hf⟩ := chk_s hf
  obtain ⟨r3, M2, e3, hf⟩ := bnd_some hf
  refine g_callVi (pc' := 23) (k' := 0) (u' := 0) (fr2 := 1) (As := []) (b := v0) (st := []) cf_X12_refuse q_1412 (by omega) (ci := 12) rfl rfl (by decide) dX12_drop_20 rfl rfl rfl (Nat.le_of_ble_eq_true rfl) (Or.inl rfl) (Nat.le_refl _) (Nat.le_refl _) (Nat.le_refl _) (Nat.le_refl _) h1 (s_X12_refuse v0 M _ e3) ?_
  cases hf
  exact g_ireturn dX12_drop_23 rfl (Nat.le_of_ble_eq_true rfl) (Nat.le_of_ble_eq_true rfl)
theorem s_X12_drop (v0 : Nat) (M : Mem) (r : (Int32 × Mem)) (hf : f_X12_drop v0 M = some r) : Sem mi_X12_drop (5) [aR v0] M (oI r.1) r.2 := by
  unfold f_X12_drop at hf
  refine sem_of (by decide) rfl rfl rfl (Nat.le_of_ble_eq_true rfl) (lv := [some (aR v0), none]) rfl ?_
  refine g_aload_n (pc' := 1) dX12_drop_0 rfl rfl ?_
  refine g_iconst (pc' := 2) (0 : Int32) dX12_drop_1 rfl (by decide) ?_
  obtain ⟨h1, hf⟩ := chk_s hf
  refine g_putI (pc' := 5) 12 2 rfl rfl (by decide) inX12 tyX12_ok nmX12 (by decide) rfl rfl rfl rfl q_167 dX12_drop_2 rfl h1 (gM fun M2 hM2 => ?_)
  have hf := ap_eq hf hM2
  refine g_aload_n (pc' := 6) dX12_drop_5 rfl rfl ?_
  obtain ⟨h3, hf⟩ := chk_s hf
  refine g_getI (pc' := 9) 12 30 rfl rfl (by decide) inX12 (by decide) rfl rfl q_364 dX12_drop_6 rfl h3 ?_
  refine g_if_eq (pc' := 12) 19 dX12_drop_9 rfl (by decide) (fun c4 => ?_) (fun c4 => ?_)
  · have hf := ite_t c4 hf
    exact s_X12_drop_19 v0 M2 _ hf
  · have hf := ite_f c4 hf
    refine g_aload_n (pc' := 13) dX12_drop_12 rfl rfl ?_
    obtain ⟨r6, M5, e6, hf⟩ := bnd_some hf
    refine g_callVi (pc' := 16) (k' := 0) (u' := 0) (fr2 := 4) (As := []) (b := v0) (st := []) cf_X12_checked q_648 (by omega) (ci := 12) rfl rfl (by decide) dX12_drop_13 rfl rfl rfl (Nat.le_of_ble_eq_true rfl) (Or.inl rfl) (Nat.le_refl _) (Nat.le_refl _) (Nat.le_refl _) (Nat.le_refl _) h3 (s_X12_checked v0 M2 _ e6) ?_
    refine g_if_eq (pc' := 19) 24 dX12_drop_16 rfl (by decide) (fun c7 => ?_) (fun c7 => ?_)
    · have hf := ite_t c7 hf
      refine g_aload_n (pc' := 25) dX12_drop_24 rfl rfl ?_
      obtain ⟨h8, hf⟩ := chk_s hf
      obtain ⟨_, M9, e10, hf⟩ := bnd_some hf
      refine g_callVv (pc' := 28) (k' := 0) (u' := 0) (fr2 := 2) (As := []) (b := v0) (st := []) cf_X12_keep q_738 (by omega) (ci := 12) rfl rfl (by decide) dX12_drop_25 rfl rfl rfl (Nat.le_of_ble_eq_true rfl) (Or.inl rfl) (Nat.le_refl _) (Nat.le_refl _) (Nat.le_refl _) (Nat.le_refl _) h8 (s_X12_keep v0 M5 _ e10) ?_
      refine g_iconst (pc' := 29) (0 : Int32) dX12_drop_28 rfl (by decide) ?_
      refine g_istore_n (pc' := 30) (lv' := [some (aR v0), some (aI (0 : Int32))]) dX12_drop_29 rfl rfl (by decide) rfl ?_
      refine g_widen (k' := 0) (u' := 0) (by omega) (by omega) ?_
      exact s_X12_drop_30 FUEL v0 (0 : Int32) M9 _ hf
    · have hf := ite_f c7 hf
      refine g_widen (k' := 0) (u' := 0) (by omega) (by omega) ?_
      exact s_X12_drop_19 v0 M5 _ hf
def f_X12_set_55 (v0 : Nat) (M : Mem) : Option (Int32 × Mem) :=
  if mK M v0 = 13 then
    bnd (f_X12_refuse v0 M) fun r3 M2 =>
    some (r3, M2)
  else none
def f_X12_set (v0 : Nat) (v1 : Int32) (v2 : Int32) (v3 : Int32) (M : Mem) : Option (Int32 × Mem) :=
  if mK M v0 = 13 then
    ap (sI M v0 2 (0 : Int32)) fun M2 =>
    if mK M2 v0 = 13 then
      bnd (f_X12_isEntry v0 v1 v2 M2) fun r5 M4 =>
      if r5 = 0 then
        if mK M4 v0 = 13 then
          bnd (f_X12_fail v0 (1 : Int32) M4) fun r32 M31 =>
          some (r32, M31)
        else none
      else
        if mK M4 v0 = 13 then
          bnd (f_X12_valueAt v0 v1 v2 M4) fun r9 M8 =>
          if mK M8 v0 = 13 then
            bnd (f_X12_hasValue v0 v1 v2 M8) fun r12 M11 =>
            if r12 = 0 then
              f_X12_set_55 v0 M11
            else
              bnd (f_X12_isIn v3.toInt64 (0 : Int64) (999 : Int64) M11) fun r15 M14 =>
              if r15 = 0 then
                f_X12_set_55 v0 M14
              else
                if v3 = r9 then
                  f_X12_set_55 v0 M14
                else
                  if mK M14 v0 = 13 then
                    bnd (f_X12_keep v0 M14) fun _ M19 =>
                    if mK M19 v0 = 13 then
                      bnd (f_X12_repAt v0 v1 v2 M19) fun r23 M22 =>
                      if mK M22 v0 = 13 then
                        bnd (f_X12_defAt v0 v1 v2 M22) fun r26 M25 =>
                        if mK M25 v0 = 13 then
                          bnd (f_X12_put v0 v1 v2 r23 r26 v3 M25) fun _ M28 =>
                          some (r9, M28)
                        else none
                      else none
                    else none
                  else none
          else none
        else none
    else none
  else none
theorem s_X12_set_55 (v0 : Nat) (M : Mem) (r : (Int32 × Mem)) (hf : f_X12_set_55 v0 M = some r) : G mi_X12_set 4 (oI r.1) r.2 55 [some (aR v0), none, none, none, none] [] M 0 0 := by
  unfold f_X12_set_55 at hf
  refine g_aload_n (pc' := 56) dX12_set_55 rfl rfl ?_
  obtain ⟨h1, hf⟩ := chk_s hf
  obtain ⟨r3, M2, e3, hf⟩ := bnd_some hf
  refine g_callVi (pc' := 59) (k' := 0) (u' := 0) (fr2 := 1) (As := []) (b := v0) (st := []) cf_X12_refuse q_1412 (by omega) (ci := 12) rfl rfl (by decide) dX12_set_56 rfl rfl rfl (Nat.le_of_ble_eq_true rfl) (Or.inl rfl) (Nat.le_refl _) (Nat.le_refl _) (Nat.le_refl _) (Nat.le_refl _) h1 (s_X12_refuse v0 M _ e3) ?_
  cases hf
  exact g_ireturn dX12_set_59 rfl (Nat.le_of_ble_eq_true rfl) (Nat.le_of_ble_eq_true rfl)
theorem s_X12_set (v0 : Nat) (v1 : Int32) (v2 : Int32) (v3 : Int32) (M : Mem) (r : (Int32 × Mem)) (hf : f_X12_set v0 v1 v2 v3 M = some r) : Sem mi_X12_set (4) [aR v0, aI v1, aI v2, aI v3] M (oI r.1) r.2 := by
  unfold f_X12_set at hf
  refine sem_of (by decide) rfl rfl rfl (Nat.le_of_ble_eq_true rfl) (lv := [some (aR v0), some (aI v1), some (aI v2), some (aI v3), none]) rfl ?_
  refine g_aload_n (pc' := 1) dX12_set_0 rfl rfl ?_
  refine g_iconst (pc' := 2) (0 : Int32) dX12_set_1 rfl (by decide) ?_
  obtain ⟨h1, hf⟩ := chk_s hf
  refine g_putI (pc' := 5) 12 2 rfl rfl (by decide) inX12 tyX12_ok nmX12 (by decide) rfl rfl rfl rfl q_167 dX12_set_2 rfl h1 (gM fun M2 hM2 => ?_)
  have hf := ap_eq hf hM2
  refine g_aload_n (pc' := 6) dX12_set_5 rfl rfl ?_
  refine g_iload_n (pc' := 7) dX12_set_6 rfl rfl ?_
  refine g_iload_n (pc' := 8) dX12_set_7 rfl rfl ?_
  obtain ⟨h3, hf⟩ := chk_s hf
  obtain ⟨r5, M4, e5, hf⟩ := bnd_some hf
  refine g_callVi (pc' := 11) (k' := 0) (u' := 0) (fr2 := 3) (As := [aI v1, aI v2]) (b := v0) (st := []) cf_X12_isEntry q_1006 (by omega) (ci := 12) rfl rfl (by decide) dX12_set_8 rfl rfl rfl (Nat.le_of_ble_eq_true rfl) (Or.inl rfl) (Nat.le_refl _) (Nat.le_refl _) (Nat.le_refl _) (Nat.le_refl _) h3 (s_X12_isEntry v0 v1 v2 M2 _ e5) ?_
  refine g_if_ne (pc' := 14) 20 dX12_set_11 rfl (by decide) (fun c6 => ?_) (fun c6 => ?_)
  · have hf := ite_f c6 hf
    refine g_aload_n (pc' := 21) dX12_set_20 rfl rfl ?_
    refine g_iload_n (pc' := 22) dX12_set_21 rfl rfl ?_
    refine g_iload_n (pc' := 23) dX12_set_22 rfl rfl ?_
    obtain ⟨h7, hf⟩ := chk_s hf
    obtain ⟨r9, M8, e9, hf⟩ := bnd_some hf
    refine g_callVi (pc' := 26) (k' := 0) (u' := 0) (fr2 := 1) (As := [aI v1, aI v2]) (b := v0) (st := []) cf_X12_valueAt q_896 (by omega) (ci := 12) rfl rfl (by decide) dX12_set_23 rfl rfl rfl (Nat.le_of_ble_eq_true rfl) (Or.inl rfl) (Nat.le_refl _) (Nat.le_refl _) (Nat.le_refl _) (Nat.le_refl _) h7 (s_X12_valueAt v0 v1 v2 M4 _ e9) ?_
    refine g_istore (pc' := 28) (lv' := [some (aR v0), some (aI v1), some (aI v2), some (aI v3), some (aI r9)]) dX12_set_26 rfl rfl (by decide) rfl ?_
    refine g_aload_n (pc' := 29) dX12_set_28 rfl rfl ?_
    refine g_iload_n (pc' := 30) dX12_set_29 rfl rfl ?_
    refine g_iload_n (pc' := 31) dX12_set_30 rfl rfl ?_
    obtain ⟨h10, hf⟩ := chk_s hf
    obtain ⟨r12, M11, e12, hf⟩ := bnd_some hf
    refine g_callVi (pc' := 34) (k' := 0) (u' := 0) (fr2 := 2) (As := [aI v1, aI v2]) (b := v0) (st := []) cf_X12_hasValue q_1010 (by omega) (ci := 12) rfl rfl (by decide) dX12_set_31 rfl rfl rfl (Nat.le_of_ble_eq_true rfl) (Or.inl rfl) (Nat.le_refl _) (Nat.le_refl _) (Nat.le_refl _) (Nat.le_refl _) h10 (s_X12_hasValue v0 v1 v2 M8 _ e12) ?_
    refine g_if_eq (pc' := 37) 55 dX12_set_34 rfl (by decide) (fun c13 => ?_) (fun c13 => ?_)
    · have hf := ite_t c13 hf
      refine g_mask [true, false, false, false, false] rfl ?_
      refine g_widen (k' := 0) (u' := 0) (by omega) (by omega) ?_
      exact s_X12_set_55 v0 M11 _ hf
    · have hf := ite_f c13 hf
      refine g_iload_n (pc' := 38) dX12_set_37 rfl rfl ?_
      refine g_i2l (pc' := 39) dX12_set_38 rfl ?_
      refine g_lconst (pc' := 40) (0 : Int64) dX12_set_39 rfl (by decide) ?_
      refine g_ldc2 (pc' := 43) (v := (999 : Int64)) dX12_set_40 rfl q_1427 ?_
      obtain ⟨r15, M14, e15, hf⟩ := bnd_some hf
      refine g_callSi (pc' := 46) (k' := 0) (u' := 0) (fr2 := 1) (As := [aL v3.toInt64, aL (0 : Int64), aL (999 : Int64)]) (st := []) cf_X12_isIn q_932 (by omega) dX12_set_43 rfl rfl rfl (Nat.le_of_ble_eq_true rfl) (Or.inl rfl) (Nat.le_refl _) (Nat.le_refl _) (Nat.le_refl _) (Nat.le_refl _) (s_X12_isIn v3.toInt64 (0 : Int64) (999 : Int64) M11 _ e15) ?_
      refine g_if_eq (pc' := 49) 55 dX12_set_46 rfl (by decide) (fun c16 => ?_) (fun c16 => ?_)
      · have hf := ite_t c16 hf
        refine g_mask [true, false, false, false, false] rfl ?_
        refine g_widen (k' := 0) (u' := 0) (by omega) (by omega) ?_
        exact s_X12_set_55 v0 M14 _ hf
      · have hf := ite_f c16 hf
        refine g_iload_n (pc' := 50) dX12_set_49 rfl rfl ?_
        refine g_iload (pc' := 52) dX12_set_50 rfl rfl ?_
        refine g_icmp_ne (pc' := 55) 60 dX12_set_52 rfl (by decide) (fun c17 => ?_) (fun c17 => ?_)
        · have hf := ite_f c17 hf
          refine g_aload_n (pc' := 61) dX12_set_60 rfl rfl ?_
          obtain ⟨h18, hf⟩ := chk_s hf
          obtain ⟨_, M19, e20, hf⟩ := bnd_some hf
          refine g_callVv (pc' := 64) (k' := 0) (u' := 0) (fr2 := 2) (As := []) (b := v0) (st := []) cf_X12_keep q_738 (by omega) (ci := 12) rfl rfl (by decide) dX12_set_61 rfl rfl rfl (Nat.le_of_ble_eq_true rfl) (Or.inl rfl) (Nat.le_refl _) (Nat.le_refl _) (Nat.le_refl _) (Nat.le_refl _) h18 (s_X12_keep v0 M14 _ e20) ?_
          refine g_aload_n (pc' := 65) dX12_set_64 rfl rfl ?_
          refine g_iload_n (pc' := 66) dX12_set_65 rfl rfl ?_
          refine g_iload_n (pc' := 67) dX12_set_66 rfl rfl ?_
          refine g_aload_n (pc' := 68) dX12_set_67 rfl rfl ?_
          refine g_iload_n (pc' := 69) dX12_set_68 rfl rfl ?_
          refine g_iload_n (pc' := 70) dX12_set_69 rfl rfl ?_
          obtain ⟨h21, hf⟩ := chk_s hf
          obtain ⟨r23, M22, e23, hf⟩ := bnd_some hf
          refine g_callVi (pc' := 73) (k' := 0) (u' := 0) (fr2 := 1) (As := [aI v1, aI v2]) (b := v0) (st := [aI v2, aI v1, aR v0]) cf_X12_repAt q_656 (by omega) (ci := 12) rfl rfl (by decide) dX12_set_70 rfl rfl rfl (Nat.le_of_ble_eq_true rfl) (Or.inl rfl) (Nat.le_refl _) (Nat.le_refl _) (Nat.le_refl _) (Nat.le_refl _) h21 (s_X12_repAt v0 v1 v2 M19 _ e23) ?_
          refine g_aload_n (pc' := 74) dX12_set_73 rfl rfl ?_
          refine g_iload_n (pc' := 75) dX12_set_74 rfl rfl ?_
          refine g_iload_n (pc' := 76) dX12_set_75 rfl rfl ?_
          obtain ⟨h24, hf⟩ := chk_s hf
          obtain ⟨r26, M25, e26, hf⟩ := bnd_some hf
          refine g_callVi (pc' := 79) (k' := 0) (u' := 0) (fr2 := 1) (As := [aI v1, aI v2]) (b := v0) (st := [aI r23, aI v2, aI v1, aR v0]) cf_X12_defAt q_660 (by omega) (ci := 12) rfl rfl (by decide) dX12_set_76 rfl rfl rfl (Nat.le_of_ble_eq_true rfl) (Or.inl rfl) (Nat.le_refl _) (Nat.le_refl _) (Nat.le_refl _) (Nat.le_refl _) h24 (s_X12_defAt v0 v1 v2 M22 _ e26) ?_
          refine g_iload_n (pc' := 80) dX12_set_79 rfl rfl ?_
          obtain ⟨h27, hf⟩ := chk_s hf
          obtain ⟨_, M28, e29, hf⟩ := bnd_some hf
          refine g_callVv (pc' := 83) (k' := 0) (u' := 0) (fr2 := 1) (As := [aI v1, aI v2, aI r23, aI r26, aI v3]) (b := v0) (st := []) cf_X12_put q_717 (by omega) (ci := 12) rfl rfl (by decide) dX12_set_80 rfl rfl rfl (Nat.le_of_ble_eq_true rfl) (Or.inl rfl) (Nat.le_refl _) (Nat.le_refl _) (Nat.le_refl _) (Nat.le_refl _) h27 (s_X12_put v0 v1 v2 r23 r26 v3 M25 _ e29) ?_
          refine g_iload (pc' := 85) dX12_set_83 rfl rfl ?_
          cases hf
          exact g_ireturn dX12_set_85 rfl (Nat.le_of_ble_eq_true rfl) (Nat.le_of_ble_eq_true rfl)
        · have hf := ite_t c17 hf
          refine g_mask [true, false, false, false, false] rfl ?_
          refine g_widen (k' := 0) (u' := 0) (by omega) (by omega) ?_
          exact s_X12_set_55 v0 M14 _ hf
  · have hf := ite_t c6 hf
    refine g_aload_n (pc' := 15) dX12_set_14 rfl rfl ?_
    refine g_iconst (pc' := 16) (1 : Int32) dX12_set_15 rfl (by decide) ?_
    obtain ⟨h30, hf⟩ := chk_s hf
    obtain ⟨r32, M31, e32, hf⟩ := bnd_some hf
    refine g_callVi (pc' := 19) (k' := 0) (u' := 0) (fr2 := 1) (As := [aI (1 : Int32)]) (b := v0) (st := []) cf_X12_fail q_904 (by omega) (ci := 12) rfl rfl (by decide) dX12_set_16 rfl rfl rfl (Nat.le_of_ble_eq_true rfl) (Or.inl rfl) (Nat.le_refl _) (Nat.le_refl _) (Nat.le_refl _) (Nat.le_refl _) h30 (s_X12_fail v0 (1 : Int32) M4 _ e32) ?_
    cases hf
    exact g_ireturn dX12_set_19 rfl (Nat.le_of_ble_eq_true rfl) (Nat.le_of_ble_eq_true rfl)
def f_X12_damage_113 (v0 : Nat) (v1 : Int32) (v2 : Int32) (v5 : Int32) (w0 : Nat) (w1 : Int32) (w2 : Int32) (w3 : Int32) (w4 : Int32) (M : Mem) : Option (Int32 × Mem) :=
  if mK M v0 = 13 then
    bnd (f_X12_valueAt v0 v1 v2 M) fun r3 M2 =>
    if mK M2 w0 = 13 then
      bnd (f_X12_put w0 w1 w2 w3 w4 r3 M2) fun _ M5 =>
      some (v5, M5)
    else none
  else none
def f_X12_damage_98 (v0 : Nat) (v1 : Int32) (v2 : Int32) (v3 : Int32) (v4 : Int32) (v5 : Int32) (w0 : Nat) (w1 : Int32) (w2 : Int32) (w3 : Int32) (M : Mem) : Option (Int32 × Mem) :=
  if v3 = 0 then
    if mK M v0 = 13 then
      bnd (f_X12_defAt v0 v1 v2 M) fun r4 M3 =>
      f_X12_damage_113 v0 v1 v2 v5 w0 w1 w2 w3 r4 M3
    else none
  else
    f_X12_damage_113 v0 v1 v2 v5 w0 w1 w2 w3 v4 M
def f_X12_damage_71 (v0 : Nat) (M : Mem) : Option (Int32 × Mem) :=
  if mK M v0 = 13 then
    bnd (f_X12_refuse v0 M) fun r3 M2 =>
    some (r3, M2)
  else none
def f_X12_damage_49 (v0 : Nat) (v1 : Int32) (v2 : Int32) (v3 : Int32) (v4 : Int32) (w0 : Int32) (M : Mem) : Option (Int32 × Mem) :=
  bnd (f_X12_isIn v4.toInt64 (0 : Int64) (9 : Int64) M) fun r2 M1 =>
  if r2 = 0 then
    f_X12_damage_71 v0 M1
  else
    if v4 = w0 then
      f_X12_damage_71 v0 M1
    else
      if mK M1 v0 = 13 then
        bnd (f_X12_keep v0 M1) fun _ M6 =>
        if v3 = 0 then
          f_X12_damage_98 v0 v1 v2 v3 v4 w0 v0 v1 v2 v4 M6
        else
          if mK M6 v0 = 13 then
            bnd (f_X12_repAt v0 v1 v2 M6) fun r11 M10 =>
            f_X12_damage_98 v0 v1 v2 v3 v4 w0 v0 v1 v2 r11 M10
          else none
      else none
def f_X12_damage_24 (v0 : Nat) (M : Mem) : Option (Int32 × Mem) :=
  if mK M v0 = 13 then
    bnd (f_X12_fail v0 (1 : Int32) M) fun r3 M2 =>
    some (r3, M2)
  else none
def f_X12_damage (v0 : Nat) (v1 : Int32) (v2 : Int32) (v3 : Int32) (v4 : Int32) (M : Mem) : Option (Int32 × Mem) :=
  if mK M v0 = 13 then
    ap (sI M v0 2 (0 : Int32)) fun M2 =>
    if mK M2 v0 = 13 then
      bnd (f_X12_isEntry v0 v1 v2 M2) fun r5 M4 =>
      if r5 = 0 then
        f_X12_damage_24 v0 M4
      else
        bnd (f_X12_isIn v3.toInt64 (0 : Int64) (1 : Int64) M4) fun r8 M7 =>
        if r8 = 0 then
          f_X12_damage_24 v0 M7
        else
          if v3 = 0 then
            if mK M7 v0 = 13 then
              bnd (f_X12_repAt v0 v1 v2 M7) fun r16 M15 =>
              f_X12_damage_49 v0 v1 v2 v3 v4 r16 M15
            else none
          else
            if mK M7 v0 = 13 then
              bnd (f_X12_defAt v0 v1 v2 M7) fun r13 M12 =>
              f_X12_damage_49 v0 v1 v2 v3 v4 r13 M12
            else none
    else none
  else none
theorem s_X12_damage_113 (v0 : Nat) (v1 : Int32) (v2 : Int32) (v5 : Int32) (w0 : Nat) (w1 : Int32) (w2 : Int32) (w3 : Int32) (w4 : Int32) (M : Mem) (r : (Int32 × Mem)) (hf : f_X12_damage_113 v0 v1 v2 v5 w0 w1 w2 w3 w4 M = some r) : G mi_X12_damage 4 (oI r.1) r.2 113 [some (aR v0), some (aI v1), some (aI v2), none, none, some (aI v5)] [aI w4, aI w3, aI w2, aI w1, aR w0] M 0 0 := by
  unfold f_X12_damage_113 at hf
  refine g_aload_n (pc' := 114) dX12_damage_113 rfl rfl ?_
  refine g_iload_n (pc' := 115) dX12_damage_114 rfl rfl ?_
  refine g_iload_n (pc' := 116) dX12_damage_115 rfl rfl ?_
  obtain ⟨h1, hf⟩ := chk_s hf
  obtain ⟨r3, M2, e3, hf⟩ := bnd_some hf
  refine g_callVi (pc' := 119) (k' := 0) (u' := 0) (fr2 := 1) (As := [aI v1, aI v2]) (b := v0) (st := [aI w4, aI w3, aI w2, aI w1, aR w0]) cf_X12_valueAt q_896 (by omega) (ci := 12) rfl rfl (by decide) dX12_damage_116 rfl rfl rfl (Nat.le_of_ble_eq_true rfl) (Or.inl rfl) (Nat.le_refl _) (Nat.le_refl _) (Nat.le_refl _) (Nat.le_refl _) h1 (s_X12_valueAt v0 v1 v2 M _ e3) ?_
  obtain ⟨h4, hf⟩ := chk_s hf
  obtain ⟨_, M5, e6, hf⟩ := bnd_some hf
  refine g_callVv (pc' := 122) (k' := 0) (u' := 0) (fr2 := 1) (As := [aI w1, aI w2, aI w3, aI w4, aI r3]) (b := w0) (st := []) cf_X12_put q_717 (by omega) (ci := 12) rfl rfl (by decide) dX12_damage_119 rfl rfl rfl (Nat.le_of_ble_eq_true rfl) (Or.inl rfl) (Nat.le_refl _) (Nat.le_refl _) (Nat.le_refl _) (Nat.le_refl _) h4 (s_X12_put w0 w1 w2 w3 w4 r3 M2 _ e6) ?_
  refine g_iload (pc' := 124) dX12_damage_122 rfl rfl ?_
  cases hf
  exact g_ireturn dX12_damage_124 rfl (Nat.le_of_ble_eq_true rfl) (Nat.le_of_ble_eq_true rfl)
theorem s_X12_damage_98 (v0 : Nat) (v1 : Int32) (v2 : Int32) (v3 : Int32) (v4 : Int32) (v5 : Int32) (w0 : Nat) (w1 : Int32) (w2 : Int32) (w3 : Int32) (M : Mem) (r : (Int32 × Mem)) (hf : f_X12_damage_98 v0 v1 v2 v3 v4 v5 w0 w1 w2 w3 M = some r) : G mi_X12_damage 4 (oI r.1) r.2 98 [some (aR v0), some (aI v1), some (aI v2), some (aI v3), some (aI v4), some (aI v5)] [aI w3, aI w2, aI w1, aR w0] M 0 0 := by
  unfold f_X12_damage_98 at hf
  refine g_iload_n (pc' := 99) dX12_damage_98 rfl rfl ?_
  refine g_if_ne (pc' := 102) 111 dX12_damage_99 rfl (by decide) (fun c1 => ?_) (fun c1 => ?_)
  · have hf := ite_f c1 hf
    refine g_iload (pc' := 113) dX12_damage_111 rfl rfl ?_
    refine g_mask [true, true, true, false, false, true] rfl ?_
    exact s_X12_damage_113 v0 v1 v2 v5 w0 w1 w2 w3 v4 M _ hf
  · have hf := ite_t c1 hf
    refine g_aload_n (pc' := 103) dX12_damage_102 rfl rfl ?_
    refine g_iload_n (pc' := 104) dX12_damage_103 rfl rfl ?_
    refine g_iload_n (pc' := 105) dX12_damage_104 rfl rfl ?_
    obtain ⟨h2, hf⟩ := chk_s hf
    obtain ⟨r4, M3, e4, hf⟩ := bnd_some hf
    refine g_callVi (pc' := 108) (k' := 0) (u' := 0) (fr2 := 1) (As := [aI v1, aI v2]) (b := v0) (st := [aI w3, aI w2, aI w1, aR w0]) cf_X12_defAt q_660 (by omega) (ci := 12) rfl rfl (by decide) dX12_damage_105 rfl rfl rfl (Nat.le_of_ble_eq_true rfl) (Or.inl rfl) (Nat.le_refl _) (Nat.le_refl _) (Nat.le_refl _) (Nat.le_refl _) h2 (s_X12_defAt v0 v1 v2 M _ e4) ?_
    refine g_goto (pc' := 113) dX12_damage_108 (by decide) ?_
    refine g_mask [true, true, true, false, false, true] rfl ?_
    refine g_widen (k' := 0) (u' := 0) (by omega) (by omega) ?_
    exact s_X12_damage_113 v0 v1 v2 v5 w0 w1 w2 w3 r4 M3 _ hf
theorem s_X12_damage_71 (v0 : Nat) (M : Mem) (r : (Int32 × Mem)) (hf : f_X12_damage_71 v0 M = some r) : G mi_X12_damage 4 (oI r.1) r.2 71 [some (aR v0), none, none, none, none, none] [] M 0 0 := by
  unfold f_X12_damage_71 at hf
  refine g_aload_n (pc' := 72) dX12_damage_71 rfl rfl ?_
  obtain ⟨h1, hf⟩ := chk_s hf
  obtain ⟨r3, M2, e3, hf⟩ := bnd_some hf
  refine g_callVi (pc' := 75) (k' := 0) (u' := 0) (fr2 := 1) (As := []) (b := v0) (st := []) cf_X12_refuse q_1412 (by omega) (ci := 12) rfl rfl (by decide) dX12_damage_72 rfl rfl rfl (Nat.le_of_ble_eq_true rfl) (Or.inl rfl) (Nat.le_refl _) (Nat.le_refl _) (Nat.le_refl _) (Nat.le_refl _) h1 (s_X12_refuse v0 M _ e3) ?_
  cases hf
  exact g_ireturn dX12_damage_75 rfl (Nat.le_of_ble_eq_true rfl) (Nat.le_of_ble_eq_true rfl)
theorem s_X12_damage_49 (v0 : Nat) (v1 : Int32) (v2 : Int32) (v3 : Int32) (v4 : Int32) (w0 : Int32) (M : Mem) (r : (Int32 × Mem)) (hf : f_X12_damage_49 v0 v1 v2 v3 v4 w0 M = some r) : G mi_X12_damage 4 (oI r.1) r.2 49 [some (aR v0), some (aI v1), some (aI v2), some (aI v3), some (aI v4), none] [aI w0] M 0 0 := by
  unfold f_X12_damage_49 at hf
  refine g_istore (pc' := 51) (lv' := [some (aR v0), some (aI v1), some (aI v2), some (aI v3), some (aI v4), some (aI w0)]) dX12_damage_49 rfl rfl (by decide) rfl ?_
  refine g_iload (pc' := 53) dX12_damage_51 rfl rfl ?_
  refine g_i2l (pc' := 54) dX12_damage_53 rfl ?_
  refine g_lconst (pc' := 55) (0 : Int64) dX12_damage_54 rfl (by decide) ?_
  refine g_ldc2 (pc' := 58) (v := (9 : Int64)) dX12_damage_55 rfl q_1439 ?_
  obtain ⟨r2, M1, e2, hf⟩ := bnd_some hf
  refine g_callSi (pc' := 61) (k' := 0) (u' := 0) (fr2 := 1) (As := [aL v4.toInt64, aL (0 : Int64), aL (9 : Int64)]) (st := []) cf_X12_isIn q_932 (by omega) dX12_damage_58 rfl rfl rfl (Nat.le_of_ble_eq_true rfl) (Or.inl rfl) (Nat.le_refl _) (Nat.le_refl _) (Nat.le_refl _) (Nat.le_refl _) (s_X12_isIn v4.toInt64 (0 : Int64) (9 : Int64) M _ e2) ?_
  refine g_if_eq (pc' := 64) 71 dX12_damage_61 rfl (by decide) (fun c3 => ?_) (fun c3 => ?_)
  · have hf := ite_t c3 hf
    refine g_mask [true, false, false, false, false, false] rfl ?_
    refine g_widen (k' := 0) (u' := 0) (by omega) (by omega) ?_
    exact s_X12_damage_71 v0 M1 _ hf
  · have hf := ite_f c3 hf
    refine g_iload (pc' := 66) dX12_damage_64 rfl rfl ?_
    refine g_iload (pc' := 68) dX12_damage_66 rfl rfl ?_
    refine g_icmp_ne (pc' := 71) 76 dX12_damage_68 rfl (by decide) (fun c4 => ?_) (fun c4 => ?_)
    · have hf := ite_f c4 hf
      refine g_aload_n (pc' := 77) dX12_damage_76 rfl rfl ?_
      obtain ⟨h5, hf⟩ := chk_s hf
      obtain ⟨_, M6, e7, hf⟩ := bnd_some hf
      refine g_callVv (pc' := 80) (k' := 0) (u' := 0) (fr2 := 2) (As := []) (b := v0) (st := []) cf_X12_keep q_738 (by omega) (ci := 12) rfl rfl (by decide) dX12_damage_77 rfl rfl rfl (Nat.le_of_ble_eq_true rfl) (Or.inl rfl) (Nat.le_refl _) (Nat.le_refl _) (Nat.le_refl _) (Nat.le_refl _) h5 (s_X12_keep v0 M1 _ e7) ?_
      refine g_aload_n (pc' := 81) dX12_damage_80 rfl rfl ?_
      refine g_iload_n (pc' := 82) dX12_damage_81 rfl rfl ?_
      refine g_iload_n (pc' := 83) dX12_damage_82 rfl rfl ?_
      refine g_iload_n (pc' := 84) dX12_damage_83 rfl rfl ?_
      refine g_if_ne (pc' := 87) 92 dX12_damage_84 rfl (by decide) (fun c8 => ?_) (fun c8 => ?_)
      · have hf := ite_f c8 hf
        refine g_aload_n (pc' := 93) dX12_damage_92 rfl rfl ?_
        refine g_iload_n (pc' := 94) dX12_damage_93 rfl rfl ?_
        refine g_iload_n (pc' := 95) dX12_damage_94 rfl rfl ?_
        obtain ⟨h9, hf⟩ := chk_s hf
        obtain ⟨r11, M10, e11, hf⟩ := bnd_some hf
        refine g_callVi (pc' := 98) (k' := 0) (u' := 0) (fr2 := 1) (As := [aI v1, aI v2]) (b := v0) (st := [aI v2, aI v1, aR v0]) cf_X12_repAt q_656 (by omega) (ci := 12) rfl rfl (by decide) dX12_damage_95 rfl rfl rfl (Nat.le_of_ble_eq_true rfl) (Or.inl rfl) (Nat.le_refl _) (Nat.le_refl _) (Nat.le_refl _) (Nat.le_refl _) h9 (s_X12_repAt v0 v1 v2 M6 _ e11) ?_
        refine g_widen (k' := 0) (u' := 0) (by omega) (by omega) ?_
        exact s_X12_damage_98 v0 v1 v2 v3 v4 w0 v0 v1 v2 r11 M10 _ hf
      · have hf := ite_t c8 hf
        refine g_iload (pc' := 89) dX12_damage_87 rfl rfl ?_
        refine g_goto (pc' := 98) dX12_damage_89 (by decide) ?_
        refine g_widen (k' := 0) (u' := 0) (by omega) (by omega) ?_
        exact s_X12_damage_98 v0 v1 v2 v3 v4 w0 v0 v1 v2 v4 M6 _ hf
    · have hf := ite_t c4 hf
      refine g_mask [true, false, false, false, false, false] rfl ?_
      refine g_widen (k' := 0) (u' := 0) (by omega) (by omega) ?_
      exact s_X12_damage_71 v0 M1 _ hf
theorem s_X12_damage_24 (v0 : Nat) (M : Mem) (r : (Int32 × Mem)) (hf : f_X12_damage_24 v0 M = some r) : G mi_X12_damage 4 (oI r.1) r.2 24 [some (aR v0), none, none, none, none, none] [] M 0 0 := by
  unfold f_X12_damage_24 at hf
  refine g_aload_n (pc' := 25) dX12_damage_24 rfl rfl ?_
  refine g_iconst (pc' := 26) (1 : Int32) dX12_damage_25 rfl (by decide) ?_
  obtain ⟨h1, hf⟩ := chk_s hf
  obtain ⟨r3, M2, e3, hf⟩ := bnd_some hf
  refine g_callVi (pc' := 29) (k' := 0) (u' := 0) (fr2 := 1) (As := [aI (1 : Int32)]) (b := v0) (st := []) cf_X12_fail q_904 (by omega) (ci := 12) rfl rfl (by decide) dX12_damage_26 rfl rfl rfl (Nat.le_of_ble_eq_true rfl) (Or.inl rfl) (Nat.le_refl _) (Nat.le_refl _) (Nat.le_refl _) (Nat.le_refl _) h1 (s_X12_fail v0 (1 : Int32) M _ e3) ?_
  cases hf
  exact g_ireturn dX12_damage_29 rfl (Nat.le_of_ble_eq_true rfl) (Nat.le_of_ble_eq_true rfl)
theorem s_X12_damage (v0 : Nat) (v1 : Int32) (v2 : Int32) (v3 : Int32) (v4 : Int32) (M : Mem) (r : (Int32 × Mem)) (hf : f_X12_damage v0 v1 v2 v3 v4 M = some r) : Sem mi_X12_damage (4) [aR v0, aI v1, aI v2, aI v3, aI v4] M (oI r.1) r.2 := by
  unfold f_X12_damage at hf
  refine sem_of (by decide) rfl rfl rfl (Nat.le_of_ble_eq_true rfl) (lv := [some (aR v0), some (aI v1), some (aI v2), some (aI v3), some (aI v4), none]) rfl ?_
  refine g_aload_n (pc' := 1) dX12_damage_0 rfl rfl ?_
  refine g_iconst (pc' := 2) (0 : Int32) dX12_damage_1 rfl (by decide) ?_
  obtain ⟨h1, hf⟩ := chk_s hf
  refine g_putI (pc' := 5) 12 2 rfl rfl (by decide) inX12 tyX12_ok nmX12 (by decide) rfl rfl rfl rfl q_167 dX12_damage_2 rfl h1 (gM fun M2 hM2 => ?_)
  have hf := ap_eq hf hM2
  refine g_aload_n (pc' := 6) dX12_damage_5 rfl rfl ?_
  refine g_iload_n (pc' := 7) dX12_damage_6 rfl rfl ?_
  refine g_iload_n (pc' := 8) dX12_damage_7 rfl rfl ?_
  obtain ⟨h3, hf⟩ := chk_s hf
  obtain ⟨r5, M4, e5, hf⟩ := bnd_some hf
  refine g_callVi (pc' := 11) (k' := 0) (u' := 0) (fr2 := 3) (As := [aI v1, aI v2]) (b := v0) (st := []) cf_X12_isEntry q_1006 (by omega) (ci := 12) rfl rfl (by decide) dX12_damage_8 rfl rfl rfl (Nat.le_of_ble_eq_true rfl) (Or.inl rfl) (Nat.le_refl _) (Nat.le_refl _) (Nat.le_refl _) (Nat.le_refl _) h3 (s_X12_isEntry v0 v1 v2 M2 _ e5) ?_
  refine g_if_eq (pc' := 14) 24 dX12_damage_11 rfl (by decide) (fun c6 => ?_) (fun c6 => ?_)
  · have hf := ite_t c6 hf
    refine g_mask [true, false, false, false, false, true] rfl ?_
    refine g_widen (k' := 0) (u' := 0) (by omega) (by omega) ?_
    exact s_X12_damage_24 v0 M4 _ hf
  · have hf := ite_f c6 hf
    refine g_iload_n (pc' := 15) dX12_damage_14 rfl rfl ?_
    refine g_i2l (pc' := 16) dX12_damage_15 rfl ?_
    refine g_lconst (pc' := 17) (0 : Int64) dX12_damage_16 rfl (by decide) ?_
    refine g_lconst (pc' := 18) (1 : Int64) dX12_damage_17 rfl (by decide) ?_
    obtain ⟨r8, M7, e8, hf⟩ := bnd_some hf
    refine g_callSi (pc' := 21) (k' := 0) (u' := 0) (fr2 := 1) (As := [aL v3.toInt64, aL (0 : Int64), aL (1 : Int64)]) (st := []) cf_X12_isIn q_932 (by omega) dX12_damage_18 rfl rfl rfl (Nat.le_of_ble_eq_true rfl) (Or.inl rfl) (Nat.le_refl _) (Nat.le_refl _) (Nat.le_refl _) (Nat.le_refl _) (s_X12_isIn v3.toInt64 (0 : Int64) (1 : Int64) M4 _ e8) ?_
    refine g_if_ne (pc' := 24) 30 dX12_damage_21 rfl (by decide) (fun c9 => ?_) (fun c9 => ?_)
    · have hf := ite_f c9 hf
      refine g_iload_n (pc' := 31) dX12_damage_30 rfl rfl ?_
      refine g_if_ne (pc' := 34) 43 dX12_damage_31 rfl (by decide) (fun c10 => ?_) (fun c10 => ?_)
      · have hf := ite_f c10 hf
        refine g_aload_n (pc' := 44) dX12_damage_43 rfl rfl ?_
        refine g_iload_n (pc' := 45) dX12_damage_44 rfl rfl ?_
        refine g_iload_n (pc' := 46) dX12_damage_45 rfl rfl ?_
        obtain ⟨h11, hf⟩ := chk_s hf
        obtain ⟨r13, M12, e13, hf⟩ := bnd_some hf
        refine g_callVi (pc' := 49) (k' := 0) (u' := 0) (fr2 := 1) (As := [aI v1, aI v2]) (b := v0) (st := []) cf_X12_defAt q_660 (by omega) (ci := 12) rfl rfl (by decide) dX12_damage_46 rfl rfl rfl (Nat.le_of_ble_eq_true rfl) (Or.inl rfl) (Nat.le_refl _) (Nat.le_refl _) (Nat.le_refl _) (Nat.le_refl _) h11 (s_X12_defAt v0 v1 v2 M7 _ e13) ?_
        refine g_widen (k' := 0) (u' := 0) (by omega) (by omega) ?_
        exact s_X12_damage_49 v0 v1 v2 v3 v4 r13 M12 _ hf
      · have hf := ite_t c10 hf
        refine g_aload_n (pc' := 35) dX12_damage_34 rfl rfl ?_
        refine g_iload_n (pc' := 36) dX12_damage_35 rfl rfl ?_
        refine g_iload_n (pc' := 37) dX12_damage_36 rfl rfl ?_
        obtain ⟨h14, hf⟩ := chk_s hf
        obtain ⟨r16, M15, e16, hf⟩ := bnd_some hf
        refine g_callVi (pc' := 40) (k' := 0) (u' := 0) (fr2 := 1) (As := [aI v1, aI v2]) (b := v0) (st := []) cf_X12_repAt q_656 (by omega) (ci := 12) rfl rfl (by decide) dX12_damage_37 rfl rfl rfl (Nat.le_of_ble_eq_true rfl) (Or.inl rfl) (Nat.le_refl _) (Nat.le_refl _) (Nat.le_refl _) (Nat.le_refl _) h14 (s_X12_repAt v0 v1 v2 M7 _ e16) ?_
        refine g_goto (pc' := 49) dX12_damage_40 (by decide) ?_
        refine g_widen (k' := 0) (u' := 0) (by omega) (by omega) ?_
        exact s_X12_damage_49 v0 v1 v2 v3 v4 r16 M15 _ hf
    · have hf := ite_t c9 hf
      refine g_mask [true, false, false, false, false, true] rfl ?_
      refine g_widen (k' := 0) (u' := 0) (by omega) (by omega) ?_
      exact s_X12_damage_24 v0 M7 _ hf
def f_X12_undo (v0 : Nat) (M : Mem) : Option (Int32 × Mem) :=
  if mK M v0 = 13 then
    ap (sI M v0 2 (0 : Int32)) fun M2 =>
    if mK M2 v0 = 13 then
      if (mI M2 v0 31) = 0 then
        some ((-1 : Int32), M2)
      else
        ap (sI M2 v0 31 ((mI M2 v0 31) - (1 : Int32))) fun M5 =>
        if mK M5 v0 = 13 then
          bnd (f_X12_unpack v0 (mR M5 v0 29) ((969 : Int32) * (mI M5 v0 31)) M5) fun _ M7 =>
          if mK M7 v0 = 13 then
            some (mI M7 v0 31, M7)
          else none
        else none
    else none
  else none
theorem s_X12_undo (v0 : Nat) (M : Mem) (r : (Int32 × Mem)) (hf : f_X12_undo v0 M = some r) : Sem mi_X12_undo (2) [aR v0] M (oI r.1) r.2 := by
  unfold f_X12_undo at hf
  refine sem_of (by decide) rfl rfl rfl (Nat.le_of_ble_eq_true rfl) (lv := [some (aR v0)]) rfl ?_
  refine g_aload_n (pc' := 1) dX12_undo_0 rfl rfl ?_
  refine g_iconst (pc' := 2) (0 : Int32) dX12_undo_1 rfl (by decide) ?_
  obtain ⟨h1, hf⟩ := chk_s hf
  refine g_putI (pc' := 5) 12 2 rfl rfl (by decide) inX12 tyX12_ok nmX12 (by decide) rfl rfl rfl rfl q_167 dX12_undo_2 rfl h1 (gM fun M2 hM2 => ?_)
  have hf := ap_eq hf hM2
  refine g_aload_n (pc' := 6) dX12_undo_5 rfl rfl ?_
  obtain ⟨h3, hf⟩ := chk_s hf
  refine g_getI (pc' := 9) 12 31 rfl rfl (by decide) inX12 (by decide) rfl rfl q_365 dX12_undo_6 rfl h3 ?_
  refine g_if_ne (pc' := 12) 14 dX12_undo_9 rfl (by decide) (fun c4 => ?_) (fun c4 => ?_)
  · have hf := ite_f c4 hf
    refine g_aload_n (pc' := 15) dX12_undo_14 rfl rfl ?_
    refine g_dup (pc' := 16) dX12_undo_15 rfl rfl ?_
    refine g_getI (pc' := 19) 12 31 rfl rfl (by decide) inX12 (by decide) rfl rfl q_365 dX12_undo_16 rfl h3 ?_
    refine g_iconst (pc' := 20) (1 : Int32) dX12_undo_19 rfl (by decide) ?_
    refine g_isub (pc' := 21) dX12_undo_20 rfl ?_
    refine g_putI (pc' := 24) 12 31 rfl rfl (by decide) inX12 tyX12_ok nmX12 (by decide) rfl rfl rfl rfl q_365 dX12_undo_21 rfl h3 (gM fun M5 hM5 => ?_)
    have hf := ap_eq hf hM5
    refine g_aload_n (pc' := 25) dX12_undo_24 rfl rfl ?_
    refine g_aload_n (pc' := 26) dX12_undo_25 rfl rfl ?_
    obtain ⟨h6, hf⟩ := chk_s hf
    refine g_getR (pc' := 29) 12 29 rfl rfl (by decide) inX12 (by decide) rfl rfl q_141 dX12_undo_26 rfl h6 ?_
    refine g_sipush (pc' := 32) (969 : Int32) dX12_undo_29 rfl (by decide) ?_
    refine g_aload_n (pc' := 33) dX12_undo_32 rfl rfl ?_
    refine g_getI (pc' := 36) 12 31 rfl rfl (by decide) inX12 (by decide) rfl rfl q_365 dX12_undo_33 rfl h6 ?_
    refine g_imul (pc' := 37) dX12_undo_36 rfl ?_
    obtain ⟨_, M7, e8, hf⟩ := bnd_some hf
    refine g_callVv (pc' := 40) (k' := 0) (u' := 0) (fr2 := 1) (As := [aR (mR M5 v0 29), aI ((969 : Int32) * (mI M5 v0 31))]) (b := v0) (st := []) cf_X12_unpack q_734 (by omega) (ci := 12) rfl rfl (by decide) dX12_undo_37 rfl rfl rfl (Nat.le_of_ble_eq_true rfl) (Or.inl rfl) (Nat.le_refl _) (Nat.le_refl _) (Nat.le_refl _) (Nat.le_refl _) h6 (s_X12_unpack v0 (mR M5 v0 29) ((969 : Int32) * (mI M5 v0 31)) M5 _ e8) ?_
    refine g_aload_n (pc' := 41) dX12_undo_40 rfl rfl ?_
    obtain ⟨h9, hf⟩ := chk_s hf
    refine g_getI (pc' := 44) 12 31 rfl rfl (by decide) inX12 (by decide) rfl rfl q_365 dX12_undo_41 rfl h9 ?_
    cases hf
    exact g_ireturn dX12_undo_44 rfl (Nat.le_of_ble_eq_true rfl) (Nat.le_of_ble_eq_true rfl)
  · have hf := ite_t c4 hf
    refine g_iconst (pc' := 13) (-1 : Int32) dX12_undo_12 rfl (by decide) ?_
    cases hf
    exact g_ireturn dX12_undo_13 rfl (Nat.le_of_ble_eq_true rfl) (Nat.le_of_ble_eq_true rfl)
def f_X12_drawOf (v0 : Nat) (v1 : Int32) (M : Mem) : Option (Int32 × Mem) :=
  if mK M v0 = 13 then
    ap (sI M v0 49 (((mI M v0 49) * (1103515245 : Int32)) + (12345 : Int32))) fun M2 =>
    if mK M2 v0 = 13 then
      if ¬ v1 = 0 then
      some ((((mI M2 v0 49) >>> ((16 : Int32) &&& 31)) &&& (32767 : Int32)) - (((mI M2 v0 49) >>> ((16 : Int32) &&& 31)) &&& (32767 : Int32)) / v1 * v1, M2)
      else none
    else none
  else none
theorem s_X12_drawOf (v0 : Nat) (v1 : Int32) (M : Mem) (r : (Int32 × Mem)) (hf : f_X12_drawOf v0 v1 M = some r) : Sem mi_X12_drawOf (1) [aR v0, aI v1] M (oI r.1) r.2 := by
  unfold f_X12_drawOf at hf
  refine sem_of (by decide) rfl rfl rfl (Nat.le_of_ble_eq_true rfl) (lv := [some (aR v0), some (aI v1)]) rfl ?_
  refine g_aload_n (pc' := 1) dX12_drawOf_0 rfl rfl ?_
  refine g_aload_n (pc' := 2) dX12_drawOf_1 rfl rfl ?_
  obtain ⟨h1, hf⟩ := chk_s hf
  refine g_getI (pc' := 5) 12 49 rfl rfl (by decide) inX12 (by decide) rfl rfl q_1537 dX12_drawOf_2 rfl h1 ?_
  refine g_ldcw (pc' := 8) (v := (1103515245 : Int32)) dX12_drawOf_5 rfl q_1546 ?_
  refine g_imul (pc' := 9) dX12_drawOf_8 rfl ?_
  refine g_sipush (pc' := 12) (12345 : Int32) dX12_drawOf_9 rfl (by decide) ?_
  refine g_iadd (pc' := 13) dX12_drawOf_12 rfl ?_
  refine g_putI (pc' := 16) 12 49 rfl rfl (by decide) inX12 tyX12_ok nmX12 (by decide) rfl rfl rfl rfl q_1537 dX12_drawOf_13 rfl h1 (gM fun M2 hM2 => ?_)
  have hf := ap_eq hf hM2
  refine g_aload_n (pc' := 17) dX12_drawOf_16 rfl rfl ?_
  obtain ⟨h3, hf⟩ := chk_s hf
  refine g_getI (pc' := 20) 12 49 rfl rfl (by decide) inX12 (by decide) rfl rfl q_1537 dX12_drawOf_17 rfl h3 ?_
  refine g_bipush (pc' := 22) (16 : Int32) dX12_drawOf_20 rfl (by decide) ?_
  refine g_ishr (pc' := 23) dX12_drawOf_22 rfl ?_
  refine g_sipush (pc' := 26) (32767 : Int32) dX12_drawOf_23 rfl (by decide) ?_
  refine g_iand (pc' := 27) dX12_drawOf_26 rfl ?_
  refine g_iload_n (pc' := 28) dX12_drawOf_27 rfl rfl ?_
  obtain ⟨hz4, hf⟩ := chk_s hf
  refine g_irem (pc' := 29) dX12_drawOf_28 rfl hz4 ?_
  cases hf
  exact g_ireturn dX12_drawOf_29 rfl (Nat.le_of_ble_eq_true rfl) (Nat.le_of_ble_eq_true rfl)
def f_X12_drawItem (kF : Nat → Int32 → Int32 → Int32 → Mem → Option (Unit × Mem)) (v0 : Nat) (v1 : Int32) (v2 : Int32) (v3 : Int32) (M : Mem) : Option (Unit × Mem) :=
  if mK M v0 = 13 then
    if mK M (mR M v0 17) = 21 then
      if inB v1 (mN M (mR M v0 17)) = true then
        if (mI M (mR M v0 17) v1.toNatClampNeg) = (-1 : Int32) then
          bnd (kF v0 v1 v2 v3 M) fun _ M5 =>
          some ((), M5)
        else
          bnd (f_X12_drawOf v0 (100 : Int32) M) fun r8 M7 =>
          if mK M7 v0 = 13 then
            bnd (f_X12_append v0 (mI M (mR M v0 17) v1.toNatClampNeg) v2 v3 r8 M7) fun _ M10 =>
            some ((), M10)
          else none
      else none
    else none
  else none
theorem s_X12_drawItem (kF : Nat → Int32 → Int32 → Int32 → Mem → Option (Unit × Mem)) (F : Nat) (hF : ∀ (a0 : Nat) (a1 : Int32) (a2 : Int32) (a3 : Int32) (M : Mem) (r : (Unit × Mem)), kF a0 a1 a2 a3 M = some r → Sem mi_X12_drawValues F [aR a0, aI a1, aI a2, aI a3] M (oU r.1) r.2) (v0 : Nat) (v1 : Int32) (v2 : Int32) (v3 : Int32) (M : Mem) (r : (Unit × Mem)) (hf : f_X12_drawItem kF v0 v1 v2 v3 M = some r) : Sem mi_X12_drawItem ((F + 3)) [aR v0, aI v1, aI v2, aI v3] M (oU r.1) r.2 := by
  unfold f_X12_drawItem at hf
  refine sem_of (by decide) rfl rfl rfl (Nat.le_of_ble_eq_true rfl) (lv := [some (aR v0), some (aI v1), some (aI v2), some (aI v3)]) rfl ?_
  refine g_aload_n (pc' := 1) dX12_drawItem_0 rfl rfl ?_
  obtain ⟨h1, hf⟩ := chk_s hf
  refine g_getR (pc' := 4) 12 17 rfl rfl (by decide) inX12 (by decide) rfl rfl q_129 dX12_drawItem_1 rfl h1 ?_
  refine g_iload_n (pc' := 5) dX12_drawItem_4 rfl rfl ?_
  obtain ⟨h2, hf⟩ := chk_s hf
  obtain ⟨b3, hf⟩ := chk_s hf
  refine g_iald (pc' := 6) dX12_drawItem_5 rfl h2 (inB_in b3) ?_
  refine g_iconst (pc' := 7) (-1 : Int32) dX12_drawItem_6 rfl (by decide) ?_
  refine g_icmp_eq (pc' := 10) 31 dX12_drawItem_7 rfl (by decide) (fun c4 => ?_) (fun c4 => ?_)
  · have hf := ite_t c4 hf
    refine g_aload_n (pc' := 32) dX12_drawItem_31 rfl rfl ?_
    refine g_iload_n (pc' := 33) dX12_drawItem_32 rfl rfl ?_
    refine g_iload_n (pc' := 34) dX12_drawItem_33 rfl rfl ?_
    refine g_iload_n (pc' := 35) dX12_drawItem_34 rfl rfl ?_
    obtain ⟨_, M5, e6, hf⟩ := bnd_some hf
    refine g_callVv (pc' := 38) (k' := 0) (u' := 0) (fr2 := F) (As := [aI v1, aI v2, aI v3]) (b := v0) (st := []) cf_X12_drawValues q_1538 (by omega) (ci := 12) rfl rfl (by decide) dX12_drawItem_35 rfl rfl rfl (Nat.le_of_ble_eq_true rfl) (Or.inl rfl) (Nat.le_refl _) (Nat.le_refl _) (Nat.le_refl _) (Nat.le_refl _) h1 (hF v0 v1 v2 v3 M _ e6) ?_
    cases hf
    exact g_return dX12_drawItem_38 rfl (Nat.le_of_ble_eq_true rfl) (Nat.le_of_ble_eq_true rfl)
  · have hf := ite_f c4 hf
    refine g_aload_n (pc' := 11) dX12_drawItem_10 rfl rfl ?_
    refine g_aload_n (pc' := 12) dX12_drawItem_11 rfl rfl ?_
    refine g_getR (pc' := 15) 12 17 rfl rfl (by decide) inX12 (by decide) rfl rfl q_129 dX12_drawItem_12 rfl h1 ?_
    refine g_iload_n (pc' := 16) dX12_drawItem_15 rfl rfl ?_
    refine g_iald (pc' := 17) dX12_drawItem_16 rfl h2 (inB_in b3) ?_
    refine g_iload_n (pc' := 18) dX12_drawItem_17 rfl rfl ?_
    refine g_iload_n (pc' := 19) dX12_drawItem_18 rfl rfl ?_
    refine g_aload_n (pc' := 20) dX12_drawItem_19 rfl rfl ?_
    refine g_bipush (pc' := 22) (100 : Int32) dX12_drawItem_20 rfl (by decide) ?_
    obtain ⟨r8, M7, e8, hf⟩ := bnd_some hf
    refine g_callVi (pc' := 25) (k' := 0) (u' := 0) (fr2 := 1) (As := [aI (100 : Int32)]) (b := v0) (st := [aI v3, aI v2, aI (mI M (mR M v0 17) v1.toNatClampNeg), aR v0]) cf_X12_drawOf q_1542 (by omega) (ci := 12) rfl rfl (by decide) dX12_drawItem_22 rfl rfl rfl (Nat.le_of_ble_eq_true rfl) (Or.inl rfl) (Nat.le_refl _) (Nat.le_refl _) (Nat.le_refl _) (Nat.le_refl _) h1 (s_X12_drawOf v0 (100 : Int32) M _ e8) ?_
    obtain ⟨h9, hf⟩ := chk_s hf
    obtain ⟨_, M10, e11, hf⟩ := bnd_some hf
    refine g_callVv (pc' := 28) (k' := 0) (u' := 0) (fr2 := 2) (As := [aI (mI M (mR M v0 17) v1.toNatClampNeg), aI v2, aI v3, aI r8]) (b := v0) (st := []) cf_X12_append q_713 (by omega) (ci := 12) rfl rfl (by decide) dX12_drawItem_25 rfl rfl rfl (Nat.le_of_ble_eq_true rfl) (Or.inl rfl) (Nat.le_refl _) (Nat.le_refl _) (Nat.le_refl _) (Nat.le_refl _) h9 (s_X12_append v0 (mI M (mR M v0 17) v1.toNatClampNeg) v2 v3 r8 M7 _ e11) ?_
    refine g_goto (pc' := 38) dX12_drawItem_28 (by decide) ?_
    cases hf
    exact g_return dX12_drawItem_38 rfl (Nat.le_of_ble_eq_true rfl) (Nat.le_of_ble_eq_true rfl)
def f_X12_drawValues_132 (kF : Nat → Int32 → Int32 → Int32 → Mem → Option (Unit × Mem)) (k3 : Nat → Int32 → Int32 → Int32 → Int32 → Mem → Option (Unit × Mem)) (v0 : Nat) (v1 : Int32) (v2 : Int32) (v3 : Int32) (v4 : Int32) (M : Mem) : Option (Unit × Mem) :=
  k3 v0 v1 v2 v3 (v4 + 1) M
def f_X12_drawValues_122 (kF : Nat → Int32 → Int32 → Int32 → Mem → Option (Unit × Mem)) (k3 : Nat → Int32 → Int32 → Int32 → Int32 → Mem → Option (Unit × Mem)) (k80 : Nat → Int32 → Int32 → Int32 → Int32 → Int32 → Int32 → Mem → Option (Unit × Mem)) (v0 : Nat) (v1 : Int32) (v2 : Int32) (v3 : Int32) (v4 : Int32) (v5 : Int32) (v6 : Int32) (w0 : Nat) (w1 : Int32) (w2 : Int32) (w3 : Int32) (w4 : Int32) (M : Mem) : Option (Unit × Mem) :=
  if mK M w0 = 13 then
    bnd (f_X12_drawItem kF w0 w1 w2 (w3 + w4) M) fun _ M2 =>
    k80 v0 v1 v2 v3 v4 v5 (v6 + 1) M2
  else none
def f_X12_drawValues_106 (kF : Nat → Int32 → Int32 → Int32 → Mem → Option (Unit × Mem)) (k3 : Nat → Int32 → Int32 → Int32 → Int32 → Mem → Option (Unit × Mem)) (k80 : Nat → Int32 → Int32 → Int32 → Int32 → Int32 → Int32 → Mem → Option (Unit × Mem)) (v0 : Nat) (v1 : Int32) (v2 : Int32) (v3 : Int32) (v4 : Int32) (v5 : Int32) (v6 : Int32) (w0 : Nat) (w1 : Int32) (w2 : Int32) (M : Mem) : Option (Unit × Mem) :=
  if mK M v0 = 13 then
    if mK M (mR M v0 15) = 21 then
      if inB v4 (mN M (mR M v0 15)) = true then
        if (mI M (mR M v0 15) v4.toNatClampNeg) = 0 then
          f_X12_drawValues_122 kF k3 k80 v0 v1 v2 v3 v4 v5 v6 w0 w1 w2 v3 (0 : Int32) M
        else
          f_X12_drawValues_122 kF k3 k80 v0 v1 v2 v3 v4 v5 v6 w0 w1 w2 v3 (1 : Int32) M
      else none
    else none
  else none
def f_X12_drawValues_80 (kF : Nat → Int32 → Int32 → Int32 → Mem → Option (Unit × Mem)) (k3 : Nat → Int32 → Int32 → Int32 → Int32 → Mem → Option (Unit × Mem)) : Nat → Nat → Int32 → Int32 → Int32 → Int32 → Int32 → Int32 → Mem → Option (Unit × Mem)
  | 0, _, _, _, _, _, _, _, _ => none
  | n + 1, v0, v1, v2, v3, v4, v5, v6, M =>
    if v5 ≤ v6 then
      f_X12_drawValues_132 kF k3 v0 v1 v2 v3 v4 M
    else
      if v6 = 0 then
        f_X12_drawValues_106 kF k3 (f_X12_drawValues_80 kF k3 n) v0 v1 v2 v3 v4 v5 v6 v0 v4 v2 M
      else
        if mK M v0 = 13 then
          if mK M (mR M v0 19) = 21 then
            if inB v4 (mN M (mR M v0 19)) = true then
              f_X12_drawValues_106 kF k3 (f_X12_drawValues_80 kF k3 n) v0 v1 v2 v3 v4 v5 v6 v0 v4 (mI M (mR M v0 19) v4.toNatClampNeg) M
            else none
          else none
        else none
def f_X12_drawValues_77 (kF : Nat → Int32 → Int32 → Int32 → Mem → Option (Unit × Mem)) (k3 : Nat → Int32 → Int32 → Int32 → Int32 → Mem → Option (Unit × Mem)) (v0 : Nat) (v1 : Int32) (v2 : Int32) (v3 : Int32) (v4 : Int32) (v5 : Int32) (M : Mem) : Option (Unit × Mem) :=
  f_X12_drawValues_80 kF k3 FUEL v0 v1 v2 v3 v4 v5 (0 : Int32) M
def f_X12_drawValues_62 (kF : Nat → Int32 → Int32 → Int32 → Mem → Option (Unit × Mem)) (k3 : Nat → Int32 → Int32 → Int32 → Int32 → Mem → Option (Unit × Mem)) (v0 : Nat) (v1 : Int32) (v2 : Int32) (v3 : Int32) (v4 : Int32) (w0 : Int32) (M : Mem) : Option (Unit × Mem) :=
  if w0 = 0 then
    if mK M v0 = 13 then
      bnd (f_X12_lackIn v0 v4 v2 v3 M) fun _ M3 =>
      f_X12_drawValues_77 kF k3 v0 v1 v2 v3 v4 w0 M3
    else none
  else
    f_X12_drawValues_77 kF k3 v0 v1 v2 v3 v4 w0 M
def f_X12_drawValues_59 (kF : Nat → Int32 → Int32 → Int32 → Mem → Option (Unit × Mem)) (k3 : Nat → Int32 → Int32 → Int32 → Int32 → Mem → Option (Unit × Mem)) (v0 : Nat) (v1 : Int32) (v2 : Int32) (v3 : Int32) (v4 : Int32) (w0 : Nat) (w1 : Int32) (M : Mem) : Option (Unit × Mem) :=
  if mK M w0 = 13 then
    bnd (f_X12_drawOf w0 w1 M) fun r3 M2 =>
    f_X12_drawValues_62 kF k3 v0 v1 v2 v3 v4 r3 M2
  else none
def f_X12_drawValues_3 (kF : Nat → Int32 → Int32 → Int32 → Mem → Option (Unit × Mem)) : Nat → Nat → Int32 → Int32 → Int32 → Int32 → Mem → Option (Unit × Mem)
  | 0, _, _, _, _, _, _ => none
  | n + 1, v0, v1, v2, v3, v4, M =>
    if mK M v0 = 13 then
      if mK M (mR M v0 23) = 21 then
        if inB (0 : Int32) (mN M (mR M v0 23)) = true then
          if (mI M (mR M v0 23) (0 : Int32).toNatClampNeg) ≤ v4 then
            some ((), M)
          else
            if mK M (mR M v0 16) = 21 then
              if inB v4 (mN M (mR M v0 16)) = true then
                if (mI M (mR M v0 16) v4.toNatClampNeg) = v1 then
                  if mK M (mR M v0 15) = 21 then
                    if inB v4 (mN M (mR M v0 15)) = true then
                      if (mI M (mR M v0 15) v4.toNatClampNeg) = 0 then
                        f_X12_drawValues_62 kF (f_X12_drawValues_3 kF n) v0 v1 v2 v3 v4 (1 : Int32) M
                      else
                        if (mI M (mR M v0 15) v4.toNatClampNeg) = (1 : Int32) then
                          f_X12_drawValues_59 kF (f_X12_drawValues_3 kF n) v0 v1 v2 v3 v4 v0 (2 : Int32) M
                        else
                          f_X12_drawValues_59 kF (f_X12_drawValues_3 kF n) v0 v1 v2 v3 v4 v0 (3 : Int32) M
                    else none
                  else none
                else
                  f_X12_drawValues_132 kF (f_X12_drawValues_3 kF n) v0 v1 v2 v3 v4 M
              else none
            else none
        else none
      else none
    else none
def f_X12_drawValues_o (kF : Nat → Int32 → Int32 → Int32 → Mem → Option (Unit × Mem)) (v0 : Nat) (v1 : Int32) (v2 : Int32) (v3 : Int32) (M : Mem) : Option (Unit × Mem) :=
  f_X12_drawValues_3 kF FUEL v0 v1 v2 v3 (0 : Int32) M
def f_X12_drawValues : Nat → Nat → Int32 → Int32 → Int32 → Mem → Option (Unit × Mem)
  | 0, _, _, _, _, _ => none
  | n + 1, v0, v1, v2, v3, M => f_X12_drawValues_o (f_X12_drawValues n) v0 v1 v2 v3 M
theorem s_X12_drawValues_132 (kF : Nat → Int32 → Int32 → Int32 → Mem → Option (Unit × Mem)) (k3 : Nat → Int32 → Int32 → Int32 → Int32 → Mem → Option (Unit × Mem)) (F : Nat) (hF : ∀ (a0 : Nat) (a1 : Int32) (a2 : Int32) (a3 : Int32) (M : Mem) (r : (Unit × Mem)), kF a0 a1 a2 a3 M = some r → Sem mi_X12_drawValues F [aR a0, aI a1, aI a2, aI a3] M (oU r.1) r.2) (hk3 : ∀ (v0 : Nat) (v1 : Int32) (v2 : Int32) (v3 : Int32) (v4 : Int32) (M : Mem) (r : (Unit × Mem)), k3 v0 v1 v2 v3 v4 M = some r → G mi_X12_drawValues (F + 4) (oU r.1) r.2 3 [some (aR v0), some (aI v1), some (aI v2), some (aI v3), some (aI v4), none, none] [] M 0 0) (v0 : Nat) (v1 : Int32) (v2 : Int32) (v3 : Int32) (v4 : Int32) (M : Mem) (r : (Unit × Mem)) (hf : f_X12_drawValues_132 kF k3 v0 v1 v2 v3 v4 M = some r) : G mi_X12_drawValues (F + 4) (oU r.1) r.2 132 [some (aR v0), some (aI v1), some (aI v2), some (aI v3), some (aI v4), none, none] [] M 0 0 := by
  unfold f_X12_drawValues_132 at hf
  refine g_iinc (pc' := 135) (lv' := [some (aR v0), some (aI v1), some (aI v2), some (aI v3), some (aI (v4 + 1)), none, none]) (v4 + 1) dX12_drawValues_132 rfl rfl (by rfl) rfl (by decide) rfl ?_
  refine g_goto (pc' := 3) dX12_drawValues_135 (by decide) ?_
  exact hk3 v0 v1 v2 v3 (v4 + 1) M _ hf
theorem s_X12_drawValues_122 (kF : Nat → Int32 → Int32 → Int32 → Mem → Option (Unit × Mem)) (k3 : Nat → Int32 → Int32 → Int32 → Int32 → Mem → Option (Unit × Mem)) (k80 : Nat → Int32 → Int32 → Int32 → Int32 → Int32 → Int32 → Mem → Option (Unit × Mem)) (F : Nat) (hF : ∀ (a0 : Nat) (a1 : Int32) (a2 : Int32) (a3 : Int32) (M : Mem) (r : (Unit × Mem)), kF a0 a1 a2 a3 M = some r → Sem mi_X12_drawValues F [aR a0, aI a1, aI a2, aI a3] M (oU r.1) r.2) (hk3 : ∀ (v0 : Nat) (v1 : Int32) (v2 : Int32) (v3 : Int32) (v4 : Int32) (M : Mem) (r : (Unit × Mem)), k3 v0 v1 v2 v3 v4 M = some r → G mi_X12_drawValues (F + 4) (oU r.1) r.2 3 [some (aR v0), some (aI v1), some (aI v2), some (aI v3), some (aI v4), none, none] [] M 0 0) (hk80 : ∀ (v0 : Nat) (v1 : Int32) (v2 : Int32) (v3 : Int32) (v4 : Int32) (v5 : Int32) (v6 : Int32) (M : Mem) (r : (Unit × Mem)), k80 v0 v1 v2 v3 v4 v5 v6 M = some r → G mi_X12_drawValues (F + 4) (oU r.1) r.2 80 [some (aR v0), some (aI v1), some (aI v2), some (aI v3), some (aI v4), some (aI v5), some (aI v6)] [] M 0 0) (v0 : Nat) (v1 : Int32) (v2 : Int32) (v3 : Int32) (v4 : Int32) (v5 : Int32) (v6 : Int32) (w0 : Nat) (w1 : Int32) (w2 : Int32) (w3 : Int32) (w4 : Int32) (M : Mem) (r : (Unit × Mem)) (hf : f_X12_drawValues_122 kF k3 k80 v0 v1 v2 v3 v4 v5 v6 w0 w1 w2 w3 w4 M = some r) : G mi_X12_drawValues (F + 4) (oU r.1) r.2 122 [some (aR v0), some (aI v1), some (aI v2), some (aI v3), some (aI v4), some (aI v5), some (aI v6)] [aI w4, aI w3, aI w2, aI w1, aR w0] M 0 0 := by
  unfold f_X12_drawValues_122 at hf
  refine g_iadd (pc' := 123) dX12_drawValues_122 rfl ?_
  obtain ⟨h1, hf⟩ := chk_s hf
  obtain ⟨_, M2, e3, hf⟩ := bnd_some hf
  refine g_callVv (pc' := 126) (k' := 0) (u' := 0) (fr2 := F + 3) (As := [aI w1, aI w2, aI (w3 + w4)]) (b := w0) (st := []) cf_X12_drawItem q_1547 (by omega) (ci := 12) rfl rfl (by decide) dX12_drawValues_123 rfl rfl rfl (Nat.le_of_ble_eq_true rfl) (Or.inl rfl) (Nat.le_refl _) (Nat.le_refl _) (Nat.le_refl _) (Nat.le_refl _) h1 (s_X12_drawItem kF F hF w0 w1 w2 (w3 + w4) M _ e3) ?_
  refine g_iinc (pc' := 129) (lv' := [some (aR v0), some (aI v1), some (aI v2), some (aI v3), some (aI v4), some (aI v5), some (aI (v6 + 1))]) (v6 + 1) dX12_drawValues_126 rfl rfl (by rfl) rfl (by decide) rfl ?_
  refine g_goto (pc' := 80) dX12_drawValues_129 (by decide) ?_
  refine g_widen (k' := 0) (u' := 0) (by omega) (by omega) ?_
  exact hk80 v0 v1 v2 v3 v4 v5 (v6 + 1) M2 _ hf
theorem s_X12_drawValues_106 (kF : Nat → Int32 → Int32 → Int32 → Mem → Option (Unit × Mem)) (k3 : Nat → Int32 → Int32 → Int32 → Int32 → Mem → Option (Unit × Mem)) (k80 : Nat → Int32 → Int32 → Int32 → Int32 → Int32 → Int32 → Mem → Option (Unit × Mem)) (F : Nat) (hF : ∀ (a0 : Nat) (a1 : Int32) (a2 : Int32) (a3 : Int32) (M : Mem) (r : (Unit × Mem)), kF a0 a1 a2 a3 M = some r → Sem mi_X12_drawValues F [aR a0, aI a1, aI a2, aI a3] M (oU r.1) r.2) (hk3 : ∀ (v0 : Nat) (v1 : Int32) (v2 : Int32) (v3 : Int32) (v4 : Int32) (M : Mem) (r : (Unit × Mem)), k3 v0 v1 v2 v3 v4 M = some r → G mi_X12_drawValues (F + 4) (oU r.1) r.2 3 [some (aR v0), some (aI v1), some (aI v2), some (aI v3), some (aI v4), none, none] [] M 0 0) (hk80 : ∀ (v0 : Nat) (v1 : Int32) (v2 : Int32) (v3 : Int32) (v4 : Int32) (v5 : Int32) (v6 : Int32) (M : Mem) (r : (Unit × Mem)), k80 v0 v1 v2 v3 v4 v5 v6 M = some r → G mi_X12_drawValues (F + 4) (oU r.1) r.2 80 [some (aR v0), some (aI v1), some (aI v2), some (aI v3), some (aI v4), some (aI v5), some (aI v6)] [] M 0 0) (v0 : Nat) (v1 : Int32) (v2 : Int32) (v3 : Int32) (v4 : Int32) (v5 : Int32) (v6 : Int32) (w0 : Nat) (w1 : Int32) (w2 : Int32) (M : Mem) (r : (Unit × Mem)) (hf : f_X12_drawValues_106 kF k3 k80 v0 v1 v2 v3 v4 v5 v6 w0 w1 w2 M = some r) : G mi_X12_drawValues (F + 4) (oU r.1) r.2 106 [some (aR v0), some (aI v1), some (aI v2), some (aI v3), some (aI v4), some (aI v5), some (aI v6)] [aI w2, aI w1, aR w0] M 0 0 := by
  unfold f_X12_drawValues_106 at hf
  refine g_iload_n (pc' := 107) dX12_drawValues_106 rfl rfl ?_
  refine g_aload_n (pc' := 108) dX12_drawValues_107 rfl rfl ?_
  obtain ⟨h1, hf⟩ := chk_s hf
  refine g_getR (pc' := 111) 12 15 rfl rfl (by decide) inX12 (by decide) rfl rfl q_127 dX12_drawValues_108 rfl h1 ?_
  refine g_iload (pc' := 113) dX12_drawValues_111 rfl rfl ?_
  obtain ⟨h2, hf⟩ := chk_s hf
  obtain ⟨b3, hf⟩ := chk_s hf
  refine g_iald (pc' := 114) dX12_drawValues_113 rfl h2 (inB_in b3) ?_
  refine g_if_ne (pc' := 117) 121 dX12_drawValues_114 rfl (by decide) (fun c4 => ?_) (fun c4 => ?_)
  · have hf := ite_f c4 hf
    refine g_iconst (pc' := 122) (1 : Int32) dX12_drawValues_121 rfl (by decide) ?_
    exact s_X12_drawValues_122 kF k3 k80 F hF hk3 hk80 v0 v1 v2 v3 v4 v5 v6 w0 w1 w2 v3 (1 : Int32) M _ hf
  · have hf := ite_t c4 hf
    refine g_iconst (pc' := 118) (0 : Int32) dX12_drawValues_117 rfl (by decide) ?_
    refine g_goto (pc' := 122) dX12_drawValues_118 (by decide) ?_
    exact s_X12_drawValues_122 kF k3 k80 F hF hk3 hk80 v0 v1 v2 v3 v4 v5 v6 w0 w1 w2 v3 (0 : Int32) M _ hf
theorem s_X12_drawValues_80 (kF : Nat → Int32 → Int32 → Int32 → Mem → Option (Unit × Mem)) (k3 : Nat → Int32 → Int32 → Int32 → Int32 → Mem → Option (Unit × Mem)) (F : Nat) (hF : ∀ (a0 : Nat) (a1 : Int32) (a2 : Int32) (a3 : Int32) (M : Mem) (r : (Unit × Mem)), kF a0 a1 a2 a3 M = some r → Sem mi_X12_drawValues F [aR a0, aI a1, aI a2, aI a3] M (oU r.1) r.2) (hk3 : ∀ (v0 : Nat) (v1 : Int32) (v2 : Int32) (v3 : Int32) (v4 : Int32) (M : Mem) (r : (Unit × Mem)), k3 v0 v1 v2 v3 v4 M = some r → G mi_X12_drawValues (F + 4) (oU r.1) r.2 3 [some (aR v0), some (aI v1), some (aI v2), some (aI v3), some (aI v4), none, none] [] M 0 0) : ∀ (n : Nat) (v0 : Nat) (v1 : Int32) (v2 : Int32) (v3 : Int32) (v4 : Int32) (v5 : Int32) (v6 : Int32) (M : Mem) (r : (Unit × Mem)), f_X12_drawValues_80 kF k3 n v0 v1 v2 v3 v4 v5 v6 M = some r → G mi_X12_drawValues (F + 4) (oU r.1) r.2 80 [some (aR v0), some (aI v1), some (aI v2), some (aI v3), some (aI v4), some (aI v5), some (aI v6)] [] M 0 0 := by
  intro n
  induction n with
  | zero => intro v0 v1 v2 v3 v4 v5 v6 M r hf; cases hf
  | succ n ih =>
    intro v0 v1 v2 v3 v4 v5 v6 M r hf
    unfold f_X12_drawValues_80 at hf
    refine g_iload (pc' := 82) dX12_drawValues_80 rfl rfl ?_
    refine g_iload (pc' := 84) dX12_drawValues_82 rfl rfl ?_
    refine g_icmp_ge (pc' := 87) 132 dX12_drawValues_84 rfl (by decide) (fun c1 => ?_) (fun c1 => ?_)
    · have hf := ite_t c1 hf
      refine g_mask [true, true, true, true, true, false, false] rfl ?_
      exact s_X12_drawValues_132 kF k3 F hF hk3 v0 v1 v2 v3 v4 M _ hf
    · have hf := ite_f c1 hf
      refine g_aload_n (pc' := 88) dX12_drawValues_87 rfl rfl ?_
      refine g_iload (pc' := 90) dX12_drawValues_88 rfl rfl ?_
      refine g_iload (pc' := 92) dX12_drawValues_90 rfl rfl ?_
      refine g_if_ne (pc' := 95) 99 dX12_drawValues_92 rfl (by decide) (fun c2 => ?_) (fun c2 => ?_)
      · have hf := ite_f c2 hf
        refine g_aload_n (pc' := 100) dX12_drawValues_99 rfl rfl ?_
        obtain ⟨h3, hf⟩ := chk_s hf
        refine g_getR (pc' := 103) 12 19 rfl rfl (by decide) inX12 (by decide) rfl rfl q_131 dX12_drawValues_100 rfl h3 ?_
        refine g_iload (pc' := 105) dX12_drawValues_103 rfl rfl ?_
        obtain ⟨h4, hf⟩ := chk_s hf
        obtain ⟨b5, hf⟩ := chk_s hf
        refine g_iald (pc' := 106) dX12_drawValues_105 rfl h4 (inB_in b5) ?_
        exact s_X12_drawValues_106 kF k3 (f_X12_drawValues_80 kF k3 n) F hF hk3 ih v0 v1 v2 v3 v4 v5 v6 v0 v4 (mI M (mR M v0 19) v4.toNatClampNeg) M _ hf
      · have hf := ite_t c2 hf
        refine g_iload_n (pc' := 96) dX12_drawValues_95 rfl rfl ?_
        refine g_goto (pc' := 106) dX12_drawValues_96 (by decide) ?_
        exact s_X12_drawValues_106 kF k3 (f_X12_drawValues_80 kF k3 n) F hF hk3 ih v0 v1 v2 v3 v4 v5 v6 v0 v4 v2 M _ hf
theorem s_X12_drawValues_77 (kF : Nat → Int32 → Int32 → Int32 → Mem → Option (Unit × Mem)) (k3 : Nat → Int32 → Int32 → Int32 → Int32 → Mem → Option (Unit × Mem)) (F : Nat) (hF : ∀ (a0 : Nat) (a1 : Int32) (a2 : Int32) (a3 : Int32) (M : Mem) (r : (Unit × Mem)), kF a0 a1 a2 a3 M = some r → Sem mi_X12_drawValues F [aR a0, aI a1, aI a2, aI a3] M (oU r.1) r.2) (hk3 : ∀ (v0 : Nat) (v1 : Int32) (v2 : Int32) (v3 : Int32) (v4 : Int32) (M : Mem) (r : (Unit × Mem)), k3 v0 v1 v2 v3 v4 M = some r → G mi_X12_drawValues (F + 4) (oU r.1) r.2 3 [some (aR v0), some (aI v1), some (aI v2), some (aI v3), some (aI v4), none, none] [] M 0 0) (v0 : Nat) (v1 : Int32) (v2 : Int32) (v3 : Int32) (v4 : Int32) (v5 : Int32) (M : Mem) (r : (Unit × Mem)) (hf : f_X12_drawValues_77 kF k3 v0 v1 v2 v3 v4 v5 M = some r) : G mi_X12_drawValues (F + 4) (oU r.1) r.2 77 [some (aR v0), some (aI v1), some (aI v2), some (aI v3), some (aI v4), some (aI v5), none] [] M 0 0 := by
  unfold f_X12_drawValues_77 at hf
  refine g_iconst (pc' := 78) (0 : Int32) dX12_drawValues_77 rfl (by decide) ?_
  refine g_istore (pc' := 80) (lv' := [some (aR v0), some (aI v1), some (aI v2), some (aI v3), some (aI v4), some (aI v5), some (aI (0 : Int32))]) dX12_drawValues_78 rfl rfl (by decide) rfl ?_
  exact s_X12_drawValues_80 kF k3 F hF hk3 FUEL v0 v1 v2 v3 v4 v5 (0 : Int32) M _ hf
theorem s_X12_drawValues_62 (kF : Nat → Int32 → Int32 → Int32 → Mem → Option (Unit × Mem)) (k3 : Nat → Int32 → Int32 → Int32 → Int32 → Mem → Option (Unit × Mem)) (F : Nat) (hF : ∀ (a0 : Nat) (a1 : Int32) (a2 : Int32) (a3 : Int32) (M : Mem) (r : (Unit × Mem)), kF a0 a1 a2 a3 M = some r → Sem mi_X12_drawValues F [aR a0, aI a1, aI a2, aI a3] M (oU r.1) r.2) (hk3 : ∀ (v0 : Nat) (v1 : Int32) (v2 : Int32) (v3 : Int32) (v4 : Int32) (M : Mem) (r : (Unit × Mem)), k3 v0 v1 v2 v3 v4 M = some r → G mi_X12_drawValues (F + 4) (oU r.1) r.2 3 [some (aR v0), some (aI v1), some (aI v2), some (aI v3), some (aI v4), none, none] [] M 0 0) (v0 : Nat) (v1 : Int32) (v2 : Int32) (v3 : Int32) (v4 : Int32) (w0 : Int32) (M : Mem) (r : (Unit × Mem)) (hf : f_X12_drawValues_62 kF k3 v0 v1 v2 v3 v4 w0 M = some r) : G mi_X12_drawValues (F + 4) (oU r.1) r.2 62 [some (aR v0), some (aI v1), some (aI v2), some (aI v3), some (aI v4), none, none] [aI w0] M 0 0 := by
  unfold f_X12_drawValues_62 at hf
  refine g_istore (pc' := 64) (lv' := [some (aR v0), some (aI v1), some (aI v2), some (aI v3), some (aI v4), some (aI w0), none]) dX12_drawValues_62 rfl rfl (by decide) rfl ?_
  refine g_iload (pc' := 66) dX12_drawValues_64 rfl rfl ?_
  refine g_if_ne (pc' := 69) 77 dX12_drawValues_66 rfl (by decide) (fun c1 => ?_) (fun c1 => ?_)
  · have hf := ite_f c1 hf
    exact s_X12_drawValues_77 kF k3 F hF hk3 v0 v1 v2 v3 v4 w0 M _ hf
  · have hf := ite_t c1 hf
    refine g_aload_n (pc' := 70) dX12_drawValues_69 rfl rfl ?_
    refine g_iload (pc' := 72) dX12_drawValues_70 rfl rfl ?_
    refine g_iload_n (pc' := 73) dX12_drawValues_72 rfl rfl ?_
    refine g_iload_n (pc' := 74) dX12_drawValues_73 rfl rfl ?_
    obtain ⟨h2, hf⟩ := chk_s hf
    obtain ⟨_, M3, e4, hf⟩ := bnd_some hf
    refine g_callVv (pc' := 77) (k' := 0) (u' := 0) (fr2 := 3) (As := [aI v4, aI v2, aI v3]) (b := v0) (st := []) cf_X12_lackIn q_709 (by omega) (ci := 12) rfl rfl (by decide) dX12_drawValues_74 rfl rfl rfl (Nat.le_of_ble_eq_true rfl) (Or.inl rfl) (Nat.le_refl _) (Nat.le_refl _) (Nat.le_refl _) (Nat.le_refl _) h2 (s_X12_lackIn v0 v4 v2 v3 M _ e4) ?_
    refine g_widen (k' := 0) (u' := 0) (by omega) (by omega) ?_
    exact s_X12_drawValues_77 kF k3 F hF hk3 v0 v1 v2 v3 v4 w0 M3 _ hf
theorem s_X12_drawValues_59 (kF : Nat → Int32 → Int32 → Int32 → Mem → Option (Unit × Mem)) (k3 : Nat → Int32 → Int32 → Int32 → Int32 → Mem → Option (Unit × Mem)) (F : Nat) (hF : ∀ (a0 : Nat) (a1 : Int32) (a2 : Int32) (a3 : Int32) (M : Mem) (r : (Unit × Mem)), kF a0 a1 a2 a3 M = some r → Sem mi_X12_drawValues F [aR a0, aI a1, aI a2, aI a3] M (oU r.1) r.2) (hk3 : ∀ (v0 : Nat) (v1 : Int32) (v2 : Int32) (v3 : Int32) (v4 : Int32) (M : Mem) (r : (Unit × Mem)), k3 v0 v1 v2 v3 v4 M = some r → G mi_X12_drawValues (F + 4) (oU r.1) r.2 3 [some (aR v0), some (aI v1), some (aI v2), some (aI v3), some (aI v4), none, none] [] M 0 0) (v0 : Nat) (v1 : Int32) (v2 : Int32) (v3 : Int32) (v4 : Int32) (w0 : Nat) (w1 : Int32) (M : Mem) (r : (Unit × Mem)) (hf : f_X12_drawValues_59 kF k3 v0 v1 v2 v3 v4 w0 w1 M = some r) : G mi_X12_drawValues (F + 4) (oU r.1) r.2 59 [some (aR v0), some (aI v1), some (aI v2), some (aI v3), some (aI v4), none, none] [aI w1, aR w0] M 0 0 := by
  unfold f_X12_drawValues_59 at hf
  obtain ⟨h1, hf⟩ := chk_s hf
  obtain ⟨r3, M2, e3, hf⟩ := bnd_some hf
  refine g_callVi (pc' := 62) (k' := 0) (u' := 0) (fr2 := 1) (As := [aI w1]) (b := w0) (st := []) cf_X12_drawOf q_1542 (by omega) (ci := 12) rfl rfl (by decide) dX12_drawValues_59 rfl rfl rfl (Nat.le_of_ble_eq_true rfl) (Or.inl rfl) (Nat.le_refl _) (Nat.le_refl _) (Nat.le_refl _) (Nat.le_refl _) h1 (s_X12_drawOf w0 w1 M _ e3) ?_
  refine g_widen (k' := 0) (u' := 0) (by omega) (by omega) ?_
  exact s_X12_drawValues_62 kF k3 F hF hk3 v0 v1 v2 v3 v4 r3 M2 _ hf
theorem s_X12_drawValues_3 (kF : Nat → Int32 → Int32 → Int32 → Mem → Option (Unit × Mem)) (F : Nat) (hF : ∀ (a0 : Nat) (a1 : Int32) (a2 : Int32) (a3 : Int32) (M : Mem) (r : (Unit × Mem)), kF a0 a1 a2 a3 M = some r → Sem mi_X12_drawValues F [aR a0, aI a1, aI a2, aI a3] M (oU r.1) r.2) : ∀ (n : Nat) (v0 : Nat) (v1 : Int32) (v2 : Int32) (v3 : Int32) (v4 : Int32) (M : Mem) (r : (Unit × Mem)), f_X12_drawValues_3 kF n v0 v1 v2 v3 v4 M = some r → G mi_X12_drawValues (F + 4) (oU r.1) r.2 3 [some (aR v0), some (aI v1), some (aI v2), some (aI v3), some (aI v4), none, none] [] M 0 0 := by
  intro n
  induction n with
  | zero => intro v0 v1 v2 v3 v4 M r hf; cases hf
  | succ n ih =>
    intro v0 v1 v2 v3 v4 M r hf
    unfold f_X12_drawValues_3 at hf
    refine g_iload (pc' := 5) dX12_drawValues_3 rfl rfl ?_
    refine g_aload_n (pc' := 6) dX12_drawValues_5 rfl rfl ?_
    obtain ⟨h1, hf⟩ := chk_s hf
    refine g_getR (pc' := 9) 12 23 rfl rfl (by decide) inX12 (by decide) rfl rfl q_135 dX12_drawValues_6 rfl h1 ?_
    refine g_iconst (pc' := 10) (0 : Int32) dX12_drawValues_9 rfl (by decide) ?_
    obtain ⟨h2, hf⟩ := chk_s hf
    obtain ⟨b3, hf⟩ := chk_s hf
    refine g_iald (pc' := 11) dX12_drawValues_10 rfl h2 (inB_in b3) ?_
    refine g_icmp_ge (pc' := 14) 138 dX12_drawValues_11 rfl (by decide) (fun c4 => ?_) (fun c4 => ?_)
    · have hf := ite_t c4 hf
      cases hf
      exact g_return dX12_drawValues_138 rfl (Nat.le_of_ble_eq_true rfl) (Nat.le_of_ble_eq_true rfl)
    · have hf := ite_f c4 hf
      refine g_aload_n (pc' := 15) dX12_drawValues_14 rfl rfl ?_
      refine g_getR (pc' := 18) 12 16 rfl rfl (by decide) inX12 (by decide) rfl rfl q_128 dX12_drawValues_15 rfl h1 ?_
      refine g_iload (pc' := 20) dX12_drawValues_18 rfl rfl ?_
      obtain ⟨h5, hf⟩ := chk_s hf
      obtain ⟨b6, hf⟩ := chk_s hf
      refine g_iald (pc' := 21) dX12_drawValues_20 rfl h5 (inB_in b6) ?_
      refine g_iload_n (pc' := 22) dX12_drawValues_21 rfl rfl ?_
      refine g_icmp_eq (pc' := 25) 28 dX12_drawValues_22 rfl (by decide) (fun c7 => ?_) (fun c7 => ?_)
      · have hf := ite_t c7 hf
        refine g_aload_n (pc' := 29) dX12_drawValues_28 rfl rfl ?_
        refine g_getR (pc' := 32) 12 15 rfl rfl (by decide) inX12 (by decide) rfl rfl q_127 dX12_drawValues_29 rfl h1 ?_
        refine g_iload (pc' := 34) dX12_drawValues_32 rfl rfl ?_
        obtain ⟨h8, hf⟩ := chk_s hf
        obtain ⟨b9, hf⟩ := chk_s hf
        refine g_iald (pc' := 35) dX12_drawValues_34 rfl h8 (inB_in b9) ?_
        refine g_if_ne (pc' := 38) 42 dX12_drawValues_35 rfl (by decide) (fun c10 => ?_) (fun c10 => ?_)
        · have hf := ite_f c10 hf
          refine g_aload_n (pc' := 43) dX12_drawValues_42 rfl rfl ?_
          refine g_aload_n (pc' := 44) dX12_drawValues_43 rfl rfl ?_
          refine g_getR (pc' := 47) 12 15 rfl rfl (by decide) inX12 (by decide) rfl rfl q_127 dX12_drawValues_44 rfl h1 ?_
          refine g_iload (pc' := 49) dX12_drawValues_47 rfl rfl ?_
          refine g_iald (pc' := 50) dX12_drawValues_49 rfl h8 (inB_in b9) ?_
          refine g_iconst (pc' := 51) (1 : Int32) dX12_drawValues_50 rfl (by decide) ?_
          refine g_icmp_ne (pc' := 54) 58 dX12_drawValues_51 rfl (by decide) (fun c11 => ?_) (fun c11 => ?_)
          · have hf := ite_f c11 hf
            refine g_iconst (pc' := 59) (3 : Int32) dX12_drawValues_58 rfl (by decide) ?_
            exact s_X12_drawValues_59 kF (f_X12_drawValues_3 kF n) F hF ih v0 v1 v2 v3 v4 v0 (3 : Int32) M _ hf
          · have hf := ite_t c11 hf
            refine g_iconst (pc' := 55) (2 : Int32) dX12_drawValues_54 rfl (by decide) ?_
            refine g_goto (pc' := 59) dX12_drawValues_55 (by decide) ?_
            exact s_X12_drawValues_59 kF (f_X12_drawValues_3 kF n) F hF ih v0 v1 v2 v3 v4 v0 (2 : Int32) M _ hf
        · have hf := ite_t c10 hf
          refine g_iconst (pc' := 39) (1 : Int32) dX12_drawValues_38 rfl (by decide) ?_
          refine g_goto (pc' := 62) dX12_drawValues_39 (by decide) ?_
          exact s_X12_drawValues_62 kF (f_X12_drawValues_3 kF n) F hF ih v0 v1 v2 v3 v4 (1 : Int32) M _ hf
      · have hf := ite_f c7 hf
        refine g_goto (pc' := 132) dX12_drawValues_25 (by decide) ?_
        exact s_X12_drawValues_132 kF (f_X12_drawValues_3 kF n) F hF ih v0 v1 v2 v3 v4 M _ hf
theorem s_X12_drawValues_o (kF : Nat → Int32 → Int32 → Int32 → Mem → Option (Unit × Mem)) (F : Nat) (hF : ∀ (a0 : Nat) (a1 : Int32) (a2 : Int32) (a3 : Int32) (M : Mem) (r : (Unit × Mem)), kF a0 a1 a2 a3 M = some r → Sem mi_X12_drawValues F [aR a0, aI a1, aI a2, aI a3] M (oU r.1) r.2) (v0 : Nat) (v1 : Int32) (v2 : Int32) (v3 : Int32) (M : Mem) (r : (Unit × Mem)) (hf : f_X12_drawValues_o kF v0 v1 v2 v3 M = some r) : Sem mi_X12_drawValues ((F + 4)) [aR v0, aI v1, aI v2, aI v3] M (oU r.1) r.2 := by
  unfold f_X12_drawValues_o at hf
  refine sem_of (by decide) rfl rfl rfl (Nat.le_of_ble_eq_true rfl) (lv := [some (aR v0), some (aI v1), some (aI v2), some (aI v3), none, none, none]) rfl ?_
  refine g_iconst (pc' := 1) (0 : Int32) dX12_drawValues_0 rfl (by decide) ?_
  refine g_istore (pc' := 3) (lv' := [some (aR v0), some (aI v1), some (aI v2), some (aI v3), some (aI (0 : Int32)), none, none]) dX12_drawValues_1 rfl rfl (by decide) rfl ?_
  exact s_X12_drawValues_3 kF F hF FUEL v0 v1 v2 v3 (0 : Int32) M _ hf
theorem s_X12_drawValues : ∀ (n : Nat) (v0 : Nat) (v1 : Int32) (v2 : Int32) (v3 : Int32) (M : Mem) (r : (Unit × Mem)), f_X12_drawValues n v0 v1 v2 v3 M = some r → Sem mi_X12_drawValues (4 * n + 0) [aR v0, aI v1, aI v2, aI v3] M (oU r.1) r.2 := by
  intro n
  induction n with
  | zero => intro v0 v1 v2 v3 M r hf; cases hf
  | succ n ih =>
    intro v0 v1 v2 v3 M r hf
    rw [show 4 * (n + 1) + 0 = 4 * n + 0 + 4 by omega]
    exact s_X12_drawValues_o (f_X12_drawValues n) (4 * n + 0) ih v0 v1 v2 v3 M r hf
def f_X12_valuesSum_46 (k4 : Nat → Int32 → Int32 → Mem → Option (Int32 × Mem)) (k16 : Nat → Int32 → Int32 → Int32 → Mem → Option (Int32 × Mem)) (v0 : Nat) (v2 : Int32) (v3 : Int32) (w0 : Int32) (w1 : Int32) (M : Mem) : Option (Int32 × Mem) :=
  k16 v0 (w0 + w1) v2 (v3 + 1) M
def f_X12_valuesSum_16 (k4 : Nat → Int32 → Int32 → Mem → Option (Int32 × Mem)) : Nat → Nat → Int32 → Int32 → Int32 → Mem → Option (Int32 × Mem)
  | 0, _, _, _, _, _ => none
  | n + 1, v0, v1, v2, v3, M =>
    if mK M v0 = 13 then
      if mK M (mR M v0 28) = 21 then
        if inB v2 (mN M (mR M v0 28)) = true then
          if (mI M (mR M v0 28) v2.toNatClampNeg) ≤ v3 then
            k4 v0 v1 (v2 + 1) M
          else
            bnd (f_X12_hasValue v0 v2 v3 M) fun r6 M5 =>
            if r6 = 0 then
              f_X12_valuesSum_46 k4 (f_X12_valuesSum_16 k4 n) v0 v2 v3 v1 (0 : Int32) M5
            else
              if mK M5 v0 = 13 then
                bnd (f_X12_valueAt v0 v2 v3 M5) fun r10 M9 =>
                f_X12_valuesSum_46 k4 (f_X12_valuesSum_16 k4 n) v0 v2 v3 v1 r10 M9
              else none
        else none
      else none
    else none
def f_X12_valuesSum_4 : Nat → Nat → Int32 → Int32 → Mem → Option (Int32 × Mem)
  | 0, _, _, _, _ => none
  | n + 1, v0, v1, v2, M =>
    if mK M v0 = 13 then
      if mK M (mR M v0 24) = 21 then
        if inB (0 : Int32) (mN M (mR M v0 24)) = true then
          if (mI M (mR M v0 24) (0 : Int32).toNatClampNeg) ≤ v2 then
            some (v1, M)
          else
            f_X12_valuesSum_16 (f_X12_valuesSum_4 n) FUEL v0 v1 v2 (0 : Int32) M
        else none
      else none
    else none
def f_X12_valuesSum (v0 : Nat) (M : Mem) : Option (Int32 × Mem) :=
  f_X12_valuesSum_4 FUEL v0 (0 : Int32) (0 : Int32) M
theorem s_X12_valuesSum_46 (k4 : Nat → Int32 → Int32 → Mem → Option (Int32 × Mem)) (k16 : Nat → Int32 → Int32 → Int32 → Mem → Option (Int32 × Mem)) (hk4 : ∀ (v0 : Nat) (v1 : Int32) (v2 : Int32) (M : Mem) (r : (Int32 × Mem)), k4 v0 v1 v2 M = some r → G mi_X12_valuesSum 3 (oI r.1) r.2 4 [some (aR v0), some (aI v1), some (aI v2), none] [] M 0 0) (hk16 : ∀ (v0 : Nat) (v1 : Int32) (v2 : Int32) (v3 : Int32) (M : Mem) (r : (Int32 × Mem)), k16 v0 v1 v2 v3 M = some r → G mi_X12_valuesSum 3 (oI r.1) r.2 16 [some (aR v0), some (aI v1), some (aI v2), some (aI v3)] [] M 0 0) (v0 : Nat) (v2 : Int32) (v3 : Int32) (w0 : Int32) (w1 : Int32) (M : Mem) (r : (Int32 × Mem)) (hf : f_X12_valuesSum_46 k4 k16 v0 v2 v3 w0 w1 M = some r) : G mi_X12_valuesSum 3 (oI r.1) r.2 46 [some (aR v0), none, some (aI v2), some (aI v3)] [aI w1, aI w0] M 0 0 := by
  unfold f_X12_valuesSum_46 at hf
  refine g_iadd (pc' := 47) dX12_valuesSum_46 rfl ?_
  refine g_istore_n (pc' := 48) (lv' := [some (aR v0), some (aI (w0 + w1)), some (aI v2), some (aI v3)]) dX12_valuesSum_47 rfl rfl (by decide) rfl ?_
  refine g_iinc (pc' := 51) (lv' := [some (aR v0), some (aI (w0 + w1)), some (aI v2), some (aI (v3 + 1))]) (v3 + 1) dX12_valuesSum_48 rfl rfl (by rfl) rfl (by decide) rfl ?_
  refine g_goto (pc' := 16) dX12_valuesSum_51 (by decide) ?_
  exact hk16 v0 (w0 + w1) v2 (v3 + 1) M _ hf
theorem s_X12_valuesSum_16 (k4 : Nat → Int32 → Int32 → Mem → Option (Int32 × Mem)) (hk4 : ∀ (v0 : Nat) (v1 : Int32) (v2 : Int32) (M : Mem) (r : (Int32 × Mem)), k4 v0 v1 v2 M = some r → G mi_X12_valuesSum 3 (oI r.1) r.2 4 [some (aR v0), some (aI v1), some (aI v2), none] [] M 0 0) : ∀ (n : Nat) (v0 : Nat) (v1 : Int32) (v2 : Int32) (v3 : Int32) (M : Mem) (r : (Int32 × Mem)), f_X12_valuesSum_16 k4 n v0 v1 v2 v3 M = some r → G mi_X12_valuesSum 3 (oI r.1) r.2 16 [some (aR v0), some (aI v1), some (aI v2), some (aI v3)] [] M 0 0 := by
  intro n
  induction n with
  | zero => intro v0 v1 v2 v3 M r hf; cases hf
  | succ n ih =>
    intro v0 v1 v2 v3 M r hf
    unfold f_X12_valuesSum_16 at hf
    refine g_iload_n (pc' := 17) dX12_valuesSum_16 rfl rfl ?_
    refine g_aload_n (pc' := 18) dX12_valuesSum_17 rfl rfl ?_
    obtain ⟨h1, hf⟩ := chk_s hf
    refine g_getR (pc' := 21) 12 28 rfl rfl (by decide) inX12 (by decide) rfl rfl q_139 dX12_valuesSum_18 rfl h1 ?_
    refine g_iload_n (pc' := 22) dX12_valuesSum_21 rfl rfl ?_
    obtain ⟨h2, hf⟩ := chk_s hf
    obtain ⟨b3, hf⟩ := chk_s hf
    refine g_iald (pc' := 23) dX12_valuesSum_22 rfl h2 (inB_in b3) ?_
    refine g_icmp_ge (pc' := 26) 54 dX12_valuesSum_23 rfl (by decide) (fun c4 => ?_) (fun c4 => ?_)
    · have hf := ite_t c4 hf
      refine g_iinc (pc' := 57) (lv' := [some (aR v0), some (aI v1), some (aI (v2 + 1)), some (aI v3)]) (v2 + 1) dX12_valuesSum_54 rfl rfl (by rfl) rfl (by decide) rfl ?_
      refine g_goto (pc' := 4) dX12_valuesSum_57 (by decide) ?_
      refine g_mask [true, true, true, false] rfl ?_
      exact hk4 v0 v1 (v2 + 1) M _ hf
    · have hf := ite_f c4 hf
      refine g_iload_n (pc' := 27) dX12_valuesSum_26 rfl rfl ?_
      refine g_aload_n (pc' := 28) dX12_valuesSum_27 rfl rfl ?_
      refine g_iload_n (pc' := 29) dX12_valuesSum_28 rfl rfl ?_
      refine g_iload_n (pc' := 30) dX12_valuesSum_29 rfl rfl ?_
      obtain ⟨r6, M5, e6, hf⟩ := bnd_some hf
      refine g_callVi (pc' := 33) (k' := 0) (u' := 0) (fr2 := 2) (As := [aI v2, aI v3]) (b := v0) (st := [aI v1]) cf_X12_hasValue q_1010 (by omega) (ci := 12) rfl rfl (by decide) dX12_valuesSum_30 rfl rfl rfl (Nat.le_of_ble_eq_true rfl) (Or.inl rfl) (Nat.le_refl _) (Nat.le_refl _) (Nat.le_refl _) (Nat.le_refl _) h1 (s_X12_hasValue v0 v2 v3 M _ e6) ?_
      refine g_if_eq (pc' := 36) 45 dX12_valuesSum_33 rfl (by decide) (fun c7 => ?_) (fun c7 => ?_)
      · have hf := ite_t c7 hf
        refine g_iconst (pc' := 46) (0 : Int32) dX12_valuesSum_45 rfl (by decide) ?_
        refine g_mask [true, false, true, true] rfl ?_
        refine g_widen (k' := 0) (u' := 0) (by omega) (by omega) ?_
        exact s_X12_valuesSum_46 k4 (f_X12_valuesSum_16 k4 n) hk4 ih v0 v2 v3 v1 (0 : Int32) M5 _ hf
      · have hf := ite_f c7 hf
        refine g_aload_n (pc' := 37) dX12_valuesSum_36 rfl rfl ?_
        refine g_iload_n (pc' := 38) dX12_valuesSum_37 rfl rfl ?_
        refine g_iload_n (pc' := 39) dX12_valuesSum_38 rfl rfl ?_
        obtain ⟨h8, hf⟩ := chk_s hf
        obtain ⟨r10, M9, e10, hf⟩ := bnd_some hf
        refine g_callVi (pc' := 42) (k' := 0) (u' := 0) (fr2 := 1) (As := [aI v2, aI v3]) (b := v0) (st := [aI v1]) cf_X12_valueAt q_896 (by omega) (ci := 12) rfl rfl (by decide) dX12_valuesSum_39 rfl rfl rfl (Nat.le_of_ble_eq_true rfl) (Or.inl rfl) (Nat.le_refl _) (Nat.le_refl _) (Nat.le_refl _) (Nat.le_refl _) h8 (s_X12_valueAt v0 v2 v3 M5 _ e10) ?_
        refine g_goto (pc' := 46) dX12_valuesSum_42 (by decide) ?_
        refine g_mask [true, false, true, true] rfl ?_
        refine g_widen (k' := 0) (u' := 0) (by omega) (by omega) ?_
        exact s_X12_valuesSum_46 k4 (f_X12_valuesSum_16 k4 n) hk4 ih v0 v2 v3 v1 r10 M9 _ hf
theorem s_X12_valuesSum_4 : ∀ (n : Nat) (v0 : Nat) (v1 : Int32) (v2 : Int32) (M : Mem) (r : (Int32 × Mem)), f_X12_valuesSum_4 n v0 v1 v2 M = some r → G mi_X12_valuesSum 3 (oI r.1) r.2 4 [some (aR v0), some (aI v1), some (aI v2), none] [] M 0 0 := by
  intro n
  induction n with
  | zero => intro v0 v1 v2 M r hf; cases hf
  | succ n ih =>
    intro v0 v1 v2 M r hf
    unfold f_X12_valuesSum_4 at hf
    refine g_iload_n (pc' := 5) dX12_valuesSum_4 rfl rfl ?_
    refine g_aload_n (pc' := 6) dX12_valuesSum_5 rfl rfl ?_
    obtain ⟨h1, hf⟩ := chk_s hf
    refine g_getR (pc' := 9) 12 24 rfl rfl (by decide) inX12 (by decide) rfl rfl q_136 dX12_valuesSum_6 rfl h1 ?_
    refine g_iconst (pc' := 10) (0 : Int32) dX12_valuesSum_9 rfl (by decide) ?_
    obtain ⟨h2, hf⟩ := chk_s hf
    obtain ⟨b3, hf⟩ := chk_s hf
    refine g_iald (pc' := 11) dX12_valuesSum_10 rfl h2 (inB_in b3) ?_
    refine g_icmp_ge (pc' := 14) 60 dX12_valuesSum_11 rfl (by decide) (fun c4 => ?_) (fun c4 => ?_)
    · have hf := ite_t c4 hf
      refine g_iload_n (pc' := 61) dX12_valuesSum_60 rfl rfl ?_
      cases hf
      exact g_ireturn dX12_valuesSum_61 rfl (Nat.le_of_ble_eq_true rfl) (Nat.le_of_ble_eq_true rfl)
    · have hf := ite_f c4 hf
      refine g_iconst (pc' := 15) (0 : Int32) dX12_valuesSum_14 rfl (by decide) ?_
      refine g_istore_n (pc' := 16) (lv' := [some (aR v0), some (aI v1), some (aI v2), some (aI (0 : Int32))]) dX12_valuesSum_15 rfl rfl (by decide) rfl ?_
      exact s_X12_valuesSum_16 (f_X12_valuesSum_4 n) ih FUEL v0 v1 v2 (0 : Int32) M _ hf
theorem s_X12_valuesSum (v0 : Nat) (M : Mem) (r : (Int32 × Mem)) (hf : f_X12_valuesSum v0 M = some r) : Sem mi_X12_valuesSum (3) [aR v0] M (oI r.1) r.2 := by
  unfold f_X12_valuesSum at hf
  refine sem_of (by decide) rfl rfl rfl (Nat.le_of_ble_eq_true rfl) (lv := [some (aR v0), none, none, none]) rfl ?_
  refine g_iconst (pc' := 1) (0 : Int32) dX12_valuesSum_0 rfl (by decide) ?_
  refine g_istore_n (pc' := 2) (lv' := [some (aR v0), some (aI (0 : Int32)), none, none]) dX12_valuesSum_1 rfl rfl (by decide) rfl ?_
  refine g_iconst (pc' := 3) (0 : Int32) dX12_valuesSum_2 rfl (by decide) ?_
  refine g_istore_n (pc' := 4) (lv' := [some (aR v0), some (aI (0 : Int32)), some (aI (0 : Int32)), none]) dX12_valuesSum_3 rfl rfl (by decide) rfl ?_
  exact s_X12_valuesSum_4 FUEL v0 (0 : Int32) (0 : Int32) M _ hf
def f_X12_years_157 (v0 : Nat) (w0 : Int32) (M : Mem) : Option (Int32 × Mem) :=
  if mK M v0 = 13 then
    bnd (f_X12_unpack v0 (mR M v0 32) (0 : Int32) M) fun _ M2 =>
    some (w0, M2)
  else none
def f_X12_years_124 (k76 : Nat → Int32 → Int32 → Int32 → Mem → Option (Int32 × Mem)) (v0 : Nat) (v2 : Int32) (v3 : Int32) (v4 : Int32) (M : Mem) : Option (Int32 × Mem) :=
  k76 v0 v2 v3 (v4 + 1) M
def f_X12_years_76 : Nat → Nat → Int32 → Int32 → Int32 → Mem → Option (Int32 × Mem)
  | 0, _, _, _, _, _ => none
  | n + 1, v0, v2, v3, v4, M =>
    if v2 ≤ v4 then
      if v3 = 0 then
        if mK M v0 = 13 then
          f_X12_years_157 v0 (mI M v0 30) M
        else none
      else
        if v3 = (1 : Int32) then
          if mK M v0 = 13 then
            bnd (f_X12_valuesSum v0 M) fun r9 M8 =>
            f_X12_years_157 v0 r9 M8
          else none
        else
          if mK M v0 = 13 then
            bnd (f_X12_allEntries v0 M) fun r6 M5 =>
            f_X12_years_157 v0 r6 M5
          else none
    else
      if mK M v0 = 13 then
        bnd (f_X12_pack v0 (mR M v0 33) (0 : Int32) M) fun _ M12 =>
        if mK M12 v0 = 13 then
          bnd (f_X12_drawValues 6 v0 (-1 : Int32) (0 : Int32) (0 : Int32) M12) fun _ M15 =>
          if mK M15 v0 = 13 then
            ap (sI M15 v0 30 ((mI M15 v0 30) + (1 : Int32))) fun M18 =>
            if mK M18 v0 = 13 then
              bnd (f_X12_isTooMuch v0 M18) fun r21 M20 =>
              if r21 = 0 then
                f_X12_years_124 (f_X12_years_76 n) v0 v2 v3 v4 M20
              else
                if mK M20 v0 = 13 then
                  bnd (f_X12_unpack v0 (mR M20 v0 33) (0 : Int32) M20) fun _ M24 =>
                  f_X12_years_124 (f_X12_years_76 n) v0 v2 v3 v4 M24
                else none
            else none
          else none
        else none
      else none
def f_X12_years (v0 : Nat) (v1 : Int32) (v2 : Int32) (v3 : Int32) (M : Mem) : Option (Int32 × Mem) :=
  if mK M v0 = 13 then
    ap (sI M v0 2 (0 : Int32)) fun M2 =>
    bnd (f_X12_isIn v3.toInt64 (0 : Int64) (2 : Int64) M2) fun r4 M3 =>
    if r4 = 0 then
      if mK M3 v0 = 13 then
        bnd (f_X12_fail v0 (1 : Int32) M3) fun r26 M25 =>
        some (r26, M25)
      else none
    else
      bnd (f_X12_isIn v2.toInt64 (0 : Int64) (10 : Int64) M3) fun r7 M6 =>
      if r7 = 0 then
        if mK M6 v0 = 13 then
          bnd (f_X12_fail v0 (2 : Int32) M6) fun r23 M22 =>
          some (r23, M22)
        else none
      else
        if mK M6 v0 = 13 then
          if mK M6 (mR M6 v0 23) = 21 then
            if inB (0 : Int32) (mN M6 (mR M6 v0 23)) = true then
              if (mI M6 (mR M6 v0 23) (0 : Int32).toNatClampNeg) = 0 then
                some ((0 : Int32), M6)
              else
                bnd (f_X12_checked v0 M6) fun r14 M13 =>
                if r14 = 0 then
                  if mK M13 v0 = 13 then
                    bnd (f_X12_pack v0 (mR M13 v0 32) (0 : Int32) M13) fun _ M17 =>
                    if mK M17 v0 = 13 then
                      ap (sI M17 v0 49 v1) fun M20 =>
                      f_X12_years_76 FUEL v0 v2 v3 (0 : Int32) M20
                    else none
                  else none
                else
                  some ((0 : Int32), M13)
            else none
          else none
        else none
  else none
theorem s_X12_years_157 (v0 : Nat) (w0 : Int32) (M : Mem) (r : (Int32 × Mem)) (hf : f_X12_years_157 v0 w0 M = some r) : G mi_X12_years 25 (oI r.1) r.2 157 [some (aR v0), none, none, none, none] [aI w0] M 0 0 := by
  unfold f_X12_years_157 at hf
  refine g_istore (pc' := 159) (lv' := [some (aR v0), none, none, none, some (aI w0)]) dX12_years_157 rfl rfl (by decide) rfl ?_
  refine g_aload_n (pc' := 160) dX12_years_159 rfl rfl ?_
  refine g_aload_n (pc' := 161) dX12_years_160 rfl rfl ?_
  obtain ⟨h1, hf⟩ := chk_s hf
  refine g_getR (pc' := 164) 12 32 rfl rfl (by decide) inX12 (by decide) rfl rfl q_142 dX12_years_161 rfl h1 ?_
  refine g_iconst (pc' := 165) (0 : Int32) dX12_years_164 rfl (by decide) ?_
  obtain ⟨_, M2, e3, hf⟩ := bnd_some hf
  refine g_callVv (pc' := 168) (k' := 0) (u' := 0) (fr2 := 1) (As := [aR (mR M v0 32), aI (0 : Int32)]) (b := v0) (st := []) cf_X12_unpack q_734 (by omega) (ci := 12) rfl rfl (by decide) dX12_years_165 rfl rfl rfl (Nat.le_of_ble_eq_true rfl) (Or.inl rfl) (Nat.le_refl _) (Nat.le_refl _) (Nat.le_refl _) (Nat.le_refl _) h1 (s_X12_unpack v0 (mR M v0 32) (0 : Int32) M _ e3) ?_
  refine g_iload (pc' := 170) dX12_years_168 rfl rfl ?_
  cases hf
  exact g_ireturn dX12_years_170 rfl (Nat.le_of_ble_eq_true rfl) (Nat.le_of_ble_eq_true rfl)
theorem s_X12_years_124 (k76 : Nat → Int32 → Int32 → Int32 → Mem → Option (Int32 × Mem)) (hk76 : ∀ (v0 : Nat) (v2 : Int32) (v3 : Int32) (v4 : Int32) (M : Mem) (r : (Int32 × Mem)), k76 v0 v2 v3 v4 M = some r → G mi_X12_years 25 (oI r.1) r.2 76 [some (aR v0), none, some (aI v2), some (aI v3), some (aI v4)] [] M 0 0) (v0 : Nat) (v2 : Int32) (v3 : Int32) (v4 : Int32) (M : Mem) (r : (Int32 × Mem)) (hf : f_X12_years_124 k76 v0 v2 v3 v4 M = some r) : G mi_X12_years 25 (oI r.1) r.2 124 [some (aR v0), none, some (aI v2), some (aI v3), some (aI v4)] [] M 0 0 := by
  unfold f_X12_years_124 at hf
  refine g_iinc (pc' := 127) (lv' := [some (aR v0), none, some (aI v2), some (aI v3), some (aI (v4 + 1))]) (v4 + 1) dX12_years_124 rfl rfl (by rfl) rfl (by decide) rfl ?_
  refine g_goto (pc' := 76) dX12_years_127 (by decide) ?_
  exact hk76 v0 v2 v3 (v4 + 1) M _ hf
theorem s_X12_years_76 : ∀ (n : Nat) (v0 : Nat) (v2 : Int32) (v3 : Int32) (v4 : Int32) (M : Mem) (r : (Int32 × Mem)), f_X12_years_76 n v0 v2 v3 v4 M = some r → G mi_X12_years 25 (oI r.1) r.2 76 [some (aR v0), none, some (aI v2), some (aI v3), some (aI v4)] [] M 0 0 := by
  intro n
  induction n with
  | zero => intro v0 v2 v3 v4 M r hf; cases hf
  | succ n ih =>
    intro v0 v2 v3 v4 M r hf
    unfold f_X12_years_76 at hf
    refine g_iload (pc' := 78) dX12_years_76 rfl rfl ?_
    refine g_iload_n (pc' := 79) dX12_years_78 rfl rfl ?_
    refine g_icmp_ge (pc' := 82) 130 dX12_years_79 rfl (by decide) (fun c1 => ?_) (fun c1 => ?_)
    · have hf := ite_t c1 hf
      refine g_iload_n (pc' := 131) dX12_years_130 rfl rfl ?_
      refine g_if_ne (pc' := 134) 141 dX12_years_131 rfl (by decide) (fun c2 => ?_) (fun c2 => ?_)
      · have hf := ite_f c2 hf
        refine g_iload_n (pc' := 142) dX12_years_141 rfl rfl ?_
        refine g_iconst (pc' := 143) (1 : Int32) dX12_years_142 rfl (by decide) ?_
        refine g_icmp_ne (pc' := 146) 153 dX12_years_143 rfl (by decide) (fun c3 => ?_) (fun c3 => ?_)
        · have hf := ite_f c3 hf
          refine g_aload_n (pc' := 154) dX12_years_153 rfl rfl ?_
          obtain ⟨h4, hf⟩ := chk_s hf
          obtain ⟨r6, M5, e6, hf⟩ := bnd_some hf
          refine g_callVi (pc' := 157) (k' := 0) (u' := 0) (fr2 := 1) (As := []) (b := v0) (st := []) cf_X12_allEntries q_865 (by omega) (ci := 12) rfl rfl (by decide) dX12_years_154 rfl rfl rfl (Nat.le_of_ble_eq_true rfl) (Or.inl rfl) (Nat.le_refl _) (Nat.le_refl _) (Nat.le_refl _) (Nat.le_refl _) h4 (s_X12_allEntries v0 M _ e6) ?_
          refine g_mask [true, true, false, false, false] rfl ?_
          refine g_widen (k' := 0) (u' := 0) (by omega) (by omega) ?_
          exact s_X12_years_157 v0 r6 M5 _ hf
        · have hf := ite_t c3 hf
          refine g_aload_n (pc' := 147) dX12_years_146 rfl rfl ?_
          obtain ⟨h7, hf⟩ := chk_s hf
          obtain ⟨r9, M8, e9, hf⟩ := bnd_some hf
          refine g_callVi (pc' := 150) (k' := 0) (u' := 0) (fr2 := 3) (As := []) (b := v0) (st := []) cf_X12_valuesSum q_1551 (by omega) (ci := 12) rfl rfl (by decide) dX12_years_147 rfl rfl rfl (Nat.le_of_ble_eq_true rfl) (Or.inl rfl) (Nat.le_refl _) (Nat.le_refl _) (Nat.le_refl _) (Nat.le_refl _) h7 (s_X12_valuesSum v0 M _ e9) ?_
          refine g_goto (pc' := 157) dX12_years_150 (by decide) ?_
          refine g_mask [true, true, false, false, false] rfl ?_
          refine g_widen (k' := 0) (u' := 0) (by omega) (by omega) ?_
          exact s_X12_years_157 v0 r9 M8 _ hf
      · have hf := ite_t c2 hf
        refine g_aload_n (pc' := 135) dX12_years_134 rfl rfl ?_
        obtain ⟨h10, hf⟩ := chk_s hf
        refine g_getI (pc' := 138) 12 30 rfl rfl (by decide) inX12 (by decide) rfl rfl q_364 dX12_years_135 rfl h10 ?_
        refine g_goto (pc' := 157) dX12_years_138 (by decide) ?_
        refine g_mask [true, true, false, false, false] rfl ?_
        exact s_X12_years_157 v0 (mI M v0 30) M _ hf
    · have hf := ite_f c1 hf
      refine g_aload_n (pc' := 83) dX12_years_82 rfl rfl ?_
      refine g_aload_n (pc' := 84) dX12_years_83 rfl rfl ?_
      obtain ⟨h11, hf⟩ := chk_s hf
      refine g_getR (pc' := 87) 12 33 rfl rfl (by decide) inX12 (by decide) rfl rfl q_143 dX12_years_84 rfl h11 ?_
      refine g_iconst (pc' := 88) (0 : Int32) dX12_years_87 rfl (by decide) ?_
      obtain ⟨_, M12, e13, hf⟩ := bnd_some hf
      refine g_callVv (pc' := 91) (k' := 0) (u' := 0) (fr2 := 1) (As := [aR (mR M v0 33), aI (0 : Int32)]) (b := v0) (st := []) cf_X12_pack q_694 (by omega) (ci := 12) rfl rfl (by decide) dX12_years_88 rfl rfl rfl (Nat.le_of_ble_eq_true rfl) (Or.inl rfl) (Nat.le_refl _) (Nat.le_refl _) (Nat.le_refl _) (Nat.le_refl _) h11 (s_X12_pack v0 (mR M v0 33) (0 : Int32) M _ e13) ?_
      refine g_aload_n (pc' := 92) dX12_years_91 rfl rfl ?_
      refine g_iconst (pc' := 93) (-1 : Int32) dX12_years_92 rfl (by decide) ?_
      refine g_iconst (pc' := 94) (0 : Int32) dX12_years_93 rfl (by decide) ?_
      refine g_iconst (pc' := 95) (0 : Int32) dX12_years_94 rfl (by decide) ?_
      obtain ⟨h14, hf⟩ := chk_s hf
      obtain ⟨_, M15, e16, hf⟩ := bnd_some hf
      refine g_callVv (pc' := 98) (k' := 0) (u' := 0) (fr2 := 4 * 6 + 0) (As := [aI (-1 : Int32), aI (0 : Int32), aI (0 : Int32)]) (b := v0) (st := []) cf_X12_drawValues q_1538 (by omega) (ci := 12) rfl rfl (by decide) dX12_years_95 rfl rfl rfl (Nat.le_of_ble_eq_true rfl) (Or.inl rfl) (Nat.le_refl _) (Nat.le_refl _) (Nat.le_refl _) (Nat.le_refl _) h14 (s_X12_drawValues 6 v0 (-1 : Int32) (0 : Int32) (0 : Int32) M12 _ e16) ?_
      refine g_aload_n (pc' := 99) dX12_years_98 rfl rfl ?_
      refine g_dup (pc' := 100) dX12_years_99 rfl rfl ?_
      obtain ⟨h17, hf⟩ := chk_s hf
      refine g_getI (pc' := 103) 12 30 rfl rfl (by decide) inX12 (by decide) rfl rfl q_364 dX12_years_100 rfl h17 ?_
      refine g_iconst (pc' := 104) (1 : Int32) dX12_years_103 rfl (by decide) ?_
      refine g_iadd (pc' := 105) dX12_years_104 rfl ?_
      refine g_putI (pc' := 108) 12 30 rfl rfl (by decide) inX12 tyX12_ok nmX12 (by decide) rfl rfl rfl rfl q_364 dX12_years_105 rfl h17 (gM fun M18 hM18 => ?_)
      have hf := ap_eq hf hM18
      refine g_aload_n (pc' := 109) dX12_years_108 rfl rfl ?_
      obtain ⟨h19, hf⟩ := chk_s hf
      obtain ⟨r21, M20, e21, hf⟩ := bnd_some hf
      refine g_callVi (pc' := 112) (k' := 0) (u' := 0) (fr2 := 1) (As := []) (b := v0) (st := []) cf_X12_isTooMuch q_730 (by omega) (ci := 12) rfl rfl (by decide) dX12_years_109 rfl rfl rfl (Nat.le_of_ble_eq_true rfl) (Or.inl rfl) (Nat.le_refl _) (Nat.le_refl _) (Nat.le_refl _) (Nat.le_refl _) h19 (s_X12_isTooMuch v0 M18 _ e21) ?_
      refine g_if_eq (pc' := 115) 124 dX12_years_112 rfl (by decide) (fun c22 => ?_) (fun c22 => ?_)
      · have hf := ite_t c22 hf
        refine g_widen (k' := 0) (u' := 0) (by omega) (by omega) ?_
        exact s_X12_years_124 (f_X12_years_76 n) ih v0 v2 v3 v4 M20 _ hf
      · have hf := ite_f c22 hf
        refine g_aload_n (pc' := 116) dX12_years_115 rfl rfl ?_
        refine g_aload_n (pc' := 117) dX12_years_116 rfl rfl ?_
        obtain ⟨h23, hf⟩ := chk_s hf
        refine g_getR (pc' := 120) 12 33 rfl rfl (by decide) inX12 (by decide) rfl rfl q_143 dX12_years_117 rfl h23 ?_
        refine g_iconst (pc' := 121) (0 : Int32) dX12_years_120 rfl (by decide) ?_
        obtain ⟨_, M24, e25, hf⟩ := bnd_some hf
        refine g_callVv (pc' := 124) (k' := 0) (u' := 0) (fr2 := 1) (As := [aR (mR M20 v0 33), aI (0 : Int32)]) (b := v0) (st := []) cf_X12_unpack q_734 (by omega) (ci := 12) rfl rfl (by decide) dX12_years_121 rfl rfl rfl (Nat.le_of_ble_eq_true rfl) (Or.inl rfl) (Nat.le_refl _) (Nat.le_refl _) (Nat.le_refl _) (Nat.le_refl _) h23 (s_X12_unpack v0 (mR M20 v0 33) (0 : Int32) M20 _ e25) ?_
        refine g_widen (k' := 0) (u' := 0) (by omega) (by omega) ?_
        exact s_X12_years_124 (f_X12_years_76 n) ih v0 v2 v3 v4 M24 _ hf
theorem s_X12_years (v0 : Nat) (v1 : Int32) (v2 : Int32) (v3 : Int32) (M : Mem) (r : (Int32 × Mem)) (hf : f_X12_years v0 v1 v2 v3 M = some r) : Sem mi_X12_years (25) [aR v0, aI v1, aI v2, aI v3] M (oI r.1) r.2 := by
  unfold f_X12_years at hf
  refine sem_of (by decide) rfl rfl rfl (Nat.le_of_ble_eq_true rfl) (lv := [some (aR v0), some (aI v1), some (aI v2), some (aI v3), none]) rfl ?_
  refine g_aload_n (pc' := 1) dX12_years_0 rfl rfl ?_
  refine g_iconst (pc' := 2) (0 : Int32) dX12_years_1 rfl (by decide) ?_
  obtain ⟨h1, hf⟩ := chk_s hf
  refine g_putI (pc' := 5) 12 2 rfl rfl (by decide) inX12 tyX12_ok nmX12 (by decide) rfl rfl rfl rfl q_167 dX12_years_2 rfl h1 (gM fun M2 hM2 => ?_)
  have hf := ap_eq hf hM2
  refine g_iload_n (pc' := 6) dX12_years_5 rfl rfl ?_
  refine g_i2l (pc' := 7) dX12_years_6 rfl ?_
  refine g_lconst (pc' := 8) (0 : Int64) dX12_years_7 rfl (by decide) ?_
  refine g_ldc2 (pc' := 11) (v := (2 : Int64)) dX12_years_8 rfl q_1535 ?_
  obtain ⟨r4, M3, e4, hf⟩ := bnd_some hf
  refine g_callSi (pc' := 14) (k' := 0) (u' := 0) (fr2 := 1) (As := [aL v3.toInt64, aL (0 : Int64), aL (2 : Int64)]) (st := []) cf_X12_isIn q_932 (by omega) dX12_years_11 rfl rfl rfl (Nat.le_of_ble_eq_true rfl) (Or.inl rfl) (Nat.le_refl _) (Nat.le_refl _) (Nat.le_refl _) (Nat.le_refl _) (s_X12_isIn v3.toInt64 (0 : Int64) (2 : Int64) M2 _ e4) ?_
  refine g_if_ne (pc' := 17) 23 dX12_years_14 rfl (by decide) (fun c5 => ?_) (fun c5 => ?_)
  · have hf := ite_f c5 hf
    refine g_iload_n (pc' := 24) dX12_years_23 rfl rfl ?_
    refine g_i2l (pc' := 25) dX12_years_24 rfl ?_
    refine g_lconst (pc' := 26) (0 : Int64) dX12_years_25 rfl (by decide) ?_
    refine g_ldc2 (pc' := 29) (v := (10 : Int64)) dX12_years_26 rfl q_1536 ?_
    obtain ⟨r7, M6, e7, hf⟩ := bnd_some hf
    refine g_callSi (pc' := 32) (k' := 0) (u' := 0) (fr2 := 1) (As := [aL v2.toInt64, aL (0 : Int64), aL (10 : Int64)]) (st := []) cf_X12_isIn q_932 (by omega) dX12_years_29 rfl rfl rfl (Nat.le_of_ble_eq_true rfl) (Or.inl rfl) (Nat.le_refl _) (Nat.le_refl _) (Nat.le_refl _) (Nat.le_refl _) (s_X12_isIn v2.toInt64 (0 : Int64) (10 : Int64) M3 _ e7) ?_
    refine g_if_ne (pc' := 35) 41 dX12_years_32 rfl (by decide) (fun c8 => ?_) (fun c8 => ?_)
    · have hf := ite_f c8 hf
      refine g_aload_n (pc' := 42) dX12_years_41 rfl rfl ?_
      obtain ⟨h9, hf⟩ := chk_s hf
      refine g_getR (pc' := 45) 12 23 rfl rfl (by decide) inX12 (by decide) rfl rfl q_135 dX12_years_42 rfl h9 ?_
      refine g_iconst (pc' := 46) (0 : Int32) dX12_years_45 rfl (by decide) ?_
      obtain ⟨h10, hf⟩ := chk_s hf
      obtain ⟨b11, hf⟩ := chk_s hf
      refine g_iald (pc' := 47) dX12_years_46 rfl h10 (inB_in b11) ?_
      refine g_if_eq (pc' := 50) 57 dX12_years_47 rfl (by decide) (fun c12 => ?_) (fun c12 => ?_)
      · have hf := ite_t c12 hf
        refine g_iconst (pc' := 58) (0 : Int32) dX12_years_57 rfl (by decide) ?_
        cases hf
        exact g_ireturn dX12_years_58 rfl (Nat.le_of_ble_eq_true rfl) (Nat.le_of_ble_eq_true rfl)
      · have hf := ite_f c12 hf
        refine g_aload_n (pc' := 51) dX12_years_50 rfl rfl ?_
        obtain ⟨r14, M13, e14, hf⟩ := bnd_some hf
        refine g_callVi (pc' := 54) (k' := 0) (u' := 0) (fr2 := 4) (As := []) (b := v0) (st := []) cf_X12_checked q_648 (by omega) (ci := 12) rfl rfl (by decide) dX12_years_51 rfl rfl rfl (Nat.le_of_ble_eq_true rfl) (Or.inl rfl) (Nat.le_refl _) (Nat.le_refl _) (Nat.le_refl _) (Nat.le_refl _) h9 (s_X12_checked v0 M6 _ e14) ?_
        refine g_if_eq (pc' := 57) 59 dX12_years_54 rfl (by decide) (fun c15 => ?_) (fun c15 => ?_)
        · have hf := ite_t c15 hf
          refine g_aload_n (pc' := 60) dX12_years_59 rfl rfl ?_
          refine g_aload_n (pc' := 61) dX12_years_60 rfl rfl ?_
          obtain ⟨h16, hf⟩ := chk_s hf
          refine g_getR (pc' := 64) 12 32 rfl rfl (by decide) inX12 (by decide) rfl rfl q_142 dX12_years_61 rfl h16 ?_
          refine g_iconst (pc' := 65) (0 : Int32) dX12_years_64 rfl (by decide) ?_
          obtain ⟨_, M17, e18, hf⟩ := bnd_some hf
          refine g_callVv (pc' := 68) (k' := 0) (u' := 0) (fr2 := 1) (As := [aR (mR M13 v0 32), aI (0 : Int32)]) (b := v0) (st := []) cf_X12_pack q_694 (by omega) (ci := 12) rfl rfl (by decide) dX12_years_65 rfl rfl rfl (Nat.le_of_ble_eq_true rfl) (Or.inl rfl) (Nat.le_refl _) (Nat.le_refl _) (Nat.le_refl _) (Nat.le_refl _) h16 (s_X12_pack v0 (mR M13 v0 32) (0 : Int32) M13 _ e18) ?_
          refine g_aload_n (pc' := 69) dX12_years_68 rfl rfl ?_
          refine g_iload_n (pc' := 70) dX12_years_69 rfl rfl ?_
          obtain ⟨h19, hf⟩ := chk_s hf
          refine g_putI (pc' := 73) 12 49 rfl rfl (by decide) inX12 tyX12_ok nmX12 (by decide) rfl rfl rfl rfl q_1537 dX12_years_70 rfl h19 (gM fun M20 hM20 => ?_)
          have hf := ap_eq hf hM20
          refine g_iconst (pc' := 74) (0 : Int32) dX12_years_73 rfl (by decide) ?_
          refine g_istore (pc' := 76) (lv' := [some (aR v0), some (aI v1), some (aI v2), some (aI v3), some (aI (0 : Int32))]) dX12_years_74 rfl rfl (by decide) rfl ?_
          refine g_mask [true, false, true, true, true] rfl ?_
          refine g_widen (k' := 0) (u' := 0) (by omega) (by omega) ?_
          exact s_X12_years_76 FUEL v0 v2 v3 (0 : Int32) M20 _ hf
        · have hf := ite_f c15 hf
          refine g_iconst (pc' := 58) (0 : Int32) dX12_years_57 rfl (by decide) ?_
          cases hf
          exact g_ireturn dX12_years_58 rfl (Nat.le_of_ble_eq_true rfl) (Nat.le_of_ble_eq_true rfl)
    · have hf := ite_t c8 hf
      refine g_aload_n (pc' := 36) dX12_years_35 rfl rfl ?_
      refine g_iconst (pc' := 37) (2 : Int32) dX12_years_36 rfl (by decide) ?_
      obtain ⟨h21, hf⟩ := chk_s hf
      obtain ⟨r23, M22, e23, hf⟩ := bnd_some hf
      refine g_callVi (pc' := 40) (k' := 0) (u' := 0) (fr2 := 1) (As := [aI (2 : Int32)]) (b := v0) (st := []) cf_X12_fail q_904 (by omega) (ci := 12) rfl rfl (by decide) dX12_years_37 rfl rfl rfl (Nat.le_of_ble_eq_true rfl) (Or.inl rfl) (Nat.le_refl _) (Nat.le_refl _) (Nat.le_refl _) (Nat.le_refl _) h21 (s_X12_fail v0 (2 : Int32) M6 _ e23) ?_
      cases hf
      exact g_ireturn dX12_years_40 rfl (Nat.le_of_ble_eq_true rfl) (Nat.le_of_ble_eq_true rfl)
  · have hf := ite_t c5 hf
    refine g_aload_n (pc' := 18) dX12_years_17 rfl rfl ?_
    refine g_iconst (pc' := 19) (1 : Int32) dX12_years_18 rfl (by decide) ?_
    obtain ⟨h24, hf⟩ := chk_s hf
    obtain ⟨r26, M25, e26, hf⟩ := bnd_some hf
    refine g_callVi (pc' := 22) (k' := 0) (u' := 0) (fr2 := 1) (As := [aI (1 : Int32)]) (b := v0) (st := []) cf_X12_fail q_904 (by omega) (ci := 12) rfl rfl (by decide) dX12_years_19 rfl rfl rfl (Nat.le_of_ble_eq_true rfl) (Or.inl rfl) (Nat.le_refl _) (Nat.le_refl _) (Nat.le_refl _) (Nat.le_refl _) h24 (s_X12_fail v0 (1 : Int32) M3 _ e26) ?_
    cases hf
    exact g_ireturn dX12_years_22 rfl (Nat.le_of_ble_eq_true rfl) (Nat.le_of_ble_eq_true rfl)
def f_X12_copyTo_2 : Nat → Nat → Nat → Int32 → Mem → Option (Unit × Mem)
  | 0, _, _, _, _ => none
  | n + 1, v0, v1, v2, M =>
    if mK M v0 = 21 then
      if (Int32.ofNat (mN M v0)) ≤ v2 then
        some ((), M)
      else
        if mK M v1 = 21 then
          if inB v2 (mN M v1) = true then
            if inB v2 (mN M v0) = true then
              ap (sI M v0 v2.toNatClampNeg (mI M v1 v2.toNatClampNeg)) fun M6 =>
              f_X12_copyTo_2 n v0 v1 (v2 + 1) M6
            else none
          else none
        else none
    else none
def f_X12_copyTo (v0 : Nat) (v1 : Nat) (M : Mem) : Option (Unit × Mem) :=
  f_X12_copyTo_2 FUEL v0 v1 (0 : Int32) M
theorem s_X12_copyTo_2 : ∀ (n : Nat) (v0 : Nat) (v1 : Nat) (v2 : Int32) (M : Mem) (r : (Unit × Mem)), f_X12_copyTo_2 n v0 v1 v2 M = some r → G mi_X12_copyTo 1 (oU r.1) r.2 2 [some (aR v0), some (aR v1), some (aI v2)] [] M 0 0 := by
  intro n
  induction n with
  | zero => intro v0 v1 v2 M r hf; cases hf
  | succ n ih =>
    intro v0 v1 v2 M r hf
    unfold f_X12_copyTo_2 at hf
    refine g_iload_n (pc' := 3) dX12_copyTo_2 rfl rfl ?_
    refine g_aload_n (pc' := 4) dX12_copyTo_3 rfl rfl ?_
    obtain ⟨h1, hf⟩ := chk_s hf
    refine g_alen (pc' := 5) (t0 := 0) (fun _ => rfl) (by decide) dX12_copyTo_4 rfl h1 ?_
    refine g_icmp_ge (pc' := 8) 20 dX12_copyTo_5 rfl (by decide) (fun c2 => ?_) (fun c2 => ?_)
    · have hf := ite_t c2 hf
      cases hf
      exact g_return dX12_copyTo_20 rfl (Nat.le_of_ble_eq_true rfl) (Nat.le_of_ble_eq_true rfl)
    · have hf := ite_f c2 hf
      refine g_aload_n (pc' := 9) dX12_copyTo_8 rfl rfl ?_
      refine g_iload_n (pc' := 10) dX12_copyTo_9 rfl rfl ?_
      refine g_aload_n (pc' := 11) dX12_copyTo_10 rfl rfl ?_
      refine g_iload_n (pc' := 12) dX12_copyTo_11 rfl rfl ?_
      obtain ⟨h3, hf⟩ := chk_s hf
      obtain ⟨b4, hf⟩ := chk_s hf
      refine g_iald (pc' := 13) dX12_copyTo_12 rfl h3 (inB_in b4) ?_
      obtain ⟨b5, hf⟩ := chk_s hf
      refine g_iast (pc' := 14) dX12_copyTo_13 rfl h1 (inB_in b5) (gM fun M6 hM6 => ?_)
      have hf := ap_eq hf hM6
      refine g_iinc (pc' := 17) (lv' := [some (aR v0), some (aR v1), some (aI (v2 + 1))]) (v2 + 1) dX12_copyTo_14 rfl rfl (by rfl) rfl (by decide) rfl ?_
      refine g_goto (pc' := 2) dX12_copyTo_17 (by decide) ?_
      exact ih v0 v1 (v2 + 1) M6 _ hf
theorem s_X12_copyTo (v0 : Nat) (v1 : Nat) (M : Mem) (r : (Unit × Mem)) (hf : f_X12_copyTo v0 v1 M = some r) : Sem mi_X12_copyTo (1) [aR v0, aR v1] M (oU r.1) r.2 := by
  unfold f_X12_copyTo at hf
  refine sem_of (by decide) rfl rfl rfl (Nat.le_of_ble_eq_true rfl) (lv := [some (aR v0), some (aR v1), none]) rfl ?_
  refine g_iconst (pc' := 1) (0 : Int32) dX12_copyTo_0 rfl (by decide) ?_
  refine g_istore_n (pc' := 2) (lv' := [some (aR v0), some (aR v1), some (aI (0 : Int32))]) dX12_copyTo_1 rfl rfl (by decide) rfl ?_
  exact s_X12_copyTo_2 FUEL v0 v1 (0 : Int32) M _ hf
def f_X12_image (v0 : Nat) (M : Mem) : Option (Unit × Mem) :=
  if mK M v0 = 13 then
    ap (sI M v0 2 (0 : Int32)) fun M2 =>
    if mK M2 v0 = 13 then
      ap (sI M2 v0 50 (1 : Int32)) fun M4 =>
      if mK M4 v0 = 13 then
        ap (sI M4 v0 51 (mI M4 v0 31)) fun M6 =>
        if mK M6 v0 = 13 then
          bnd (f_X12_pack v0 (mR M6 v0 52) (0 : Int32) M6) fun _ M8 =>
          if mK M8 v0 = 13 then
            bnd (f_X12_copyTo (mR M8 v0 53) (mR M8 v0 29) M8) fun _ M11 =>
            if mK M11 v0 = 13 then
              bnd (f_X12_copyTo (mR M11 v0 54) (mR M11 v0 4) M11) fun _ M14 =>
              some ((), M14)
            else none
          else none
        else none
      else none
    else none
  else none
theorem s_X12_image (v0 : Nat) (M : Mem) (r : (Unit × Mem)) (hf : f_X12_image v0 M = some r) : Sem mi_X12_image (2) [aR v0] M (oU r.1) r.2 := by
  unfold f_X12_image at hf
  refine sem_of (by decide) rfl rfl rfl (Nat.le_of_ble_eq_true rfl) (lv := [some (aR v0)]) rfl ?_
  refine g_aload_n (pc' := 1) dX12_image_0 rfl rfl ?_
  refine g_iconst (pc' := 2) (0 : Int32) dX12_image_1 rfl (by decide) ?_
  obtain ⟨h1, hf⟩ := chk_s hf
  refine g_putI (pc' := 5) 12 2 rfl rfl (by decide) inX12 tyX12_ok nmX12 (by decide) rfl rfl rfl rfl q_167 dX12_image_2 rfl h1 (gM fun M2 hM2 => ?_)
  have hf := ap_eq hf hM2
  refine g_aload_n (pc' := 6) dX12_image_5 rfl rfl ?_
  refine g_iconst (pc' := 7) (1 : Int32) dX12_image_6 rfl (by decide) ?_
  obtain ⟨h3, hf⟩ := chk_s hf
  refine g_putZ (pc' := 10) 12 50 rfl rfl (by decide) inX12 tyX12_ok nmX12 (by decide) rfl rfl rfl rfl (Or.inr rfl) q_366 dX12_image_7 rfl h3 (gM fun M4 hM4 => ?_)
  have hf := ap_eq hf hM4
  refine g_aload_n (pc' := 11) dX12_image_10 rfl rfl ?_
  refine g_aload_n (pc' := 12) dX12_image_11 rfl rfl ?_
  obtain ⟨h5, hf⟩ := chk_s hf
  refine g_getI (pc' := 15) 12 31 rfl rfl (by decide) inX12 (by decide) rfl rfl q_365 dX12_image_12 rfl h5 ?_
  refine g_putI (pc' := 18) 12 51 rfl rfl (by decide) inX12 tyX12_ok nmX12 (by decide) rfl rfl rfl rfl q_1574 dX12_image_15 rfl h5 (gM fun M6 hM6 => ?_)
  have hf := ap_eq hf hM6
  refine g_aload_n (pc' := 19) dX12_image_18 rfl rfl ?_
  refine g_aload_n (pc' := 20) dX12_image_19 rfl rfl ?_
  obtain ⟨h7, hf⟩ := chk_s hf
  refine g_getR (pc' := 23) 12 52 rfl rfl (by decide) inX12 (by decide) rfl rfl q_150 dX12_image_20 rfl h7 ?_
  refine g_iconst (pc' := 24) (0 : Int32) dX12_image_23 rfl (by decide) ?_
  obtain ⟨_, M8, e9, hf⟩ := bnd_some hf
  refine g_callVv (pc' := 27) (k' := 0) (u' := 0) (fr2 := 1) (As := [aR (mR M6 v0 52), aI (0 : Int32)]) (b := v0) (st := []) cf_X12_pack q_694 (by omega) (ci := 12) rfl rfl (by decide) dX12_image_24 rfl rfl rfl (Nat.le_of_ble_eq_true rfl) (Or.inl rfl) (Nat.le_refl _) (Nat.le_refl _) (Nat.le_refl _) (Nat.le_refl _) h7 (s_X12_pack v0 (mR M6 v0 52) (0 : Int32) M6 _ e9) ?_
  refine g_aload_n (pc' := 28) dX12_image_27 rfl rfl ?_
  obtain ⟨h10, hf⟩ := chk_s hf
  refine g_getR (pc' := 31) 12 53 rfl rfl (by decide) inX12 (by decide) rfl rfl q_151 dX12_image_28 rfl h10 ?_
  refine g_aload_n (pc' := 32) dX12_image_31 rfl rfl ?_
  refine g_getR (pc' := 35) 12 29 rfl rfl (by decide) inX12 (by decide) rfl rfl q_141 dX12_image_32 rfl h10 ?_
  obtain ⟨_, M11, e12, hf⟩ := bnd_some hf
  refine g_callSv (pc' := 38) (k' := 0) (u' := 0) (fr2 := 1) (As := [aR (mR M8 v0 53), aR (mR M8 v0 29)]) (st := []) cf_X12_copyTo q_1575 (by omega) dX12_image_35 rfl rfl rfl (Nat.le_of_ble_eq_true rfl) (Or.inl rfl) (Nat.le_refl _) (Nat.le_refl _) (Nat.le_refl _) (Nat.le_refl _) (s_X12_copyTo (mR M8 v0 53) (mR M8 v0 29) M8 _ e12) ?_
  refine g_aload_n (pc' := 39) dX12_image_38 rfl rfl ?_
  obtain ⟨h13, hf⟩ := chk_s hf
  refine g_getR (pc' := 42) 12 54 rfl rfl (by decide) inX12 (by decide) rfl rfl q_152 dX12_image_39 rfl h13 ?_
  refine g_aload_n (pc' := 43) dX12_image_42 rfl rfl ?_
  refine g_getR (pc' := 46) 12 4 rfl rfl (by decide) inX12 (by decide) rfl rfl q_125 dX12_image_43 rfl h13 ?_
  obtain ⟨_, M14, e15, hf⟩ := bnd_some hf
  refine g_callSv (pc' := 49) (k' := 0) (u' := 0) (fr2 := 1) (As := [aR (mR M11 v0 54), aR (mR M11 v0 4)]) (st := []) cf_X12_copyTo q_1575 (by omega) dX12_image_46 rfl rfl rfl (Nat.le_of_ble_eq_true rfl) (Or.inl rfl) (Nat.le_refl _) (Nat.le_refl _) (Nat.le_refl _) (Nat.le_refl _) (s_X12_copyTo (mR M11 v0 54) (mR M11 v0 4) M11 _ e15) ?_
  cases hf
  exact g_return dX12_image_49 rfl (Nat.le_of_ble_eq_true rfl) (Nat.le_of_ble_eq_true rfl)
def f_X12_restore (v0 : Nat) (M : Mem) : Option (Int32 × Mem) :=
  if mK M v0 = 13 then
    ap (sI M v0 2 (0 : Int32)) fun M2 =>
    if mK M2 v0 = 13 then
      if (mI M2 v0 50) = 0 then
        some ((0 : Int32), M2)
      else
        ap (sI M2 v0 31 (mI M2 v0 51)) fun M5 =>
        if mK M5 v0 = 13 then
          bnd (f_X12_unpack v0 (mR M5 v0 52) (0 : Int32) M5) fun _ M7 =>
          if mK M7 v0 = 13 then
            bnd (f_X12_copyTo (mR M7 v0 29) (mR M7 v0 53) M7) fun _ M10 =>
            if mK M10 v0 = 13 then
              bnd (f_X12_copyTo (mR M10 v0 4) (mR M10 v0 54) M10) fun _ M13 =>
              some ((1 : Int32), M13)
            else none
          else none
        else none
    else none
  else none
theorem s_X12_restore (v0 : Nat) (M : Mem) (r : (Int32 × Mem)) (hf : f_X12_restore v0 M = some r) : Sem mi_X12_restore (2) [aR v0] M (oI r.1) r.2 := by
  unfold f_X12_restore at hf
  refine sem_of (by decide) rfl rfl rfl (Nat.le_of_ble_eq_true rfl) (lv := [some (aR v0)]) rfl ?_
  refine g_aload_n (pc' := 1) dX12_restore_0 rfl rfl ?_
  refine g_iconst (pc' := 2) (0 : Int32) dX12_restore_1 rfl (by decide) ?_
  obtain ⟨h1, hf⟩ := chk_s hf
  refine g_putI (pc' := 5) 12 2 rfl rfl (by decide) inX12 tyX12_ok nmX12 (by decide) rfl rfl rfl rfl q_167 dX12_restore_2 rfl h1 (gM fun M2 hM2 => ?_)
  have hf := ap_eq hf hM2
  refine g_aload_n (pc' := 6) dX12_restore_5 rfl rfl ?_
  obtain ⟨h3, hf⟩ := chk_s hf
  refine g_getI (pc' := 9) 12 50 rfl rfl (by decide) inX12 (by decide) rfl rfl q_366 dX12_restore_6 rfl h3 ?_
  refine g_if_ne (pc' := 12) 14 dX12_restore_9 rfl (by decide) (fun c4 => ?_) (fun c4 => ?_)
  · have hf := ite_f c4 hf
    refine g_aload_n (pc' := 15) dX12_restore_14 rfl rfl ?_
    refine g_aload_n (pc' := 16) dX12_restore_15 rfl rfl ?_
    refine g_getI (pc' := 19) 12 51 rfl rfl (by decide) inX12 (by decide) rfl rfl q_1574 dX12_restore_16 rfl h3 ?_
    refine g_putI (pc' := 22) 12 31 rfl rfl (by decide) inX12 tyX12_ok nmX12 (by decide) rfl rfl rfl rfl q_365 dX12_restore_19 rfl h3 (gM fun M5 hM5 => ?_)
    have hf := ap_eq hf hM5
    refine g_aload_n (pc' := 23) dX12_restore_22 rfl rfl ?_
    refine g_aload_n (pc' := 24) dX12_restore_23 rfl rfl ?_
    obtain ⟨h6, hf⟩ := chk_s hf
    refine g_getR (pc' := 27) 12 52 rfl rfl (by decide) inX12 (by decide) rfl rfl q_150 dX12_restore_24 rfl h6 ?_
    refine g_iconst (pc' := 28) (0 : Int32) dX12_restore_27 rfl (by decide) ?_
    obtain ⟨_, M7, e8, hf⟩ := bnd_some hf
    refine g_callVv (pc' := 31) (k' := 0) (u' := 0) (fr2 := 1) (As := [aR (mR M5 v0 52), aI (0 : Int32)]) (b := v0) (st := []) cf_X12_unpack q_734 (by omega) (ci := 12) rfl rfl (by decide) dX12_restore_28 rfl rfl rfl (Nat.le_of_ble_eq_true rfl) (Or.inl rfl) (Nat.le_refl _) (Nat.le_refl _) (Nat.le_refl _) (Nat.le_refl _) h6 (s_X12_unpack v0 (mR M5 v0 52) (0 : Int32) M5 _ e8) ?_
    refine g_aload_n (pc' := 32) dX12_restore_31 rfl rfl ?_
    obtain ⟨h9, hf⟩ := chk_s hf
    refine g_getR (pc' := 35) 12 29 rfl rfl (by decide) inX12 (by decide) rfl rfl q_141 dX12_restore_32 rfl h9 ?_
    refine g_aload_n (pc' := 36) dX12_restore_35 rfl rfl ?_
    refine g_getR (pc' := 39) 12 53 rfl rfl (by decide) inX12 (by decide) rfl rfl q_151 dX12_restore_36 rfl h9 ?_
    obtain ⟨_, M10, e11, hf⟩ := bnd_some hf
    refine g_callSv (pc' := 42) (k' := 0) (u' := 0) (fr2 := 1) (As := [aR (mR M7 v0 29), aR (mR M7 v0 53)]) (st := []) cf_X12_copyTo q_1575 (by omega) dX12_restore_39 rfl rfl rfl (Nat.le_of_ble_eq_true rfl) (Or.inl rfl) (Nat.le_refl _) (Nat.le_refl _) (Nat.le_refl _) (Nat.le_refl _) (s_X12_copyTo (mR M7 v0 29) (mR M7 v0 53) M7 _ e11) ?_
    refine g_aload_n (pc' := 43) dX12_restore_42 rfl rfl ?_
    obtain ⟨h12, hf⟩ := chk_s hf
    refine g_getR (pc' := 46) 12 4 rfl rfl (by decide) inX12 (by decide) rfl rfl q_125 dX12_restore_43 rfl h12 ?_
    refine g_aload_n (pc' := 47) dX12_restore_46 rfl rfl ?_
    refine g_getR (pc' := 50) 12 54 rfl rfl (by decide) inX12 (by decide) rfl rfl q_152 dX12_restore_47 rfl h12 ?_
    obtain ⟨_, M13, e14, hf⟩ := bnd_some hf
    refine g_callSv (pc' := 53) (k' := 0) (u' := 0) (fr2 := 1) (As := [aR (mR M10 v0 4), aR (mR M10 v0 54)]) (st := []) cf_X12_copyTo q_1575 (by omega) dX12_restore_50 rfl rfl rfl (Nat.le_of_ble_eq_true rfl) (Or.inl rfl) (Nat.le_refl _) (Nat.le_refl _) (Nat.le_refl _) (Nat.le_refl _) (s_X12_copyTo (mR M10 v0 4) (mR M10 v0 54) M10 _ e14) ?_
    refine g_iconst (pc' := 54) (1 : Int32) dX12_restore_53 rfl (by decide) ?_
    cases hf
    exact g_zreturn dX12_restore_54 rfl (Or.inr rfl) (Nat.le_of_ble_eq_true rfl) (Nat.le_of_ble_eq_true rfl)
  · have hf := ite_t c4 hf
    refine g_iconst (pc' := 13) (0 : Int32) dX12_restore_12 rfl (by decide) ?_
    cases hf
    exact g_zreturn dX12_restore_13 rfl (Or.inl rfl) (Nat.le_of_ble_eq_true rfl) (Nat.le_of_ble_eq_true rfl)
