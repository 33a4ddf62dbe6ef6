abbrev mi_X1_weigh : MI := (yX1_weigh, Cond.code yX1_weigh cX1_weigh 5 none, cX1_weigh, 5, none, [], 0, 0, 0, none)
theorem cf_X1_weigh : CFv mi_X1_weigh 0 := ⟨⟨rfl, q_840, wall_i_LeafStripes_Check, ⟨by decide, by decide, by decide +kernel⟩, by decide⟩, q_838, q_839⟩
abbrev mi_X2_init : MI := (yX2_init, Cond.code yX2_init cX2_init 1 none, cX2_init, 1, none, [], 3, 360, 1, none)
theorem cf_X2_init : CFi mi_X2_init 0 := ⟨⟨rfl, q_91, wall_i_LeafStripes_Column, ⟨by decide, by decide, by decide +kernel⟩, by decide⟩, q_90, rfl, rfl⟩
abbrev mi_X2_put : MI := (yX2_put, Cond.code yX2_put cX2_put 5 none, cX2_put, 5, none, [], 0, 0, 0, none)
theorem cf_X2_put : CFv mi_X2_put 4 := ⟨⟨rfl, q_605, wall_i_LeafStripes_Column, ⟨by decide, by decide, by decide +kernel⟩, by decide⟩, q_603, q_604⟩
abbrev mi_X2_copyFrom : MI := (yX2_copyFrom, Cond.code yX2_copyFrom cX2_copyFrom 2 none, cX2_copyFrom, 2, none, [], 0, 0, 0, none)
theorem cf_X2_copyFrom : CFv mi_X2_copyFrom 1 := ⟨⟨rfl, q_1568, wall_i_LeafStripes_Column, ⟨by decide, by decide, by decide +kernel⟩, by decide⟩, q_1566, q_1567⟩
abbrev mi_X2_packed : MI := (yX2_packed, Cond.code yX2_packed cX2_packed 2 (some .int), cX2_packed, 2, (some .int), [], 0, 0, 0, none)
theorem cf_X2_packed : CFv mi_X2_packed 1 := ⟨⟨rfl, q_1401, wall_i_LeafStripes_Column, ⟨by decide, by decide, by decide +kernel⟩, by decide⟩, q_1399, q_1400⟩
abbrev mi_X2_unpack : MI := (yX2_unpack, Cond.code yX2_unpack cX2_unpack 3 none, cX2_unpack, 3, none, [], 0, 0, 0, none)
theorem cf_X2_unpack : CFv mi_X2_unpack 2 := ⟨⟨rfl, q_1464, wall_i_LeafStripes_Column, ⟨by decide, by decide, by decide +kernel⟩, by decide⟩, q_1462, q_1463⟩
abbrev mi_X2_hasValue : MI := (yX2_hasValue, Cond.code yX2_hasValue cX2_hasValue 2 (some .boolean), cX2_hasValue, 2, (some .boolean), [], 0, 0, 0, none)
theorem cf_X2_hasValue : CFv mi_X2_hasValue 1 := ⟨⟨rfl, q_1000, wall_i_LeafStripes_Column, ⟨by decide, by decide, by decide +kernel⟩, by decide⟩, q_998, q_999⟩
abbrev mi_X2_firstOf : MI := (yX2_firstOf, Cond.code yX2_firstOf cX2_firstOf 4 (some .int), cX2_firstOf, 4, (some .int), [], 0, 0, 0, none)
theorem cf_X2_firstOf : CFv mi_X2_firstOf 1 := ⟨⟨rfl, q_1028, wall_i_LeafStripes_Column, ⟨by decide, by decide, by decide +kernel⟩, by decide⟩, q_1026, q_1027⟩
abbrev mi_X2_runsOf : MI := (yX2_runsOf, Cond.code yX2_runsOf cX2_runsOf 4 (some .int), cX2_runsOf, 4, (some .int), [], 0, 0, 0, none)
theorem cf_X2_runsOf : CFv mi_X2_runsOf 1 := ⟨⟨rfl, q_966, wall_i_LeafStripes_Column, ⟨by decide, by decide, by decide +kernel⟩, by decide⟩, q_964, q_965⟩
abbrev mi_X2_valueCount : MI := (yX2_valueCount, Cond.code yX2_valueCount cX2_valueCount 3 (some .int), cX2_valueCount, 3, (some .int), [], 0, 0, 0, none)
theorem cf_X2_valueCount : CFv mi_X2_valueCount 0 := ⟨⟨rfl, q_1275, wall_i_LeafStripes_Column, ⟨by decide, by decide, by decide +kernel⟩, by decide⟩, q_1273, q_1274⟩
abbrev mi_X2_valueSum : MI := (yX2_valueSum, Cond.code yX2_valueSum cX2_valueSum 3 (some .int), cX2_valueSum, 3, (some .int), [], 0, 0, 0, none)
theorem cf_X2_valueSum : CFv mi_X2_valueSum 0 := ⟨⟨rfl, q_1280, wall_i_LeafStripes_Column, ⟨by decide, by decide, by decide +kernel⟩, by decide⟩, q_1278, q_1279⟩
abbrev mi_X2_least : MI := (yX2_least, Cond.code yX2_least cX2_least 3 (some .int), cX2_least, 3, (some .int), [], 0, 0, 0, none)
theorem cf_X2_least : CFv mi_X2_least 0 := ⟨⟨rfl, q_1284, wall_i_LeafStripes_Column, ⟨by decide, by decide, by decide +kernel⟩, by decide⟩, q_1282, q_1283⟩
abbrev mi_X2_greatest : MI := (yX2_greatest, Cond.code yX2_greatest cX2_greatest 3 (some .int), cX2_greatest, 3, (some .int), [], 0, 0, 0, none)
theorem cf_X2_greatest : CFv mi_X2_greatest 0 := ⟨⟨rfl, q_1288, wall_i_LeafStripes_Column, ⟨by decide, by decide, by decide +kernel⟩, by decide⟩, q_1286, q_1287⟩
abbrev mi_X2_cameAhead : MI := (yX2_cameAhead, Cond.code yX2_cameAhead cX2_cameAhead 3 (some .boolean), cX2_cameAhead, 3, (some .boolean), [], 0, 0, 0, none)
theorem cf_X2_cameAhead : CFv mi_X2_cameAhead 1 := ⟨⟨rfl, q_1296, wall_i_LeafStripes_Column, ⟨by decide, by decide, by decide +kernel⟩, by decide⟩, q_1294, q_1295⟩
abbrev mi_X2_unlikeCount : MI := (yX2_unlikeCount, Cond.code yX2_unlikeCount cX2_unlikeCount 3 (some .int), cX2_unlikeCount, 3, (some .int), [], 0, 0, 0, none)
theorem cf_X2_unlikeCount : CFv mi_X2_unlikeCount 0 := ⟨⟨rfl, q_1292, wall_i_LeafStripes_Column, ⟨by decide, by decide, by decide +kernel⟩, by decide⟩, q_1290, q_1291⟩
abbrev mi_X2_rolled : MI := (yX2_rolled, Cond.code yX2_rolled cX2_rolled 4 (some .int), cX2_rolled, 4, (some .int), [], 0, 0, 0, none)
theorem cf_X2_rolled : CFv mi_X2_rolled 1 := ⟨⟨rfl, q_1300, wall_i_LeafStripes_Column, ⟨by decide, by decide, by decide +kernel⟩, by decide⟩, q_1298, q_1299⟩
abbrev mi_X2_folded : MI := (yX2_folded, Cond.code yX2_folded cX2_folded 2 (some .int), cX2_folded, 2, (some .int), [], 0, 0, 0, none)
theorem cf_X2_folded : CFv mi_X2_folded 1 := ⟨⟨rfl, q_1271, wall_i_LeafStripes_Column, ⟨by decide, by decide, by decide +kernel⟩, by decide⟩, q_1269, q_1270⟩
abbrev mi_X2_fits : MI := (yX2_fits, Cond.code yX2_fits cX2_fits 6 (some .boolean), cX2_fits, 6, (some .boolean), [], 0, 0, 0, none)
theorem cf_X2_fits : CFv mi_X2_fits 4 := ⟨⟨rfl, q_1324, wall_i_LeafStripes_Column, ⟨by decide, by decide, by decide +kernel⟩, by decide⟩, q_1322, q_1323⟩
abbrev mi_X2_pageCount : MI := (yX2_pageCount, Cond.code yX2_pageCount cX2_pageCount 6 (some .int), cX2_pageCount, 6, (some .int), [], 0, 0, 0, none)
theorem cf_X2_pageCount : CFv mi_X2_pageCount 1 := ⟨⟨rfl, q_1340, wall_i_LeafStripes_Column, ⟨by decide, by decide, by decide +kernel⟩, by decide⟩, q_1338, q_1339⟩
abbrev mi_X3_init : MI := (yX3_init, Cond.code yX3_init cX3_init 1 none, cX3_init, 1, none, [], 4, 144, 1, none)
theorem cf_X3_init : CFi mi_X3_init 0 := ⟨⟨rfl, q_111, wall_i_LeafStripes_Pipe, ⟨by decide, by decide, by decide +kernel⟩, by decide⟩, q_110, rfl, rfl⟩
abbrev mi_X3_clear : MI := (yX3_clear, Cond.code yX3_clear cX3_clear 1 none, cX3_clear, 1, none, [], 0, 0, 0, none)
theorem cf_X3_clear : CFv mi_X3_clear 0 := ⟨⟨rfl, q_345, wall_i_LeafStripes_Pipe, ⟨by decide, by decide, by decide +kernel⟩, by decide⟩, q_343, q_344⟩
abbrev mi_X9_width : MI := (yX9_width, Cond.code yX9_width cX9_width 1 (some .int), cX9_width, 1, (some .int), [], 0, 0, 0, none)
theorem cf_X9_width : CFv mi_X9_width 0 := ⟨⟨rfl, q_256, wall_i_LeafStripes_Text, ⟨by decide, by decide, by decide +kernel⟩, by decide⟩, q_254, q_255⟩
abbrev mi_X9_isWord : MI := (yX9_isWord, Cond.code yX9_isWord cX9_isWord 3 (some .boolean), cX9_isWord, 3, (some .boolean), [], 0, 0, 0, none)
theorem cf_X9_isWord : CFv mi_X9_isWord 1 := ⟨⟨rfl, q_240, wall_i_LeafStripes_Text, ⟨by decide, by decide, by decide +kernel⟩, by decide⟩, q_238, q_239⟩
abbrev mi_X3_kindTold : MI := (yX3_kindTold, Cond.code yX3_kindTold cX3_kindTold 1 (some .int), cX3_kindTold, 1, (some .int), [], 0, 0, 0, none)
theorem cf_X3_kindTold : CFs mi_X3_kindTold 1 := ⟨⟨rfl, q_771, wall_i_LeafStripes_Pipe, ⟨by decide, by decide, by decide +kernel⟩, by decide⟩, q_770⟩
abbrev mi_X9_isLetter : MI := (yX9_isLetter, Cond.code yX9_isLetter cX9_isLetter 1 (some .boolean), cX9_isLetter, 1, (some .boolean), [], 0, 0, 0, none)
theorem cf_X9_isLetter : CFs mi_X9_isLetter 1 := ⟨⟨rfl, q_198, wall_i_LeafStripes_Text, ⟨by decide, by decide, by decide +kernel⟩, by decide⟩, q_197⟩
def f_X1_weigh_110 (k20 : Nat → Int32 → Mem → Option (Unit × Mem)) (k43 : Nat → Int32 → Int32 → Int32 → Mem → Option (Unit × Mem)) : Nat → Nat → Int32 → Int32 → Int32 → Int32 → Mem → Option (Unit × Mem)
  | 0, _, _, _, _, _, _ => none
  | n + 1, v0, v1, v2, v3, v4, M =>
    if mK M v0 = 2 then
      if mK M (mR M v0 5) = 6 then
        if mK M (mR M (mR M v0 5) 5) = 21 then
          if inB v2 (mN M (mR M (mR M v0 5) 5)) = true then
            if (mI M (mR M (mR M v0 5) 5) v2.toNatClampNeg) < v4 then
              k43 v0 v1 v2 (v3 + 1) M
            else
              bnd (f_X1_defIsHarmless v0 v1 v3 v4 M) fun r7 M6 =>
              if mK M6 v0 = 2 then
                bnd (f_X1_weighOne v0 r7 ((((v1 * (10000 : Int32)) + (v3 * (20 : Int32))) + (10 : Int32)) + v4) M6) fun _ M9 =>
                f_X1_weigh_110 k20 k43 n v0 v1 v2 v3 (v4 + 1) M9
              else none
          else none
        else none
      else none
    else none
def f_X1_weigh_62 (k20 : Nat → Int32 → Mem → Option (Unit × Mem)) (k43 : Nat → Int32 → Int32 → Int32 → Mem → Option (Unit × Mem)) : Nat → Nat → Int32 → Int32 → Int32 → Int32 → Mem → Option (Unit × Mem)
  | 0, _, _, _, _, _, _ => none
  | n + 1, v0, v1, v2, v3, v4, M =>
    if mK M v0 = 2 then
      if mK M (mR M v0 5) = 6 then
        if mK M (mR M (mR M v0 5) 6) = 21 then
          if inB v2 (mN M (mR M (mR M v0 5) 6)) = true then
            if (mI M (mR M (mR M v0 5) 6) v2.toNatClampNeg) < v4 then
              f_X1_weigh_110 k20 k43 FUEL v0 v1 v2 v3 (0 : Int32) M
            else
              bnd (f_X1_repIsHarmless v0 v1 v3 v4 M) fun r7 M6 =>
              if mK M6 v0 = 2 then
                bnd (f_X1_weighOne v0 r7 (((v1 * (10000 : Int32)) + (v3 * (20 : Int32))) + v4) M6) fun _ M9 =>
                f_X1_weigh_62 k20 k43 n v0 v1 v2 v3 (v4 + 1) M9
              else none
          else none
        else none
      else none
    else none
def f_X1_weigh_43 (k20 : Nat → Int32 → Mem → Option (Unit × Mem)) : Nat → Nat → Int32 → Int32 → Int32 → Mem → Option (Unit × Mem)
  | 0, _, _, _, _, _ => none
  | n + 1, v0, v1, v2, v3, M =>
    if mK M v0 = 2 then
      if mK M (mR M v0 6) = 8 then
        if mK M (mR M (mR M v0 6) 0) = 23 then
          if inB v1 (mN M (mR M (mR M v0 6) 0)) = true then
            if mK M (mR M (mR M (mR M v0 6) 0) v1.toNatClampNeg) = 3 then
              if (mI M (mR M (mR M (mR M v0 6) 0) v1.toNatClampNeg) 3) ≤ v3 then
                k20 v0 (v1 + 1) M
              else
                f_X1_weigh_62 k20 (f_X1_weigh_43 k20 n) FUEL v0 v1 v2 v3 (0 : Int32) M
            else none
          else none
        else none
      else none
    else none
def f_X1_weigh_20 : Nat → Nat → Int32 → Mem → Option (Unit × Mem)
  | 0, _, _, _ => none
  | n + 1, v0, v1, M =>
    if mK M v0 = 2 then
      if mK M (mR M v0 5) = 6 then
        if (mI M (mR M v0 5) 1) ≤ v1 then
          some ((), M)
        else
          if mK M (mR M (mR M v0 5) 12) = 21 then
            if inB v1 (mN M (mR M (mR M v0 5) 12)) = true then
              f_X1_weigh_43 (f_X1_weigh_20 n) FUEL v0 v1 (mI M (mR M (mR M v0 5) 12) v1.toNatClampNeg) (0 : Int32) M
            else none
          else none
      else none
    else none
def f_X1_weigh (v0 : Nat) (M : Mem) : Option (Unit × Mem) :=
  if mK M v0 = 2 then
    ap (sI M v0 3 (0 : Int32)) fun M2 =>
    if mK M2 v0 = 2 then
      ap (sI M2 v0 4 (-1 : Int32)) fun M4 =>
      if mK M4 v0 = 2 then
        if (mI M4 v0 0) = 0 then
          f_X1_weigh_20 FUEL v0 (0 : Int32) M4
        else
          some ((), M4)
      else none
    else none
  else none
theorem s_X1_weigh_110 (k20 : Nat → Int32 → Mem → Option (Unit × Mem)) (k43 : Nat → Int32 → Int32 → Int32 → Mem → Option (Unit × Mem)) (hk20 : ∀ (v0 : Nat) (v1 : Int32) (M : Mem) (r : (Unit × Mem)), k20 v0 v1 M = some r → G mi_X1_weigh 5 (oU r.1) r.2 20 [some (aR v0), some (aI v1), none, none, none] [] M 0 0) (hk43 : ∀ (v0 : Nat) (v1 : Int32) (v2 : Int32) (v3 : Int32) (M : Mem) (r : (Unit × Mem)), k43 v0 v1 v2 v3 M = some r → G mi_X1_weigh 5 (oU r.1) r.2 43 [some (aR v0), some (aI v1), some (aI v2), some (aI v3), none] [] M 0 0) : ∀ (n : Nat) (v0 : Nat) (v1 : Int32) (v2 : Int32) (v3 : Int32) (v4 : Int32) (M : Mem) (r : (Unit × Mem)), f_X1_weigh_110 k20 k43 n v0 v1 v2 v3 v4 M = some r → G mi_X1_weigh 5 (oU r.1) r.2 110 [some (aR v0), some (aI v1), some (aI v2), some (aI v3), some (aI v4)] [] M 0 0 := by
  intro n
  induction n with
  | zero => intro v0 v1 v2 v3 v4 M r hf; cases hf
  | succ n ih =>
    intro v0 v1 v2 v3 v4 M r hf
    unfold f_X1_weigh_110 at hf
    refine g_iload (pc' := 112) dX1_weigh_110 rfl rfl ?_
    refine g_aload_n (pc' := 113) dX1_weigh_112 rfl rfl ?_
    obtain ⟨h1, hf⟩ := chk_s hf
    refine g_getR (pc' := 116) 1 5 rfl rfl (by decide) inX1 (by decide) rfl rfl q_486 dX1_weigh_113 rfl h1 ?_
    obtain ⟨h2, hf⟩ := chk_s hf
    refine g_getR (pc' := 119) 5 5 rfl rfl (by decide) inX5 (by decide) rfl rfl q_507 dX1_weigh_116 rfl h2 ?_
    refine g_iload_n (pc' := 120) dX1_weigh_119 rfl rfl ?_
    obtain ⟨h3, hf⟩ := chk_s hf
    obtain ⟨b4, hf⟩ := chk_s hf
    refine g_iald (pc' := 121) dX1_weigh_120 rfl h3 (inB_in b4) ?_
    refine g_icmp_gt (pc' := 124) 158 dX1_weigh_121 rfl (by decide) (fun c5 => ?_) (fun c5 => ?_)
    · have hf := ite_t c5 hf
      refine g_iinc (pc' := 161) (lv' := [some (aR v0), some (aI v1), some (aI v2), some (aI (v3 + 1)), some (aI v4)]) (v3 + 1) dX1_weigh_158 rfl rfl (by rfl) rfl (by decide) rfl ?_
      refine g_goto (pc' := 43) dX1_weigh_161 (by decide) ?_
      refine g_mask [true, true, true, true, false] rfl ?_
      exact hk43 v0 v1 v2 (v3 + 1) M _ hf
    · have hf := ite_f c5 hf
      refine g_aload_n (pc' := 125) dX1_weigh_124 rfl rfl ?_
      refine g_aload_n (pc' := 126) dX1_weigh_125 rfl rfl ?_
      refine g_iload_n (pc' := 127) dX1_weigh_126 rfl rfl ?_
      refine g_iload_n (pc' := 128) dX1_weigh_127 rfl rfl ?_
      refine g_iload (pc' := 130) dX1_weigh_128 rfl rfl ?_
      obtain ⟨r7, M6, e7, hf⟩ := bnd_some hf
      refine g_callVi (pc' := 133) (k' := 0) (u' := 0) (fr2 := 4) (As := [aI v1, aI v3, aI v4]) (b := v0) (st := [aR v0]) cf_X1_defIsHarmless q_851 (by omega) (ci := 1) rfl rfl (by decide) dX1_weigh_130 rfl rfl rfl (Nat.le_of_ble_eq_true rfl) (Or.inl rfl) (Nat.le_refl _) (Nat.le_refl _) (Nat.le_refl _) (Nat.le_refl _) h1 (s_X1_defIsHarmless v0 v1 v3 v4 M _ e7) ?_
      refine g_iload_n (pc' := 134) dX1_weigh_133 rfl rfl ?_
      refine g_sipush (pc' := 137) (10000 : Int32) dX1_weigh_134 rfl (by decide) ?_
      refine g_imul (pc' := 138) dX1_weigh_137 rfl ?_
      refine g_iload_n (pc' := 139) dX1_weigh_138 rfl rfl ?_
      refine g_bipush (pc' := 141) (20 : Int32) dX1_weigh_139 rfl (by decide) ?_
      refine g_imul (pc' := 142) dX1_weigh_141 rfl ?_
      refine g_iadd (pc' := 143) dX1_weigh_142 rfl ?_
      refine g_bipush (pc' := 145) (10 : Int32) dX1_weigh_143 rfl (by decide) ?_
      refine g_iadd (pc' := 146) dX1_weigh_145 rfl ?_
      refine g_iload (pc' := 148) dX1_weigh_146 rfl rfl ?_
      refine g_iadd (pc' := 149) dX1_weigh_148 rfl ?_
      obtain ⟨h8, hf⟩ := chk_s hf
      obtain ⟨_, M9, e10, hf⟩ := bnd_some hf
      refine g_callVv (pc' := 152) (k' := 0) (u' := 0) (fr2 := 1) (As := [aI r7, aI ((((v1 * (10000 : Int32)) + (v3 * (20 : Int32))) + (10 : Int32)) + v4)]) (b := v0) (st := []) cf_X1_weighOne q_847 (by omega) (ci := 1) rfl rfl (by decide) dX1_weigh_149 rfl rfl rfl (Nat.le_of_ble_eq_true rfl) (Or.inl rfl) (Nat.le_refl _) (Nat.le_refl _) (Nat.le_refl _) (Nat.le_refl _) h8 (s_X1_weighOne v0 r7 ((((v1 * (10000 : Int32)) + (v3 * (20 : Int32))) + (10 : Int32)) + v4) M6 _ e10) ?_
      refine g_iinc (pc' := 155) (lv' := [some (aR v0), some (aI v1), some (aI v2), some (aI v3), some (aI (v4 + 1))]) (v4 + 1) dX1_weigh_152 rfl rfl (by rfl) rfl (by decide) rfl ?_
      refine g_goto (pc' := 110) dX1_weigh_155 (by decide) ?_
      refine g_widen (k' := 0) (u' := 0) (by omega) (by omega) ?_
      exact ih v0 v1 v2 v3 (v4 + 1) M9 _ hf
theorem s_X1_weigh_62 (k20 : Nat → Int32 → Mem → Option (Unit × Mem)) (k43 : Nat → Int32 → Int32 → Int32 → Mem → Option (Unit × Mem)) (hk20 : ∀ (v0 : Nat) (v1 : Int32) (M : Mem) (r : (Unit × Mem)), k20 v0 v1 M = some r → G mi_X1_weigh 5 (oU r.1) r.2 20 [some (aR v0), some (aI v1), none, none, none] [] M 0 0) (hk43 : ∀ (v0 : Nat) (v1 : Int32) (v2 : Int32) (v3 : Int32) (M : Mem) (r : (Unit × Mem)), k43 v0 v1 v2 v3 M = some r → G mi_X1_weigh 5 (oU r.1) r.2 43 [some (aR v0), some (aI v1), some (aI v2), some (aI v3), none] [] M 0 0) : ∀ (n : Nat) (v0 : Nat) (v1 : Int32) (v2 : Int32) (v3 : Int32) (v4 : Int32) (M : Mem) (r : (Unit × Mem)), f_X1_weigh_62 k20 k43 n v0 v1 v2 v3 v4 M = some r → G mi_X1_weigh 5 (oU r.1) r.2 62 [some (aR v0), some (aI v1), some (aI v2), some (aI v3), some (aI v4)] [] M 0 0 := by
  intro n
  induction n with
  | zero => intro v0 v1 v2 v3 v4 M r hf; cases hf
  | succ n ih =>
    intro v0 v1 v2 v3 v4 M r hf
    unfold f_X1_weigh_62 at hf
    refine g_iload (pc' := 64) dX1_weigh_62 rfl rfl ?_
    refine g_aload_n (pc' := 65) dX1_weigh_64 rfl rfl ?_
    obtain ⟨h1, hf⟩ := chk_s hf
    refine g_getR (pc' := 68) 1 5 rfl rfl (by decide) inX1 (by decide) rfl rfl q_486 dX1_weigh_65 rfl h1 ?_
    obtain ⟨h2, hf⟩ := chk_s hf
    refine g_getR (pc' := 71) 5 6 rfl rfl (by decide) inX5 (by decide) rfl rfl q_505 dX1_weigh_68 rfl h2 ?_
    refine g_iload_n (pc' := 72) dX1_weigh_71 rfl rfl ?_
    obtain ⟨h3, hf⟩ := chk_s hf
    obtain ⟨b4, hf⟩ := chk_s hf
    refine g_iald (pc' := 73) dX1_weigh_72 rfl h3 (inB_in b4) ?_
    refine g_icmp_gt (pc' := 76) 107 dX1_weigh_73 rfl (by decide) (fun c5 => ?_) (fun c5 => ?_)
    · have hf := ite_t c5 hf
      refine g_iconst (pc' := 108) (0 : Int32) dX1_weigh_107 rfl (by decide) ?_
      refine g_istore (pc' := 110) (lv' := [some (aR v0), some (aI v1), some (aI v2), some (aI v3), some (aI (0 : Int32))]) dX1_weigh_108 rfl rfl (by decide) rfl ?_
      exact s_X1_weigh_110 k20 k43 hk20 hk43 FUEL v0 v1 v2 v3 (0 : Int32) M _ hf
    · have hf := ite_f c5 hf
      refine g_aload_n (pc' := 77) dX1_weigh_76 rfl rfl ?_
      refine g_aload_n (pc' := 78) dX1_weigh_77 rfl rfl ?_
      refine g_iload_n (pc' := 79) dX1_weigh_78 rfl rfl ?_
      refine g_iload_n (pc' := 80) dX1_weigh_79 rfl rfl ?_
      refine g_iload (pc' := 82) dX1_weigh_80 rfl rfl ?_
      obtain ⟨r7, M6, e7, hf⟩ := bnd_some hf
      refine g_callVi (pc' := 85) (k' := 0) (u' := 0) (fr2 := 3) (As := [aI v1, aI v3, aI v4]) (b := v0) (st := [aR v0]) cf_X1_repIsHarmless q_843 (by omega) (ci := 1) rfl rfl (by decide) dX1_weigh_82 rfl rfl rfl (Nat.le_of_ble_eq_true rfl) (Or.inl rfl) (Nat.le_refl _) (Nat.le_refl _) (Nat.le_refl _) (Nat.le_refl _) h1 (s_X1_repIsHarmless v0 v1 v3 v4 M _ e7) ?_
      refine g_iload_n (pc' := 86) dX1_weigh_85 rfl rfl ?_
      refine g_sipush (pc' := 89) (10000 : Int32) dX1_weigh_86 rfl (by decide) ?_
      refine g_imul (pc' := 90) dX1_weigh_89 rfl ?_
      refine g_iload_n (pc' := 91) dX1_weigh_90 rfl rfl ?_
      refine g_bipush (pc' := 93) (20 : Int32) dX1_weigh_91 rfl (by decide) ?_
      refine g_imul (pc' := 94) dX1_weigh_93 rfl ?_
      refine g_iadd (pc' := 95) dX1_weigh_94 rfl ?_
      refine g_iload (pc' := 97) dX1_weigh_95 rfl rfl ?_
      refine g_iadd (pc' := 98) dX1_weigh_97 rfl ?_
      obtain ⟨h8, hf⟩ := chk_s hf
      obtain ⟨_, M9, e10, hf⟩ := bnd_some hf
      refine g_callVv (pc' := 101) (k' := 0) (u' := 0) (fr2 := 1) (As := [aI r7, aI (((v1 * (10000 : Int32)) + (v3 * (20 : Int32))) + v4)]) (b := v0) (st := []) cf_X1_weighOne q_847 (by omega) (ci := 1) rfl rfl (by decide) dX1_weigh_98 rfl rfl rfl (Nat.le_of_ble_eq_true rfl) (Or.inl rfl) (Nat.le_refl _) (Nat.le_refl _) (Nat.le_refl _) (Nat.le_refl _) h8 (s_X1_weighOne v0 r7 (((v1 * (10000 : Int32)) + (v3 * (20 : Int32))) + v4) M6 _ e10) ?_
      refine g_iinc (pc' := 104) (lv' := [some (aR v0), some (aI v1), some (aI v2), some (aI v3), some (aI (v4 + 1))]) (v4 + 1) dX1_weigh_101 rfl rfl (by rfl) rfl (by decide) rfl ?_
      refine g_goto (pc' := 62) dX1_weigh_104 (by decide) ?_
      refine g_widen (k' := 0) (u' := 0) (by omega) (by omega) ?_
      exact ih v0 v1 v2 v3 (v4 + 1) M9 _ hf
theorem s_X1_weigh_43 (k20 : Nat → Int32 → Mem → Option (Unit × Mem)) (hk20 : ∀ (v0 : Nat) (v1 : Int32) (M : Mem) (r : (Unit × Mem)), k20 v0 v1 M = some r → G mi_X1_weigh 5 (oU r.1) r.2 20 [some (aR v0), some (aI v1), none, none, none] [] M 0 0) : ∀ (n : Nat) (v0 : Nat) (v1 : Int32) (v2 : Int32) (v3 : Int32) (M : Mem) (r : (Unit × Mem)), f_X1_weigh_43 k20 n v0 v1 v2 v3 M = some r → G mi_X1_weigh 5 (oU r.1) r.2 43 [some (aR v0), some (aI v1), some (aI v2), some (aI v3), none] [] M 0 0 := by
  intro n
  induction n with
  | zero => intro v0 v1 v2 v3 M r hf; cases hf
  | succ n ih =>
    intro v0 v1 v2 v3 M r hf
    unfold f_X1_weigh_43 at hf
    refine g_iload_n (pc' := 44) dX1_weigh_43 rfl rfl ?_
    refine g_aload_n (pc' := 45) dX1_weigh_44 rfl rfl ?_
    obtain ⟨h1, hf⟩ := chk_s hf
    refine g_getR (pc' := 48) 1 6 rfl rfl (by decide) inX1 (by decide) rfl rfl q_487 dX1_weigh_45 rfl h1 ?_
    obtain ⟨h2, hf⟩ := chk_s hf
    refine g_getR (pc' := 51) 7 0 rfl rfl (by decide) inX7 (by decide) rfl rfl q_496 dX1_weigh_48 rfl h2 ?_
    refine g_iload_n (pc' := 52) dX1_weigh_51 rfl rfl ?_
    obtain ⟨h3, hf⟩ := chk_s hf
    obtain ⟨b4, hf⟩ := chk_s hf
    refine g_aald (pc' := 53) (t0 := 2) (fun _ => rfl) (by decide) dX1_weigh_52 rfl h3 (inB_in b4) ?_
    obtain ⟨h5, hf⟩ := chk_s hf
    refine g_getI (pc' := 56) 2 3 rfl rfl (by decide) inX2 (by decide) rfl rfl q_497 dX1_weigh_53 rfl h5 ?_
    refine g_icmp_ge (pc' := 59) 164 dX1_weigh_56 rfl (by decide) (fun c6 => ?_) (fun c6 => ?_)
    · have hf := ite_t c6 hf
      refine g_iinc (pc' := 167) (lv' := [some (aR v0), some (aI (v1 + 1)), some (aI v2), some (aI v3), none]) (v1 + 1) dX1_weigh_164 rfl rfl (by rfl) rfl (by decide) rfl ?_
      refine g_goto (pc' := 20) dX1_weigh_167 (by decide) ?_
      refine g_mask [true, true, false, false, true] rfl ?_
      exact hk20 v0 (v1 + 1) M _ hf
    · have hf := ite_f c6 hf
      refine g_iconst (pc' := 60) (0 : Int32) dX1_weigh_59 rfl (by decide) ?_
      refine g_istore (pc' := 62) (lv' := [some (aR v0), some (aI v1), some (aI v2), some (aI v3), some (aI (0 : Int32))]) dX1_weigh_60 rfl rfl (by decide) rfl ?_
      exact s_X1_weigh_62 k20 (f_X1_weigh_43 k20 n) hk20 ih FUEL v0 v1 v2 v3 (0 : Int32) M _ hf
theorem s_X1_weigh_20 : ∀ (n : Nat) (v0 : Nat) (v1 : Int32) (M : Mem) (r : (Unit × Mem)), f_X1_weigh_20 n v0 v1 M = some r → G mi_X1_weigh 5 (oU r.1) r.2 20 [some (aR v0), some (aI v1), none, none, none] [] M 0 0 := by
  intro n
  induction n with
  | zero => intro v0 v1 M r hf; cases hf
  | succ n ih =>
    intro v0 v1 M r hf
    unfold f_X1_weigh_20 at hf
    refine g_iload_n (pc' := 21) dX1_weigh_20 rfl rfl ?_
    refine g_aload_n (pc' := 22) dX1_weigh_21 rfl rfl ?_
    obtain ⟨h1, hf⟩ := chk_s hf
    refine g_getR (pc' := 25) 1 5 rfl rfl (by decide) inX1 (by decide) rfl rfl q_486 dX1_weigh_22 rfl h1 ?_
    obtain ⟨h2, hf⟩ := chk_s hf
    refine g_getI (pc' := 28) 5 1 rfl rfl (by decide) inX5 (by decide) rfl rfl q_491 dX1_weigh_25 rfl h2 ?_
    refine g_icmp_ge (pc' := 31) 170 dX1_weigh_28 rfl (by decide) (fun c3 => ?_) (fun c3 => ?_)
    · have hf := ite_t c3 hf
      cases hf
      exact g_return dX1_weigh_170 rfl (Nat.le_of_ble_eq_true rfl) (Nat.le_of_ble_eq_true rfl)
    · have hf := ite_f c3 hf
      refine g_aload_n (pc' := 32) dX1_weigh_31 rfl rfl ?_
      refine g_getR (pc' := 35) 1 5 rfl rfl (by decide) inX1 (by decide) rfl rfl q_486 dX1_weigh_32 rfl h1 ?_
      refine g_getR (pc' := 38) 5 12 rfl rfl (by decide) inX5 (by decide) rfl rfl q_504 dX1_weigh_35 rfl h2 ?_
      refine g_iload_n (pc' := 39) dX1_weigh_38 rfl rfl ?_
      obtain ⟨h4, hf⟩ := chk_s hf
      obtain ⟨b5, hf⟩ := chk_s hf
      refine g_iald (pc' := 40) dX1_weigh_39 rfl h4 (inB_in b5) ?_
      refine g_istore_n (pc' := 41) (lv' := [some (aR v0), some (aI v1), some (aI (mI M (mR M (mR M v0 5) 12) v1.toNatClampNeg)), none, none]) dX1_weigh_40 rfl rfl (by decide) rfl ?_
      refine g_iconst (pc' := 42) (0 : Int32) dX1_weigh_41 rfl (by decide) ?_
      refine g_istore_n (pc' := 43) (lv' := [some (aR v0), some (aI v1), some (aI (mI M (mR M (mR M v0 5) 12) v1.toNatClampNeg)), some (aI (0 : Int32)), none]) dX1_weigh_42 rfl rfl (by decide) rfl ?_
      exact s_X1_weigh_43 (f_X1_weigh_20 n) ih FUEL v0 v1 (mI M (mR M (mR M v0 5) 12) v1.toNatClampNeg) (0 : Int32) M _ hf
theorem s_X1_weigh (v0 : Nat) (M : Mem) (r : (Unit × Mem)) (hf : f_X1_weigh v0 M = some r) : Sem mi_X1_weigh (5) [aR v0] M (oU r.1) r.2 := by
  unfold f_X1_weigh at hf
  refine sem_of (by decide) rfl rfl rfl (Nat.le_of_ble_eq_true rfl) (lv := [some (aR v0), none, none, none, none]) rfl ?_
  refine g_aload_n (pc' := 1) dX1_weigh_0 rfl rfl ?_
  refine g_iconst (pc' := 2) (0 : Int32) dX1_weigh_1 rfl (by decide) ?_
  obtain ⟨h1, hf⟩ := chk_s hf
  refine g_putI (pc' := 5) 1 3 rfl rfl (by decide) inX1 tyX1_ok nmX1 (by decide) rfl rfl rfl rfl q_841 dX1_weigh_2 rfl h1 (gM fun M2 hM2 => ?_)
  have hf := ap_eq hf hM2
  refine g_aload_n (pc' := 6) dX1_weigh_5 rfl rfl ?_
  refine g_iconst (pc' := 7) (-1 : Int32) dX1_weigh_6 rfl (by decide) ?_
  obtain ⟨h3, hf⟩ := chk_s hf
  refine g_putI (pc' := 10) 1 4 rfl rfl (by decide) inX1 tyX1_ok nmX1 (by decide) rfl rfl rfl rfl q_842 dX1_weigh_7 rfl h3 (gM fun M4 hM4 => ?_)
  have hf := ap_eq hf hM4
  refine g_aload_n (pc' := 11) dX1_weigh_10 rfl rfl ?_
  obtain ⟨h5, hf⟩ := chk_s hf
  refine g_getI (pc' := 14) 1 0 rfl rfl (by decide) inX1 (by decide) rfl rfl q_488 dX1_weigh_11 rfl h5 ?_
  refine g_if_eq (pc' := 17) 18 dX1_weigh_14 rfl (by decide) (fun c6 => ?_) (fun c6 => ?_)
  · have hf := ite_t c6 hf
    refine g_iconst (pc' := 19) (0 : Int32) dX1_weigh_18 rfl (by decide) ?_
    refine g_istore_n (pc' := 20) (lv' := [some (aR v0), some (aI (0 : Int32)), none, none, none]) dX1_weigh_19 rfl rfl (by decide) rfl ?_
    exact s_X1_weigh_20 FUEL v0 (0 : Int32) M4 _ hf
  · have hf := ite_f c6 hf
    cases hf
    exact g_return dX1_weigh_17 rfl (Nat.le_of_ble_eq_true rfl) (Nat.le_of_ble_eq_true rfl)
def f_X2_init (v0 : Nat) (M : Mem) : Option (Unit × Mem) :=
  if ¬ v0 = 0 then
    if mn M + 1 < 900000 then
      if okrB M [v0, v0] = true then
        ap (mNew M 21 (120 : Int32).toNatClampNeg) fun M2 =>
        if mK M2 v0 = 3 then
          if okrB M2 [(mn M + 1)] = true then
            ap (sR M2 v0 0 (mn M + 1)) fun M4 =>
            if mn M4 + 1 < 900000 then
              if okrB M4 [v0, v0] = true then
                ap (mNew M4 21 (120 : Int32).toNatClampNeg) fun M7 =>
                if mK M7 v0 = 3 then
                  if okrB M7 [(mn M4 + 1)] = true then
                    ap (sR M7 v0 1 (mn M4 + 1)) fun M9 =>
                    if mn M9 + 1 < 900000 then
                      if okrB M9 [v0, v0] = true then
                        ap (mNew M9 21 (120 : Int32).toNatClampNeg) fun M12 =>
                        if mK M12 v0 = 3 then
                          if okrB M12 [(mn M9 + 1)] = true then
                            ap (sR M12 v0 2 (mn M9 + 1)) fun M14 =>
                            some ((), M14)
                          else none
                        else none
                      else none
                    else none
                  else none
                else none
              else none
            else none
          else none
        else none
      else none
    else none
  else none
theorem s_X2_init (v0 : Nat) (M : Mem) (r : (Unit × Mem)) (hf : f_X2_init v0 M = some r) : Sem mi_X2_init (1) [aR v0] M (oU r.1) r.2 := by
  unfold f_X2_init at hf
  refine sem_of (by decide) rfl rfl rfl (Nat.le_of_ble_eq_true rfl) (lv := [some (aR v0)]) rfl ?_
  refine g_aload_n (pc' := 1) dX2_init_0 rfl rfl ?_
  obtain ⟨ho16, hf⟩ := chk_s hf
  refine g_obj (pc' := 4) q_92 q_11 q_12 (by omega) ho16 (Nat.le_of_ble_eq_true rfl) dX2_init_1 rfl ?_
  refine g_aload_n (pc' := 5) dX2_init_4 rfl rfl ?_
  refine g_bipush (pc' := 7) (120 : Int32) dX2_init_5 rfl (by decide) ?_
  obtain ⟨hm1, hf⟩ := chk_s hf
  obtain ⟨ha1, hf⟩ := chk_s hf
  refine g_newI (pc' := 9) (k' := 1) (u' := 120) (by decide) wall_aint dX2_init_7 rfl (by decide) (by decide) hm1 (okrB_ok ha1 rfl) (by omega) (by show 0 + 120 ≤ 120; omega) (by show 1 ≤ 3; omega) (by show 120 ≤ 360; omega) (gM fun M2 hM2 => ?_)
  have hf := ap_eq hf hM2
  obtain ⟨h3, hf⟩ := chk_s hf
  obtain ⟨hr5, hf⟩ := chk_s hf
  refine g_putFR (pc' := 12) 2 0 rfl rfl (by decide) inX2 tyX2_ok nmX2 (by decide) rfl rfl rfl rfl rfl (Or.inr ⟨_, rfl⟩) (okrB_1 hr5) q_93 dX2_init_9 rfl h3 (gM fun M4 hM4 => ?_)
  have hf := ap_eq hf hM4
  refine g_aload_n (pc' := 13) dX2_init_12 rfl rfl ?_
  refine g_bipush (pc' := 15) (120 : Int32) dX2_init_13 rfl (by decide) ?_
  obtain ⟨hm6, hf⟩ := chk_s hf
  obtain ⟨ha6, hf⟩ := chk_s hf
  refine g_newI (pc' := 17) (k' := 2) (u' := 240) (by decide) wall_aint dX2_init_15 rfl (by decide) (by decide) hm6 (okrB_ok ha6 rfl) (by omega) (by show 120 + 120 ≤ 240; omega) (by show 2 ≤ 3; omega) (by show 240 ≤ 360; omega) (gM fun M7 hM7 => ?_)
  have hf := ap_eq hf hM7
  obtain ⟨h8, hf⟩ := chk_s hf
  obtain ⟨hr10, hf⟩ := chk_s hf
  refine g_putFR (pc' := 20) 2 1 rfl rfl (by decide) inX2 tyX2_ok nmX2 (by decide) rfl rfl rfl rfl rfl (Or.inr ⟨_, rfl⟩) (okrB_1 hr10) q_94 dX2_init_17 rfl h8 (gM fun M9 hM9 => ?_)
  have hf := ap_eq hf hM9
  refine g_aload_n (pc' := 21) dX2_init_20 rfl rfl ?_
  refine g_bipush (pc' := 23) (120 : Int32) dX2_init_21 rfl (by decide) ?_
  obtain ⟨hm11, hf⟩ := chk_s hf
  obtain ⟨ha11, hf⟩ := chk_s hf
  refine g_newI (pc' := 25) (k' := 3) (u' := 360) (by decide) wall_aint dX2_init_23 rfl (by decide) (by decide) hm11 (okrB_ok ha11 rfl) (by omega) (by show 240 + 120 ≤ 360; omega) (by show 3 ≤ 3; omega) (by show 360 ≤ 360; omega) (gM fun M12 hM12 => ?_)
  have hf := ap_eq hf hM12
  obtain ⟨h13, hf⟩ := chk_s hf
  obtain ⟨hr15, hf⟩ := chk_s hf
  refine g_putFR (pc' := 28) 2 2 rfl rfl (by decide) inX2 tyX2_ok nmX2 (by decide) rfl rfl rfl rfl rfl (Or.inr ⟨_, rfl⟩) (okrB_1 hr15) q_95 dX2_init_25 rfl h13 (gM fun M14 hM14 => ?_)
  have hf := ap_eq hf hM14
  cases hf
  exact g_return dX2_init_28 rfl (Nat.le_of_ble_eq_true rfl) (Nat.le_of_ble_eq_true rfl)
def f_X2_put (v0 : Nat) (v1 : Int32) (v2 : Int32) (v3 : Int32) (v4 : Int32) (M : Mem) : Option (Unit × Mem) :=
  if v1 < 0 then
    some ((), M)
  else
    if (120 : Int32) ≤ v1 then
      some ((), M)
    else
      if mK M v0 = 3 then
        if mK M (mR M v0 0) = 21 then
          if inB v1 (mN M (mR M v0 0)) = true then
            ap (sI M (mR M v0 0) v1.toNatClampNeg v2) fun M6 =>
            if mK M6 v0 = 3 then
              if mK M6 (mR M6 v0 1) = 21 then
                if inB v1 (mN M6 (mR M6 v0 1)) = true then
                  ap (sI M6 (mR M6 v0 1) v1.toNatClampNeg v3) fun M10 =>
                  if mK M10 v0 = 3 then
                    if mK M10 (mR M10 v0 2) = 21 then
                      if inB v1 (mN M10 (mR M10 v0 2)) = true then
                        ap (sI M10 (mR M10 v0 2) v1.toNatClampNeg v4) fun M14 =>
                        some ((), M14)
                      else none
                    else none
                  else none
                else none
              else none
            else none
          else none
        else none
      else none
theorem s_X2_put (v0 : Nat) (v1 : Int32) (v2 : Int32) (v3 : Int32) (v4 : Int32) (M : Mem) (r : (Unit × Mem)) (hf : f_X2_put v0 v1 v2 v3 v4 M = some r) : Sem mi_X2_put (1) [aR v0, aI v1, aI v2, aI v3, aI v4] M (oU r.1) r.2 := by
  unfold f_X2_put at hf
  refine sem_of (by decide) rfl rfl rfl (Nat.le_of_ble_eq_true rfl) (lv := [some (aR v0), some (aI v1), some (aI v2), some (aI v3), some (aI v4)]) rfl ?_
  refine g_iload_n (pc' := 1) dX2_put_0 rfl rfl ?_
  refine g_if_lt (pc' := 4) 32 dX2_put_1 rfl (by decide) (fun c1 => ?_) (fun c1 => ?_)
  · have hf := ite_t c1 hf
    cases hf
    exact g_return dX2_put_32 rfl (Nat.le_of_ble_eq_true rfl) (Nat.le_of_ble_eq_true rfl)
  · have hf := ite_f c1 hf
    refine g_iload_n (pc' := 5) dX2_put_4 rfl rfl ?_
    refine g_bipush (pc' := 7) (120 : Int32) dX2_put_5 rfl (by decide) ?_
    refine g_icmp_ge (pc' := 10) 32 dX2_put_7 rfl (by decide) (fun c2 => ?_) (fun c2 => ?_)
    · have hf := ite_t c2 hf
      cases hf
      exact g_return dX2_put_32 rfl (Nat.le_of_ble_eq_true rfl) (Nat.le_of_ble_eq_true rfl)
    · have hf := ite_f c2 hf
      refine g_aload_n (pc' := 11) dX2_put_10 rfl rfl ?_
      obtain ⟨h3, hf⟩ := chk_s hf
      refine g_getR (pc' := 14) 2 0 rfl rfl (by decide) inX2 (by decide) rfl rfl q_93 dX2_put_11 rfl h3 ?_
      refine g_iload_n (pc' := 15) dX2_put_14 rfl rfl ?_
      refine g_iload_n (pc' := 16) dX2_put_15 rfl rfl ?_
      obtain ⟨h4, hf⟩ := chk_s hf
      obtain ⟨b5, hf⟩ := chk_s hf
      refine g_iast (pc' := 17) dX2_put_16 rfl h4 (inB_in b5) (gM fun M6 hM6 => ?_)
      have hf := ap_eq hf hM6
      refine g_aload_n (pc' := 18) dX2_put_17 rfl rfl ?_
      obtain ⟨h7, hf⟩ := chk_s hf
      refine g_getR (pc' := 21) 2 1 rfl rfl (by decide) inX2 (by decide) rfl rfl q_94 dX2_put_18 rfl h7 ?_
      refine g_iload_n (pc' := 22) dX2_put_21 rfl rfl ?_
      refine g_iload_n (pc' := 23) dX2_put_22 rfl rfl ?_
      obtain ⟨h8, hf⟩ := chk_s hf
      obtain ⟨b9, hf⟩ := chk_s hf
      refine g_iast (pc' := 24) dX2_put_23 rfl h8 (inB_in b9) (gM fun M10 hM10 => ?_)
      have hf := ap_eq hf hM10
      refine g_aload_n (pc' := 25) dX2_put_24 rfl rfl ?_
      obtain ⟨h11, hf⟩ := chk_s hf
      refine g_getR (pc' := 28) 2 2 rfl rfl (by decide) inX2 (by decide) rfl rfl q_95 dX2_put_25 rfl h11 ?_
      refine g_iload_n (pc' := 29) dX2_put_28 rfl rfl ?_
      refine g_iload (pc' := 31) dX2_put_29 rfl rfl ?_
      obtain ⟨h12, hf⟩ := chk_s hf
      obtain ⟨b13, hf⟩ := chk_s hf
      refine g_iast (pc' := 32) dX2_put_31 rfl h12 (inB_in b13) (gM fun M14 hM14 => ?_)
      have hf := ap_eq hf hM14
      cases hf
      exact g_return dX2_put_32 rfl (Nat.le_of_ble_eq_true rfl) (Nat.le_of_ble_eq_true rfl)
def f_X2_copyFrom (v0 : Nat) (v1 : Nat) (M : Mem) : Option (Unit × Mem) :=
  if mK M v1 = 3 then
    if mK M v0 = 3 then
      if mK M (mR M v1 0) = 21 then
        if mK M (mR M v0 0) = 21 then
          if copyB M (mR M v1 0) (mR M v0 0) (0 : Int32) (0 : Int32) (mI M v1 3) = true then
            ap (cpI M (mR M v1 0) (mR M v0 0) (0 : Int32).toNatClampNeg (0 : Int32).toNatClampNeg (mI M v1 3).toNatClampNeg) fun M6 =>
            if mK M6 v1 = 3 then
              if mK M6 v0 = 3 then
                if mK M6 (mR M6 v1 1) = 21 then
                  if mK M6 (mR M6 v0 1) = 21 then
                    if copyB M6 (mR M6 v1 1) (mR M6 v0 1) (0 : Int32) (0 : Int32) (mI M6 v1 3) = true then
                      ap (cpI M6 (mR M6 v1 1) (mR M6 v0 1) (0 : Int32).toNatClampNeg (0 : Int32).toNatClampNeg (mI M6 v1 3).toNatClampNeg) fun M12 =>
                      if mK M12 v1 = 3 then
                        if mK M12 v0 = 3 then
                          if mK M12 (mR M12 v1 2) = 21 then
                            if mK M12 (mR M12 v0 2) = 21 then
                              if copyB M12 (mR M12 v1 2) (mR M12 v0 2) (0 : Int32) (0 : Int32) (mI M12 v1 3) = true then
                                ap (cpI M12 (mR M12 v1 2) (mR M12 v0 2) (0 : Int32).toNatClampNeg (0 : Int32).toNatClampNeg (mI M12 v1 3).toNatClampNeg) fun M18 =>
                                if mK M18 v1 = 3 then
                                  if mK M18 v0 = 3 then
                                    ap (sI M18 v0 3 (mI M18 v1 3)) fun M21 =>
                                    if mK M21 v1 = 3 then
                                      if mK M21 v0 = 3 then
                                        ap (sI M21 v0 4 (mI M21 v1 4)) fun M24 =>
                                        some ((), M24)
                                      else none
                                    else none
                                  else none
                                else none
                              else none
                            else none
                          else none
                        else none
                      else none
                    else none
                  else none
                else none
              else none
            else none
          else none
        else none
      else none
    else none
  else none
theorem s_X2_copyFrom (v0 : Nat) (v1 : Nat) (M : Mem) (r : (Unit × Mem)) (hf : f_X2_copyFrom v0 v1 M = some r) : Sem mi_X2_copyFrom (1) [aR v0, aR v1] M (oU r.1) r.2 := by
  unfold f_X2_copyFrom at hf
  refine sem_of (by decide) rfl rfl rfl (Nat.le_of_ble_eq_true rfl) (lv := [some (aR v0), some (aR v1)]) rfl ?_
  refine g_aload_n (pc' := 1) dX2_copyFrom_0 rfl rfl ?_
  obtain ⟨h1, hf⟩ := chk_s hf
  refine g_getR (pc' := 4) 2 0 rfl rfl (by decide) inX2 (by decide) rfl rfl q_93 dX2_copyFrom_1 rfl h1 ?_
  refine g_iconst (pc' := 5) (0 : Int32) dX2_copyFrom_4 rfl (by decide) ?_
  refine g_aload_n (pc' := 6) dX2_copyFrom_5 rfl rfl ?_
  obtain ⟨h2, hf⟩ := chk_s hf
  refine g_getR (pc' := 9) 2 0 rfl rfl (by decide) inX2 (by decide) rfl rfl q_93 dX2_copyFrom_6 rfl h2 ?_
  refine g_iconst (pc' := 10) (0 : Int32) dX2_copyFrom_9 rfl (by decide) ?_
  refine g_aload_n (pc' := 11) dX2_copyFrom_10 rfl rfl ?_
  refine g_getI (pc' := 14) 2 3 rfl rfl (by decide) inX2 (by decide) rfl rfl q_524 dX2_copyFrom_11 rfl h1 ?_
  obtain ⟨h3, hf⟩ := chk_s hf
  obtain ⟨h4, hf⟩ := chk_s hf
  obtain ⟨hc5, hf⟩ := chk_s hf
  refine g_copyI (pc' := 17) q_1569 q_641 q_642 wall_i_java_lang_System (by omega) (Nat.le_of_ble_eq_true rfl) dX2_copyFrom_14 rfl h3 h4 (copyB_ok hc5) (gM fun M6 hM6 => ?_)
  have hf := ap_eq hf hM6
  refine g_aload_n (pc' := 18) dX2_copyFrom_17 rfl rfl ?_
  obtain ⟨h7, hf⟩ := chk_s hf
  refine g_getR (pc' := 21) 2 1 rfl rfl (by decide) inX2 (by decide) rfl rfl q_94 dX2_copyFrom_18 rfl h7 ?_
  refine g_iconst (pc' := 22) (0 : Int32) dX2_copyFrom_21 rfl (by decide) ?_
  refine g_aload_n (pc' := 23) dX2_copyFrom_22 rfl rfl ?_
  obtain ⟨h8, hf⟩ := chk_s hf
  refine g_getR (pc' := 26) 2 1 rfl rfl (by decide) inX2 (by decide) rfl rfl q_94 dX2_copyFrom_23 rfl h8 ?_
  refine g_iconst (pc' := 27) (0 : Int32) dX2_copyFrom_26 rfl (by decide) ?_
  refine g_aload_n (pc' := 28) dX2_copyFrom_27 rfl rfl ?_
  refine g_getI (pc' := 31) 2 3 rfl rfl (by decide) inX2 (by decide) rfl rfl q_524 dX2_copyFrom_28 rfl h7 ?_
  obtain ⟨h9, hf⟩ := chk_s hf
  obtain ⟨h10, hf⟩ := chk_s hf
  obtain ⟨hc11, hf⟩ := chk_s hf
  refine g_copyI (pc' := 34) q_1569 q_641 q_642 wall_i_java_lang_System (by omega) (Nat.le_of_ble_eq_true rfl) dX2_copyFrom_31 rfl h9 h10 (copyB_ok hc11) (gM fun M12 hM12 => ?_)
  have hf := ap_eq hf hM12
  refine g_aload_n (pc' := 35) dX2_copyFrom_34 rfl rfl ?_
  obtain ⟨h13, hf⟩ := chk_s hf
  refine g_getR (pc' := 38) 2 2 rfl rfl (by decide) inX2 (by decide) rfl rfl q_95 dX2_copyFrom_35 rfl h13 ?_
  refine g_iconst (pc' := 39) (0 : Int32) dX2_copyFrom_38 rfl (by decide) ?_
  refine g_aload_n (pc' := 40) dX2_copyFrom_39 rfl rfl ?_
  obtain ⟨h14, hf⟩ := chk_s hf
  refine g_getR (pc' := 43) 2 2 rfl rfl (by decide) inX2 (by decide) rfl rfl q_95 dX2_copyFrom_40 rfl h14 ?_
  refine g_iconst (pc' := 44) (0 : Int32) dX2_copyFrom_43 rfl (by decide) ?_
  refine g_aload_n (pc' := 45) dX2_copyFrom_44 rfl rfl ?_
  refine g_getI (pc' := 48) 2 3 rfl rfl (by decide) inX2 (by decide) rfl rfl q_524 dX2_copyFrom_45 rfl h13 ?_
  obtain ⟨h15, hf⟩ := chk_s hf
  obtain ⟨h16, hf⟩ := chk_s hf
  obtain ⟨hc17, hf⟩ := chk_s hf
  refine g_copyI (pc' := 51) q_1569 q_641 q_642 wall_i_java_lang_System (by omega) (Nat.le_of_ble_eq_true rfl) dX2_copyFrom_48 rfl h15 h16 (copyB_ok hc17) (gM fun M18 hM18 => ?_)
  have hf := ap_eq hf hM18
  refine g_aload_n (pc' := 52) dX2_copyFrom_51 rfl rfl ?_
  refine g_aload_n (pc' := 53) dX2_copyFrom_52 rfl rfl ?_
  obtain ⟨h19, hf⟩ := chk_s hf
  refine g_getI (pc' := 56) 2 3 rfl rfl (by decide) inX2 (by decide) rfl rfl q_524 dX2_copyFrom_53 rfl h19 ?_
  obtain ⟨h20, hf⟩ := chk_s hf
  refine g_putI (pc' := 59) 2 3 rfl rfl (by decide) inX2 tyX2_ok nmX2 (by decide) rfl rfl rfl rfl q_524 dX2_copyFrom_56 rfl h20 (gM fun M21 hM21 => ?_)
  have hf := ap_eq hf hM21
  refine g_aload_n (pc' := 60) dX2_copyFrom_59 rfl rfl ?_
  refine g_aload_n (pc' := 61) dX2_copyFrom_60 rfl rfl ?_
  obtain ⟨h22, hf⟩ := chk_s hf
  refine g_getI (pc' := 64) 2 4 rfl rfl (by decide) inX2 (by decide) rfl rfl q_1001 dX2_copyFrom_61 rfl h22 ?_
  obtain ⟨h23, hf⟩ := chk_s hf
  refine g_putI (pc' := 67) 2 4 rfl rfl (by decide) inX2 tyX2_ok nmX2 (by decide) rfl rfl rfl rfl q_1001 dX2_copyFrom_64 rfl h23 (gM fun M24 hM24 => ?_)
  have hf := ap_eq hf hM24
  cases hf
  exact g_return dX2_copyFrom_67 rfl (Nat.le_of_ble_eq_true rfl) (Nat.le_of_ble_eq_true rfl)
def f_X2_packed (v0 : Nat) (v1 : Int32) (M : Mem) : Option (Int32 × Mem) :=
  if mK M v0 = 3 then
    if mK M (mR M v0 2) = 21 then
      if inB v1 (mN M (mR M v0 2)) = true then
        if mK M (mR M v0 0) = 21 then
          if inB v1 (mN M (mR M v0 0)) = true then
            if mK M (mR M v0 1) = 21 then
              if inB v1 (mN M (mR M v0 1)) = true then
                some ((((mI M (mR M v0 2) v1.toNatClampNeg) <<< ((8 : Int32) &&& 31)) ||| ((mI M (mR M v0 0) v1.toNatClampNeg) <<< ((4 : Int32) &&& 31))) ||| (mI M (mR M v0 1) v1.toNatClampNeg), M)
              else none
            else none
          else none
        else none
      else none
    else none
  else none
theorem s_X2_packed (v0 : Nat) (v1 : Int32) (M : Mem) (r : (Int32 × Mem)) (hf : f_X2_packed v0 v1 M = some r) : Sem mi_X2_packed (1) [aR v0, aI v1] M (oI r.1) r.2 := by
  unfold f_X2_packed at hf
  refine sem_of (by decide) rfl rfl rfl (Nat.le_of_ble_eq_true rfl) (lv := [some (aR v0), some (aI v1)]) rfl ?_
  refine g_aload_n (pc' := 1) dX2_packed_0 rfl rfl ?_
  obtain ⟨h1, hf⟩ := chk_s hf
  refine g_getR (pc' := 4) 2 2 rfl rfl (by decide) inX2 (by decide) rfl rfl q_95 dX2_packed_1 rfl h1 ?_
  refine g_iload_n (pc' := 5) dX2_packed_4 rfl rfl ?_
  obtain ⟨h2, hf⟩ := chk_s hf
  obtain ⟨b3, hf⟩ := chk_s hf
  refine g_iald (pc' := 6) dX2_packed_5 rfl h2 (inB_in b3) ?_
  refine g_bipush (pc' := 8) (8 : Int32) dX2_packed_6 rfl (by decide) ?_
  refine g_ishl (pc' := 9) dX2_packed_8 rfl ?_
  refine g_aload_n (pc' := 10) dX2_packed_9 rfl rfl ?_
  refine g_getR (pc' := 13) 2 0 rfl rfl (by decide) inX2 (by decide) rfl rfl q_93 dX2_packed_10 rfl h1 ?_
  refine g_iload_n (pc' := 14) dX2_packed_13 rfl rfl ?_
  obtain ⟨h4, hf⟩ := chk_s hf
  obtain ⟨b5, hf⟩ := chk_s hf
  refine g_iald (pc' := 15) dX2_packed_14 rfl h4 (inB_in b5) ?_
  refine g_iconst (pc' := 16) (4 : Int32) dX2_packed_15 rfl (by decide) ?_
  refine g_ishl (pc' := 17) dX2_packed_16 rfl ?_
  refine g_ior (pc' := 18) dX2_packed_17 rfl ?_
  refine g_aload_n (pc' := 19) dX2_packed_18 rfl rfl ?_
  refine g_getR (pc' := 22) 2 1 rfl rfl (by decide) inX2 (by decide) rfl rfl q_94 dX2_packed_19 rfl h1 ?_
  refine g_iload_n (pc' := 23) dX2_packed_22 rfl rfl ?_
  obtain ⟨h6, hf⟩ := chk_s hf
  obtain ⟨b7, hf⟩ := chk_s hf
  refine g_iald (pc' := 24) dX2_packed_23 rfl h6 (inB_in b7) ?_
  refine g_ior (pc' := 25) dX2_packed_24 rfl ?_
  cases hf
  exact g_ireturn dX2_packed_25 rfl (Nat.le_of_ble_eq_true rfl) (Nat.le_of_ble_eq_true rfl)
def f_X2_unpack (v0 : Nat) (v1 : Int32) (v2 : Int32) (M : Mem) : Option (Unit × Mem) :=
  if mK M v0 = 3 then
    bnd (f_X2_put v0 v1 ((v2 >>> ((4 : Int32) &&& 31)) &&& (15 : Int32)) (v2 &&& (15 : Int32)) (v2 >>> ((8 : Int32) &&& 31)) M) fun _ M2 =>
    some ((), M2)
  else none
theorem s_X2_unpack (v0 : Nat) (v1 : Int32) (v2 : Int32) (M : Mem) (r : (Unit × Mem)) (hf : f_X2_unpack v0 v1 v2 M = some r) : Sem mi_X2_unpack (2) [aR v0, aI v1, aI v2] M (oU r.1) r.2 := by
  unfold f_X2_unpack at hf
  refine sem_of (by decide) rfl rfl rfl (Nat.le_of_ble_eq_true rfl) (lv := [some (aR v0), some (aI v1), some (aI v2)]) rfl ?_
  refine g_aload_n (pc' := 1) dX2_unpack_0 rfl rfl ?_
  refine g_iload_n (pc' := 2) dX2_unpack_1 rfl rfl ?_
  refine g_iload_n (pc' := 3) dX2_unpack_2 rfl rfl ?_
  refine g_iconst (pc' := 4) (4 : Int32) dX2_unpack_3 rfl (by decide) ?_
  refine g_ishr (pc' := 5) dX2_unpack_4 rfl ?_
  refine g_bipush (pc' := 7) (15 : Int32) dX2_unpack_5 rfl (by decide) ?_
  refine g_iand (pc' := 8) dX2_unpack_7 rfl ?_
  refine g_iload_n (pc' := 9) dX2_unpack_8 rfl rfl ?_
  refine g_bipush (pc' := 11) (15 : Int32) dX2_unpack_9 rfl (by decide) ?_
  refine g_iand (pc' := 12) dX2_unpack_11 rfl ?_
  refine g_iload_n (pc' := 13) dX2_unpack_12 rfl rfl ?_
  refine g_bipush (pc' := 15) (8 : Int32) dX2_unpack_13 rfl (by decide) ?_
  refine g_ishr (pc' := 16) dX2_unpack_15 rfl ?_
  obtain ⟨h1, hf⟩ := chk_s hf
  obtain ⟨_, M2, e3, hf⟩ := bnd_some hf
  refine g_callVv (pc' := 19) (k' := 0) (u' := 0) (fr2 := 1) (As := [aI v1, aI ((v2 >>> ((4 : Int32) &&& 31)) &&& (15 : Int32)), aI (v2 &&& (15 : Int32)), aI (v2 >>> ((8 : Int32) &&& 31))]) (b := v0) (st := []) cf_X2_put q_1465 (by omega) (ci := 2) rfl rfl (by decide) dX2_unpack_16 rfl rfl rfl (Nat.le_of_ble_eq_true rfl) (Or.inl rfl) (Nat.le_refl _) (Nat.le_refl _) (Nat.le_refl _) (Nat.le_refl _) h1 (s_X2_put v0 v1 ((v2 >>> ((4 : Int32) &&& 31)) &&& (15 : Int32)) (v2 &&& (15 : Int32)) (v2 >>> ((8 : Int32) &&& 31)) M _ e3) ?_
  cases hf
  exact g_return dX2_unpack_19 rfl (Nat.le_of_ble_eq_true rfl) (Nat.le_of_ble_eq_true rfl)
def f_X2_hasValue (v0 : Nat) (v1 : Int32) (M : Mem) : Option (Int32 × Mem) :=
  if mK M v0 = 3 then
    if mK M (mR M v0 1) = 21 then
      if inB v1 (mN M (mR M v0 1)) = true then
        if (mI M (mR M v0 1) v1.toNatClampNeg) = (mI M v0 4) then
          some ((1 : Int32), M)
        else
          some ((0 : Int32), M)
      else none
    else none
  else none
theorem s_X2_hasValue (v0 : Nat) (v1 : Int32) (M : Mem) (r : (Int32 × Mem)) (hf : f_X2_hasValue v0 v1 M = some r) : Sem mi_X2_hasValue (1) [aR v0, aI v1] M (oI r.1) r.2 := by
  unfold f_X2_hasValue at hf
  refine sem_of (by decide) rfl rfl rfl (Nat.le_of_ble_eq_true rfl) (lv := [some (aR v0), some (aI v1)]) rfl ?_
  refine g_aload_n (pc' := 1) dX2_hasValue_0 rfl rfl ?_
  obtain ⟨h1, hf⟩ := chk_s hf
  refine g_getR (pc' := 4) 2 1 rfl rfl (by decide) inX2 (by decide) rfl rfl q_94 dX2_hasValue_1 rfl h1 ?_
  refine g_iload_n (pc' := 5) dX2_hasValue_4 rfl rfl ?_
  obtain ⟨h2, hf⟩ := chk_s hf
  obtain ⟨b3, hf⟩ := chk_s hf
  refine g_iald (pc' := 6) dX2_hasValue_5 rfl h2 (inB_in b3) ?_
  refine g_aload_n (pc' := 7) dX2_hasValue_6 rfl rfl ?_
  refine g_getI (pc' := 10) 2 4 rfl rfl (by decide) inX2 (by decide) rfl rfl q_1001 dX2_hasValue_7 rfl h1 ?_
  refine g_icmp_ne (pc' := 13) 17 dX2_hasValue_10 rfl (by decide) (fun c4 => ?_) (fun c4 => ?_)
  · have hf := ite_f c4 hf
    refine g_iconst (pc' := 18) (0 : Int32) dX2_hasValue_17 rfl (by decide) ?_
    cases hf
    exact g_zreturn dX2_hasValue_18 rfl (Or.inl rfl) (Nat.le_of_ble_eq_true rfl) (Nat.le_of_ble_eq_true rfl)
  · have hf := ite_t c4 hf
    refine g_iconst (pc' := 14) (1 : Int32) dX2_hasValue_13 rfl (by decide) ?_
    refine g_goto (pc' := 18) dX2_hasValue_14 (by decide) ?_
    cases hf
    exact g_zreturn dX2_hasValue_18 rfl (Or.inr rfl) (Nat.le_of_ble_eq_true rfl) (Nat.le_of_ble_eq_true rfl)
def f_X2_firstOf_31 (k4 : Nat → Int32 → Int32 → Int32 → Mem → Option (Int32 × Mem)) (v0 : Nat) (v1 : Int32) (v2 : Int32) (v3 : Int32) (M : Mem) : Option (Int32 × Mem) :=
  k4 v0 v1 v2 (v3 + 1) M
def f_X2_firstOf_4 : Nat → Nat → Int32 → Int32 → Int32 → Mem → Option (Int32 × Mem)
  | 0, _, _, _, _, _ => none
  | n + 1, v0, v1, v2, v3, M =>
    if mK M v0 = 3 then
      if (mI M v0 3) ≤ v3 then
        some ((-1 : Int32), M)
      else
        if mK M (mR M v0 0) = 21 then
          if inB v3 (mN M (mR M v0 0)) = true then
            if (mI M (mR M v0 0) v3.toNatClampNeg) = 0 then
              if v2 = v1 then
                some (v3, M)
              else
                f_X2_firstOf_31 (f_X2_firstOf_4 n) v0 v1 (v2 + 1) v3 M
            else
              f_X2_firstOf_31 (f_X2_firstOf_4 n) v0 v1 v2 v3 M
          else none
        else none
    else none
def f_X2_firstOf (v0 : Nat) (v1 : Int32) (M : Mem) : Option (Int32 × Mem) :=
  f_X2_firstOf_4 FUEL v0 v1 (0 : Int32) (0 : Int32) M
theorem s_X2_firstOf_31 (k4 : Nat → Int32 → Int32 → Int32 → Mem → Option (Int32 × Mem)) (hk4 : ∀ (v0 : Nat) (v1 : Int32) (v2 : Int32) (v3 : Int32) (M : Mem) (r : (Int32 × Mem)), k4 v0 v1 v2 v3 M = some r → G mi_X2_firstOf 1 (oI r.1) r.2 4 [some (aR v0), some (aI v1), some (aI v2), some (aI v3)] [] M 0 0) (v0 : Nat) (v1 : Int32) (v2 : Int32) (v3 : Int32) (M : Mem) (r : (Int32 × Mem)) (hf : f_X2_firstOf_31 k4 v0 v1 v2 v3 M = some r) : G mi_X2_firstOf 1 (oI r.1) r.2 31 [some (aR v0), some (aI v1), some (aI v2), some (aI v3)] [] M 0 0 := by
  unfold f_X2_firstOf_31 at hf
  refine g_iinc (pc' := 34) (lv' := [some (aR v0), some (aI v1), some (aI v2), some (aI (v3 + 1))]) (v3 + 1) dX2_firstOf_31 rfl rfl (by rfl) rfl (by decide) rfl ?_
  refine g_goto (pc' := 4) dX2_firstOf_34 (by decide) ?_
  exact hk4 v0 v1 v2 (v3 + 1) M _ hf
theorem s_X2_firstOf_4 : ∀ (n : Nat) (v0 : Nat) (v1 : Int32) (v2 : Int32) (v3 : Int32) (M : Mem) (r : (Int32 × Mem)), f_X2_firstOf_4 n v0 v1 v2 v3 M = some r → G mi_X2_firstOf 1 (oI r.1) r.2 4 [some (aR v0), some (aI v1), some (aI v2), some (aI v3)] [] M 0 0 := by
  intro n
  induction n with
  | zero => intro v0 v1 v2 v3 M r hf; cases hf
  | succ n ih =>
    intro v0 v1 v2 v3 M r hf
    unfold f_X2_firstOf_4 at hf
    refine g_iload_n (pc' := 5) dX2_firstOf_4 rfl rfl ?_
    refine g_aload_n (pc' := 6) dX2_firstOf_5 rfl rfl ?_
    obtain ⟨h1, hf⟩ := chk_s hf
    refine g_getI (pc' := 9) 2 3 rfl rfl (by decide) inX2 (by decide) rfl rfl q_524 dX2_firstOf_6 rfl h1 ?_
    refine g_icmp_ge (pc' := 12) 37 dX2_firstOf_9 rfl (by decide) (fun c2 => ?_) (fun c2 => ?_)
    · have hf := ite_t c2 hf
      refine g_iconst (pc' := 38) (-1 : Int32) dX2_firstOf_37 rfl (by decide) ?_
      cases hf
      exact g_ireturn dX2_firstOf_38 rfl (Nat.le_of_ble_eq_true rfl) (Nat.le_of_ble_eq_true rfl)
    · have hf := ite_f c2 hf
      refine g_aload_n (pc' := 13) dX2_firstOf_12 rfl rfl ?_
      refine g_getR (pc' := 16) 2 0 rfl rfl (by decide) inX2 (by decide) rfl rfl q_93 dX2_firstOf_13 rfl h1 ?_
      refine g_iload_n (pc' := 17) dX2_firstOf_16 rfl rfl ?_
      obtain ⟨h3, hf⟩ := chk_s hf
      obtain ⟨b4, hf⟩ := chk_s hf
      refine g_iald (pc' := 18) dX2_firstOf_17 rfl h3 (inB_in b4) ?_
      refine g_if_ne (pc' := 21) 31 dX2_firstOf_18 rfl (by decide) (fun c5 => ?_) (fun c5 => ?_)
      · have hf := ite_f c5 hf
        exact s_X2_firstOf_31 (f_X2_firstOf_4 n) ih v0 v1 v2 v3 M _ hf
      · have hf := ite_t c5 hf
        refine g_iload_n (pc' := 22) dX2_firstOf_21 rfl rfl ?_
        refine g_iload_n (pc' := 23) dX2_firstOf_22 rfl rfl ?_
        refine g_icmp_ne (pc' := 26) 28 dX2_firstOf_23 rfl (by decide) (fun c6 => ?_) (fun c6 => ?_)
        · have hf := ite_f c6 hf
          refine g_iinc (pc' := 31) (lv' := [some (aR v0), some (aI v1), some (aI (v2 + 1)), some (aI v3)]) (v2 + 1) dX2_firstOf_28 rfl rfl (by rfl) rfl (by decide) rfl ?_
          exact s_X2_firstOf_31 (f_X2_firstOf_4 n) ih v0 v1 (v2 + 1) v3 M _ hf
        · have hf := ite_t c6 hf
          refine g_iload_n (pc' := 27) dX2_firstOf_26 rfl rfl ?_
          cases hf
          exact g_ireturn dX2_firstOf_27 rfl (Nat.le_of_ble_eq_true rfl) (Nat.le_of_ble_eq_true rfl)
theorem s_X2_firstOf (v0 : Nat) (v1 : Int32) (M : Mem) (r : (Int32 × Mem)) (hf : f_X2_firstOf v0 v1 M = some r) : Sem mi_X2_firstOf (1) [aR v0, aI v1] M (oI r.1) r.2 := by
  unfold f_X2_firstOf at hf
  refine sem_of (by decide) rfl rfl rfl (Nat.le_of_ble_eq_true rfl) (lv := [some (aR v0), some (aI v1), none, none]) rfl ?_
  refine g_iconst (pc' := 1) (0 : Int32) dX2_firstOf_0 rfl (by decide) ?_
  refine g_istore_n (pc' := 2) (lv' := [some (aR v0), some (aI v1), some (aI (0 : Int32)), none]) dX2_firstOf_1 rfl rfl (by decide) rfl ?_
  refine g_iconst (pc' := 3) (0 : Int32) dX2_firstOf_2 rfl (by decide) ?_
  refine g_istore_n (pc' := 4) (lv' := [some (aR v0), some (aI v1), some (aI (0 : Int32)), some (aI (0 : Int32))]) dX2_firstOf_3 rfl rfl (by decide) rfl ?_
  exact s_X2_firstOf_4 FUEL v0 v1 (0 : Int32) (0 : Int32) M _ hf
def f_X2_runsOf_33 (k4 : Nat → Nat → Int32 → Int32 → Mem → Option (Int32 × Mem)) (v0 : Nat) (v1 : Nat) (v3 : Int32) (w0 : Int32) (w1 : Int32) (M : Mem) : Option (Int32 × Mem) :=
  k4 v0 v1 (w0 + w1) (v3 + 1) M
def f_X2_runsOf_28 (k4 : Nat → Nat → Int32 → Int32 → Mem → Option (Int32 × Mem)) (v0 : Nat) (v1 : Nat) (v3 : Int32) (w0 : Int32) (M : Mem) : Option (Int32 × Mem) :=
  f_X2_runsOf_33 k4 v0 v1 v3 w0 (1 : Int32) M
def f_X2_runsOf_4 : Nat → Nat → Nat → Int32 → Int32 → Mem → Option (Int32 × Mem)
  | 0, _, _, _, _, _ => none
  | n + 1, v0, v1, v2, v3, M =>
    if mK M v0 = 3 then
      if (mI M v0 3) ≤ v3 then
        some (v2, M)
      else
        if v3 = 0 then
          f_X2_runsOf_28 (f_X2_runsOf_4 n) v0 v1 v3 v2 M
        else
          if mK M v1 = 21 then
            if inB v3 (mN M v1) = true then
              if inB (v3 - (1 : Int32)) (mN M v1) = true then
                if (mI M v1 v3.toNatClampNeg) = (mI M v1 (v3 - (1 : Int32)).toNatClampNeg) then
                  f_X2_runsOf_33 (f_X2_runsOf_4 n) v0 v1 v3 v2 (0 : Int32) M
                else
                  f_X2_runsOf_28 (f_X2_runsOf_4 n) v0 v1 v3 v2 M
              else none
            else none
          else none
    else none
def f_X2_runsOf (v0 : Nat) (v1 : Nat) (M : Mem) : Option (Int32 × Mem) :=
  f_X2_runsOf_4 FUEL v0 v1 (0 : Int32) (0 : Int32) M
theorem s_X2_runsOf_33 (k4 : Nat → Nat → Int32 → Int32 → Mem → Option (Int32 × Mem)) (hk4 : ∀ (v0 : Nat) (v1 : Nat) (v2 : Int32) (v3 : Int32) (M : Mem) (r : (Int32 × Mem)), k4 v0 v1 v2 v3 M = some r → G mi_X2_runsOf 1 (oI r.1) r.2 4 [some (aR v0), some (aR v1), some (aI v2), some (aI v3)] [] M 0 0) (v0 : Nat) (v1 : Nat) (v3 : Int32) (w0 : Int32) (w1 : Int32) (M : Mem) (r : (Int32 × Mem)) (hf : f_X2_runsOf_33 k4 v0 v1 v3 w0 w1 M = some r) : G mi_X2_runsOf 1 (oI r.1) r.2 33 [some (aR v0), some (aR v1), none, some (aI v3)] [aI w1, aI w0] M 0 0 := by
  unfold f_X2_runsOf_33 at hf
  refine g_iadd (pc' := 34) dX2_runsOf_33 rfl ?_
  refine g_istore_n (pc' := 35) (lv' := [some (aR v0), some (aR v1), some (aI (w0 + w1)), some (aI v3)]) dX2_runsOf_34 rfl rfl (by decide) rfl ?_
  refine g_iinc (pc' := 38) (lv' := [some (aR v0), some (aR v1), some (aI (w0 + w1)), some (aI (v3 + 1))]) (v3 + 1) dX2_runsOf_35 rfl rfl (by rfl) rfl (by decide) rfl ?_
  refine g_goto (pc' := 4) dX2_runsOf_38 (by decide) ?_
  exact hk4 v0 v1 (w0 + w1) (v3 + 1) M _ hf
theorem s_X2_runsOf_28 (k4 : Nat → Nat → Int32 → Int32 → Mem → Option (Int32 × Mem)) (hk4 : ∀ (v0 : Nat) (v1 : Nat) (v2 : Int32) (v3 : Int32) (M : Mem) (r : (Int32 × Mem)), k4 v0 v1 v2 v3 M = some r → G mi_X2_runsOf 1 (oI r.1) r.2 4 [some (aR v0), some (aR v1), some (aI v2), some (aI v3)] [] M 0 0) (v0 : Nat) (v1 : Nat) (v3 : Int32) (w0 : Int32) (M : Mem) (r : (Int32 × Mem)) (hf : f_X2_runsOf_28 k4 v0 v1 v3 w0 M = some r) : G mi_X2_runsOf 1 (oI r.1) r.2 28 [some (aR v0), some (aR v1), none, some (aI v3)] [aI w0] M 0 0 := by
  unfold f_X2_runsOf_28 at hf
  refine g_iconst (pc' := 29) (1 : Int32) dX2_runsOf_28 rfl (by decide) ?_
  refine g_goto (pc' := 33) dX2_runsOf_29 (by decide) ?_
  exact s_X2_runsOf_33 k4 hk4 v0 v1 v3 w0 (1 : Int32) M _ hf
theorem s_X2_runsOf_4 : ∀ (n : Nat) (v0 : Nat) (v1 : Nat) (v2 : Int32) (v3 : Int32) (M : Mem) (r : (Int32 × Mem)), f_X2_runsOf_4 n v0 v1 v2 v3 M = some r → G mi_X2_runsOf 1 (oI r.1) r.2 4 [some (aR v0), some (aR v1), some (aI v2), some (aI v3)] [] M 0 0 := by
  intro n
  induction n with
  | zero => intro v0 v1 v2 v3 M r hf; cases hf
  | succ n ih =>
    intro v0 v1 v2 v3 M r hf
    unfold f_X2_runsOf_4 at hf
    refine g_iload_n (pc' := 5) dX2_runsOf_4 rfl rfl ?_
    refine g_aload_n (pc' := 6) dX2_runsOf_5 rfl rfl ?_
    obtain ⟨h1, hf⟩ := chk_s hf
    refine g_getI (pc' := 9) 2 3 rfl rfl (by decide) inX2 (by decide) rfl rfl q_524 dX2_runsOf_6 rfl h1 ?_
    refine g_icmp_ge (pc' := 12) 41 dX2_runsOf_9 rfl (by decide) (fun c2 => ?_) (fun c2 => ?_)
    · have hf := ite_t c2 hf
      refine g_iload_n (pc' := 42) dX2_runsOf_41 rfl rfl ?_
      cases hf
      exact g_ireturn dX2_runsOf_42 rfl (Nat.le_of_ble_eq_true rfl) (Nat.le_of_ble_eq_true rfl)
    · have hf := ite_f c2 hf
      refine g_iload_n (pc' := 13) dX2_runsOf_12 rfl rfl ?_
      refine g_iload_n (pc' := 14) dX2_runsOf_13 rfl rfl ?_
      refine g_if_eq (pc' := 17) 28 dX2_runsOf_14 rfl (by decide) (fun c3 => ?_) (fun c3 => ?_)
      · have hf := ite_t c3 hf
        refine g_mask [true, true, false, true] rfl ?_
        exact s_X2_runsOf_28 (f_X2_runsOf_4 n) ih v0 v1 v3 v2 M _ hf
      · have hf := ite_f c3 hf
        refine g_aload_n (pc' := 18) dX2_runsOf_17 rfl rfl ?_
        refine g_iload_n (pc' := 19) dX2_runsOf_18 rfl rfl ?_
        obtain ⟨h4, hf⟩ := chk_s hf
        obtain ⟨b5, hf⟩ := chk_s hf
        refine g_iald (pc' := 20) dX2_runsOf_19 rfl h4 (inB_in b5) ?_
        refine g_aload_n (pc' := 21) dX2_runsOf_20 rfl rfl ?_
        refine g_iload_n (pc' := 22) dX2_runsOf_21 rfl rfl ?_
        refine g_iconst (pc' := 23) (1 : Int32) dX2_runsOf_22 rfl (by decide) ?_
        refine g_isub (pc' := 24) dX2_runsOf_23 rfl ?_
        obtain ⟨b6, hf⟩ := chk_s hf
        refine g_iald (pc' := 25) dX2_runsOf_24 rfl h4 (inB_in b6) ?_
        refine g_icmp_eq (pc' := 28) 32 dX2_runsOf_25 rfl (by decide) (fun c7 => ?_) (fun c7 => ?_)
        · have hf := ite_t c7 hf
          refine g_iconst (pc' := 33) (0 : Int32) dX2_runsOf_32 rfl (by decide) ?_
          refine g_mask [true, true, false, true] rfl ?_
          exact s_X2_runsOf_33 (f_X2_runsOf_4 n) ih v0 v1 v3 v2 (0 : Int32) M _ hf
        · have hf := ite_f c7 hf
          refine g_mask [true, true, false, true] rfl ?_
          exact s_X2_runsOf_28 (f_X2_runsOf_4 n) ih v0 v1 v3 v2 M _ hf
theorem s_X2_runsOf (v0 : Nat) (v1 : Nat) (M : Mem) (r : (Int32 × Mem)) (hf : f_X2_runsOf v0 v1 M = some r) : Sem mi_X2_runsOf (1) [aR v0, aR v1] M (oI r.1) r.2 := by
  unfold f_X2_runsOf at hf
  refine sem_of (by decide) rfl rfl rfl (Nat.le_of_ble_eq_true rfl) (lv := [some (aR v0), some (aR v1), none, none]) rfl ?_
  refine g_iconst (pc' := 1) (0 : Int32) dX2_runsOf_0 rfl (by decide) ?_
  refine g_istore_n (pc' := 2) (lv' := [some (aR v0), some (aR v1), some (aI (0 : Int32)), none]) dX2_runsOf_1 rfl rfl (by decide) rfl ?_
  refine g_iconst (pc' := 3) (0 : Int32) dX2_runsOf_2 rfl (by decide) ?_
  refine g_istore_n (pc' := 4) (lv' := [some (aR v0), some (aR v1), some (aI (0 : Int32)), some (aI (0 : Int32))]) dX2_runsOf_3 rfl rfl (by decide) rfl ?_
  exact s_X2_runsOf_4 FUEL v0 v1 (0 : Int32) (0 : Int32) M _ hf
def f_X2_valueCount_26 (k4 : Nat → Int32 → Int32 → Mem → Option (Int32 × Mem)) (v0 : Nat) (v2 : Int32) (w0 : Int32) (w1 : Int32) (M : Mem) : Option (Int32 × Mem) :=
  k4 v0 (w0 + w1) (v2 + 1) M
def f_X2_valueCount_4 : Nat → Nat → Int32 → Int32 → Mem → Option (Int32 × Mem)
  | 0, _, _, _, _ => none
  | n + 1, v0, v1, v2, M =>
    if mK M v0 = 3 then
      if (mI M v0 3) ≤ v2 then
        some (v1, M)
      else
        bnd (f_X2_hasValue v0 v2 M) fun r4 M3 =>
        if r4 = 0 then
          f_X2_valueCount_26 (f_X2_valueCount_4 n) v0 v2 v1 (0 : Int32) M3
        else
          f_X2_valueCount_26 (f_X2_valueCount_4 n) v0 v2 v1 (1 : Int32) M3
    else none
def f_X2_valueCount (v0 : Nat) (M : Mem) : Option (Int32 × Mem) :=
  f_X2_valueCount_4 FUEL v0 (0 : Int32) (0 : Int32) M
theorem s_X2_valueCount_26 (k4 : Nat → Int32 → Int32 → Mem → Option (Int32 × Mem)) (hk4 : ∀ (v0 : Nat) (v1 : Int32) (v2 : Int32) (M : Mem) (r : (Int32 × Mem)), k4 v0 v1 v2 M = some r → G mi_X2_valueCount 2 (oI r.1) r.2 4 [some (aR v0), some (aI v1), some (aI v2)] [] M 0 0) (v0 : Nat) (v2 : Int32) (w0 : Int32) (w1 : Int32) (M : Mem) (r : (Int32 × Mem)) (hf : f_X2_valueCount_26 k4 v0 v2 w0 w1 M = some r) : G mi_X2_valueCount 2 (oI r.1) r.2 26 [some (aR v0), none, some (aI v2)] [aI w1, aI w0] M 0 0 := by
  unfold f_X2_valueCount_26 at hf
  refine g_iadd (pc' := 27) dX2_valueCount_26 rfl ?_
  refine g_istore_n (pc' := 28) (lv' := [some (aR v0), some (aI (w0 + w1)), some (aI v2)]) dX2_valueCount_27 rfl rfl (by decide) rfl ?_
  refine g_iinc (pc' := 31) (lv' := [some (aR v0), some (aI (w0 + w1)), some (aI (v2 + 1))]) (v2 + 1) dX2_valueCount_28 rfl rfl (by rfl) rfl (by decide) rfl ?_
  refine g_goto (pc' := 4) dX2_valueCount_31 (by decide) ?_
  exact hk4 v0 (w0 + w1) (v2 + 1) M _ hf
theorem s_X2_valueCount_4 : ∀ (n : Nat) (v0 : Nat) (v1 : Int32) (v2 : Int32) (M : Mem) (r : (Int32 × Mem)), f_X2_valueCount_4 n v0 v1 v2 M = some r → G mi_X2_valueCount 2 (oI r.1) r.2 4 [some (aR v0), some (aI v1), some (aI v2)] [] M 0 0 := by
  intro n
  induction n with
  | zero => intro v0 v1 v2 M r hf; cases hf
  | succ n ih =>
    intro v0 v1 v2 M r hf
    unfold f_X2_valueCount_4 at hf
    refine g_iload_n (pc' := 5) dX2_valueCount_4 rfl rfl ?_
    refine g_aload_n (pc' := 6) dX2_valueCount_5 rfl rfl ?_
    obtain ⟨h1, hf⟩ := chk_s hf
    refine g_getI (pc' := 9) 2 3 rfl rfl (by decide) inX2 (by decide) rfl rfl q_524 dX2_valueCount_6 rfl h1 ?_
    refine g_icmp_ge (pc' := 12) 34 dX2_valueCount_9 rfl (by decide) (fun c2 => ?_) (fun c2 => ?_)
    · have hf := ite_t c2 hf
      refine g_iload_n (pc' := 35) dX2_valueCount_34 rfl rfl ?_
      cases hf
      exact g_ireturn dX2_valueCount_35 rfl (Nat.le_of_ble_eq_true rfl) (Nat.le_of_ble_eq_true rfl)
    · have hf := ite_f c2 hf
      refine g_iload_n (pc' := 13) dX2_valueCount_12 rfl rfl ?_
      refine g_aload_n (pc' := 14) dX2_valueCount_13 rfl rfl ?_
      refine g_iload_n (pc' := 15) dX2_valueCount_14 rfl rfl ?_
      obtain ⟨r4, M3, e4, hf⟩ := bnd_some hf
      refine g_callVi (pc' := 18) (k' := 0) (u' := 0) (fr2 := 1) (As := [aI v2]) (b := v0) (st := [aI v1]) cf_X2_hasValue q_1276 (by omega) (ci := 2) rfl rfl (by decide) dX2_valueCount_15 rfl rfl rfl (Nat.le_of_ble_eq_true rfl) (Or.inl rfl) (Nat.le_refl _) (Nat.le_refl _) (Nat.le_refl _) (Nat.le_refl _) h1 (s_X2_hasValue v0 v2 M _ e4) ?_
      refine g_if_eq (pc' := 21) 25 dX2_valueCount_18 rfl (by decide) (fun c5 => ?_) (fun c5 => ?_)
      · have hf := ite_t c5 hf
        refine g_iconst (pc' := 26) (0 : Int32) dX2_valueCount_25 rfl (by decide) ?_
        refine g_mask [true, false, true] rfl ?_
        refine g_widen (k' := 0) (u' := 0) (by omega) (by omega) ?_
        exact s_X2_valueCount_26 (f_X2_valueCount_4 n) ih v0 v2 v1 (0 : Int32) M3 _ hf
      · have hf := ite_f c5 hf
        refine g_iconst (pc' := 22) (1 : Int32) dX2_valueCount_21 rfl (by decide) ?_
        refine g_goto (pc' := 26) dX2_valueCount_22 (by decide) ?_
        refine g_mask [true, false, true] rfl ?_
        refine g_widen (k' := 0) (u' := 0) (by omega) (by omega) ?_
        exact s_X2_valueCount_26 (f_X2_valueCount_4 n) ih v0 v2 v1 (1 : Int32) M3 _ hf
theorem s_X2_valueCount (v0 : Nat) (M : Mem) (r : (Int32 × Mem)) (hf : f_X2_valueCount v0 M = some r) : Sem mi_X2_valueCount (2) [aR v0] M (oI r.1) r.2 := by
  unfold f_X2_valueCount at hf
  refine sem_of (by decide) rfl rfl rfl (Nat.le_of_ble_eq_true rfl) (lv := [some (aR v0), none, none]) rfl ?_
  refine g_iconst (pc' := 1) (0 : Int32) dX2_valueCount_0 rfl (by decide) ?_
  refine g_istore_n (pc' := 2) (lv' := [some (aR v0), some (aI (0 : Int32)), none]) dX2_valueCount_1 rfl rfl (by decide) rfl ?_
  refine g_iconst (pc' := 3) (0 : Int32) dX2_valueCount_2 rfl (by decide) ?_
  refine g_istore_n (pc' := 4) (lv' := [some (aR v0), some (aI (0 : Int32)), some (aI (0 : Int32))]) dX2_valueCount_3 rfl rfl (by decide) rfl ?_
  exact s_X2_valueCount_4 FUEL v0 (0 : Int32) (0 : Int32) M _ hf
def f_X2_valueSum_31 (k4 : Nat → Int32 → Int32 → Mem → Option (Int32 × Mem)) (v0 : Nat) (v2 : Int32) (w0 : Int32) (w1 : Int32) (M : Mem) : Option (Int32 × Mem) :=
  k4 v0 (w0 + w1) (v2 + 1) M
def f_X2_valueSum_4 : Nat → Nat → Int32 → Int32 → Mem → Option (Int32 × Mem)
  | 0, _, _, _, _ => none
  | n + 1, v0, v1, v2, M =>
    if mK M v0 = 3 then
      if (mI M v0 3) ≤ v2 then
        some (v1, M)
      else
        bnd (f_X2_hasValue v0 v2 M) fun r4 M3 =>
        if r4 = 0 then
          f_X2_valueSum_31 (f_X2_valueSum_4 n) v0 v2 v1 (0 : Int32) M3
        else
          if mK M3 v0 = 3 then
            if mK M3 (mR M3 v0 2) = 21 then
              if inB v2 (mN M3 (mR M3 v0 2)) = true then
                f_X2_valueSum_31 (f_X2_valueSum_4 n) v0 v2 v1 (mI M3 (mR M3 v0 2) v2.toNatClampNeg) M3
              else none
            else none
          else none
    else none
def f_X2_valueSum (v0 : Nat) (M : Mem) : Option (Int32 × Mem) :=
  f_X2_valueSum_4 FUEL v0 (0 : Int32) (0 : Int32) M
theorem s_X2_valueSum_31 (k4 : Nat → Int32 → Int32 → Mem → Option (Int32 × Mem)) (hk4 : ∀ (v0 : Nat) (v1 : Int32) (v2 : Int32) (M : Mem) (r : (Int32 × Mem)), k4 v0 v1 v2 M = some r → G mi_X2_valueSum 2 (oI r.1) r.2 4 [some (aR v0), some (aI v1), some (aI v2)] [] M 0 0) (v0 : Nat) (v2 : Int32) (w0 : Int32) (w1 : Int32) (M : Mem) (r : (Int32 × Mem)) (hf : f_X2_valueSum_31 k4 v0 v2 w0 w1 M = some r) : G mi_X2_valueSum 2 (oI r.1) r.2 31 [some (aR v0), none, some (aI v2)] [aI w1, aI w0] M 0 0 := by
  unfold f_X2_valueSum_31 at hf
  refine g_iadd (pc' := 32) dX2_valueSum_31 rfl ?_
  refine g_istore_n (pc' := 33) (lv' := [some (aR v0), some (aI (w0 + w1)), some (aI v2)]) dX2_valueSum_32 rfl rfl (by decide) rfl ?_
  refine g_iinc (pc' := 36) (lv' := [some (aR v0), some (aI (w0 + w1)), some (aI (v2 + 1))]) (v2 + 1) dX2_valueSum_33 rfl rfl (by rfl) rfl (by decide) rfl ?_
  refine g_goto (pc' := 4) dX2_valueSum_36 (by decide) ?_
  exact hk4 v0 (w0 + w1) (v2 + 1) M _ hf
theorem s_X2_valueSum_4 : ∀ (n : Nat) (v0 : Nat) (v1 : Int32) (v2 : Int32) (M : Mem) (r : (Int32 × Mem)), f_X2_valueSum_4 n v0 v1 v2 M = some r → G mi_X2_valueSum 2 (oI r.1) r.2 4 [some (aR v0), some (aI v1), some (aI v2)] [] M 0 0 := by
  intro n
  induction n with
  | zero => intro v0 v1 v2 M r hf; cases hf
  | succ n ih =>
    intro v0 v1 v2 M r hf
    unfold f_X2_valueSum_4 at hf
    refine g_iload_n (pc' := 5) dX2_valueSum_4 rfl rfl ?_
    refine g_aload_n (pc' := 6) dX2_valueSum_5 rfl rfl ?_
    obtain ⟨h1, hf⟩ := chk_s hf
    refine g_getI (pc' := 9) 2 3 rfl rfl (by decide) inX2 (by decide) rfl rfl q_524 dX2_valueSum_6 rfl h1 ?_
    refine g_icmp_ge (pc' := 12) 39 dX2_valueSum_9 rfl (by decide) (fun c2 => ?_) (fun c2 => ?_)
    · have hf := ite_t c2 hf
      refine g_iload_n (pc' := 40) dX2_valueSum_39 rfl rfl ?_
      cases hf
      exact g_ireturn dX2_valueSum_40 rfl (Nat.le_of_ble_eq_true rfl) (Nat.le_of_ble_eq_true rfl)
    · have hf := ite_f c2 hf
      refine g_iload_n (pc' := 13) dX2_valueSum_12 rfl rfl ?_
      refine g_aload_n (pc' := 14) dX2_valueSum_13 rfl rfl ?_
      refine g_iload_n (pc' := 15) dX2_valueSum_14 rfl rfl ?_
      obtain ⟨r4, M3, e4, hf⟩ := bnd_some hf
      refine g_callVi (pc' := 18) (k' := 0) (u' := 0) (fr2 := 1) (As := [aI v2]) (b := v0) (st := [aI v1]) cf_X2_hasValue q_1276 (by omega) (ci := 2) rfl rfl (by decide) dX2_valueSum_15 rfl rfl rfl (Nat.le_of_ble_eq_true rfl) (Or.inl rfl) (Nat.le_refl _) (Nat.le_refl _) (Nat.le_refl _) (Nat.le_refl _) h1 (s_X2_hasValue v0 v2 M _ e4) ?_
      refine g_if_eq (pc' := 21) 30 dX2_valueSum_18 rfl (by decide) (fun c5 => ?_) (fun c5 => ?_)
      · have hf := ite_t c5 hf
        refine g_iconst (pc' := 31) (0 : Int32) dX2_valueSum_30 rfl (by decide) ?_
        refine g_mask [true, false, true] rfl ?_
        refine g_widen (k' := 0) (u' := 0) (by omega) (by omega) ?_
        exact s_X2_valueSum_31 (f_X2_valueSum_4 n) ih v0 v2 v1 (0 : Int32) M3 _ hf
      · have hf := ite_f c5 hf
        refine g_aload_n (pc' := 22) dX2_valueSum_21 rfl rfl ?_
        obtain ⟨h6, hf⟩ := chk_s hf
        refine g_getR (pc' := 25) 2 2 rfl rfl (by decide) inX2 (by decide) rfl rfl q_95 dX2_valueSum_22 rfl h6 ?_
        refine g_iload_n (pc' := 26) dX2_valueSum_25 rfl rfl ?_
        obtain ⟨h7, hf⟩ := chk_s hf
        obtain ⟨b8, hf⟩ := chk_s hf
        refine g_iald (pc' := 27) dX2_valueSum_26 rfl h7 (inB_in b8) ?_
        refine g_goto (pc' := 31) dX2_valueSum_27 (by decide) ?_
        refine g_mask [true, false, true] rfl ?_
        refine g_widen (k' := 0) (u' := 0) (by omega) (by omega) ?_
        exact s_X2_valueSum_31 (f_X2_valueSum_4 n) ih v0 v2 v1 (mI M3 (mR M3 v0 2) v2.toNatClampNeg) M3 _ hf
theorem s_X2_valueSum (v0 : Nat) (M : Mem) (r : (Int32 × Mem)) (hf : f_X2_valueSum v0 M = some r) : Sem mi_X2_valueSum (2) [aR v0] M (oI r.1) r.2 := by
  unfold f_X2_valueSum at hf
  refine sem_of (by decide) rfl rfl rfl (Nat.le_of_ble_eq_true rfl) (lv := [some (aR v0), none, none]) rfl ?_
  refine g_iconst (pc' := 1) (0 : Int32) dX2_valueSum_0 rfl (by decide) ?_
  refine g_istore_n (pc' := 2) (lv' := [some (aR v0), some (aI (0 : Int32)), none]) dX2_valueSum_1 rfl rfl (by decide) rfl ?_
  refine g_iconst (pc' := 3) (0 : Int32) dX2_valueSum_2 rfl (by decide) ?_
  refine g_istore_n (pc' := 4) (lv' := [some (aR v0), some (aI (0 : Int32)), some (aI (0 : Int32))]) dX2_valueSum_3 rfl rfl (by decide) rfl ?_
  exact s_X2_valueSum_4 FUEL v0 (0 : Int32) (0 : Int32) M _ hf
def f_X2_least_42 (k4 : Nat → Int32 → Int32 → Mem → Option (Int32 × Mem)) (v0 : Nat) (v1 : Int32) (v2 : Int32) (M : Mem) : Option (Int32 × Mem) :=
  k4 v0 v1 (v2 + 1) M
def f_X2_least_35 (k4 : Nat → Int32 → Int32 → Mem → Option (Int32 × Mem)) (v0 : Nat) (v2 : Int32) (M : Mem) : Option (Int32 × Mem) :=
  if mK M v0 = 3 then
    if mK M (mR M v0 2) = 21 then
      if inB v2 (mN M (mR M v0 2)) = true then
        f_X2_least_42 k4 v0 (mI M (mR M v0 2) v2.toNatClampNeg) v2 M
      else none
    else none
  else none
def f_X2_least_4 : Nat → Nat → Int32 → Int32 → Mem → Option (Int32 × Mem)
  | 0, _, _, _, _ => none
  | n + 1, v0, v1, v2, M =>
    if mK M v0 = 3 then
      if (mI M v0 3) ≤ v2 then
        some (v1, M)
      else
        bnd (f_X2_hasValue v0 v2 M) fun r4 M3 =>
        if r4 = 0 then
          f_X2_least_42 (f_X2_least_4 n) v0 v1 v2 M3
        else
          if v1 = (-1 : Int32) then
            f_X2_least_35 (f_X2_least_4 n) v0 v2 M3
          else
            if mK M3 v0 = 3 then
              if mK M3 (mR M3 v0 2) = 21 then
                if inB v2 (mN M3 (mR M3 v0 2)) = true then
                  if v1 ≤ (mI M3 (mR M3 v0 2) v2.toNatClampNeg) then
                    f_X2_least_42 (f_X2_least_4 n) v0 v1 v2 M3
                  else
                    f_X2_least_35 (f_X2_least_4 n) v0 v2 M3
                else none
              else none
            else none
    else none
def f_X2_least (v0 : Nat) (M : Mem) : Option (Int32 × Mem) :=
  f_X2_least_4 FUEL v0 (-1 : Int32) (0 : Int32) M
theorem s_X2_least_42 (k4 : Nat → Int32 → Int32 → Mem → Option (Int32 × Mem)) (hk4 : ∀ (v0 : Nat) (v1 : Int32) (v2 : Int32) (M : Mem) (r : (Int32 × Mem)), k4 v0 v1 v2 M = some r → G mi_X2_least 2 (oI r.1) r.2 4 [some (aR v0), some (aI v1), some (aI v2)] [] M 0 0) (v0 : Nat) (v1 : Int32) (v2 : Int32) (M : Mem) (r : (Int32 × Mem)) (hf : f_X2_least_42 k4 v0 v1 v2 M = some r) : G mi_X2_least 2 (oI r.1) r.2 42 [some (aR v0), some (aI v1), some (aI v2)] [] M 0 0 := by
  unfold f_X2_least_42 at hf
  refine g_iinc (pc' := 45) (lv' := [some (aR v0), some (aI v1), some (aI (v2 + 1))]) (v2 + 1) dX2_least_42 rfl rfl (by rfl) rfl (by decide) rfl ?_
  refine g_goto (pc' := 4) dX2_least_45 (by decide) ?_
  exact hk4 v0 v1 (v2 + 1) M _ hf
theorem s_X2_least_35 (k4 : Nat → Int32 → Int32 → Mem → Option (Int32 × Mem)) (hk4 : ∀ (v0 : Nat) (v1 : Int32) (v2 : Int32) (M : Mem) (r : (Int32 × Mem)), k4 v0 v1 v2 M = some r → G mi_X2_least 2 (oI r.1) r.2 4 [some (aR v0), some (aI v1), some (aI v2)] [] M 0 0) (v0 : Nat) (v2 : Int32) (M : Mem) (r : (Int32 × Mem)) (hf : f_X2_least_35 k4 v0 v2 M = some r) : G mi_X2_least 2 (oI r.1) r.2 35 [some (aR v0), none, some (aI v2)] [] M 0 0 := by
  unfold f_X2_least_35 at hf
  refine g_aload_n (pc' := 36) dX2_least_35 rfl rfl ?_
  obtain ⟨h1, hf⟩ := chk_s hf
  refine g_getR (pc' := 39) 2 2 rfl rfl (by decide) inX2 (by decide) rfl rfl q_95 dX2_least_36 rfl h1 ?_
  refine g_iload_n (pc' := 40) dX2_least_39 rfl rfl ?_
  obtain ⟨h2, hf⟩ := chk_s hf
  obtain ⟨b3, hf⟩ := chk_s hf
  refine g_iald (pc' := 41) dX2_least_40 rfl h2 (inB_in b3) ?_
  refine g_istore_n (pc' := 42) (lv' := [some (aR v0), some (aI (mI M (mR M v0 2) v2.toNatClampNeg)), some (aI v2)]) dX2_least_41 rfl rfl (by decide) rfl ?_
  exact s_X2_least_42 k4 hk4 v0 (mI M (mR M v0 2) v2.toNatClampNeg) v2 M _ hf
theorem s_X2_least_4 : ∀ (n : Nat) (v0 : Nat) (v1 : Int32) (v2 : Int32) (M : Mem) (r : (Int32 × Mem)), f_X2_least_4 n v0 v1 v2 M = some r → G mi_X2_least 2 (oI r.1) r.2 4 [some (aR v0), some (aI v1), some (aI v2)] [] M 0 0 := by
  intro n
  induction n with
  | zero => intro v0 v1 v2 M r hf; cases hf
  | succ n ih =>
    intro v0 v1 v2 M r hf
    unfold f_X2_least_4 at hf
    refine g_iload_n (pc' := 5) dX2_least_4 rfl rfl ?_
    refine g_aload_n (pc' := 6) dX2_least_5 rfl rfl ?_
    obtain ⟨h1, hf⟩ := chk_s hf
    refine g_getI (pc' := 9) 2 3 rfl rfl (by decide) inX2 (by decide) rfl rfl q_524 dX2_least_6 rfl h1 ?_
    refine g_icmp_ge (pc' := 12) 48 dX2_least_9 rfl (by decide) (fun c2 => ?_) (fun c2 => ?_)
    · have hf := ite_t c2 hf
      refine g_iload_n (pc' := 49) dX2_least_48 rfl rfl ?_
      cases hf
      exact g_ireturn dX2_least_49 rfl (Nat.le_of_ble_eq_true rfl) (Nat.le_of_ble_eq_true rfl)
    · have hf := ite_f c2 hf
      refine g_aload_n (pc' := 13) dX2_least_12 rfl rfl ?_
      refine g_iload_n (pc' := 14) dX2_least_13 rfl rfl ?_
      obtain ⟨r4, M3, e4, hf⟩ := bnd_some hf
      refine g_callVi (pc' := 17) (k' := 0) (u' := 0) (fr2 := 1) (As := [aI v2]) (b := v0) (st := []) cf_X2_hasValue q_1276 (by omega) (ci := 2) rfl rfl (by decide) dX2_least_14 rfl rfl rfl (Nat.le_of_ble_eq_true rfl) (Or.inl rfl) (Nat.le_refl _) (Nat.le_refl _) (Nat.le_refl _) (Nat.le_refl _) h1 (s_X2_hasValue v0 v2 M _ e4) ?_
      refine g_if_eq (pc' := 20) 42 dX2_least_17 rfl (by decide) (fun c5 => ?_) (fun c5 => ?_)
      · have hf := ite_t c5 hf
        refine g_widen (k' := 0) (u' := 0) (by omega) (by omega) ?_
        exact s_X2_least_42 (f_X2_least_4 n) ih v0 v1 v2 M3 _ hf
      · have hf := ite_f c5 hf
        refine g_iload_n (pc' := 21) dX2_least_20 rfl rfl ?_
        refine g_iconst (pc' := 22) (-1 : Int32) dX2_least_21 rfl (by decide) ?_
        refine g_icmp_eq (pc' := 25) 35 dX2_least_22 rfl (by decide) (fun c6 => ?_) (fun c6 => ?_)
        · have hf := ite_t c6 hf
          refine g_mask [true, false, true] rfl ?_
          refine g_widen (k' := 0) (u' := 0) (by omega) (by omega) ?_
          exact s_X2_least_35 (f_X2_least_4 n) ih v0 v2 M3 _ hf
        · have hf := ite_f c6 hf
          refine g_aload_n (pc' := 26) dX2_least_25 rfl rfl ?_
          obtain ⟨h7, hf⟩ := chk_s hf
          refine g_getR (pc' := 29) 2 2 rfl rfl (by decide) inX2 (by decide) rfl rfl q_95 dX2_least_26 rfl h7 ?_
          refine g_iload_n (pc' := 30) dX2_least_29 rfl rfl ?_
          obtain ⟨h8, hf⟩ := chk_s hf
          obtain ⟨b9, hf⟩ := chk_s hf
          refine g_iald (pc' := 31) dX2_least_30 rfl h8 (inB_in b9) ?_
          refine g_iload_n (pc' := 32) dX2_least_31 rfl rfl ?_
          refine g_icmp_ge (pc' := 35) 42 dX2_least_32 rfl (by decide) (fun c10 => ?_) (fun c10 => ?_)
          · have hf := ite_t c10 hf
            refine g_widen (k' := 0) (u' := 0) (by omega) (by omega) ?_
            exact s_X2_least_42 (f_X2_least_4 n) ih v0 v1 v2 M3 _ hf
          · have hf := ite_f c10 hf
            refine g_mask [true, false, true] rfl ?_
            refine g_widen (k' := 0) (u' := 0) (by omega) (by omega) ?_
            exact s_X2_least_35 (f_X2_least_4 n) ih v0 v2 M3 _ hf
theorem s_X2_least (v0 : Nat) (M : Mem) (r : (Int32 × Mem)) (hf : f_X2_least v0 M = some r) : Sem mi_X2_least (2) [aR v0] M (oI r.1) r.2 := by
  unfold f_X2_least at hf
  refine sem_of (by decide) rfl rfl rfl (Nat.le_of_ble_eq_true rfl) (lv := [some (aR v0), none, none]) rfl ?_
  refine g_iconst (pc' := 1) (-1 : Int32) dX2_least_0 rfl (by decide) ?_
  refine g_istore_n (pc' := 2) (lv' := [some (aR v0), some (aI (-1 : Int32)), none]) dX2_least_1 rfl rfl (by decide) rfl ?_
  refine g_iconst (pc' := 3) (0 : Int32) dX2_least_2 rfl (by decide) ?_
  refine g_istore_n (pc' := 4) (lv' := [some (aR v0), some (aI (-1 : Int32)), some (aI (0 : Int32))]) dX2_least_3 rfl rfl (by decide) rfl ?_
  exact s_X2_least_4 FUEL v0 (-1 : Int32) (0 : Int32) M _ hf
def f_X2_greatest_37 (k4 : Nat → Int32 → Int32 → Mem → Option (Int32 × Mem)) (v0 : Nat) (v1 : Int32) (v2 : Int32) (M : Mem) : Option (Int32 × Mem) :=
  k4 v0 v1 (v2 + 1) M
def f_X2_greatest_4 : Nat → Nat → Int32 → Int32 → Mem → Option (Int32 × Mem)
  | 0, _, _, _, _ => none
  | n + 1, v0, v1, v2, M =>
    if mK M v0 = 3 then
      if (mI M v0 3) ≤ v2 then
        some (v1, M)
      else
        bnd (f_X2_hasValue v0 v2 M) fun r4 M3 =>
        if r4 = 0 then
          f_X2_greatest_37 (f_X2_greatest_4 n) v0 v1 v2 M3
        else
          if mK M3 v0 = 3 then
            if mK M3 (mR M3 v0 2) = 21 then
              if inB v2 (mN M3 (mR M3 v0 2)) = true then
                if (mI M3 (mR M3 v0 2) v2.toNatClampNeg) ≤ v1 then
                  f_X2_greatest_37 (f_X2_greatest_4 n) v0 v1 v2 M3
                else
                  f_X2_greatest_37 (f_X2_greatest_4 n) v0 (mI M3 (mR M3 v0 2) v2.toNatClampNeg) v2 M3
              else none
            else none
          else none
    else none
def f_X2_greatest (v0 : Nat) (M : Mem) : Option (Int32 × Mem) :=
  f_X2_greatest_4 FUEL v0 (-1 : Int32) (0 : Int32) M
theorem s_X2_greatest_37 (k4 : Nat → Int32 → Int32 → Mem → Option (Int32 × Mem)) (hk4 : ∀ (v0 : Nat) (v1 : Int32) (v2 : Int32) (M : Mem) (r : (Int32 × Mem)), k4 v0 v1 v2 M = some r → G mi_X2_greatest 2 (oI r.1) r.2 4 [some (aR v0), some (aI v1), some (aI v2)] [] M 0 0) (v0 : Nat) (v1 : Int32) (v2 : Int32) (M : Mem) (r : (Int32 × Mem)) (hf : f_X2_greatest_37 k4 v0 v1 v2 M = some r) : G mi_X2_greatest 2 (oI r.1) r.2 37 [some (aR v0), some (aI v1), some (aI v2)] [] M 0 0 := by
  unfold f_X2_greatest_37 at hf
  refine g_iinc (pc' := 40) (lv' := [some (aR v0), some (aI v1), some (aI (v2 + 1))]) (v2 + 1) dX2_greatest_37 rfl rfl (by rfl) rfl (by decide) rfl ?_
  refine g_goto (pc' := 4) dX2_greatest_40 (by decide) ?_
  exact hk4 v0 v1 (v2 + 1) M _ hf
theorem s_X2_greatest_4 : ∀ (n : Nat) (v0 : Nat) (v1 : Int32) (v2 : Int32) (M : Mem) (r : (Int32 × Mem)), f_X2_greatest_4 n v0 v1 v2 M = some r → G mi_X2_greatest 2 (oI r.1) r.2 4 [some (aR v0), some (aI v1), some (aI v2)] [] M 0 0 := by
  intro n
  induction n with
  | zero => intro v0 v1 v2 M r hf; cases hf
  | succ n ih =>
    intro v0 v1 v2 M r hf
    unfold f_X2_greatest_4 at hf
    refine g_iload_n (pc' := 5) dX2_greatest_4 rfl rfl ?_
    refine g_aload_n (pc' := 6) dX2_greatest_5 rfl rfl ?_
    obtain ⟨h1, hf⟩ := chk_s hf
    refine g_getI (pc' := 9) 2 3 rfl rfl (by decide) inX2 (by decide) rfl rfl q_524 dX2_greatest_6 rfl h1 ?_
    refine g_icmp_ge (pc' := 12) 43 dX2_greatest_9 rfl (by decide) (fun c2 => ?_) (fun c2 => ?_)
    · have hf := ite_t c2 hf
      refine g_iload_n (pc' := 44) dX2_greatest_43 rfl rfl ?_
      cases hf
      exact g_ireturn dX2_greatest_44 rfl (Nat.le_of_ble_eq_true rfl) (Nat.le_of_ble_eq_true rfl)
    · have hf := ite_f c2 hf
      refine g_aload_n (pc' := 13) dX2_greatest_12 rfl rfl ?_
      refine g_iload_n (pc' := 14) dX2_greatest_13 rfl rfl ?_
      obtain ⟨r4, M3, e4, hf⟩ := bnd_some hf
      refine g_callVi (pc' := 17) (k' := 0) (u' := 0) (fr2 := 1) (As := [aI v2]) (b := v0) (st := []) cf_X2_hasValue q_1276 (by omega) (ci := 2) rfl rfl (by decide) dX2_greatest_14 rfl rfl rfl (Nat.le_of_ble_eq_true rfl) (Or.inl rfl) (Nat.le_refl _) (Nat.le_refl _) (Nat.le_refl _) (Nat.le_refl _) h1 (s_X2_hasValue v0 v2 M _ e4) ?_
      refine g_if_eq (pc' := 20) 37 dX2_greatest_17 rfl (by decide) (fun c5 => ?_) (fun c5 => ?_)
      · have hf := ite_t c5 hf
        refine g_widen (k' := 0) (u' := 0) (by omega) (by omega) ?_
        exact s_X2_greatest_37 (f_X2_greatest_4 n) ih v0 v1 v2 M3 _ hf
      · have hf := ite_f c5 hf
        refine g_aload_n (pc' := 21) dX2_greatest_20 rfl rfl ?_
        obtain ⟨h6, hf⟩ := chk_s hf
        refine g_getR (pc' := 24) 2 2 rfl rfl (by decide) inX2 (by decide) rfl rfl q_95 dX2_greatest_21 rfl h6 ?_
        refine g_iload_n (pc' := 25) dX2_greatest_24 rfl rfl ?_
        obtain ⟨h7, hf⟩ := chk_s hf
        obtain ⟨b8, hf⟩ := chk_s hf
        refine g_iald (pc' := 26) dX2_greatest_25 rfl h7 (inB_in b8) ?_
        refine g_iload_n (pc' := 27) dX2_greatest_26 rfl rfl ?_
        refine g_icmp_le (pc' := 30) 37 dX2_greatest_27 rfl (by decide) (fun c9 => ?_) (fun c9 => ?_)
        · have hf := ite_t c9 hf
          refine g_widen (k' := 0) (u' := 0) (by omega) (by omega) ?_
          exact s_X2_greatest_37 (f_X2_greatest_4 n) ih v0 v1 v2 M3 _ hf
        · have hf := ite_f c9 hf
          refine g_aload_n (pc' := 31) dX2_greatest_30 rfl rfl ?_
          refine g_getR (pc' := 34) 2 2 rfl rfl (by decide) inX2 (by decide) rfl rfl q_95 dX2_greatest_31 rfl h6 ?_
          refine g_iload_n (pc' := 35) dX2_greatest_34 rfl rfl ?_
          refine g_iald (pc' := 36) dX2_greatest_35 rfl h7 (inB_in b8) ?_
          refine g_istore_n (pc' := 37) (lv' := [some (aR v0), some (aI (mI M3 (mR M3 v0 2) v2.toNatClampNeg)), some (aI v2)]) dX2_greatest_36 rfl rfl (by decide) rfl ?_
          refine g_widen (k' := 0) (u' := 0) (by omega) (by omega) ?_
          exact s_X2_greatest_37 (f_X2_greatest_4 n) ih v0 (mI M3 (mR M3 v0 2) v2.toNatClampNeg) v2 M3 _ hf
theorem s_X2_greatest (v0 : Nat) (M : Mem) (r : (Int32 × Mem)) (hf : f_X2_greatest v0 M = some r) : Sem mi_X2_greatest (2) [aR v0] M (oI r.1) r.2 := by
  unfold f_X2_greatest at hf
  refine sem_of (by decide) rfl rfl rfl (Nat.le_of_ble_eq_true rfl) (lv := [some (aR v0), none, none]) rfl ?_
  refine g_iconst (pc' := 1) (-1 : Int32) dX2_greatest_0 rfl (by decide) ?_
  refine g_istore_n (pc' := 2) (lv' := [some (aR v0), some (aI (-1 : Int32)), none]) dX2_greatest_1 rfl rfl (by decide) rfl ?_
  refine g_iconst (pc' := 3) (0 : Int32) dX2_greatest_2 rfl (by decide) ?_
  refine g_istore_n (pc' := 4) (lv' := [some (aR v0), some (aI (-1 : Int32)), some (aI (0 : Int32))]) dX2_greatest_3 rfl rfl (by decide) rfl ?_
  exact s_X2_greatest_4 FUEL v0 (-1 : Int32) (0 : Int32) M _ hf
def f_X2_cameAhead_32 (k2 : Nat → Int32 → Int32 → Mem → Option (Int32 × Mem)) (v0 : Nat) (v1 : Int32) (v2 : Int32) (M : Mem) : Option (Int32 × Mem) :=
  k2 v0 v1 (v2 + 1) M
def f_X2_cameAhead_2 : Nat → Nat → Int32 → Int32 → Mem → Option (Int32 × Mem)
  | 0, _, _, _, _ => none
  | n + 1, v0, v1, v2, M =>
    if v1 ≤ v2 then
      some ((0 : Int32), M)
    else
      if mK M v0 = 3 then
        bnd (f_X2_hasValue v0 v2 M) fun r4 M3 =>
        if r4 = 0 then
          f_X2_cameAhead_32 (f_X2_cameAhead_2 n) v0 v1 v2 M3
        else
          if mK M3 v0 = 3 then
            if mK M3 (mR M3 v0 2) = 21 then
              if inB v2 (mN M3 (mR M3 v0 2)) = true then
                if inB v1 (mN M3 (mR M3 v0 2)) = true then
                  if (mI M3 (mR M3 v0 2) v2.toNatClampNeg) = (mI M3 (mR M3 v0 2) v1.toNatClampNeg) then
                    some ((1 : Int32), M3)
                  else
                    f_X2_cameAhead_32 (f_X2_cameAhead_2 n) v0 v1 v2 M3
                else none
              else none
            else none
          else none
      else none
def f_X2_cameAhead (v0 : Nat) (v1 : Int32) (M : Mem) : Option (Int32 × Mem) :=
  f_X2_cameAhead_2 FUEL v0 v1 (0 : Int32) M
theorem s_X2_cameAhead_32 (k2 : Nat → Int32 → Int32 → Mem → Option (Int32 × Mem)) (hk2 : ∀ (v0 : Nat) (v1 : Int32) (v2 : Int32) (M : Mem) (r : (Int32 × Mem)), k2 v0 v1 v2 M = some r → G mi_X2_cameAhead 2 (oI r.1) r.2 2 [some (aR v0), some (aI v1), some (aI v2)] [] M 0 0) (v0 : Nat) (v1 : Int32) (v2 : Int32) (M : Mem) (r : (Int32 × Mem)) (hf : f_X2_cameAhead_32 k2 v0 v1 v2 M = some r) : G mi_X2_cameAhead 2 (oI r.1) r.2 32 [some (aR v0), some (aI v1), some (aI v2)] [] M 0 0 := by
  unfold f_X2_cameAhead_32 at hf
  refine g_iinc (pc' := 35) (lv' := [some (aR v0), some (aI v1), some (aI (v2 + 1))]) (v2 + 1) dX2_cameAhead_32 rfl rfl (by rfl) rfl (by decide) rfl ?_
  refine g_goto (pc' := 2) dX2_cameAhead_35 (by decide) ?_
  exact hk2 v0 v1 (v2 + 1) M _ hf
theorem s_X2_cameAhead_2 : ∀ (n : Nat) (v0 : Nat) (v1 : Int32) (v2 : Int32) (M : Mem) (r : (Int32 × Mem)), f_X2_cameAhead_2 n v0 v1 v2 M = some r → G mi_X2_cameAhead 2 (oI r.1) r.2 2 [some (aR v0), some (aI v1), some (aI v2)] [] M 0 0 := by
  intro n
  induction n with
  | zero => intro v0 v1 v2 M r hf; cases hf
  | succ n ih =>
    intro v0 v1 v2 M r hf
    unfold f_X2_cameAhead_2 at hf
    refine g_iload_n (pc' := 3) dX2_cameAhead_2 rfl rfl ?_
    refine g_iload_n (pc' := 4) dX2_cameAhead_3 rfl rfl ?_
    refine g_icmp_ge (pc' := 7) 38 dX2_cameAhead_4 rfl (by decide) (fun c1 => ?_) (fun c1 => ?_)
    · have hf := ite_t c1 hf
      refine g_iconst (pc' := 39) (0 : Int32) dX2_cameAhead_38 rfl (by decide) ?_
      cases hf
      exact g_zreturn dX2_cameAhead_39 rfl (Or.inl rfl) (Nat.le_of_ble_eq_true rfl) (Nat.le_of_ble_eq_true rfl)
    · have hf := ite_f c1 hf
      refine g_aload_n (pc' := 8) dX2_cameAhead_7 rfl rfl ?_
      refine g_iload_n (pc' := 9) dX2_cameAhead_8 rfl rfl ?_
      obtain ⟨h2, hf⟩ := chk_s hf
      obtain ⟨r4, M3, e4, hf⟩ := bnd_some hf
      refine g_callVi (pc' := 12) (k' := 0) (u' := 0) (fr2 := 1) (As := [aI v2]) (b := v0) (st := []) cf_X2_hasValue q_1276 (by omega) (ci := 2) rfl rfl (by decide) dX2_cameAhead_9 rfl rfl rfl (Nat.le_of_ble_eq_true rfl) (Or.inl rfl) (Nat.le_refl _) (Nat.le_refl _) (Nat.le_refl _) (Nat.le_refl _) h2 (s_X2_hasValue v0 v2 M _ e4) ?_
      refine g_if_eq (pc' := 15) 32 dX2_cameAhead_12 rfl (by decide) (fun c5 => ?_) (fun c5 => ?_)
      · have hf := ite_t c5 hf
        refine g_widen (k' := 0) (u' := 0) (by omega) (by omega) ?_
        exact s_X2_cameAhead_32 (f_X2_cameAhead_2 n) ih v0 v1 v2 M3 _ hf
      · have hf := ite_f c5 hf
        refine g_aload_n (pc' := 16) dX2_cameAhead_15 rfl rfl ?_
        obtain ⟨h6, hf⟩ := chk_s hf
        refine g_getR (pc' := 19) 2 2 rfl rfl (by decide) inX2 (by decide) rfl rfl q_95 dX2_cameAhead_16 rfl h6 ?_
        refine g_iload_n (pc' := 20) dX2_cameAhead_19 rfl rfl ?_
        obtain ⟨h7, hf⟩ := chk_s hf
        obtain ⟨b8, hf⟩ := chk_s hf
        refine g_iald (pc' := 21) dX2_cameAhead_20 rfl h7 (inB_in b8) ?_
        refine g_aload_n (pc' := 22) dX2_cameAhead_21 rfl rfl ?_
        refine g_getR (pc' := 25) 2 2 rfl rfl (by decide) inX2 (by decide) rfl rfl q_95 dX2_cameAhead_22 rfl h6 ?_
        refine g_iload_n (pc' := 26) dX2_cameAhead_25 rfl rfl ?_
        obtain ⟨b9, hf⟩ := chk_s hf
        refine g_iald (pc' := 27) dX2_cameAhead_26 rfl h7 (inB_in b9) ?_
        refine g_icmp_ne (pc' := 30) 32 dX2_cameAhead_27 rfl (by decide) (fun c10 => ?_) (fun c10 => ?_)
        · have hf := ite_f c10 hf
          refine g_widen (k' := 0) (u' := 0) (by omega) (by omega) ?_
          exact s_X2_cameAhead_32 (f_X2_cameAhead_2 n) ih v0 v1 v2 M3 _ hf
        · have hf := ite_t c10 hf
          refine g_iconst (pc' := 31) (1 : Int32) dX2_cameAhead_30 rfl (by decide) ?_
          cases hf
          exact g_zreturn dX2_cameAhead_31 rfl (Or.inr rfl) (Nat.le_of_ble_eq_true rfl) (Nat.le_of_ble_eq_true rfl)
theorem s_X2_cameAhead (v0 : Nat) (v1 : Int32) (M : Mem) (r : (Int32 × Mem)) (hf : f_X2_cameAhead v0 v1 M = some r) : Sem mi_X2_cameAhead (2) [aR v0, aI v1] M (oI r.1) r.2 := by
  unfold f_X2_cameAhead at hf
  refine sem_of (by decide) rfl rfl rfl (Nat.le_of_ble_eq_true rfl) (lv := [some (aR v0), some (aI v1), none]) rfl ?_
  refine g_iconst (pc' := 1) (0 : Int32) dX2_cameAhead_0 rfl (by decide) ?_
  refine g_istore_n (pc' := 2) (lv' := [some (aR v0), some (aI v1), some (aI (0 : Int32))]) dX2_cameAhead_1 rfl rfl (by decide) rfl ?_
  exact s_X2_cameAhead_2 FUEL v0 v1 (0 : Int32) M _ hf
def f_X2_unlikeCount_34 (k4 : Nat → Int32 → Int32 → Mem → Option (Int32 × Mem)) (v0 : Nat) (v2 : Int32) (w0 : Int32) (w1 : Int32) (M : Mem) : Option (Int32 × Mem) :=
  k4 v0 (w0 + w1) (v2 + 1) M
def f_X2_unlikeCount_33 (k4 : Nat → Int32 → Int32 → Mem → Option (Int32 × Mem)) (v0 : Nat) (v2 : Int32) (w0 : Int32) (M : Mem) : Option (Int32 × Mem) :=
  f_X2_unlikeCount_34 k4 v0 v2 w0 (0 : Int32) M
def f_X2_unlikeCount_4 : Nat → Nat → Int32 → Int32 → Mem → Option (Int32 × Mem)
  | 0, _, _, _, _ => none
  | n + 1, v0, v1, v2, M =>
    if mK M v0 = 3 then
      if (mI M v0 3) ≤ v2 then
        some (v1, M)
      else
        bnd (f_X2_hasValue v0 v2 M) fun r4 M3 =>
        if r4 = 0 then
          f_X2_unlikeCount_33 (f_X2_unlikeCount_4 n) v0 v2 v1 M3
        else
          if mK M3 v0 = 3 then
            bnd (f_X2_cameAhead v0 v2 M3) fun r8 M7 =>
            if r8 = 0 then
              f_X2_unlikeCount_34 (f_X2_unlikeCount_4 n) v0 v2 v1 (1 : Int32) M7
            else
              f_X2_unlikeCount_33 (f_X2_unlikeCount_4 n) v0 v2 v1 M7
          else none
    else none
def f_X2_unlikeCount (v0 : Nat) (M : Mem) : Option (Int32 × Mem) :=
  f_X2_unlikeCount_4 FUEL v0 (0 : Int32) (0 : Int32) M
theorem s_X2_unlikeCount_34 (k4 : Nat → Int32 → Int32 → Mem → Option (Int32 × Mem)) (hk4 : ∀ (v0 : Nat) (v1 : Int32) (v2 : Int32) (M : Mem) (r : (Int32 × Mem)), k4 v0 v1 v2 M = some r → G mi_X2_unlikeCount 3 (oI r.1) r.2 4 [some (aR v0), some (aI v1), some (aI v2)] [] M 0 0) (v0 : Nat) (v2 : Int32) (w0 : Int32) (w1 : Int32) (M : Mem) (r : (Int32 × Mem)) (hf : f_X2_unlikeCount_34 k4 v0 v2 w0 w1 M = some r) : G mi_X2_unlikeCount 3 (oI r.1) r.2 34 [some (aR v0), none, some (aI v2)] [aI w1, aI w0] M 0 0 := by
  unfold f_X2_unlikeCount_34 at hf
  refine g_iadd (pc' := 35) dX2_unlikeCount_34 rfl ?_
  refine g_istore_n (pc' := 36) (lv' := [some (aR v0), some (aI (w0 + w1)), some (aI v2)]) dX2_unlikeCount_35 rfl rfl (by decide) rfl ?_
  refine g_iinc (pc' := 39) (lv' := [some (aR v0), some (aI (w0 + w1)), some (aI (v2 + 1))]) (v2 + 1) dX2_unlikeCount_36 rfl rfl (by rfl) rfl (by decide) rfl ?_
  refine g_goto (pc' := 4) dX2_unlikeCount_39 (by decide) ?_
  exact hk4 v0 (w0 + w1) (v2 + 1) M _ hf
theorem s_X2_unlikeCount_33 (k4 : Nat → Int32 → Int32 → Mem → Option (Int32 × Mem)) (hk4 : ∀ (v0 : Nat) (v1 : Int32) (v2 : Int32) (M : Mem) (r : (Int32 × Mem)), k4 v0 v1 v2 M = some r → G mi_X2_unlikeCount 3 (oI r.1) r.2 4 [some (aR v0), some (aI v1), some (aI v2)] [] M 0 0) (v0 : Nat) (v2 : Int32) (w0 : Int32) (M : Mem) (r : (Int32 × Mem)) (hf : f_X2_unlikeCount_33 k4 v0 v2 w0 M = some r) : G mi_X2_unlikeCount 3 (oI r.1) r.2 33 [some (aR v0), none, some (aI v2)] [aI w0] M 0 0 := by
  unfold f_X2_unlikeCount_33 at hf
  refine g_iconst (pc' := 34) (0 : Int32) dX2_unlikeCount_33 rfl (by decide) ?_
  exact s_X2_unlikeCount_34 k4 hk4 v0 v2 w0 (0 : Int32) M _ hf
theorem s_X2_unlikeCount_4 : ∀ (n : Nat) (v0 : Nat) (v1 : Int32) (v2 : Int32) (M : Mem) (r : (Int32 × Mem)), f_X2_unlikeCount_4 n v0 v1 v2 M = some r → G mi_X2_unlikeCount 3 (oI r.1) r.2 4 [some (aR v0), some (aI v1), some (aI v2)] [] M 0 0 := by
  intro n
  induction n with
  | zero => intro v0 v1 v2 M r hf; cases hf
  | succ n ih =>
    intro v0 v1 v2 M r hf
    unfold f_X2_unlikeCount_4 at hf
    refine g_iload_n (pc' := 5) dX2_unlikeCount_4 rfl rfl ?_
    refine g_aload_n (pc' := 6) dX2_unlikeCount_5 rfl rfl ?_
    obtain ⟨h1, hf⟩ := chk_s hf
    refine g_getI (pc' := 9) 2 3 rfl rfl (by decide) inX2 (by decide) rfl rfl q_524 dX2_unlikeCount_6 rfl h1 ?_
    refine g_icmp_ge (pc' := 12) 42 dX2_unlikeCount_9 rfl (by decide) (fun c2 => ?_) (fun c2 => ?_)
    · have hf := ite_t c2 hf
      refine g_iload_n (pc' := 43) dX2_unlikeCount_42 rfl rfl ?_
      cases hf
      exact g_ireturn dX2_unlikeCount_43 rfl (Nat.le_of_ble_eq_true rfl) (Nat.le_of_ble_eq_true rfl)
    · have hf := ite_f c2 hf
      refine g_iload_n (pc' := 13) dX2_unlikeCount_12 rfl rfl ?_
      refine g_aload_n (pc' := 14) dX2_unlikeCount_13 rfl rfl ?_
      refine g_iload_n (pc' := 15) dX2_unlikeCount_14 rfl rfl ?_
      obtain ⟨r4, M3, e4, hf⟩ := bnd_some hf
      refine g_callVi (pc' := 18) (k' := 0) (u' := 0) (fr2 := 1) (As := [aI v2]) (b := v0) (st := [aI v1]) cf_X2_hasValue q_1276 (by omega) (ci := 2) rfl rfl (by decide) dX2_unlikeCount_15 rfl rfl rfl (Nat.le_of_ble_eq_true rfl) (Or.inl rfl) (Nat.le_refl _) (Nat.le_refl _) (Nat.le_refl _) (Nat.le_refl _) h1 (s_X2_hasValue v0 v2 M _ e4) ?_
      refine g_if_eq (pc' := 21) 33 dX2_unlikeCount_18 rfl (by decide) (fun c5 => ?_) (fun c5 => ?_)
      · have hf := ite_t c5 hf
        refine g_mask [true, false, true] rfl ?_
        refine g_widen (k' := 0) (u' := 0) (by omega) (by omega) ?_
        exact s_X2_unlikeCount_33 (f_X2_unlikeCount_4 n) ih v0 v2 v1 M3 _ hf
      · have hf := ite_f c5 hf
        refine g_aload_n (pc' := 22) dX2_unlikeCount_21 rfl rfl ?_
        refine g_iload_n (pc' := 23) dX2_unlikeCount_22 rfl rfl ?_
        obtain ⟨h6, hf⟩ := chk_s hf
        obtain ⟨r8, M7, e8, hf⟩ := bnd_some hf
        refine g_callVi (pc' := 26) (k' := 0) (u' := 0) (fr2 := 2) (As := [aI v2]) (b := v0) (st := [aI v1]) cf_X2_cameAhead q_1293 (by omega) (ci := 2) rfl rfl (by decide) dX2_unlikeCount_23 rfl rfl rfl (Nat.le_of_ble_eq_true rfl) (Or.inl rfl) (Nat.le_refl _) (Nat.le_refl _) (Nat.le_refl _) (Nat.le_refl _) h6 (s_X2_cameAhead v0 v2 M3 _ e8) ?_
        refine g_if_ne (pc' := 29) 33 dX2_unlikeCount_26 rfl (by decide) (fun c9 => ?_) (fun c9 => ?_)
        · have hf := ite_f c9 hf
          refine g_mask [true, false, true] rfl ?_
          refine g_widen (k' := 0) (u' := 0) (by omega) (by omega) ?_
          exact s_X2_unlikeCount_33 (f_X2_unlikeCount_4 n) ih v0 v2 v1 M7 _ hf
        · have hf := ite_t c9 hf
          refine g_iconst (pc' := 30) (1 : Int32) dX2_unlikeCount_29 rfl (by decide) ?_
          refine g_goto (pc' := 34) dX2_unlikeCount_30 (by decide) ?_
          refine g_mask [true, false, true] rfl ?_
          refine g_widen (k' := 0) (u' := 0) (by omega) (by omega) ?_
          exact s_X2_unlikeCount_34 (f_X2_unlikeCount_4 n) ih v0 v2 v1 (1 : Int32) M7 _ hf
theorem s_X2_unlikeCount (v0 : Nat) (M : Mem) (r : (Int32 × Mem)) (hf : f_X2_unlikeCount v0 M = some r) : Sem mi_X2_unlikeCount (3) [aR v0] M (oI r.1) r.2 := by
  unfold f_X2_unlikeCount at hf
  refine sem_of (by decide) rfl rfl rfl (Nat.le_of_ble_eq_true rfl) (lv := [some (aR v0), none, none]) rfl ?_
  refine g_iconst (pc' := 1) (0 : Int32) dX2_unlikeCount_0 rfl (by decide) ?_
  refine g_istore_n (pc' := 2) (lv' := [some (aR v0), some (aI (0 : Int32)), none]) dX2_unlikeCount_1 rfl rfl (by decide) rfl ?_
  refine g_iconst (pc' := 3) (0 : Int32) dX2_unlikeCount_2 rfl (by decide) ?_
  refine g_istore_n (pc' := 4) (lv' := [some (aR v0), some (aI (0 : Int32)), some (aI (0 : Int32))]) dX2_unlikeCount_3 rfl rfl (by decide) rfl ?_
  exact s_X2_unlikeCount_4 FUEL v0 (0 : Int32) (0 : Int32) M _ hf
def f_X2_rolled_51 (k4 : Nat → Int32 → Int32 → Int32 → Mem → Option (Int32 × Mem)) (v0 : Nat) (v1 : Int32) (v2 : Int32) (v3 : Int32) (M : Mem) : Option (Int32 × Mem) :=
  k4 v0 v1 v2 (v3 + 1) M
def f_X2_rolled_50 (k4 : Nat → Int32 → Int32 → Int32 → Mem → Option (Int32 × Mem)) (v0 : Nat) (v1 : Int32) (v3 : Int32) (w0 : Int32) (M : Mem) : Option (Int32 × Mem) :=
  f_X2_rolled_51 k4 v0 v1 w0 v3 M
def f_X2_rolled_4 : Nat → Nat → Int32 → Int32 → Int32 → Mem → Option (Int32 × Mem)
  | 0, _, _, _, _, _ => none
  | n + 1, v0, v1, v2, v3, M =>
    if mK M v0 = 3 then
      if (mI M v0 3) ≤ v3 then
        some (v2, M)
      else
        bnd (f_X2_hasValue v0 v3 M) fun r4 M3 =>
        if r4 = 0 then
          f_X2_rolled_51 (f_X2_rolled_4 n) v0 v1 v2 v3 M3
        else
          if v1 = 0 then
            if mK M3 v0 = 3 then
              if mK M3 (mR M3 v0 2) = 21 then
                if inB v3 (mN M3 (mR M3 v0 2)) = true then
                  f_X2_rolled_50 (f_X2_rolled_4 n) v0 v1 v3 (((v2 * (7 : Int32)) + (mI M3 (mR M3 v0 2) v3.toNatClampNeg)) - ((v2 * (7 : Int32)) + (mI M3 (mR M3 v0 2) v3.toNatClampNeg)) / (1000 : Int32) * (1000 : Int32)) M3
                else none
              else none
            else none
          else
            if mK M3 v0 = 3 then
              if mK M3 (mR M3 v0 2) = 21 then
                if inB v3 (mN M3 (mR M3 v0 2)) = true then
                  f_X2_rolled_50 (f_X2_rolled_4 n) v0 v1 v3 ((mI M3 (mR M3 v0 2) v3.toNatClampNeg) - v2) M3
                else none
              else none
            else none
    else none
def f_X2_rolled (v0 : Nat) (v1 : Int32) (M : Mem) : Option (Int32 × Mem) :=
  f_X2_rolled_4 FUEL v0 v1 (0 : Int32) (0 : Int32) M
theorem s_X2_rolled_51 (k4 : Nat → Int32 → Int32 → Int32 → Mem → Option (Int32 × Mem)) (hk4 : ∀ (v0 : Nat) (v1 : Int32) (v2 : Int32) (v3 : Int32) (M : Mem) (r : (Int32 × Mem)), k4 v0 v1 v2 v3 M = some r → G mi_X2_rolled 2 (oI r.1) r.2 4 [some (aR v0), some (aI v1), some (aI v2), some (aI v3)] [] M 0 0) (v0 : Nat) (v1 : Int32) (v2 : Int32) (v3 : Int32) (M : Mem) (r : (Int32 × Mem)) (hf : f_X2_rolled_51 k4 v0 v1 v2 v3 M = some r) : G mi_X2_rolled 2 (oI r.1) r.2 51 [some (aR v0), some (aI v1), some (aI v2), some (aI v3)] [] M 0 0 := by
  unfold f_X2_rolled_51 at hf
  refine g_iinc (pc' := 54) (lv' := [some (aR v0), some (aI v1), some (aI v2), some (aI (v3 + 1))]) (v3 + 1) dX2_rolled_51 rfl rfl (by rfl) rfl (by decide) rfl ?_
  refine g_goto (pc' := 4) dX2_rolled_54 (by decide) ?_
  exact hk4 v0 v1 v2 (v3 + 1) M _ hf
theorem s_X2_rolled_50 (k4 : Nat → Int32 → Int32 → Int32 → Mem → Option (Int32 × Mem)) (hk4 : ∀ (v0 : Nat) (v1 : Int32) (v2 : Int32) (v3 : Int32) (M : Mem) (r : (Int32 × Mem)), k4 v0 v1 v2 v3 M = some r → G mi_X2_rolled 2 (oI r.1) r.2 4 [some (aR v0), some (aI v1), some (aI v2), some (aI v3)] [] M 0 0) (v0 : Nat) (v1 : Int32) (v3 : Int32) (w0 : Int32) (M : Mem) (r : (Int32 × Mem)) (hf : f_X2_rolled_50 k4 v0 v1 v3 w0 M = some r) : G mi_X2_rolled 2 (oI r.1) r.2 50 [some (aR v0), some (aI v1), none, some (aI v3)] [aI w0] M 0 0 := by
  unfold f_X2_rolled_50 at hf
  refine g_istore_n (pc' := 51) (lv' := [some (aR v0), some (aI v1), some (aI w0), some (aI v3)]) dX2_rolled_50 rfl rfl (by decide) rfl ?_
  exact s_X2_rolled_51 k4 hk4 v0 v1 w0 v3 M _ hf
theorem s_X2_rolled_4 : ∀ (n : Nat) (v0 : Nat) (v1 : Int32) (v2 : Int32) (v3 : Int32) (M : Mem) (r : (Int32 × Mem)), f_X2_rolled_4 n v0 v1 v2 v3 M = some r → G mi_X2_rolled 2 (oI r.1) r.2 4 [some (aR v0), some (aI v1), some (aI v2), some (aI v3)] [] M 0 0 := by
  intro n
  induction n with
  | zero => intro v0 v1 v2 v3 M r hf; cases hf
  | succ n ih =>
    intro v0 v1 v2 v3 M r hf
    unfold f_X2_rolled_4 at hf
    refine g_iload_n (pc' := 5) dX2_rolled_4 rfl rfl ?_
    refine g_aload_n (pc' := 6) dX2_rolled_5 rfl rfl ?_
    obtain ⟨h1, hf⟩ := chk_s hf
    refine g_getI (pc' := 9) 2 3 rfl rfl (by decide) inX2 (by decide) rfl rfl q_524 dX2_rolled_6 rfl h1 ?_
    refine g_icmp_ge (pc' := 12) 57 dX2_rolled_9 rfl (by decide) (fun c2 => ?_) (fun c2 => ?_)
    · have hf := ite_t c2 hf
      refine g_iload_n (pc' := 58) dX2_rolled_57 rfl rfl ?_
      cases hf
      exact g_ireturn dX2_rolled_58 rfl (Nat.le_of_ble_eq_true rfl) (Nat.le_of_ble_eq_true rfl)
    · have hf := ite_f c2 hf
      refine g_aload_n (pc' := 13) dX2_rolled_12 rfl rfl ?_
      refine g_iload_n (pc' := 14) dX2_rolled_13 rfl rfl ?_
      obtain ⟨r4, M3, e4, hf⟩ := bnd_some hf
      refine g_callVi (pc' := 17) (k' := 0) (u' := 0) (fr2 := 1) (As := [aI v3]) (b := v0) (st := []) cf_X2_hasValue q_1276 (by omega) (ci := 2) rfl rfl (by decide) dX2_rolled_14 rfl rfl rfl (Nat.le_of_ble_eq_true rfl) (Or.inl rfl) (Nat.le_refl _) (Nat.le_refl _) (Nat.le_refl _) (Nat.le_refl _) h1 (s_X2_hasValue v0 v3 M _ e4) ?_
      refine g_if_eq (pc' := 20) 51 dX2_rolled_17 rfl (by decide) (fun c5 => ?_) (fun c5 => ?_)
      · have hf := ite_t c5 hf
        refine g_widen (k' := 0) (u' := 0) (by omega) (by omega) ?_
        exact s_X2_rolled_51 (f_X2_rolled_4 n) ih v0 v1 v2 v3 M3 _ hf
      · have hf := ite_f c5 hf
        refine g_iload_n (pc' := 21) dX2_rolled_20 rfl rfl ?_
        refine g_if_eq (pc' := 24) 35 dX2_rolled_21 rfl (by decide) (fun c6 => ?_) (fun c6 => ?_)
        · have hf := ite_t c6 hf
          refine g_iload_n (pc' := 36) dX2_rolled_35 rfl rfl ?_
          refine g_bipush (pc' := 38) (7 : Int32) dX2_rolled_36 rfl (by decide) ?_
          refine g_imul (pc' := 39) dX2_rolled_38 rfl ?_
          refine g_aload_n (pc' := 40) dX2_rolled_39 rfl rfl ?_
          obtain ⟨h7, hf⟩ := chk_s hf
          refine g_getR (pc' := 43) 2 2 rfl rfl (by decide) inX2 (by decide) rfl rfl q_95 dX2_rolled_40 rfl h7 ?_
          refine g_iload_n (pc' := 44) dX2_rolled_43 rfl rfl ?_
          obtain ⟨h8, hf⟩ := chk_s hf
          obtain ⟨b9, hf⟩ := chk_s hf
          refine g_iald (pc' := 45) dX2_rolled_44 rfl h8 (inB_in b9) ?_
          refine g_iadd (pc' := 46) dX2_rolled_45 rfl ?_
          refine g_sipush (pc' := 49) (1000 : Int32) dX2_rolled_46 rfl (by decide) ?_
          refine g_irem (pc' := 50) dX2_rolled_49 rfl (by decide) ?_
          refine g_mask [true, true, false, true] rfl ?_
          refine g_widen (k' := 0) (u' := 0) (by omega) (by omega) ?_
          exact s_X2_rolled_50 (f_X2_rolled_4 n) ih v0 v1 v3 (((v2 * (7 : Int32)) + (mI M3 (mR M3 v0 2) v3.toNatClampNeg)) - ((v2 * (7 : Int32)) + (mI M3 (mR M3 v0 2) v3.toNatClampNeg)) / (1000 : Int32) * (1000 : Int32)) M3 _ hf
        · have hf := ite_f c6 hf
          refine g_aload_n (pc' := 25) dX2_rolled_24 rfl rfl ?_
          obtain ⟨h10, hf⟩ := chk_s hf
          refine g_getR (pc' := 28) 2 2 rfl rfl (by decide) inX2 (by decide) rfl rfl q_95 dX2_rolled_25 rfl h10 ?_
          refine g_iload_n (pc' := 29) dX2_rolled_28 rfl rfl ?_
          obtain ⟨h11, hf⟩ := chk_s hf
          obtain ⟨b12, hf⟩ := chk_s hf
          refine g_iald (pc' := 30) dX2_rolled_29 rfl h11 (inB_in b12) ?_
          refine g_iload_n (pc' := 31) dX2_rolled_30 rfl rfl ?_
          refine g_isub (pc' := 32) dX2_rolled_31 rfl ?_
          refine g_goto (pc' := 50) dX2_rolled_32 (by decide) ?_
          refine g_mask [true, true, false, true] rfl ?_
          refine g_widen (k' := 0) (u' := 0) (by omega) (by omega) ?_
          exact s_X2_rolled_50 (f_X2_rolled_4 n) ih v0 v1 v3 ((mI M3 (mR M3 v0 2) v3.toNatClampNeg) - v2) M3 _ hf
theorem s_X2_rolled (v0 : Nat) (v1 : Int32) (M : Mem) (r : (Int32 × Mem)) (hf : f_X2_rolled v0 v1 M = some r) : Sem mi_X2_rolled (2) [aR v0, aI v1] M (oI r.1) r.2 := by
  unfold f_X2_rolled at hf
  refine sem_of (by decide) rfl rfl rfl (Nat.le_of_ble_eq_true rfl) (lv := [some (aR v0), some (aI v1), none, none]) rfl ?_
  refine g_iconst (pc' := 1) (0 : Int32) dX2_rolled_0 rfl (by decide) ?_
  refine g_istore_n (pc' := 2) (lv' := [some (aR v0), some (aI v1), some (aI (0 : Int32)), none]) dX2_rolled_1 rfl rfl (by decide) rfl ?_
  refine g_iconst (pc' := 3) (0 : Int32) dX2_rolled_2 rfl (by decide) ?_
  refine g_istore_n (pc' := 4) (lv' := [some (aR v0), some (aI v1), some (aI (0 : Int32)), some (aI (0 : Int32))]) dX2_rolled_3 rfl rfl (by decide) rfl ?_
  exact s_X2_rolled_4 FUEL v0 v1 (0 : Int32) (0 : Int32) M _ hf
def f_X2_folded_87 (w0 : Nat) (w1 : Int32) (M : Mem) : Option (Int32 × Mem) :=
  if mK M w0 = 3 then
    bnd (f_X2_rolled w0 w1 M) fun r3 M2 =>
    some (r3, M2)
  else none
def f_X2_folded (v0 : Nat) (v1 : Int32) (M : Mem) : Option (Int32 × Mem) :=
  if v1 = (0 : Int32) then
    if mK M v0 = 3 then
      bnd (f_X2_valueCount v0 M) fun r4 M3 =>
      some (r4, M3)
    else none
  else
  if v1 = (1 : Int32) then
    if mK M v0 = 3 then
      bnd (f_X2_valueSum v0 M) fun r8 M7 =>
      some (r8, M7)
    else none
  else
  if v1 = (2 : Int32) then
    if mK M v0 = 3 then
      bnd (f_X2_least v0 M) fun r12 M11 =>
      some (r12, M11)
    else none
  else
  if v1 = (3 : Int32) then
    if mK M v0 = 3 then
      bnd (f_X2_greatest v0 M) fun r16 M15 =>
      some (r16, M15)
    else none
  else
  if v1 = (4 : Int32) then
    if mK M v0 = 3 then
      bnd (f_X2_unlikeCount v0 M) fun r20 M19 =>
      some (r20, M19)
    else none
  else
  if v1 = (5 : Int32) then
    if mK M v0 = 3 then
      bnd (f_X2_valueCount v0 M) fun r24 M23 =>
      some ((mI M v0 3) - r24, M23)
    else none
  else
  if v1 = (6 : Int32) then
    f_X2_folded_87 v0 (1 : Int32) M
  else
    f_X2_folded_87 v0 (0 : Int32) M
theorem s_X2_folded_87 (w0 : Nat) (w1 : Int32) (M : Mem) (r : (Int32 × Mem)) (hf : f_X2_folded_87 w0 w1 M = some r) : G mi_X2_folded 4 (oI r.1) r.2 87 [none, none] [aI w1, aR w0] M 0 0 := by
  unfold f_X2_folded_87 at hf
  obtain ⟨h1, hf⟩ := chk_s hf
  obtain ⟨r3, M2, e3, hf⟩ := bnd_some hf
  refine g_callVi (pc' := 90) (k' := 0) (u' := 0) (fr2 := 2) (As := [aI w1]) (b := w0) (st := []) cf_X2_rolled q_1297 (by omega) (ci := 2) rfl rfl (by decide) dX2_folded_87 rfl rfl rfl (Nat.le_of_ble_eq_true rfl) (Or.inl rfl) (Nat.le_refl _) (Nat.le_refl _) (Nat.le_refl _) (Nat.le_refl _) h1 (s_X2_rolled w0 w1 M _ e3) ?_
  cases hf
  exact g_ireturn dX2_folded_90 rfl (Nat.le_of_ble_eq_true rfl) (Nat.le_of_ble_eq_true rfl)
theorem s_X2_folded (v0 : Nat) (v1 : Int32) (M : Mem) (r : (Int32 × Mem)) (hf : f_X2_folded v0 v1 M = some r) : Sem mi_X2_folded (4) [aR v0, aI v1] M (oI r.1) r.2 := by
  unfold f_X2_folded at hf
  refine sem_of (by decide) rfl rfl rfl (Nat.le_of_ble_eq_true rfl) (lv := [some (aR v0), some (aI v1)]) rfl ?_
  refine g_iload_n (pc' := 1) dX2_folded_0 rfl rfl ?_
  by_cases c1 : v1 = (0 : Int32)
  · have hf := ite_t c1 hf
    refine g_tsw (pc' := 40) (0 : Int32) dX2_folded_1 c1 (by decide) (by decide) rfl (by decide) ?_
    refine g_aload_n (pc' := 41) dX2_folded_40 rfl rfl ?_
    obtain ⟨h2, hf⟩ := chk_s hf
    obtain ⟨r4, M3, e4, hf⟩ := bnd_some hf
    refine g_callVi (pc' := 44) (k' := 0) (u' := 0) (fr2 := 2) (As := []) (b := v0) (st := []) cf_X2_valueCount q_1272 (by omega) (ci := 2) rfl rfl (by decide) dX2_folded_41 rfl rfl rfl (Nat.le_of_ble_eq_true rfl) (Or.inl rfl) (Nat.le_refl _) (Nat.le_refl _) (Nat.le_refl _) (Nat.le_refl _) h2 (s_X2_valueCount v0 M _ e4) ?_
    cases hf
    exact g_ireturn dX2_folded_44 rfl (Nat.le_of_ble_eq_true rfl) (Nat.le_of_ble_eq_true rfl)
  have hf := ite_f c1 hf
  by_cases c5 : v1 = (1 : Int32)
  · have hf := ite_t c5 hf
    refine g_tsw (pc' := 45) (1 : Int32) dX2_folded_1 c5 (by decide) (by decide) rfl (by decide) ?_
    refine g_aload_n (pc' := 46) dX2_folded_45 rfl rfl ?_
    obtain ⟨h6, hf⟩ := chk_s hf
    obtain ⟨r8, M7, e8, hf⟩ := bnd_some hf
    refine g_callVi (pc' := 49) (k' := 0) (u' := 0) (fr2 := 2) (As := []) (b := v0) (st := []) cf_X2_valueSum q_1277 (by omega) (ci := 2) rfl rfl (by decide) dX2_folded_46 rfl rfl rfl (Nat.le_of_ble_eq_true rfl) (Or.inl rfl) (Nat.le_refl _) (Nat.le_refl _) (Nat.le_refl _) (Nat.le_refl _) h6 (s_X2_valueSum v0 M _ e8) ?_
    cases hf
    exact g_ireturn dX2_folded_49 rfl (Nat.le_of_ble_eq_true rfl) (Nat.le_of_ble_eq_true rfl)
  have hf := ite_f c5 hf
  by_cases c9 : v1 = (2 : Int32)
  · have hf := ite_t c9 hf
    refine g_tsw (pc' := 50) (2 : Int32) dX2_folded_1 c9 (by decide) (by decide) rfl (by decide) ?_
    refine g_aload_n (pc' := 51) dX2_folded_50 rfl rfl ?_
    obtain ⟨h10, hf⟩ := chk_s hf
    obtain ⟨r12, M11, e12, hf⟩ := bnd_some hf
    refine g_callVi (pc' := 54) (k' := 0) (u' := 0) (fr2 := 2) (As := []) (b := v0) (st := []) cf_X2_least q_1281 (by omega) (ci := 2) rfl rfl (by decide) dX2_folded_51 rfl rfl rfl (Nat.le_of_ble_eq_true rfl) (Or.inl rfl) (Nat.le_refl _) (Nat.le_refl _) (Nat.le_refl _) (Nat.le_refl _) h10 (s_X2_least v0 M _ e12) ?_
    cases hf
    exact g_ireturn dX2_folded_54 rfl (Nat.le_of_ble_eq_true rfl) (Nat.le_of_ble_eq_true rfl)
  have hf := ite_f c9 hf
  by_cases c13 : v1 = (3 : Int32)
  · have hf := ite_t c13 hf
    refine g_tsw (pc' := 55) (3 : Int32) dX2_folded_1 c13 (by decide) (by decide) rfl (by decide) ?_
    refine g_aload_n (pc' := 56) dX2_folded_55 rfl rfl ?_
    obtain ⟨h14, hf⟩ := chk_s hf
    obtain ⟨r16, M15, e16, hf⟩ := bnd_some hf
    refine g_callVi (pc' := 59) (k' := 0) (u' := 0) (fr2 := 2) (As := []) (b := v0) (st := []) cf_X2_greatest q_1285 (by omega) (ci := 2) rfl rfl (by decide) dX2_folded_56 rfl rfl rfl (Nat.le_of_ble_eq_true rfl) (Or.inl rfl) (Nat.le_refl _) (Nat.le_refl _) (Nat.le_refl _) (Nat.le_refl _) h14 (s_X2_greatest v0 M _ e16) ?_
    cases hf
    exact g_ireturn dX2_folded_59 rfl (Nat.le_of_ble_eq_true rfl) (Nat.le_of_ble_eq_true rfl)
  have hf := ite_f c13 hf
  by_cases c17 : v1 = (4 : Int32)
  · have hf := ite_t c17 hf
    refine g_tsw (pc' := 60) (4 : Int32) dX2_folded_1 c17 (by decide) (by decide) rfl (by decide) ?_
    refine g_aload_n (pc' := 61) dX2_folded_60 rfl rfl ?_
    obtain ⟨h18, hf⟩ := chk_s hf
    obtain ⟨r20, M19, e20, hf⟩ := bnd_some hf
    refine g_callVi (pc' := 64) (k' := 0) (u' := 0) (fr2 := 3) (As := []) (b := v0) (st := []) cf_X2_unlikeCount q_1289 (by omega) (ci := 2) rfl rfl (by decide) dX2_folded_61 rfl rfl rfl (Nat.le_of_ble_eq_true rfl) (Or.inl rfl) (Nat.le_refl _) (Nat.le_refl _) (Nat.le_refl _) (Nat.le_refl _) h18 (s_X2_unlikeCount v0 M _ e20) ?_
    cases hf
    exact g_ireturn dX2_folded_64 rfl (Nat.le_of_ble_eq_true rfl) (Nat.le_of_ble_eq_true rfl)
  have hf := ite_f c17 hf
  by_cases c21 : v1 = (5 : Int32)
  · have hf := ite_t c21 hf
    refine g_tsw (pc' := 65) (5 : Int32) dX2_folded_1 c21 (by decide) (by decide) rfl (by decide) ?_
    refine g_aload_n (pc' := 66) dX2_folded_65 rfl rfl ?_
    obtain ⟨h22, hf⟩ := chk_s hf
    refine g_getI (pc' := 69) 2 3 rfl rfl (by decide) inX2 (by decide) rfl rfl q_524 dX2_folded_66 rfl h22 ?_
    refine g_aload_n (pc' := 70) dX2_folded_69 rfl rfl ?_
    obtain ⟨r24, M23, e24, hf⟩ := bnd_some hf
    refine g_callVi (pc' := 73) (k' := 0) (u' := 0) (fr2 := 2) (As := []) (b := v0) (st := [aI (mI M v0 3)]) cf_X2_valueCount q_1272 (by omega) (ci := 2) rfl rfl (by decide) dX2_folded_70 rfl rfl rfl (Nat.le_of_ble_eq_true rfl) (Or.inl rfl) (Nat.le_refl _) (Nat.le_refl _) (Nat.le_refl _) (Nat.le_refl _) h22 (s_X2_valueCount v0 M _ e24) ?_
    refine g_isub (pc' := 74) dX2_folded_73 rfl ?_
    cases hf
    exact g_ireturn dX2_folded_74 rfl (Nat.le_of_ble_eq_true rfl) (Nat.le_of_ble_eq_true rfl)
  have hf := ite_f c21 hf
  have nc1 := nei c1 (z := 0) (by decide)
  have nc5 := nei c5 (z := 1) (by decide)
  have nc9 := nei c9 (z := 2) (by decide)
  have nc13 := nei c13 (z := 3) (by decide)
  have nc17 := nei c17 (z := 4) (by decide)
  have nc21 := nei c21 (z := 5) (by decide)
  refine g_tableOut (pc' := 75) dX2_folded_1 (by omega) (by decide) ?_
  refine g_aload_n (pc' := 76) dX2_folded_75 rfl rfl ?_
  refine g_iload_n (pc' := 77) dX2_folded_76 rfl rfl ?_
  refine g_bipush (pc' := 79) (6 : Int32) dX2_folded_77 rfl (by decide) ?_
  refine g_icmp_ne (pc' := 82) 86 dX2_folded_79 rfl (by decide) (fun c25 => ?_) (fun c25 => ?_)
  · have hf := ite_f c25 hf
    refine g_iconst (pc' := 87) (0 : Int32) dX2_folded_86 rfl (by decide) ?_
    refine g_mask [false, false] rfl ?_
    exact s_X2_folded_87 v0 (0 : Int32) M _ hf
  · have hf := ite_t c25 hf
    refine g_iconst (pc' := 83) (1 : Int32) dX2_folded_82 rfl (by decide) ?_
    refine g_goto (pc' := 87) dX2_folded_83 (by decide) ?_
    refine g_mask [false, false] rfl ?_
    exact s_X2_folded_87 v0 (1 : Int32) M _ hf
def f_X2_fits_77 (k3 : Nat → Int32 → Int32 → Int32 → Int32 → Mem → Option (Int32 × Mem)) (v0 : Nat) (v2 : Int32) (v3 : Int32) (v4 : Int32) (v5 : Int32) (M : Mem) : Option (Int32 × Mem) :=
  k3 v0 v2 v3 v4 (v5 + 1) M
def f_X2_fits_58 (k3 : Nat → Int32 → Int32 → Int32 → Int32 → Mem → Option (Int32 × Mem)) (v0 : Nat) (v2 : Int32) (v3 : Int32) (v4 : Int32) (v5 : Int32) (M : Mem) : Option (Int32 × Mem) :=
  if v3 = (2 : Int32) then
    if mK M v0 = 3 then
      if mK M (mR M v0 2) = 21 then
        if inB v5 (mN M (mR M v0 2)) = true then
          if (mI M (mR M v0 2) v5.toNatClampNeg) ≤ v4 then
            f_X2_fits_77 k3 v0 v2 v3 v4 v5 M
          else
            some ((1 : Int32), M)
        else none
      else none
    else none
  else
    f_X2_fits_77 k3 v0 v2 v3 v4 v5 M
def f_X2_fits_41 (k3 : Nat → Int32 → Int32 → Int32 → Int32 → Mem → Option (Int32 × Mem)) (v0 : Nat) (v2 : Int32) (v3 : Int32) (v4 : Int32) (v5 : Int32) (M : Mem) : Option (Int32 × Mem) :=
  if v3 = (1 : Int32) then
    if mK M v0 = 3 then
      if mK M (mR M v0 2) = 21 then
        if inB v5 (mN M (mR M v0 2)) = true then
          if (mI M (mR M v0 2) v5.toNatClampNeg) < v4 then
            some ((1 : Int32), M)
          else
            f_X2_fits_58 k3 v0 v2 v3 v4 v5 M
        else none
      else none
    else none
  else
    f_X2_fits_58 k3 v0 v2 v3 v4 v5 M
def f_X2_fits_3 : Nat → Nat → Int32 → Int32 → Int32 → Int32 → Mem → Option (Int32 × Mem)
  | 0, _, _, _, _, _, _ => none
  | n + 1, v0, v2, v3, v4, v5, M =>
    if v2 ≤ v5 then
      if v3 = (3 : Int32) then
        some ((1 : Int32), M)
      else
        some ((0 : Int32), M)
    else
      if mK M v0 = 3 then
        bnd (f_X2_hasValue v0 v5 M) fun r5 M4 =>
        if r5 = 0 then
          f_X2_fits_77 (f_X2_fits_3 n) v0 v2 v3 v4 v5 M4
        else
          if v3 = (3 : Int32) then
            some ((0 : Int32), M4)
          else
            if v3 = 0 then
              if mK M4 v0 = 3 then
                if mK M4 (mR M4 v0 2) = 21 then
                  if inB v5 (mN M4 (mR M4 v0 2)) = true then
                    if (mI M4 (mR M4 v0 2) v5.toNatClampNeg) = v4 then
                      some ((1 : Int32), M4)
                    else
                      f_X2_fits_41 (f_X2_fits_3 n) v0 v2 v3 v4 v5 M4
                  else none
                else none
              else none
            else
              f_X2_fits_41 (f_X2_fits_3 n) v0 v2 v3 v4 v5 M4
      else none
def f_X2_fits (v0 : Nat) (v1 : Int32) (v2 : Int32) (v3 : Int32) (v4 : Int32) (M : Mem) : Option (Int32 × Mem) :=
  f_X2_fits_3 FUEL v0 v2 v3 v4 v1 M
theorem s_X2_fits_77 (k3 : Nat → Int32 → Int32 → Int32 → Int32 → Mem → Option (Int32 × Mem)) (hk3 : ∀ (v0 : Nat) (v2 : Int32) (v3 : Int32) (v4 : Int32) (v5 : Int32) (M : Mem) (r : (Int32 × Mem)), k3 v0 v2 v3 v4 v5 M = some r → G mi_X2_fits 2 (oI r.1) r.2 3 [some (aR v0), none, some (aI v2), some (aI v3), some (aI v4), some (aI v5)] [] M 0 0) (v0 : Nat) (v2 : Int32) (v3 : Int32) (v4 : Int32) (v5 : Int32) (M : Mem) (r : (Int32 × Mem)) (hf : f_X2_fits_77 k3 v0 v2 v3 v4 v5 M = some r) : G mi_X2_fits 2 (oI r.1) r.2 77 [some (aR v0), none, some (aI v2), some (aI v3), some (aI v4), some (aI v5)] [] M 0 0 := by
  unfold f_X2_fits_77 at hf
  refine g_iinc (pc' := 80) (lv' := [some (aR v0), none, some (aI v2), some (aI v3), some (aI v4), some (aI (v5 + 1))]) (v5 + 1) dX2_fits_77 rfl rfl (by rfl) rfl (by decide) rfl ?_
  refine g_goto (pc' := 3) dX2_fits_80 (by decide) ?_
  exact hk3 v0 v2 v3 v4 (v5 + 1) M _ hf
theorem s_X2_fits_58 (k3 : Nat → Int32 → Int32 → Int32 → Int32 → Mem → Option (Int32 × Mem)) (hk3 : ∀ (v0 : Nat) (v2 : Int32) (v3 : Int32) (v4 : Int32) (v5 : Int32) (M : Mem) (r : (Int32 × Mem)), k3 v0 v2 v3 v4 v5 M = some r → G mi_X2_fits 2 (oI r.1) r.2 3 [some (aR v0), none, some (aI v2), some (aI v3), some (aI v4), some (aI v5)] [] M 0 0) (v0 : Nat) (v2 : Int32) (v3 : Int32) (v4 : Int32) (v5 : Int32) (M : Mem) (r : (Int32 × Mem)) (hf : f_X2_fits_58 k3 v0 v2 v3 v4 v5 M = some r) : G mi_X2_fits 2 (oI r.1) r.2 58 [some (aR v0), none, some (aI v2), some (aI v3), some (aI v4), some (aI v5)] [] M 0 0 := by
  unfold f_X2_fits_58 at hf
  refine g_iload_n (pc' := 59) dX2_fits_58 rfl rfl ?_
  refine g_iconst (pc' := 60) (2 : Int32) dX2_fits_59 rfl (by decide) ?_
  refine g_icmp_ne (pc' := 63) 77 dX2_fits_60 rfl (by decide) (fun c1 => ?_) (fun c1 => ?_)
  · have hf := ite_f c1 hf
    exact s_X2_fits_77 k3 hk3 v0 v2 v3 v4 v5 M _ hf
  · have hf := ite_t c1 hf
    refine g_aload_n (pc' := 64) dX2_fits_63 rfl rfl ?_
    obtain ⟨h2, hf⟩ := chk_s hf
    refine g_getR (pc' := 67) 2 2 rfl rfl (by decide) inX2 (by decide) rfl rfl q_95 dX2_fits_64 rfl h2 ?_
    refine g_iload (pc' := 69) dX2_fits_67 rfl rfl ?_
    obtain ⟨h3, hf⟩ := chk_s hf
    obtain ⟨b4, hf⟩ := chk_s hf
    refine g_iald (pc' := 70) dX2_fits_69 rfl h3 (inB_in b4) ?_
    refine g_iload (pc' := 72) dX2_fits_70 rfl rfl ?_
    refine g_icmp_le (pc' := 75) 77 dX2_fits_72 rfl (by decide) (fun c5 => ?_) (fun c5 => ?_)
    · have hf := ite_t c5 hf
      exact s_X2_fits_77 k3 hk3 v0 v2 v3 v4 v5 M _ hf
    · have hf := ite_f c5 hf
      refine g_iconst (pc' := 76) (1 : Int32) dX2_fits_75 rfl (by decide) ?_
      cases hf
      exact g_zreturn dX2_fits_76 rfl (Or.inr rfl) (Nat.le_of_ble_eq_true rfl) (Nat.le_of_ble_eq_true rfl)
theorem s_X2_fits_41 (k3 : Nat → Int32 → Int32 → Int32 → Int32 → Mem → Option (Int32 × Mem)) (hk3 : ∀ (v0 : Nat) (v2 : Int32) (v3 : Int32) (v4 : Int32) (v5 : Int32) (M : Mem) (r : (Int32 × Mem)), k3 v0 v2 v3 v4 v5 M = some r → G mi_X2_fits 2 (oI r.1) r.2 3 [some (aR v0), none, some (aI v2), some (aI v3), some (aI v4), some (aI v5)] [] M 0 0) (v0 : Nat) (v2 : Int32) (v3 : Int32) (v4 : Int32) (v5 : Int32) (M : Mem) (r : (Int32 × Mem)) (hf : f_X2_fits_41 k3 v0 v2 v3 v4 v5 M = some r) : G mi_X2_fits 2 (oI r.1) r.2 41 [some (aR v0), none, some (aI v2), some (aI v3), some (aI v4), some (aI v5)] [] M 0 0 := by
  unfold f_X2_fits_41 at hf
  refine g_iload_n (pc' := 42) dX2_fits_41 rfl rfl ?_
  refine g_iconst (pc' := 43) (1 : Int32) dX2_fits_42 rfl (by decide) ?_
  refine g_icmp_ne (pc' := 46) 58 dX2_fits_43 rfl (by decide) (fun c1 => ?_) (fun c1 => ?_)
  · have hf := ite_f c1 hf
    exact s_X2_fits_58 k3 hk3 v0 v2 v3 v4 v5 M _ hf
  · have hf := ite_t c1 hf
    refine g_aload_n (pc' := 47) dX2_fits_46 rfl rfl ?_
    obtain ⟨h2, hf⟩ := chk_s hf
    refine g_getR (pc' := 50) 2 2 rfl rfl (by decide) inX2 (by decide) rfl rfl q_95 dX2_fits_47 rfl h2 ?_
    refine g_iload (pc' := 52) dX2_fits_50 rfl rfl ?_
    obtain ⟨h3, hf⟩ := chk_s hf
    obtain ⟨b4, hf⟩ := chk_s hf
    refine g_iald (pc' := 53) dX2_fits_52 rfl h3 (inB_in b4) ?_
    refine g_iload (pc' := 55) dX2_fits_53 rfl rfl ?_
    refine g_icmp_lt (pc' := 58) 75 dX2_fits_55 rfl (by decide) (fun c5 => ?_) (fun c5 => ?_)
    · have hf := ite_t c5 hf
      refine g_iconst (pc' := 76) (1 : Int32) dX2_fits_75 rfl (by decide) ?_
      cases hf
      exact g_zreturn dX2_fits_76 rfl (Or.inr rfl) (Nat.le_of_ble_eq_true rfl) (Nat.le_of_ble_eq_true rfl)
    · have hf := ite_f c5 hf
      exact s_X2_fits_58 k3 hk3 v0 v2 v3 v4 v5 M _ hf
theorem s_X2_fits_3 : ∀ (n : Nat) (v0 : Nat) (v2 : Int32) (v3 : Int32) (v4 : Int32) (v5 : Int32) (M : Mem) (r : (Int32 × Mem)), f_X2_fits_3 n v0 v2 v3 v4 v5 M = some r → G mi_X2_fits 2 (oI r.1) r.2 3 [some (aR v0), none, some (aI v2), some (aI v3), some (aI v4), some (aI v5)] [] M 0 0 := by
  intro n
  induction n with
  | zero => intro v0 v2 v3 v4 v5 M r hf; cases hf
  | succ n ih =>
    intro v0 v2 v3 v4 v5 M r hf
    unfold f_X2_fits_3 at hf
    refine g_iload (pc' := 5) dX2_fits_3 rfl rfl ?_
    refine g_iload_n (pc' := 6) dX2_fits_5 rfl rfl ?_
    refine g_icmp_ge (pc' := 9) 83 dX2_fits_6 rfl (by decide) (fun c1 => ?_) (fun c1 => ?_)
    · have hf := ite_t c1 hf
      refine g_iload_n (pc' := 84) dX2_fits_83 rfl rfl ?_
      refine g_iconst (pc' := 85) (3 : Int32) dX2_fits_84 rfl (by decide) ?_
      refine g_icmp_ne (pc' := 88) 92 dX2_fits_85 rfl (by decide) (fun c2 => ?_) (fun c2 => ?_)
      · have hf := ite_f c2 hf
        refine g_iconst (pc' := 93) (0 : Int32) dX2_fits_92 rfl (by decide) ?_
        cases hf
        exact g_zreturn dX2_fits_93 rfl (Or.inl rfl) (Nat.le_of_ble_eq_true rfl) (Nat.le_of_ble_eq_true rfl)
      · have hf := ite_t c2 hf
        refine g_iconst (pc' := 89) (1 : Int32) dX2_fits_88 rfl (by decide) ?_
        refine g_goto (pc' := 93) dX2_fits_89 (by decide) ?_
        cases hf
        exact g_zreturn dX2_fits_93 rfl (Or.inr rfl) (Nat.le_of_ble_eq_true rfl) (Nat.le_of_ble_eq_true rfl)
    · have hf := ite_f c1 hf
      refine g_aload_n (pc' := 10) dX2_fits_9 rfl rfl ?_
      refine g_iload (pc' := 12) dX2_fits_10 rfl rfl ?_
      obtain ⟨h3, hf⟩ := chk_s hf
      obtain ⟨r5, M4, e5, hf⟩ := bnd_some hf
      refine g_callVi (pc' := 15) (k' := 0) (u' := 0) (fr2 := 1) (As := [aI v5]) (b := v0) (st := []) cf_X2_hasValue q_1276 (by omega) (ci := 2) rfl rfl (by decide) dX2_fits_12 rfl rfl rfl (Nat.le_of_ble_eq_true rfl) (Or.inl rfl) (Nat.le_refl _) (Nat.le_refl _) (Nat.le_refl _) (Nat.le_refl _) h3 (s_X2_hasValue v0 v5 M _ e5) ?_
      refine g_if_eq (pc' := 18) 77 dX2_fits_15 rfl (by decide) (fun c6 => ?_) (fun c6 => ?_)
      · have hf := ite_t c6 hf
        refine g_widen (k' := 0) (u' := 0) (by omega) (by omega) ?_
        exact s_X2_fits_77 (f_X2_fits_3 n) ih v0 v2 v3 v4 v5 M4 _ hf
      · have hf := ite_f c6 hf
        refine g_iload_n (pc' := 19) dX2_fits_18 rfl rfl ?_
        refine g_iconst (pc' := 20) (3 : Int32) dX2_fits_19 rfl (by decide) ?_
        refine g_icmp_ne (pc' := 23) 25 dX2_fits_20 rfl (by decide) (fun c7 => ?_) (fun c7 => ?_)
        · have hf := ite_f c7 hf
          refine g_iload_n (pc' := 26) dX2_fits_25 rfl rfl ?_
          refine g_if_ne (pc' := 29) 41 dX2_fits_26 rfl (by decide) (fun c8 => ?_) (fun c8 => ?_)
          · have hf := ite_f c8 hf
            refine g_widen (k' := 0) (u' := 0) (by omega) (by omega) ?_
            exact s_X2_fits_41 (f_X2_fits_3 n) ih v0 v2 v3 v4 v5 M4 _ hf
          · have hf := ite_t c8 hf
            refine g_aload_n (pc' := 30) dX2_fits_29 rfl rfl ?_
            obtain ⟨h9, hf⟩ := chk_s hf
            refine g_getR (pc' := 33) 2 2 rfl rfl (by decide) inX2 (by decide) rfl rfl q_95 dX2_fits_30 rfl h9 ?_
            refine g_iload (pc' := 35) dX2_fits_33 rfl rfl ?_
            obtain ⟨h10, hf⟩ := chk_s hf
            obtain ⟨b11, hf⟩ := chk_s hf
            refine g_iald (pc' := 36) dX2_fits_35 rfl h10 (inB_in b11) ?_
            refine g_iload (pc' := 38) dX2_fits_36 rfl rfl ?_
            refine g_icmp_eq (pc' := 41) 75 dX2_fits_38 rfl (by decide) (fun c12 => ?_) (fun c12 => ?_)
            · have hf := ite_t c12 hf
              refine g_iconst (pc' := 76) (1 : Int32) dX2_fits_75 rfl (by decide) ?_
              cases hf
              exact g_zreturn dX2_fits_76 rfl (Or.inr rfl) (Nat.le_of_ble_eq_true rfl) (Nat.le_of_ble_eq_true rfl)
            · have hf := ite_f c12 hf
              refine g_widen (k' := 0) (u' := 0) (by omega) (by omega) ?_
              exact s_X2_fits_41 (f_X2_fits_3 n) ih v0 v2 v3 v4 v5 M4 _ hf
        · have hf := ite_t c7 hf
          refine g_iconst (pc' := 24) (0 : Int32) dX2_fits_23 rfl (by decide) ?_
          cases hf
          exact g_zreturn dX2_fits_24 rfl (Or.inl rfl) (Nat.le_of_ble_eq_true rfl) (Nat.le_of_ble_eq_true rfl)
theorem s_X2_fits (v0 : Nat) (v1 : Int32) (v2 : Int32) (v3 : Int32) (v4 : Int32) (M : Mem) (r : (Int32 × Mem)) (hf : f_X2_fits v0 v1 v2 v3 v4 M = some r) : Sem mi_X2_fits (2) [aR v0, aI v1, aI v2, aI v3, aI v4] M (oI r.1) r.2 := by
  unfold f_X2_fits at hf
  refine sem_of (by decide) rfl rfl rfl (Nat.le_of_ble_eq_true rfl) (lv := [some (aR v0), some (aI v1), some (aI v2), some (aI v3), some (aI v4), none]) rfl ?_
  refine g_iload_n (pc' := 1) dX2_fits_0 rfl rfl ?_
  refine g_istore (pc' := 3) (lv' := [some (aR v0), some (aI v1), some (aI v2), some (aI v3), some (aI v4), some (aI v1)]) dX2_fits_1 rfl rfl (by decide) rfl ?_
  refine g_mask [true, false, true, true, true, true] rfl ?_
  exact s_X2_fits_3 FUEL v0 v2 v3 v4 v1 M _ hf
def f_X2_pageCount_62 (k7 : Nat → Int32 → Int32 → Int32 → Int32 → Mem → Option (Int32 × Mem)) (v0 : Nat) (v1 : Int32) (v2 : Int32) (v3 : Int32) (v4 : Int32) (M : Mem) : Option (Int32 × Mem) :=
  k7 v0 v1 v2 v3 (v4 + 1) M
def f_X2_pageCount_57 (k7 : Nat → Int32 → Int32 → Int32 → Int32 → Mem → Option (Int32 × Mem)) (v0 : Nat) (v1 : Int32) (v2 : Int32) (v3 : Int32) (v4 : Int32) (v5 : Int32) (M : Mem) : Option (Int32 × Mem) :=
  f_X2_pageCount_62 k7 v0 v1 v2 (v3 - v5) v4 M
def f_X2_pageCount_7 : Nat → Nat → Int32 → Int32 → Int32 → Int32 → Mem → Option (Int32 × Mem)
  | 0, _, _, _, _, _, _ => none
  | n + 1, v0, v1, v2, v3, v4, M =>
    if mK M v0 = 3 then
      if (mI M v0 3) ≤ v4 then
        some (v2, M)
      else
        if mK M (mR M v0 0) = 21 then
          if inB v4 (mN M (mR M v0 0)) = true then
            if (mI M (mR M v0 0) v4.toNatClampNeg) = 0 then
              bnd (f_X2_behind v0 v4 (0 : Int32) M) fun r7 M6 =>
              if (r7 - v4) ≤ v1 then
                if (r7 - v4) ≤ v3 then
                  f_X2_pageCount_57 (f_X2_pageCount_7 n) v0 v1 v2 v3 v4 (r7 - v4) M6
                else
                  f_X2_pageCount_57 (f_X2_pageCount_7 n) v0 v1 (v2 + 1) v1 v4 (r7 - v4) M6
              else
                some ((-1 : Int32), M6)
            else
              f_X2_pageCount_62 (f_X2_pageCount_7 n) v0 v1 v2 v3 v4 M
          else none
        else none
    else none
def f_X2_pageCount (v0 : Nat) (v1 : Int32) (M : Mem) : Option (Int32 × Mem) :=
  f_X2_pageCount_7 FUEL v0 v1 (0 : Int32) (0 : Int32) (0 : Int32) M
theorem s_X2_pageCount_62 (k7 : Nat → Int32 → Int32 → Int32 → Int32 → Mem → Option (Int32 × Mem)) (hk7 : ∀ (v0 : Nat) (v1 : Int32) (v2 : Int32) (v3 : Int32) (v4 : Int32) (M : Mem) (r : (Int32 × Mem)), k7 v0 v1 v2 v3 v4 M = some r → G mi_X2_pageCount 2 (oI r.1) r.2 7 [some (aR v0), some (aI v1), some (aI v2), some (aI v3), some (aI v4), none] [] M 0 0) (v0 : Nat) (v1 : Int32) (v2 : Int32) (v3 : Int32) (v4 : Int32) (M : Mem) (r : (Int32 × Mem)) (hf : f_X2_pageCount_62 k7 v0 v1 v2 v3 v4 M = some r) : G mi_X2_pageCount 2 (oI r.1) r.2 62 [some (aR v0), some (aI v1), some (aI v2), some (aI v3), some (aI v4), none] [] M 0 0 := by
  unfold f_X2_pageCount_62 at hf
  refine g_iinc (pc' := 65) (lv' := [some (aR v0), some (aI v1), some (aI v2), some (aI v3), some (aI (v4 + 1)), none]) (v4 + 1) dX2_pageCount_62 rfl rfl (by rfl) rfl (by decide) rfl ?_
  refine g_goto (pc' := 7) dX2_pageCount_65 (by decide) ?_
  exact hk7 v0 v1 v2 v3 (v4 + 1) M _ hf
theorem s_X2_pageCount_57 (k7 : Nat → Int32 → Int32 → Int32 → Int32 → Mem → Option (Int32 × Mem)) (hk7 : ∀ (v0 : Nat) (v1 : Int32) (v2 : Int32) (v3 : Int32) (v4 : Int32) (M : Mem) (r : (Int32 × Mem)), k7 v0 v1 v2 v3 v4 M = some r → G mi_X2_pageCount 2 (oI r.1) r.2 7 [some (aR v0), some (aI v1), some (aI v2), some (aI v3), some (aI v4), none] [] M 0 0) (v0 : Nat) (v1 : Int32) (v2 : Int32) (v3 : Int32) (v4 : Int32) (v5 : Int32) (M : Mem) (r : (Int32 × Mem)) (hf : f_X2_pageCount_57 k7 v0 v1 v2 v3 v4 v5 M = some r) : G mi_X2_pageCount 2 (oI r.1) r.2 57 [some (aR v0), some (aI v1), some (aI v2), some (aI v3), some (aI v4), some (aI v5)] [] M 0 0 := by
  unfold f_X2_pageCount_57 at hf
  refine g_iload_n (pc' := 58) dX2_pageCount_57 rfl rfl ?_
  refine g_iload (pc' := 60) dX2_pageCount_58 rfl rfl ?_
  refine g_isub (pc' := 61) dX2_pageCount_60 rfl ?_
  refine g_istore_n (pc' := 62) (lv' := [some (aR v0), some (aI v1), some (aI v2), some (aI (v3 - v5)), some (aI v4), some (aI v5)]) dX2_pageCount_61 rfl rfl (by decide) rfl ?_
  refine g_mask [true, true, true, true, true, false] rfl ?_
  exact s_X2_pageCount_62 k7 hk7 v0 v1 v2 (v3 - v5) v4 M _ hf
theorem s_X2_pageCount_7 : ∀ (n : Nat) (v0 : Nat) (v1 : Int32) (v2 : Int32) (v3 : Int32) (v4 : Int32) (M : Mem) (r : (Int32 × Mem)), f_X2_pageCount_7 n v0 v1 v2 v3 v4 M = some r → G mi_X2_pageCount 2 (oI r.1) r.2 7 [some (aR v0), some (aI v1), some (aI v2), some (aI v3), some (aI v4), none] [] M 0 0 := by
  intro n
  induction n with
  | zero => intro v0 v1 v2 v3 v4 M r hf; cases hf
  | succ n ih =>
    intro v0 v1 v2 v3 v4 M r hf
    unfold f_X2_pageCount_7 at hf
    refine g_iload (pc' := 9) dX2_pageCount_7 rfl rfl ?_
    refine g_aload_n (pc' := 10) dX2_pageCount_9 rfl rfl ?_
    obtain ⟨h1, hf⟩ := chk_s hf
    refine g_getI (pc' := 13) 2 3 rfl rfl (by decide) inX2 (by decide) rfl rfl q_524 dX2_pageCount_10 rfl h1 ?_
    refine g_icmp_ge (pc' := 16) 68 dX2_pageCount_13 rfl (by decide) (fun c2 => ?_) (fun c2 => ?_)
    · have hf := ite_t c2 hf
      refine g_iload_n (pc' := 69) dX2_pageCount_68 rfl rfl ?_
      cases hf
      exact g_ireturn dX2_pageCount_69 rfl (Nat.le_of_ble_eq_true rfl) (Nat.le_of_ble_eq_true rfl)
    · have hf := ite_f c2 hf
      refine g_aload_n (pc' := 17) dX2_pageCount_16 rfl rfl ?_
      refine g_getR (pc' := 20) 2 0 rfl rfl (by decide) inX2 (by decide) rfl rfl q_93 dX2_pageCount_17 rfl h1 ?_
      refine g_iload (pc' := 22) dX2_pageCount_20 rfl rfl ?_
      obtain ⟨h3, hf⟩ := chk_s hf
      obtain ⟨b4, hf⟩ := chk_s hf
      refine g_iald (pc' := 23) dX2_pageCount_22 rfl h3 (inB_in b4) ?_
      refine g_if_ne (pc' := 26) 62 dX2_pageCount_23 rfl (by decide) (fun c5 => ?_) (fun c5 => ?_)
      · have hf := ite_f c5 hf
        exact s_X2_pageCount_62 (f_X2_pageCount_7 n) ih v0 v1 v2 v3 v4 M _ hf
      · have hf := ite_t c5 hf
        refine g_aload_n (pc' := 27) dX2_pageCount_26 rfl rfl ?_
        refine g_iload (pc' := 29) dX2_pageCount_27 rfl rfl ?_
        refine g_iconst (pc' := 30) (0 : Int32) dX2_pageCount_29 rfl (by decide) ?_
        obtain ⟨r7, M6, e7, hf⟩ := bnd_some hf
        refine g_callVi (pc' := 33) (k' := 0) (u' := 0) (fr2 := 1) (As := [aI v4, aI (0 : Int32)]) (b := v0) (st := []) cf_X2_behind q_1341 (by omega) (ci := 2) rfl rfl (by decide) dX2_pageCount_30 rfl rfl rfl (Nat.le_of_ble_eq_true rfl) (Or.inl rfl) (Nat.le_refl _) (Nat.le_refl _) (Nat.le_refl _) (Nat.le_refl _) h1 (s_X2_behind v0 v4 (0 : Int32) M _ e7) ?_
        refine g_iload (pc' := 35) dX2_pageCount_33 rfl rfl ?_
        refine g_isub (pc' := 36) dX2_pageCount_35 rfl ?_
        refine g_istore (pc' := 38) (lv' := [some (aR v0), some (aI v1), some (aI v2), some (aI v3), some (aI v4), some (aI (r7 - v4))]) dX2_pageCount_36 rfl rfl (by decide) rfl ?_
        refine g_iload (pc' := 40) dX2_pageCount_38 rfl rfl ?_
        refine g_iload_n (pc' := 41) dX2_pageCount_40 rfl rfl ?_
        refine g_icmp_le (pc' := 44) 46 dX2_pageCount_41 rfl (by decide) (fun c8 => ?_) (fun c8 => ?_)
        · have hf := ite_t c8 hf
          refine g_iload (pc' := 48) dX2_pageCount_46 rfl rfl ?_
          refine g_iload_n (pc' := 49) dX2_pageCount_48 rfl rfl ?_
          refine g_icmp_le (pc' := 52) 57 dX2_pageCount_49 rfl (by decide) (fun c9 => ?_) (fun c9 => ?_)
          · have hf := ite_t c9 hf
            refine g_widen (k' := 0) (u' := 0) (by omega) (by omega) ?_
            exact s_X2_pageCount_57 (f_X2_pageCount_7 n) ih v0 v1 v2 v3 v4 (r7 - v4) M6 _ hf
          · have hf := ite_f c9 hf
            refine g_iinc (pc' := 55) (lv' := [some (aR v0), some (aI v1), some (aI (v2 + 1)), some (aI v3), some (aI v4), some (aI (r7 - v4))]) (v2 + 1) dX2_pageCount_52 rfl rfl (by rfl) rfl (by decide) rfl ?_
            refine g_iload_n (pc' := 56) dX2_pageCount_55 rfl rfl ?_
            refine g_istore_n (pc' := 57) (lv' := [some (aR v0), some (aI v1), some (aI (v2 + 1)), some (aI v1), some (aI v4), some (aI (r7 - v4))]) dX2_pageCount_56 rfl rfl (by decide) rfl ?_
            refine g_widen (k' := 0) (u' := 0) (by omega) (by omega) ?_
            exact s_X2_pageCount_57 (f_X2_pageCount_7 n) ih v0 v1 (v2 + 1) v1 v4 (r7 - v4) M6 _ hf
        · have hf := ite_f c8 hf
          refine g_iconst (pc' := 45) (-1 : Int32) dX2_pageCount_44 rfl (by decide) ?_
          cases hf
          exact g_ireturn dX2_pageCount_45 rfl (Nat.le_of_ble_eq_true rfl) (Nat.le_of_ble_eq_true rfl)
theorem s_X2_pageCount (v0 : Nat) (v1 : Int32) (M : Mem) (r : (Int32 × Mem)) (hf : f_X2_pageCount v0 v1 M = some r) : Sem mi_X2_pageCount (2) [aR v0, aI v1] M (oI r.1) r.2 := by
  unfold f_X2_pageCount at hf
  refine sem_of (by decide) rfl rfl rfl (Nat.le_of_ble_eq_true rfl) (lv := [some (aR v0), some (aI v1), none, none, none, none]) rfl ?_
  refine g_iconst (pc' := 1) (0 : Int32) dX2_pageCount_0 rfl (by decide) ?_
  refine g_istore_n (pc' := 2) (lv' := [some (aR v0), some (aI v1), some (aI (0 : Int32)), none, none, none]) dX2_pageCount_1 rfl rfl (by decide) rfl ?_
  refine g_iconst (pc' := 3) (0 : Int32) dX2_pageCount_2 rfl (by decide) ?_
  refine g_istore_n (pc' := 4) (lv' := [some (aR v0), some (aI v1), some (aI (0 : Int32)), some (aI (0 : Int32)), none, none]) dX2_pageCount_3 rfl rfl (by decide) rfl ?_
  refine g_iconst (pc' := 5) (0 : Int32) dX2_pageCount_4 rfl (by decide) ?_
  refine g_istore (pc' := 7) (lv' := [some (aR v0), some (aI v1), some (aI (0 : Int32)), some (aI (0 : Int32)), some (aI (0 : Int32)), none]) dX2_pageCount_5 rfl rfl (by decide) rfl ?_
  exact s_X2_pageCount_7 FUEL v0 v1 (0 : Int32) (0 : Int32) (0 : Int32) M _ hf
def f_X3_init (v0 : Nat) (M : Mem) : Option (Unit × Mem) :=
  if ¬ v0 = 0 then
    if mn M + 1 < 900000 then
      if okrB M [v0, v0] = true then
        ap (mNew M 21 (120 : Int32).toNatClampNeg) fun M2 =>
        if mK M2 v0 = 4 then
          if okrB M2 [(mn M + 1)] = true then
            ap (sR M2 v0 1 (mn M + 1)) fun M4 =>
            if mn M4 + 1 < 900000 then
              if okrB M4 [v0, v0] = true then
                ap (mNew M4 21 (8 : Int32).toNatClampNeg) fun M7 =>
                if mK M7 v0 = 4 then
                  if okrB M7 [(mn M4 + 1)] = true then
                    ap (sR M7 v0 3 (mn M4 + 1)) fun M9 =>
                    if mn M9 + 1 < 900000 then
                      if okrB M9 [v0, v0] = true then
                        ap (mNew M9 21 (8 : Int32).toNatClampNeg) fun M12 =>
                        if mK M12 v0 = 4 then
                          if okrB M12 [(mn M9 + 1)] = true then
                            ap (sR M12 v0 4 (mn M9 + 1)) fun M14 =>
                            if mn M14 + 1 < 900000 then
                              if okrB M14 [v0, v0] = true then
                                ap (mNew M14 21 (8 : Int32).toNatClampNeg) fun M17 =>
                                if mK M17 v0 = 4 then
                                  if okrB M17 [(mn M14 + 1)] = true then
                                    ap (sR M17 v0 5 (mn M14 + 1)) fun M19 =>
                                    some ((), M19)
                                  else none
                                else none
                              else none
                            else none
                          else none
                        else none
                      else none
                    else none
                  else none
                else none
              else none
            else none
          else none
        else none
      else none
    else none
  else none
theorem s_X3_init (v0 : Nat) (M : Mem) (r : (Unit × Mem)) (hf : f_X3_init v0 M = some r) : Sem mi_X3_init (1) [aR v0] M (oU r.1) r.2 := by
  unfold f_X3_init at hf
  refine sem_of (by decide) rfl rfl rfl (Nat.le_of_ble_eq_true rfl) (lv := [some (aR v0)]) rfl ?_
  refine g_aload_n (pc' := 1) dX3_init_0 rfl rfl ?_
  obtain ⟨ho21, hf⟩ := chk_s hf
  refine g_obj (pc' := 4) q_112 q_11 q_12 (by omega) ho21 (Nat.le_of_ble_eq_true rfl) dX3_init_1 rfl ?_
  refine g_aload_n (pc' := 5) dX3_init_4 rfl rfl ?_
  refine g_bipush (pc' := 7) (120 : Int32) dX3_init_5 rfl (by decide) ?_
  obtain ⟨hm1, hf⟩ := chk_s hf
  obtain ⟨ha1, hf⟩ := chk_s hf
  refine g_newI (pc' := 9) (k' := 1) (u' := 120) (by decide) wall_aint dX3_init_7 rfl (by decide) (by decide) hm1 (okrB_ok ha1 rfl) (by omega) (by show 0 + 120 ≤ 120; omega) (by show 1 ≤ 4; omega) (by show 120 ≤ 144; omega) (gM fun M2 hM2 => ?_)
  have hf := ap_eq hf hM2
  obtain ⟨h3, hf⟩ := chk_s hf
  obtain ⟨hr5, hf⟩ := chk_s hf
  refine g_putFR (pc' := 12) 3 1 rfl rfl (by decide) inX3 tyX3_ok nmX3 (by decide) rfl rfl rfl rfl rfl (Or.inr ⟨_, rfl⟩) (okrB_1 hr5) q_113 dX3_init_9 rfl h3 (gM fun M4 hM4 => ?_)
  have hf := ap_eq hf hM4
  refine g_aload_n (pc' := 13) dX3_init_12 rfl rfl ?_
  refine g_bipush (pc' := 15) (8 : Int32) dX3_init_13 rfl (by decide) ?_
  obtain ⟨hm6, hf⟩ := chk_s hf
  obtain ⟨ha6, hf⟩ := chk_s hf
  refine g_newI (pc' := 17) (k' := 2) (u' := 128) (by decide) wall_aint dX3_init_15 rfl (by decide) (by decide) hm6 (okrB_ok ha6 rfl) (by omega) (by show 120 + 8 ≤ 128; omega) (by show 2 ≤ 4; omega) (by show 128 ≤ 144; omega) (gM fun M7 hM7 => ?_)
  have hf := ap_eq hf hM7
  obtain ⟨h8, hf⟩ := chk_s hf
  obtain ⟨hr10, hf⟩ := chk_s hf
  refine g_putFR (pc' := 20) 3 3 rfl rfl (by decide) inX3 tyX3_ok nmX3 (by decide) rfl rfl rfl rfl rfl (Or.inr ⟨_, rfl⟩) (okrB_1 hr10) q_114 dX3_init_17 rfl h8 (gM fun M9 hM9 => ?_)
  have hf := ap_eq hf hM9
  refine g_aload_n (pc' := 21) dX3_init_20 rfl rfl ?_
  refine g_bipush (pc' := 23) (8 : Int32) dX3_init_21 rfl (by decide) ?_
  obtain ⟨hm11, hf⟩ := chk_s hf
  obtain ⟨ha11, hf⟩ := chk_s hf
  refine g_newI (pc' := 25) (k' := 3) (u' := 136) (by decide) wall_aint dX3_init_23 rfl (by decide) (by decide) hm11 (okrB_ok ha11 rfl) (by omega) (by show 128 + 8 ≤ 136; omega) (by show 3 ≤ 4; omega) (by show 136 ≤ 144; omega) (gM fun M12 hM12 => ?_)
  have hf := ap_eq hf hM12
  obtain ⟨h13, hf⟩ := chk_s hf
  obtain ⟨hr15, hf⟩ := chk_s hf
  refine g_putFR (pc' := 28) 3 4 rfl rfl (by decide) inX3 tyX3_ok nmX3 (by decide) rfl rfl rfl rfl rfl (Or.inr ⟨_, rfl⟩) (okrB_1 hr15) q_115 dX3_init_25 rfl h13 (gM fun M14 hM14 => ?_)
  have hf := ap_eq hf hM14
  refine g_aload_n (pc' := 29) dX3_init_28 rfl rfl ?_
  refine g_bipush (pc' := 31) (8 : Int32) dX3_init_29 rfl (by decide) ?_
  obtain ⟨hm16, hf⟩ := chk_s hf
  obtain ⟨ha16, hf⟩ := chk_s hf
  refine g_newI (pc' := 33) (k' := 4) (u' := 144) (by decide) wall_aint dX3_init_31 rfl (by decide) (by decide) hm16 (okrB_ok ha16 rfl) (by omega) (by show 136 + 8 ≤ 144; omega) (by show 4 ≤ 4; omega) (by show 144 ≤ 144; omega) (gM fun M17 hM17 => ?_)
  have hf := ap_eq hf hM17
  obtain ⟨h18, hf⟩ := chk_s hf
  obtain ⟨hr20, hf⟩ := chk_s hf
  refine g_putFR (pc' := 36) 3 5 rfl rfl (by decide) inX3 tyX3_ok nmX3 (by decide) rfl rfl rfl rfl rfl (Or.inr ⟨_, rfl⟩) (okrB_1 hr20) q_116 dX3_init_33 rfl h18 (gM fun M19 hM19 => ?_)
  have hf := ap_eq hf hM19
  cases hf
  exact g_return dX3_init_36 rfl (Nat.le_of_ble_eq_true rfl) (Nat.le_of_ble_eq_true rfl)
def f_X3_clear (v0 : Nat) (M : Mem) : Option (Unit × Mem) :=
  if mK M v0 = 4 then
    ap (sI M v0 0 (0 : Int32)) fun M2 =>
    some ((), M2)
  else none
theorem s_X3_clear (v0 : Nat) (M : Mem) (r : (Unit × Mem)) (hf : f_X3_clear v0 M = some r) : Sem mi_X3_clear (1) [aR v0] M (oU r.1) r.2 := by
  unfold f_X3_clear at hf
  refine sem_of (by decide) rfl rfl rfl (Nat.le_of_ble_eq_true rfl) (lv := [some (aR v0)]) rfl ?_
  refine g_aload_n (pc' := 1) dX3_clear_0 rfl rfl ?_
  refine g_iconst (pc' := 2) (0 : Int32) dX3_clear_1 rfl (by decide) ?_
  obtain ⟨h1, hf⟩ := chk_s hf
  refine g_putI (pc' := 5) 3 0 rfl rfl (by decide) inX3 tyX3_ok nmX3 (by decide) rfl rfl rfl rfl q_346 dX3_clear_2 rfl h1 (gM fun M2 hM2 => ?_)
  have hf := ap_eq hf hM2
  cases hf
  exact g_return dX3_clear_5 rfl (Nat.le_of_ble_eq_true rfl) (Nat.le_of_ble_eq_true rfl)
def f_X9_width (v0 : Nat) (M : Mem) : Option (Int32 × Mem) :=
  if mK M v0 = 10 then
    some ((mI M v0 5) - (mI M v0 4), M)
  else none
theorem s_X9_width (v0 : Nat) (M : Mem) (r : (Int32 × Mem)) (hf : f_X9_width v0 M = some r) : Sem mi_X9_width (1) [aR v0] M (oI r.1) r.2 := by
  unfold f_X9_width at hf
  refine sem_of (by decide) rfl rfl rfl (Nat.le_of_ble_eq_true rfl) (lv := [some (aR v0)]) rfl ?_
  refine g_aload_n (pc' := 1) dX9_width_0 rfl rfl ?_
  obtain ⟨h1, hf⟩ := chk_s hf
  refine g_getI (pc' := 4) 9 5 rfl rfl (by decide) inX9 (by decide) rfl rfl q_189 dX9_width_1 rfl h1 ?_
  refine g_aload_n (pc' := 5) dX9_width_4 rfl rfl ?_
  refine g_getI (pc' := 8) 9 4 rfl rfl (by decide) inX9 (by decide) rfl rfl q_194 dX9_width_5 rfl h1 ?_
  refine g_isub (pc' := 9) dX9_width_8 rfl ?_
  cases hf
  exact g_ireturn dX9_width_9 rfl (Nat.le_of_ble_eq_true rfl) (Nat.le_of_ble_eq_true rfl)
def f_X9_isWord_23 : Nat → Nat → Nat → Int32 → Mem → Option (Int32 × Mem)
  | 0, _, _, _, _ => none
  | n + 1, v0, v1, v2, M =>
    if isT v1 = true then
      if (sLen v1) ≤ v2 then
        some ((1 : Int32), M)
      else
        if mK M v0 = 10 then
          if mK M (mR M v0 0) = 21 then
            if inB ((mI M v0 4) + v2) (mN M (mR M v0 0)) = true then
              if tIn v1 v2 = true then
                if (mI M (mR M v0 0) ((mI M v0 4) + v2).toNatClampNeg) = (sAt v1 v2) then
                  f_X9_isWord_23 n v0 v1 (v2 + 1) M
                else
                  some ((0 : Int32), M)
              else none
            else none
          else none
        else none
    else none
def f_X9_isWord (v0 : Nat) (v1 : Nat) (M : Mem) : Option (Int32 × Mem) :=
  if mK M v0 = 10 then
    if (mI M v0 3) = (1 : Int32) then
      if isT v1 = true then
        bnd (f_X9_width v0 M) fun r5 M4 =>
        if (sLen v1) = r5 then
          f_X9_isWord_23 FUEL v0 v1 (0 : Int32) M4
        else
          some ((0 : Int32), M4)
      else none
    else
      some ((0 : Int32), M)
  else none
theorem s_X9_isWord_23 : ∀ (n : Nat) (v0 : Nat) (v1 : Nat) (v2 : Int32) (M : Mem) (r : (Int32 × Mem)), f_X9_isWord_23 n v0 v1 v2 M = some r → G mi_X9_isWord 5 (oI r.1) r.2 23 [some (aR v0), some (aR v1), some (aI v2)] [] M 0 0 := by
  intro n
  induction n with
  | zero => intro v0 v1 v2 M r hf; cases hf
  | succ n ih =>
    intro v0 v1 v2 M r hf
    unfold f_X9_isWord_23 at hf
    refine g_iload_n (pc' := 24) dX9_isWord_23 rfl rfl ?_
    refine g_aload_n (pc' := 25) dX9_isWord_24 rfl rfl ?_
    obtain ⟨ht1, hf⟩ := chk_s hf
    refine g_slen (pc' := 28) q_241 (by omega) (Nat.le_of_ble_eq_true rfl) (Nat.le_of_ble_eq_true rfl) (Nat.le_of_ble_eq_true rfl) dX9_isWord_25 rfl ht1 ?_
    refine g_icmp_ge (pc' := 31) 58 dX9_isWord_28 rfl (by decide) (fun c2 => ?_) (fun c2 => ?_)
    · have hf := ite_t c2 hf
      refine g_iconst (pc' := 59) (1 : Int32) dX9_isWord_58 rfl (by decide) ?_
      cases hf
      exact g_zreturn dX9_isWord_59 rfl (Or.inr rfl) (Nat.le_of_ble_eq_true rfl) (Nat.le_of_ble_eq_true rfl)
    · have hf := ite_f c2 hf
      refine g_aload_n (pc' := 32) dX9_isWord_31 rfl rfl ?_
      obtain ⟨h3, hf⟩ := chk_s hf
      refine g_getR (pc' := 35) 9 0 rfl rfl (by decide) inX9 (by decide) rfl rfl q_59 dX9_isWord_32 rfl h3 ?_
      refine g_aload_n (pc' := 36) dX9_isWord_35 rfl rfl ?_
      refine g_getI (pc' := 39) 9 4 rfl rfl (by decide) inX9 (by decide) rfl rfl q_194 dX9_isWord_36 rfl h3 ?_
      refine g_iload_n (pc' := 40) dX9_isWord_39 rfl rfl ?_
      refine g_iadd (pc' := 41) dX9_isWord_40 rfl ?_
      obtain ⟨h4, hf⟩ := chk_s hf
      obtain ⟨b5, hf⟩ := chk_s hf
      refine g_iald (pc' := 42) dX9_isWord_41 rfl h4 (inB_in b5) ?_
      refine g_aload_n (pc' := 43) dX9_isWord_42 rfl rfl ?_
      refine g_iload_n (pc' := 44) dX9_isWord_43 rfl rfl ?_
      obtain ⟨ht6, hf⟩ := chk_s hf
      refine g_scharAt (pc' := 47) q_257 (by omega) (Nat.le_of_ble_eq_true rfl) (Nat.le_of_ble_eq_true rfl) (Nat.le_of_ble_eq_true rfl) dX9_isWord_44 rfl ht6 ?_
      refine g_icmp_eq (pc' := 50) 52 dX9_isWord_47 rfl (by decide) (fun c7 => ?_) (fun c7 => ?_)
      · have hf := ite_t c7 hf
        refine g_iinc (pc' := 55) (lv' := [some (aR v0), some (aR v1), some (aI (v2 + 1))]) (v2 + 1) dX9_isWord_52 rfl rfl (by rfl) rfl (by decide) rfl ?_
        refine g_goto (pc' := 23) dX9_isWord_55 (by decide) ?_
        exact ih v0 v1 (v2 + 1) M _ hf
      · have hf := ite_f c7 hf
        refine g_iconst (pc' := 51) (0 : Int32) dX9_isWord_50 rfl (by decide) ?_
        cases hf
        exact g_zreturn dX9_isWord_51 rfl (Or.inl rfl) (Nat.le_of_ble_eq_true rfl) (Nat.le_of_ble_eq_true rfl)
theorem s_X9_isWord (v0 : Nat) (v1 : Nat) (M : Mem) (r : (Int32 × Mem)) (hf : f_X9_isWord v0 v1 M = some r) : Sem mi_X9_isWord (5) [aR v0, aR v1] M (oI r.1) r.2 := by
  unfold f_X9_isWord at hf
  refine sem_of (by decide) rfl rfl rfl (Nat.le_of_ble_eq_true rfl) (lv := [some (aR v0), some (aR v1), none]) rfl ?_
  refine g_aload_n (pc' := 1) dX9_isWord_0 rfl rfl ?_
  obtain ⟨h1, hf⟩ := chk_s hf
  refine g_getI (pc' := 4) 9 3 rfl rfl (by decide) inX9 (by decide) rfl rfl q_195 dX9_isWord_1 rfl h1 ?_
  refine g_iconst (pc' := 5) (1 : Int32) dX9_isWord_4 rfl (by decide) ?_
  refine g_icmp_ne (pc' := 8) 19 dX9_isWord_5 rfl (by decide) (fun c2 => ?_) (fun c2 => ?_)
  · have hf := ite_f c2 hf
    refine g_iconst (pc' := 20) (0 : Int32) dX9_isWord_19 rfl (by decide) ?_
    cases hf
    exact g_zreturn dX9_isWord_20 rfl (Or.inl rfl) (Nat.le_of_ble_eq_true rfl) (Nat.le_of_ble_eq_true rfl)
  · have hf := ite_t c2 hf
    refine g_aload_n (pc' := 9) dX9_isWord_8 rfl rfl ?_
    obtain ⟨ht3, hf⟩ := chk_s hf
    refine g_slen (pc' := 12) q_241 (by omega) (Nat.le_of_ble_eq_true rfl) (Nat.le_of_ble_eq_true rfl) (Nat.le_of_ble_eq_true rfl) dX9_isWord_9 rfl ht3 ?_
    refine g_aload_n (pc' := 13) dX9_isWord_12 rfl rfl ?_
    obtain ⟨r5, M4, e5, hf⟩ := bnd_some hf
    refine g_callVi (pc' := 16) (k' := 0) (u' := 0) (fr2 := 1) (As := []) (b := v0) (st := [aI (sLen v1)]) cf_X9_width q_253 (by omega) (ci := 9) rfl rfl (by decide) dX9_isWord_13 rfl rfl rfl (Nat.le_of_ble_eq_true rfl) (Or.inl rfl) (Nat.le_refl _) (Nat.le_refl _) (Nat.le_refl _) (Nat.le_refl _) h1 (s_X9_width v0 M _ e5) ?_
    refine g_icmp_eq (pc' := 19) 21 dX9_isWord_16 rfl (by decide) (fun c6 => ?_) (fun c6 => ?_)
    · have hf := ite_t c6 hf
      refine g_iconst (pc' := 22) (0 : Int32) dX9_isWord_21 rfl (by decide) ?_
      refine g_istore_n (pc' := 23) (lv' := [some (aR v0), some (aR v1), some (aI (0 : Int32))]) dX9_isWord_22 rfl rfl (by decide) rfl ?_
      refine g_widen (k' := 0) (u' := 0) (by omega) (by omega) ?_
      exact s_X9_isWord_23 FUEL v0 v1 (0 : Int32) M4 _ hf
    · have hf := ite_f c6 hf
      refine g_iconst (pc' := 20) (0 : Int32) dX9_isWord_19 rfl (by decide) ?_
      cases hf
      exact g_zreturn dX9_isWord_20 rfl (Or.inl rfl) (Nat.le_of_ble_eq_true rfl) (Nat.le_of_ble_eq_true rfl)
def f_X3_kindTold (v0 : Nat) (M : Mem) : Option (Int32 × Mem) :=
  if mK M v0 = 10 then
    bnd (f_X9_isWord v0 1000003 M) fun r3 M2 =>
    if r3 = 0 then
      if mK M2 v0 = 10 then
        bnd (f_X9_isWord v0 1000004 M2) fun r7 M6 =>
        if r7 = 0 then
          if mK M6 v0 = 10 then
            bnd (f_X9_isWord v0 1000005 M6) fun r11 M10 =>
            if r11 = 0 then
              if mK M10 v0 = 10 then
                bnd (f_X9_isWord v0 1000006 M10) fun r15 M14 =>
                if r15 = 0 then
                  if mK M14 v0 = 10 then
                    bnd (f_X9_isWord v0 1000007 M14) fun r19 M18 =>
                    if r19 = 0 then
                      if mK M18 v0 = 10 then
                        bnd (f_X9_isWord v0 1000008 M18) fun r23 M22 =>
                        if r23 = 0 then
                          if mK M22 v0 = 10 then
                            bnd (f_X9_isWord v0 1000009 M22) fun r27 M26 =>
                            if r27 = 0 then
                              some ((-1 : Int32), M26)
                            else
                              some ((6 : Int32), M26)
                          else none
                        else
                          some ((5 : Int32), M22)
                      else none
                    else
                      some ((4 : Int32), M18)
                  else none
                else
                  some ((3 : Int32), M14)
              else none
            else
              some ((2 : Int32), M10)
          else none
        else
          some ((1 : Int32), M6)
      else none
    else
      some ((0 : Int32), M2)
  else none
theorem s_X3_kindTold (v0 : Nat) (M : Mem) (r : (Int32 × Mem)) (hf : f_X3_kindTold v0 M = some r) : Sem mi_X3_kindTold (6) [aR v0] M (oI r.1) r.2 := by
  unfold f_X3_kindTold at hf
  refine sem_of (by decide) rfl rfl rfl (Nat.le_of_ble_eq_true rfl) (lv := [some (aR v0)]) rfl ?_
  refine g_aload_n (pc' := 1) dX3_kindTold_0 rfl rfl ?_
  refine g_ldcS (pc' := 3) (k1 := 3) rfl dX3_kindTold_1 rfl ?_
  obtain ⟨h1, hf⟩ := chk_s hf
  obtain ⟨r3, M2, e3, hf⟩ := bnd_some hf
  refine g_callVi (pc' := 6) (k' := 0) (u' := 0) (fr2 := 5) (As := [aR 1000003]) (b := v0) (st := []) cf_X9_isWord q_772 (by omega) (ci := 9) rfl rfl (by decide) dX3_kindTold_3 rfl rfl rfl (Nat.le_of_ble_eq_true rfl) (Or.inl rfl) (Nat.le_refl _) (Nat.le_refl _) (Nat.le_refl _) (Nat.le_refl _) h1 (s_X9_isWord v0 1000003 M _ e3) ?_
  refine g_if_eq (pc' := 9) 11 dX3_kindTold_6 rfl (by decide) (fun c4 => ?_) (fun c4 => ?_)
  · have hf := ite_t c4 hf
    refine g_aload_n (pc' := 12) dX3_kindTold_11 rfl rfl ?_
    refine g_ldcS (pc' := 14) (k1 := 4) rfl dX3_kindTold_12 rfl ?_
    obtain ⟨h5, hf⟩ := chk_s hf
    obtain ⟨r7, M6, e7, hf⟩ := bnd_some hf
    refine g_callVi (pc' := 17) (k' := 0) (u' := 0) (fr2 := 5) (As := [aR 1000004]) (b := v0) (st := []) cf_X9_isWord q_772 (by omega) (ci := 9) rfl rfl (by decide) dX3_kindTold_14 rfl rfl rfl (Nat.le_of_ble_eq_true rfl) (Or.inl rfl) (Nat.le_refl _) (Nat.le_refl _) (Nat.le_refl _) (Nat.le_refl _) h5 (s_X9_isWord v0 1000004 M2 _ e7) ?_
    refine g_if_eq (pc' := 20) 22 dX3_kindTold_17 rfl (by decide) (fun c8 => ?_) (fun c8 => ?_)
    · have hf := ite_t c8 hf
      refine g_aload_n (pc' := 23) dX3_kindTold_22 rfl rfl ?_
      refine g_ldcS (pc' := 25) (k1 := 5) rfl dX3_kindTold_23 rfl ?_
      obtain ⟨h9, hf⟩ := chk_s hf
      obtain ⟨r11, M10, e11, hf⟩ := bnd_some hf
      refine g_callVi (pc' := 28) (k' := 0) (u' := 0) (fr2 := 5) (As := [aR 1000005]) (b := v0) (st := []) cf_X9_isWord q_772 (by omega) (ci := 9) rfl rfl (by decide) dX3_kindTold_25 rfl rfl rfl (Nat.le_of_ble_eq_true rfl) (Or.inl rfl) (Nat.le_refl _) (Nat.le_refl _) (Nat.le_refl _) (Nat.le_refl _) h9 (s_X9_isWord v0 1000005 M6 _ e11) ?_
      refine g_if_eq (pc' := 31) 33 dX3_kindTold_28 rfl (by decide) (fun c12 => ?_) (fun c12 => ?_)
      · have hf := ite_t c12 hf
        refine g_aload_n (pc' := 34) dX3_kindTold_33 rfl rfl ?_
        refine g_ldcS (pc' := 36) (k1 := 6) rfl dX3_kindTold_34 rfl ?_
        obtain ⟨h13, hf⟩ := chk_s hf
        obtain ⟨r15, M14, e15, hf⟩ := bnd_some hf
        refine g_callVi (pc' := 39) (k' := 0) (u' := 0) (fr2 := 5) (As := [aR 1000006]) (b := v0) (st := []) cf_X9_isWord q_772 (by omega) (ci := 9) rfl rfl (by decide) dX3_kindTold_36 rfl rfl rfl (Nat.le_of_ble_eq_true rfl) (Or.inl rfl) (Nat.le_refl _) (Nat.le_refl _) (Nat.le_refl _) (Nat.le_refl _) h13 (s_X9_isWord v0 1000006 M10 _ e15) ?_
        refine g_if_eq (pc' := 42) 44 dX3_kindTold_39 rfl (by decide) (fun c16 => ?_) (fun c16 => ?_)
        · have hf := ite_t c16 hf
          refine g_aload_n (pc' := 45) dX3_kindTold_44 rfl rfl ?_
          refine g_ldcS (pc' := 47) (k1 := 7) rfl dX3_kindTold_45 rfl ?_
          obtain ⟨h17, hf⟩ := chk_s hf
          obtain ⟨r19, M18, e19, hf⟩ := bnd_some hf
          refine g_callVi (pc' := 50) (k' := 0) (u' := 0) (fr2 := 5) (As := [aR 1000007]) (b := v0) (st := []) cf_X9_isWord q_772 (by omega) (ci := 9) rfl rfl (by decide) dX3_kindTold_47 rfl rfl rfl (Nat.le_of_ble_eq_true rfl) (Or.inl rfl) (Nat.le_refl _) (Nat.le_refl _) (Nat.le_refl _) (Nat.le_refl _) h17 (s_X9_isWord v0 1000007 M14 _ e19) ?_
          refine g_if_eq (pc' := 53) 55 dX3_kindTold_50 rfl (by decide) (fun c20 => ?_) (fun c20 => ?_)
          · have hf := ite_t c20 hf
            refine g_aload_n (pc' := 56) dX3_kindTold_55 rfl rfl ?_
            refine g_ldcS (pc' := 58) (k1 := 8) rfl dX3_kindTold_56 rfl ?_
            obtain ⟨h21, hf⟩ := chk_s hf
            obtain ⟨r23, M22, e23, hf⟩ := bnd_some hf
            refine g_callVi (pc' := 61) (k' := 0) (u' := 0) (fr2 := 5) (As := [aR 1000008]) (b := v0) (st := []) cf_X9_isWord q_772 (by omega) (ci := 9) rfl rfl (by decide) dX3_kindTold_58 rfl rfl rfl (Nat.le_of_ble_eq_true rfl) (Or.inl rfl) (Nat.le_refl _) (Nat.le_refl _) (Nat.le_refl _) (Nat.le_refl _) h21 (s_X9_isWord v0 1000008 M18 _ e23) ?_
            refine g_if_eq (pc' := 64) 66 dX3_kindTold_61 rfl (by decide) (fun c24 => ?_) (fun c24 => ?_)
            · have hf := ite_t c24 hf
              refine g_aload_n (pc' := 67) dX3_kindTold_66 rfl rfl ?_
              refine g_ldcS (pc' := 69) (k1 := 9) rfl dX3_kindTold_67 rfl ?_
              obtain ⟨h25, hf⟩ := chk_s hf
              obtain ⟨r27, M26, e27, hf⟩ := bnd_some hf
              refine g_callVi (pc' := 72) (k' := 0) (u' := 0) (fr2 := 5) (As := [aR 1000009]) (b := v0) (st := []) cf_X9_isWord q_772 (by omega) (ci := 9) rfl rfl (by decide) dX3_kindTold_69 rfl rfl rfl (Nat.le_of_ble_eq_true rfl) (Or.inl rfl) (Nat.le_refl _) (Nat.le_refl _) (Nat.le_refl _) (Nat.le_refl _) h25 (s_X9_isWord v0 1000009 M22 _ e27) ?_
              refine g_if_eq (pc' := 75) 80 dX3_kindTold_72 rfl (by decide) (fun c28 => ?_) (fun c28 => ?_)
              · have hf := ite_t c28 hf
                refine g_iconst (pc' := 81) (-1 : Int32) dX3_kindTold_80 rfl (by decide) ?_
                cases hf
                exact g_ireturn dX3_kindTold_81 rfl (Nat.le_of_ble_eq_true rfl) (Nat.le_of_ble_eq_true rfl)
              · have hf := ite_f c28 hf
                refine g_bipush (pc' := 77) (6 : Int32) dX3_kindTold_75 rfl (by decide) ?_
                refine g_goto (pc' := 81) dX3_kindTold_77 (by decide) ?_
                cases hf
                exact g_ireturn dX3_kindTold_81 rfl (Nat.le_of_ble_eq_true rfl) (Nat.le_of_ble_eq_true rfl)
            · have hf := ite_f c24 hf
              refine g_iconst (pc' := 65) (5 : Int32) dX3_kindTold_64 rfl (by decide) ?_
              cases hf
              exact g_ireturn dX3_kindTold_65 rfl (Nat.le_of_ble_eq_true rfl) (Nat.le_of_ble_eq_true rfl)
          · have hf := ite_f c20 hf
            refine g_iconst (pc' := 54) (4 : Int32) dX3_kindTold_53 rfl (by decide) ?_
            cases hf
            exact g_ireturn dX3_kindTold_54 rfl (Nat.le_of_ble_eq_true rfl) (Nat.le_of_ble_eq_true rfl)
        · have hf := ite_f c16 hf
          refine g_iconst (pc' := 43) (3 : Int32) dX3_kindTold_42 rfl (by decide) ?_
          cases hf
          exact g_ireturn dX3_kindTold_43 rfl (Nat.le_of_ble_eq_true rfl) (Nat.le_of_ble_eq_true rfl)
      · have hf := ite_f c12 hf
        refine g_iconst (pc' := 32) (2 : Int32) dX3_kindTold_31 rfl (by decide) ?_
        cases hf
        exact g_ireturn dX3_kindTold_32 rfl (Nat.le_of_ble_eq_true rfl) (Nat.le_of_ble_eq_true rfl)
    · have hf := ite_f c8 hf
      refine g_iconst (pc' := 21) (1 : Int32) dX3_kindTold_20 rfl (by decide) ?_
      cases hf
      exact g_ireturn dX3_kindTold_21 rfl (Nat.le_of_ble_eq_true rfl) (Nat.le_of_ble_eq_true rfl)
  · have hf := ite_f c4 hf
    refine g_iconst (pc' := 10) (0 : Int32) dX3_kindTold_9 rfl (by decide) ?_
    cases hf
    exact g_ireturn dX3_kindTold_10 rfl (Nat.le_of_ble_eq_true rfl) (Nat.le_of_ble_eq_true rfl)
def f_X9_isLetter (v0 : Int32) (M : Mem) : Option (Int32 × Mem) :=
  if v0 < (97 : Int32) then
    some ((0 : Int32), M)
  else
    if (122 : Int32) < v0 then
      some ((0 : Int32), M)
    else
      some ((1 : Int32), M)
theorem s_X9_isLetter (v0 : Int32) (M : Mem) (r : (Int32 × Mem)) (hf : f_X9_isLetter v0 M = some r) : Sem mi_X9_isLetter (1) [aI v0] M (oI r.1) r.2 := by
  unfold f_X9_isLetter at hf
  refine sem_of (by decide) rfl rfl rfl (Nat.le_of_ble_eq_true rfl) (lv := [some (aI v0)]) rfl ?_
  refine g_iload_n (pc' := 1) dX9_isLetter_0 rfl rfl ?_
  refine g_bipush (pc' := 3) (97 : Int32) dX9_isLetter_1 rfl (by decide) ?_
  refine g_icmp_lt (pc' := 6) 16 dX9_isLetter_3 rfl (by decide) (fun c1 => ?_) (fun c1 => ?_)
  · have hf := ite_t c1 hf
    refine g_iconst (pc' := 17) (0 : Int32) dX9_isLetter_16 rfl (by decide) ?_
    cases hf
    exact g_zreturn dX9_isLetter_17 rfl (Or.inl rfl) (Nat.le_of_ble_eq_true rfl) (Nat.le_of_ble_eq_true rfl)
  · have hf := ite_f c1 hf
    refine g_iload_n (pc' := 7) dX9_isLetter_6 rfl rfl ?_
    refine g_bipush (pc' := 9) (122 : Int32) dX9_isLetter_7 rfl (by decide) ?_
    refine g_icmp_gt (pc' := 12) 16 dX9_isLetter_9 rfl (by decide) (fun c2 => ?_) (fun c2 => ?_)
    · have hf := ite_t c2 hf
      refine g_iconst (pc' := 17) (0 : Int32) dX9_isLetter_16 rfl (by decide) ?_
      cases hf
      exact g_zreturn dX9_isLetter_17 rfl (Or.inl rfl) (Nat.le_of_ble_eq_true rfl) (Nat.le_of_ble_eq_true rfl)
    · have hf := ite_f c2 hf
      refine g_iconst (pc' := 13) (1 : Int32) dX9_isLetter_12 rfl (by decide) ?_
      refine g_goto (pc' := 17) dX9_isLetter_13 (by decide) ?_
      cases hf
      exact g_zreturn dX9_isLetter_17 rfl (Or.inr rfl) (Nat.le_of_ble_eq_true rfl) (Nat.le_of_ble_eq_true rfl)
