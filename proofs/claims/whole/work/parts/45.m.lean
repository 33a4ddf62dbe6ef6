abbrev mi_X12_tellHarmless : MI := (yX12_tellHarmless, Cond.code yX12_tellHarmless cX12_tellHarmless 5 none, cX12_tellHarmless, 5, none, [], 0, 0, 0, none)
theorem cf_X12_tellHarmless : CFv mi_X12_tellHarmless 0 := ⟨⟨rfl, q_891, wall_i_LeafStripesModel, ⟨by decide, by decide, by decide +kernel⟩, by decide⟩, q_889, q_890⟩
abbrev mi_X12_hasLeafOf : MI := (yX12_hasLeafOf, Cond.code yX12_hasLeafOf cX12_hasLeafOf 5 (some .boolean), cX12_hasLeafOf, 5, (some .boolean), [], 0, 0, 0, none)
theorem cf_X12_hasLeafOf : CFv mi_X12_hasLeafOf 2 := ⟨⟨rfl, q_884, wall_i_LeafStripesModel, ⟨by decide, by decide, by decide +kernel⟩, by decide⟩, q_882, q_883⟩
abbrev mi_X12_coverNow : MI := (yX12_coverNow, Cond.code yX12_coverNow cX12_coverNow 5 (some .int), cX12_coverNow, 5, (some .int), [], 0, 0, 0, none)
theorem cf_X12_coverNow : CFv mi_X12_coverNow 0 := ⟨⟨rfl, q_877, wall_i_LeafStripesModel, ⟨by decide, by decide, by decide +kernel⟩, by decide⟩, q_875, q_876⟩
abbrev mi_X12_greatest : MI := (yX12_greatest, Cond.code yX12_greatest cX12_greatest 4 (some .int), cX12_greatest, 4, (some .int), [], 0, 0, 0, none)
theorem cf_X12_greatest : CFv mi_X12_greatest 1 := ⟨⟨rfl, q_872, wall_i_LeafStripesModel, ⟨by decide, by decide, by decide +kernel⟩, by decide⟩, q_870, q_871⟩
abbrev mi_X12_allEntries : MI := (yX12_allEntries, Cond.code yX12_allEntries cX12_allEntries 3 (some .int), cX12_allEntries, 3, (some .int), [], 0, 0, 0, none)
theorem cf_X12_allEntries : CFv mi_X12_allEntries 0 := ⟨⟨rfl, q_868, wall_i_LeafStripesModel, ⟨by decide, by decide, by decide +kernel⟩, by decide⟩, q_866, q_867⟩
abbrev mi_X12_count : MI := (yX12_count, Cond.code yX12_count cX12_count 2 (some .int), cX12_count, 2, (some .int), [], 0, 0, 0, none)
theorem cf_X12_count : CFv mi_X12_count 1 := ⟨⟨rfl, q_862, wall_i_LeafStripesModel, ⟨by decide, by decide, by decide +kernel⟩, by decide⟩, q_860, q_861⟩
abbrev mi_X12_isField : MI := (yX12_isField, Cond.code yX12_isField cX12_isField 2 (some .boolean), cX12_isField, 2, (some .boolean), [], 0, 0, 0, none)
theorem cf_X12_isField : CFv mi_X12_isField 1 := ⟨⟨rfl, q_931, wall_i_LeafStripesModel, ⟨by decide, by decide, by decide +kernel⟩, by decide⟩, q_929, q_930⟩
abbrev mi_X12_isLeaf : MI := (yX12_isLeaf, Cond.code yX12_isLeaf cX12_isLeaf 2 (some .boolean), cX12_isLeaf, 2, (some .boolean), [], 0, 0, 0, none)
theorem cf_X12_isLeaf : CFv mi_X12_isLeaf 1 := ⟨⟨rfl, q_977, wall_i_LeafStripesModel, ⟨by decide, by decide, by decide +kernel⟩, by decide⟩, q_975, q_976⟩
abbrev mi_X12_isRecord : MI := (yX12_isRecord, Cond.code yX12_isRecord cX12_isRecord 2 (some .boolean), cX12_isRecord, 2, (some .boolean), [], 0, 0, 0, none)
theorem cf_X12_isRecord : CFv mi_X12_isRecord 1 := ⟨⟨rfl, q_1037, wall_i_LeafStripesModel, ⟨by decide, by decide, by decide +kernel⟩, by decide⟩, q_1035, q_1036⟩
abbrev mi_X12_field : MI := (yX12_field, Cond.code yX12_field cX12_field 5 (some .int), cX12_field, 5, (some .int), [], 0, 0, 0, none)
theorem cf_X12_field : CFv mi_X12_field 2 := ⟨⟨rfl, q_927, wall_i_LeafStripesModel, ⟨by decide, by decide, by decide +kernel⟩, by decide⟩, q_925, q_926⟩
abbrev mi_X12_name : MI := (yX12_name, Cond.code yX12_name cX12_name 3 (some .int), cX12_name, 3, (some .int), [], 0, 0, 0, none)
theorem cf_X12_name : CFv mi_X12_name 2 := ⟨⟨rfl, q_946, wall_i_LeafStripesModel, ⟨by decide, by decide, by decide +kernel⟩, by decide⟩, q_944, q_945⟩
abbrev mi_X12_runsOf : MI := (yX12_runsOf, Cond.code yX12_runsOf cX12_runsOf 6 (some .int), cX12_runsOf, 6, (some .int), [], 0, 0, 0, none)
theorem cf_X12_runsOf : CFv mi_X12_runsOf 2 := ⟨⟨rfl, q_981, wall_i_LeafStripesModel, ⟨by decide, by decide, by decide +kernel⟩, by decide⟩, q_979, q_980⟩
abbrev mi_X12_digitsOf : MI := (yX12_digitsOf, Cond.code yX12_digitsOf cX12_digitsOf 2 (some .int), cX12_digitsOf, 2, (some .int), [], 0, 0, 0, none)
theorem cf_X12_digitsOf : CFs mi_X12_digitsOf 1 := ⟨⟨rfl, q_984, wall_i_LeafStripesModel, ⟨by decide, by decide, by decide +kernel⟩, by decide⟩, q_983⟩
abbrev mi_X12_leaf : MI := (yX12_leaf, Cond.code yX12_leaf cX12_leaf 3 (some .int), cX12_leaf, 3, (some .int), [], 0, 0, 0, none)
theorem cf_X12_leaf : CFv mi_X12_leaf 2 := ⟨⟨rfl, q_973, wall_i_LeafStripesModel, ⟨by decide, by decide, by decide +kernel⟩, by decide⟩, q_971, q_972⟩
abbrev mi_X12_isEntry : MI := (yX12_isEntry, Cond.code yX12_isEntry cX12_isEntry 3 (some .boolean), cX12_isEntry, 3, (some .boolean), [], 0, 0, 0, none)
theorem cf_X12_isEntry : CFv mi_X12_isEntry 2 := ⟨⟨rfl, q_1009, wall_i_LeafStripesModel, ⟨by decide, by decide, by decide +kernel⟩, by decide⟩, q_1007, q_1008⟩
abbrev mi_X12_entry : MI := (yX12_entry, Cond.code yX12_entry cX12_entry 4 (some .int), cX12_entry, 4, (some .int), [], 0, 0, 0, none)
theorem cf_X12_entry : CFv mi_X12_entry 3 := ⟨⟨rfl, q_1005, wall_i_LeafStripesModel, ⟨by decide, by decide, by decide +kernel⟩, by decide⟩, q_1003, q_1004⟩
abbrev mi_X12_firstOf : MI := (yX12_firstOf, Cond.code yX12_firstOf cX12_firstOf 5 (some .int), cX12_firstOf, 5, (some .int), [], 0, 0, 0, none)
theorem cf_X12_firstOf : CFv mi_X12_firstOf 2 := ⟨⟨rfl, q_1041, wall_i_LeafStripesModel, ⟨by decide, by decide, by decide +kernel⟩, by decide⟩, q_1039, q_1040⟩
abbrev mi_X12_behindOf : MI := (yX12_behindOf, Cond.code yX12_behindOf cX12_behindOf 3 (some .int), cX12_behindOf, 3, (some .int), [], 0, 0, 0, none)
theorem cf_X12_behindOf : CFv mi_X12_behindOf 2 := ⟨⟨rfl, q_1045, wall_i_LeafStripesModel, ⟨by decide, by decide, by decide +kernel⟩, by decide⟩, q_1043, q_1044⟩
abbrev mi_X12_skip : MI := (yX12_skip, Cond.code yX12_skip cX12_skip 5 (some .int), cX12_skip, 5, (some .int), [], 0, 0, 0, none)
theorem cf_X12_skip : CFv mi_X12_skip 3 := ⟨⟨rfl, q_1033, wall_i_LeafStripesModel, ⟨by decide, by decide, by decide +kernel⟩, by decide⟩, q_1031, q_1032⟩
def f_X12_tellHarmless_123 (k20 : Nat → Int32 → Mem → Option (Unit × Mem)) (k39 : Nat → Int32 → Int32 → Int32 → Mem → Option (Unit × Mem)) (k92 : Nat → Int32 → Int32 → Int32 → Int32 → Mem → Option (Unit × Mem)) (v0 : Nat) (v1 : Int32) (v2 : Int32) (v3 : Int32) (v4 : Int32) (M : Mem) : Option (Unit × Mem) :=
  k92 v0 v1 v2 v3 (v4 + 1) M
def f_X12_tellHarmless_92 (k20 : Nat → Int32 → Mem → Option (Unit × Mem)) (k39 : Nat → Int32 → Int32 → Int32 → Mem → Option (Unit × Mem)) : Nat → Nat → Int32 → Int32 → Int32 → Int32 → Mem → Option (Unit × Mem)
  | 0, _, _, _, _, _, _ => none
  | n + 1, v0, v1, v2, v3, v4, M =>
    if mK M v0 = 13 then
      if mK M (mR M v0 18) = 21 then
        if inB v2 (mN M (mR M v0 18)) = true then
          if (mI M (mR M v0 18) v2.toNatClampNeg) < v4 then
            k39 v0 v1 v2 (v3 + 1) M
          else
            bnd (f_X12_defAt v0 v1 v3 M) fun r6 M5 =>
            if v4 = r6 then
              f_X12_tellHarmless_123 k20 k39 (f_X12_tellHarmless_92 k20 k39 n) v0 v1 v2 v3 v4 M5
            else
              if mK M5 v0 = 13 then
                bnd (f_X12_tryLevel v0 v1 v3 (1 : Int32) v4 M5) fun _ M9 =>
                f_X12_tellHarmless_123 k20 k39 (f_X12_tellHarmless_92 k20 k39 n) v0 v1 v2 v3 v4 M9
              else none
        else none
      else none
    else none
def f_X12_tellHarmless_83 (k20 : Nat → Int32 → Mem → Option (Unit × Mem)) (k39 : Nat → Int32 → Int32 → Int32 → Mem → Option (Unit × Mem)) (k52 : Nat → Int32 → Int32 → Int32 → Int32 → Mem → Option (Unit × Mem)) (v0 : Nat) (v1 : Int32) (v2 : Int32) (v3 : Int32) (v4 : Int32) (M : Mem) : Option (Unit × Mem) :=
  k52 v0 v1 v2 v3 (v4 + 1) M
def f_X12_tellHarmless_52 (k20 : Nat → Int32 → Mem → Option (Unit × Mem)) (k39 : Nat → Int32 → Int32 → Int32 → Mem → Option (Unit × Mem)) : Nat → Nat → Int32 → Int32 → Int32 → Int32 → Mem → Option (Unit × Mem)
  | 0, _, _, _, _, _, _ => none
  | n + 1, v0, v1, v2, v3, v4, M =>
    if mK M v0 = 13 then
      if mK M (mR M v0 19) = 21 then
        if inB v2 (mN M (mR M v0 19)) = true then
          if (mI M (mR M v0 19) v2.toNatClampNeg) < v4 then
            f_X12_tellHarmless_92 k20 k39 FUEL v0 v1 v2 v3 (0 : Int32) M
          else
            bnd (f_X12_repAt v0 v1 v3 M) fun r6 M5 =>
            if v4 = r6 then
              f_X12_tellHarmless_83 k20 k39 (f_X12_tellHarmless_52 k20 k39 n) v0 v1 v2 v3 v4 M5
            else
              if mK M5 v0 = 13 then
                bnd (f_X12_tryLevel v0 v1 v3 (0 : Int32) v4 M5) fun _ M9 =>
                f_X12_tellHarmless_83 k20 k39 (f_X12_tellHarmless_52 k20 k39 n) v0 v1 v2 v3 v4 M9
              else none
        else none
      else none
    else none
def f_X12_tellHarmless_39 (k20 : Nat → Int32 → Mem → Option (Unit × Mem)) : Nat → Nat → Int32 → Int32 → Int32 → Mem → Option (Unit × Mem)
  | 0, _, _, _, _, _ => none
  | n + 1, v0, v1, v2, v3, M =>
    if mK M v0 = 13 then
      if mK M (mR M v0 28) = 21 then
        if inB v1 (mN M (mR M v0 28)) = true then
          if (mI M (mR M v0 28) v1.toNatClampNeg) ≤ v3 then
            k20 v0 (v1 + 1) M
          else
            f_X12_tellHarmless_52 k20 (f_X12_tellHarmless_39 k20 n) FUEL v0 v1 v2 v3 (0 : Int32) M
        else none
      else none
    else none
def f_X12_tellHarmless_20 : Nat → Nat → Int32 → Mem → Option (Unit × Mem)
  | 0, _, _, _ => none
  | n + 1, v0, v1, M =>
    if mK M v0 = 13 then
      if mK M (mR M v0 24) = 21 then
        if inB (0 : Int32) (mN M (mR M v0 24)) = true then
          if (mI M (mR M v0 24) (0 : Int32).toNatClampNeg) ≤ v1 then
            some ((), M)
          else
            if mK M (mR M v0 25) = 21 then
              if inB v1 (mN M (mR M v0 25)) = true then
                f_X12_tellHarmless_39 (f_X12_tellHarmless_20 n) FUEL v0 v1 (mI M (mR M v0 25) v1.toNatClampNeg) (0 : Int32) M
              else none
            else none
        else none
      else none
    else none
def f_X12_tellHarmless (v0 : Nat) (M : Mem) : Option (Unit × Mem) :=
  if mK M v0 = 13 then
    ap (sI M v0 36 (0 : Int32)) fun M2 =>
    if mK M2 v0 = 13 then
      ap (sI M2 v0 37 (-1 : Int32)) fun M4 =>
      if mK M4 v0 = 13 then
        bnd (f_X12_checked v0 M4) fun r7 M6 =>
        if r7 = 0 then
          f_X12_tellHarmless_20 FUEL v0 (0 : Int32) M6
        else
          some ((), M6)
      else none
    else none
  else none
theorem s_X12_tellHarmless_123 (k20 : Nat → Int32 → Mem → Option (Unit × Mem)) (k39 : Nat → Int32 → Int32 → Int32 → Mem → Option (Unit × Mem)) (k92 : Nat → Int32 → Int32 → Int32 → Int32 → Mem → Option (Unit × Mem)) (hk20 : ∀ (v0 : Nat) (v1 : Int32) (M : Mem) (r : (Unit × Mem)), k20 v0 v1 M = some r → G mi_X12_tellHarmless 6 (oU r.1) r.2 20 [some (aR v0), some (aI v1), none, none, none] [] M 0 0) (hk39 : ∀ (v0 : Nat) (v1 : Int32) (v2 : Int32) (v3 : Int32) (M : Mem) (r : (Unit × Mem)), k39 v0 v1 v2 v3 M = some r → G mi_X12_tellHarmless 6 (oU r.1) r.2 39 [some (aR v0), some (aI v1), some (aI v2), some (aI v3), none] [] M 0 0) (hk92 : ∀ (v0 : Nat) (v1 : Int32) (v2 : Int32) (v3 : Int32) (v4 : Int32) (M : Mem) (r : (Unit × Mem)), k92 v0 v1 v2 v3 v4 M = some r → G mi_X12_tellHarmless 6 (oU r.1) r.2 92 [some (aR v0), some (aI v1), some (aI v2), some (aI v3), some (aI v4)] [] M 0 0) (v0 : Nat) (v1 : Int32) (v2 : Int32) (v3 : Int32) (v4 : Int32) (M : Mem) (r : (Unit × Mem)) (hf : f_X12_tellHarmless_123 k20 k39 k92 v0 v1 v2 v3 v4 M = some r) : G mi_X12_tellHarmless 6 (oU r.1) r.2 123 [some (aR v0), some (aI v1), some (aI v2), some (aI v3), some (aI v4)] [] M 0 0 := by
  unfold f_X12_tellHarmless_123 at hf
  refine g_iinc (pc' := 126) (lv' := [some (aR v0), some (aI v1), some (aI v2), some (aI v3), some (aI (v4 + 1))]) (v4 + 1) dX12_tellHarmless_123 rfl rfl (by rfl) rfl (by decide) rfl ?_
  refine g_goto (pc' := 92) dX12_tellHarmless_126 (by decide) ?_
  exact hk92 v0 v1 v2 v3 (v4 + 1) M _ hf
theorem s_X12_tellHarmless_92 (k20 : Nat → Int32 → Mem → Option (Unit × Mem)) (k39 : Nat → Int32 → Int32 → Int32 → Mem → Option (Unit × Mem)) (hk20 : ∀ (v0 : Nat) (v1 : Int32) (M : Mem) (r : (Unit × Mem)), k20 v0 v1 M = some r → G mi_X12_tellHarmless 6 (oU r.1) r.2 20 [some (aR v0), some (aI v1), none, none, none] [] M 0 0) (hk39 : ∀ (v0 : Nat) (v1 : Int32) (v2 : Int32) (v3 : Int32) (M : Mem) (r : (Unit × Mem)), k39 v0 v1 v2 v3 M = some r → G mi_X12_tellHarmless 6 (oU r.1) r.2 39 [some (aR v0), some (aI v1), some (aI v2), some (aI v3), none] [] M 0 0) : ∀ (n : Nat) (v0 : Nat) (v1 : Int32) (v2 : Int32) (v3 : Int32) (v4 : Int32) (M : Mem) (r : (Unit × Mem)), f_X12_tellHarmless_92 k20 k39 n v0 v1 v2 v3 v4 M = some r → G mi_X12_tellHarmless 6 (oU r.1) r.2 92 [some (aR v0), some (aI v1), some (aI v2), some (aI v3), some (aI v4)] [] M 0 0 := by
  intro n
  induction n with
  | zero => intro v0 v1 v2 v3 v4 M r hf; cases hf
  | succ n ih =>
    intro v0 v1 v2 v3 v4 M r hf
    unfold f_X12_tellHarmless_92 at hf
    refine g_iload (pc' := 94) dX12_tellHarmless_92 rfl rfl ?_
    refine g_aload_n (pc' := 95) dX12_tellHarmless_94 rfl rfl ?_
    obtain ⟨h1, hf⟩ := chk_s hf
    refine g_getR (pc' := 98) 12 18 rfl rfl (by decide) inX12 (by decide) rfl rfl q_130 dX12_tellHarmless_95 rfl h1 ?_
    refine g_iload_n (pc' := 99) dX12_tellHarmless_98 rfl rfl ?_
    obtain ⟨h2, hf⟩ := chk_s hf
    obtain ⟨b3, hf⟩ := chk_s hf
    refine g_iald (pc' := 100) dX12_tellHarmless_99 rfl h2 (inB_in b3) ?_
    refine g_icmp_gt (pc' := 103) 129 dX12_tellHarmless_100 rfl (by decide) (fun c4 => ?_) (fun c4 => ?_)
    · have hf := ite_t c4 hf
      refine g_iinc (pc' := 132) (lv' := [some (aR v0), some (aI v1), some (aI v2), some (aI (v3 + 1)), some (aI v4)]) (v3 + 1) dX12_tellHarmless_129 rfl rfl (by rfl) rfl (by decide) rfl ?_
      refine g_goto (pc' := 39) dX12_tellHarmless_132 (by decide) ?_
      refine g_mask [true, true, true, true, false] rfl ?_
      exact hk39 v0 v1 v2 (v3 + 1) M _ hf
    · have hf := ite_f c4 hf
      refine g_iload (pc' := 105) dX12_tellHarmless_103 rfl rfl ?_
      refine g_aload_n (pc' := 106) dX12_tellHarmless_105 rfl rfl ?_
      refine g_iload_n (pc' := 107) dX12_tellHarmless_106 rfl rfl ?_
      refine g_iload_n (pc' := 108) dX12_tellHarmless_107 rfl rfl ?_
      obtain ⟨r6, M5, e6, hf⟩ := bnd_some hf
      refine g_callVi (pc' := 111) (k' := 0) (u' := 0) (fr2 := 1) (As := [aI v1, aI v3]) (b := v0) (st := [aI v4]) cf_X12_defAt q_660 (by omega) (ci := 12) rfl rfl (by decide) dX12_tellHarmless_108 rfl rfl rfl (Nat.le_of_ble_eq_true rfl) (Or.inl rfl) (Nat.le_refl _) (Nat.le_refl _) (Nat.le_refl _) (Nat.le_refl _) h1 (s_X12_defAt v0 v1 v3 M _ e6) ?_
      refine g_icmp_eq (pc' := 114) 123 dX12_tellHarmless_111 rfl (by decide) (fun c7 => ?_) (fun c7 => ?_)
      · have hf := ite_t c7 hf
        refine g_widen (k' := 0) (u' := 0) (by omega) (by omega) ?_
        exact s_X12_tellHarmless_123 k20 k39 (f_X12_tellHarmless_92 k20 k39 n) hk20 hk39 ih v0 v1 v2 v3 v4 M5 _ hf
      · have hf := ite_f c7 hf
        refine g_aload_n (pc' := 115) dX12_tellHarmless_114 rfl rfl ?_
        refine g_iload_n (pc' := 116) dX12_tellHarmless_115 rfl rfl ?_
        refine g_iload_n (pc' := 117) dX12_tellHarmless_116 rfl rfl ?_
        refine g_iconst (pc' := 118) (1 : Int32) dX12_tellHarmless_117 rfl (by decide) ?_
        refine g_iload (pc' := 120) dX12_tellHarmless_118 rfl rfl ?_
        obtain ⟨h8, hf⟩ := chk_s hf
        obtain ⟨_, M9, e10, hf⟩ := bnd_some hf
        refine g_callVv (pc' := 123) (k' := 0) (u' := 0) (fr2 := 5) (As := [aI v1, aI v3, aI (1 : Int32), aI v4]) (b := v0) (st := []) cf_X12_tryLevel q_892 (by omega) (ci := 12) rfl rfl (by decide) dX12_tellHarmless_120 rfl rfl rfl (Nat.le_of_ble_eq_true rfl) (Or.inl rfl) (Nat.le_refl _) (Nat.le_refl _) (Nat.le_refl _) (Nat.le_refl _) h8 (s_X12_tryLevel v0 v1 v3 (1 : Int32) v4 M5 _ e10) ?_
        refine g_widen (k' := 0) (u' := 0) (by omega) (by omega) ?_
        exact s_X12_tellHarmless_123 k20 k39 (f_X12_tellHarmless_92 k20 k39 n) hk20 hk39 ih v0 v1 v2 v3 v4 M9 _ hf
theorem s_X12_tellHarmless_83 (k20 : Nat → Int32 → Mem → Option (Unit × Mem)) (k39 : Nat → Int32 → Int32 → Int32 → Mem → Option (Unit × Mem)) (k52 : Nat → Int32 → Int32 → Int32 → Int32 → Mem → Option (Unit × Mem)) (hk20 : ∀ (v0 : Nat) (v1 : Int32) (M : Mem) (r : (Unit × Mem)), k20 v0 v1 M = some r → G mi_X12_tellHarmless 6 (oU r.1) r.2 20 [some (aR v0), some (aI v1), none, none, none] [] M 0 0) (hk39 : ∀ (v0 : Nat) (v1 : Int32) (v2 : Int32) (v3 : Int32) (M : Mem) (r : (Unit × Mem)), k39 v0 v1 v2 v3 M = some r → G mi_X12_tellHarmless 6 (oU r.1) r.2 39 [some (aR v0), some (aI v1), some (aI v2), some (aI v3), none] [] M 0 0) (hk52 : ∀ (v0 : Nat) (v1 : Int32) (v2 : Int32) (v3 : Int32) (v4 : Int32) (M : Mem) (r : (Unit × Mem)), k52 v0 v1 v2 v3 v4 M = some r → G mi_X12_tellHarmless 6 (oU r.1) r.2 52 [some (aR v0), some (aI v1), some (aI v2), some (aI v3), some (aI v4)] [] M 0 0) (v0 : Nat) (v1 : Int32) (v2 : Int32) (v3 : Int32) (v4 : Int32) (M : Mem) (r : (Unit × Mem)) (hf : f_X12_tellHarmless_83 k20 k39 k52 v0 v1 v2 v3 v4 M = some r) : G mi_X12_tellHarmless 6 (oU r.1) r.2 83 [some (aR v0), some (aI v1), some (aI v2), some (aI v3), some (aI v4)] [] M 0 0 := by
  unfold f_X12_tellHarmless_83 at hf
  refine g_iinc (pc' := 86) (lv' := [some (aR v0), some (aI v1), some (aI v2), some (aI v3), some (aI (v4 + 1))]) (v4 + 1) dX12_tellHarmless_83 rfl rfl (by rfl) rfl (by decide) rfl ?_
  refine g_goto (pc' := 52) dX12_tellHarmless_86 (by decide) ?_
  exact hk52 v0 v1 v2 v3 (v4 + 1) M _ hf
theorem s_X12_tellHarmless_52 (k20 : Nat → Int32 → Mem → Option (Unit × Mem)) (k39 : Nat → Int32 → Int32 → Int32 → Mem → Option (Unit × Mem)) (hk20 : ∀ (v0 : Nat) (v1 : Int32) (M : Mem) (r : (Unit × Mem)), k20 v0 v1 M = some r → G mi_X12_tellHarmless 6 (oU r.1) r.2 20 [some (aR v0), some (aI v1), none, none, none] [] M 0 0) (hk39 : ∀ (v0 : Nat) (v1 : Int32) (v2 : Int32) (v3 : Int32) (M : Mem) (r : (Unit × Mem)), k39 v0 v1 v2 v3 M = some r → G mi_X12_tellHarmless 6 (oU r.1) r.2 39 [some (aR v0), some (aI v1), some (aI v2), some (aI v3), none] [] M 0 0) : ∀ (n : Nat) (v0 : Nat) (v1 : Int32) (v2 : Int32) (v3 : Int32) (v4 : Int32) (M : Mem) (r : (Unit × Mem)), f_X12_tellHarmless_52 k20 k39 n v0 v1 v2 v3 v4 M = some r → G mi_X12_tellHarmless 6 (oU r.1) r.2 52 [some (aR v0), some (aI v1), some (aI v2), some (aI v3), some (aI v4)] [] M 0 0 := by
  intro n
  induction n with
  | zero => intro v0 v1 v2 v3 v4 M r hf; cases hf
  | succ n ih =>
    intro v0 v1 v2 v3 v4 M r hf
    unfold f_X12_tellHarmless_52 at hf
    refine g_iload (pc' := 54) dX12_tellHarmless_52 rfl rfl ?_
    refine g_aload_n (pc' := 55) dX12_tellHarmless_54 rfl rfl ?_
    obtain ⟨h1, hf⟩ := chk_s hf
    refine g_getR (pc' := 58) 12 19 rfl rfl (by decide) inX12 (by decide) rfl rfl q_131 dX12_tellHarmless_55 rfl h1 ?_
    refine g_iload_n (pc' := 59) dX12_tellHarmless_58 rfl rfl ?_
    obtain ⟨h2, hf⟩ := chk_s hf
    obtain ⟨b3, hf⟩ := chk_s hf
    refine g_iald (pc' := 60) dX12_tellHarmless_59 rfl h2 (inB_in b3) ?_
    refine g_icmp_gt (pc' := 63) 89 dX12_tellHarmless_60 rfl (by decide) (fun c4 => ?_) (fun c4 => ?_)
    · have hf := ite_t c4 hf
      refine g_iconst (pc' := 90) (0 : Int32) dX12_tellHarmless_89 rfl (by decide) ?_
      refine g_istore (pc' := 92) (lv' := [some (aR v0), some (aI v1), some (aI v2), some (aI v3), some (aI (0 : Int32))]) dX12_tellHarmless_90 rfl rfl (by decide) rfl ?_
      exact s_X12_tellHarmless_92 k20 k39 hk20 hk39 FUEL v0 v1 v2 v3 (0 : Int32) M _ hf
    · have hf := ite_f c4 hf
      refine g_iload (pc' := 65) dX12_tellHarmless_63 rfl rfl ?_
      refine g_aload_n (pc' := 66) dX12_tellHarmless_65 rfl rfl ?_
      refine g_iload_n (pc' := 67) dX12_tellHarmless_66 rfl rfl ?_
      refine g_iload_n (pc' := 68) dX12_tellHarmless_67 rfl rfl ?_
      obtain ⟨r6, M5, e6, hf⟩ := bnd_some hf
      refine g_callVi (pc' := 71) (k' := 0) (u' := 0) (fr2 := 1) (As := [aI v1, aI v3]) (b := v0) (st := [aI v4]) cf_X12_repAt q_656 (by omega) (ci := 12) rfl rfl (by decide) dX12_tellHarmless_68 rfl rfl rfl (Nat.le_of_ble_eq_true rfl) (Or.inl rfl) (Nat.le_refl _) (Nat.le_refl _) (Nat.le_refl _) (Nat.le_refl _) h1 (s_X12_repAt v0 v1 v3 M _ e6) ?_
      refine g_icmp_eq (pc' := 74) 83 dX12_tellHarmless_71 rfl (by decide) (fun c7 => ?_) (fun c7 => ?_)
      · have hf := ite_t c7 hf
        refine g_widen (k' := 0) (u' := 0) (by omega) (by omega) ?_
        exact s_X12_tellHarmless_83 k20 k39 (f_X12_tellHarmless_52 k20 k39 n) hk20 hk39 ih v0 v1 v2 v3 v4 M5 _ hf
      · have hf := ite_f c7 hf
        refine g_aload_n (pc' := 75) dX12_tellHarmless_74 rfl rfl ?_
        refine g_iload_n (pc' := 76) dX12_tellHarmless_75 rfl rfl ?_
        refine g_iload_n (pc' := 77) dX12_tellHarmless_76 rfl rfl ?_
        refine g_iconst (pc' := 78) (0 : Int32) dX12_tellHarmless_77 rfl (by decide) ?_
        refine g_iload (pc' := 80) dX12_tellHarmless_78 rfl rfl ?_
        obtain ⟨h8, hf⟩ := chk_s hf
        obtain ⟨_, M9, e10, hf⟩ := bnd_some hf
        refine g_callVv (pc' := 83) (k' := 0) (u' := 0) (fr2 := 5) (As := [aI v1, aI v3, aI (0 : Int32), aI v4]) (b := v0) (st := []) cf_X12_tryLevel q_892 (by omega) (ci := 12) rfl rfl (by decide) dX12_tellHarmless_80 rfl rfl rfl (Nat.le_of_ble_eq_true rfl) (Or.inl rfl) (Nat.le_refl _) (Nat.le_refl _) (Nat.le_refl _) (Nat.le_refl _) h8 (s_X12_tryLevel v0 v1 v3 (0 : Int32) v4 M5 _ e10) ?_
        refine g_widen (k' := 0) (u' := 0) (by omega) (by omega) ?_
        exact s_X12_tellHarmless_83 k20 k39 (f_X12_tellHarmless_52 k20 k39 n) hk20 hk39 ih v0 v1 v2 v3 v4 M9 _ hf
theorem s_X12_tellHarmless_39 (k20 : Nat → Int32 → Mem → Option (Unit × Mem)) (hk20 : ∀ (v0 : Nat) (v1 : Int32) (M : Mem) (r : (Unit × Mem)), k20 v0 v1 M = some r → G mi_X12_tellHarmless 6 (oU r.1) r.2 20 [some (aR v0), some (aI v1), none, none, none] [] M 0 0) : ∀ (n : Nat) (v0 : Nat) (v1 : Int32) (v2 : Int32) (v3 : Int32) (M : Mem) (r : (Unit × Mem)), f_X12_tellHarmless_39 k20 n v0 v1 v2 v3 M = some r → G mi_X12_tellHarmless 6 (oU r.1) r.2 39 [some (aR v0), some (aI v1), some (aI v2), some (aI v3), none] [] M 0 0 := by
  intro n
  induction n with
  | zero => intro v0 v1 v2 v3 M r hf; cases hf
  | succ n ih =>
    intro v0 v1 v2 v3 M r hf
    unfold f_X12_tellHarmless_39 at hf
    refine g_iload_n (pc' := 40) dX12_tellHarmless_39 rfl rfl ?_
    refine g_aload_n (pc' := 41) dX12_tellHarmless_40 rfl rfl ?_
    obtain ⟨h1, hf⟩ := chk_s hf
    refine g_getR (pc' := 44) 12 28 rfl rfl (by decide) inX12 (by decide) rfl rfl q_139 dX12_tellHarmless_41 rfl h1 ?_
    refine g_iload_n (pc' := 45) dX12_tellHarmless_44 rfl rfl ?_
    obtain ⟨h2, hf⟩ := chk_s hf
    obtain ⟨b3, hf⟩ := chk_s hf
    refine g_iald (pc' := 46) dX12_tellHarmless_45 rfl h2 (inB_in b3) ?_
    refine g_icmp_ge (pc' := 49) 135 dX12_tellHarmless_46 rfl (by decide) (fun c4 => ?_) (fun c4 => ?_)
    · have hf := ite_t c4 hf
      refine g_iinc (pc' := 138) (lv' := [some (aR v0), some (aI (v1 + 1)), some (aI v2), some (aI v3), none]) (v1 + 1) dX12_tellHarmless_135 rfl rfl (by rfl) rfl (by decide) rfl ?_
      refine g_goto (pc' := 20) dX12_tellHarmless_138 (by decide) ?_
      refine g_mask [true, true, false, false, true] rfl ?_
      exact hk20 v0 (v1 + 1) M _ hf
    · have hf := ite_f c4 hf
      refine g_iconst (pc' := 50) (0 : Int32) dX12_tellHarmless_49 rfl (by decide) ?_
      refine g_istore (pc' := 52) (lv' := [some (aR v0), some (aI v1), some (aI v2), some (aI v3), some (aI (0 : Int32))]) dX12_tellHarmless_50 rfl rfl (by decide) rfl ?_
      exact s_X12_tellHarmless_52 k20 (f_X12_tellHarmless_39 k20 n) hk20 ih FUEL v0 v1 v2 v3 (0 : Int32) M _ hf
theorem s_X12_tellHarmless_20 : ∀ (n : Nat) (v0 : Nat) (v1 : Int32) (M : Mem) (r : (Unit × Mem)), f_X12_tellHarmless_20 n v0 v1 M = some r → G mi_X12_tellHarmless 6 (oU r.1) r.2 20 [some (aR v0), some (aI v1), none, none, none] [] M 0 0 := by
  intro n
  induction n with
  | zero => intro v0 v1 M r hf; cases hf
  | succ n ih =>
    intro v0 v1 M r hf
    unfold f_X12_tellHarmless_20 at hf
    refine g_iload_n (pc' := 21) dX12_tellHarmless_20 rfl rfl ?_
    refine g_aload_n (pc' := 22) dX12_tellHarmless_21 rfl rfl ?_
    obtain ⟨h1, hf⟩ := chk_s hf
    refine g_getR (pc' := 25) 12 24 rfl rfl (by decide) inX12 (by decide) rfl rfl q_136 dX12_tellHarmless_22 rfl h1 ?_
    refine g_iconst (pc' := 26) (0 : Int32) dX12_tellHarmless_25 rfl (by decide) ?_
    obtain ⟨h2, hf⟩ := chk_s hf
    obtain ⟨b3, hf⟩ := chk_s hf
    refine g_iald (pc' := 27) dX12_tellHarmless_26 rfl h2 (inB_in b3) ?_
    refine g_icmp_ge (pc' := 30) 141 dX12_tellHarmless_27 rfl (by decide) (fun c4 => ?_) (fun c4 => ?_)
    · have hf := ite_t c4 hf
      cases hf
      exact g_return dX12_tellHarmless_141 rfl (Nat.le_of_ble_eq_true rfl) (Nat.le_of_ble_eq_true rfl)
    · have hf := ite_f c4 hf
      refine g_aload_n (pc' := 31) dX12_tellHarmless_30 rfl rfl ?_
      refine g_getR (pc' := 34) 12 25 rfl rfl (by decide) inX12 (by decide) rfl rfl q_137 dX12_tellHarmless_31 rfl h1 ?_
      refine g_iload_n (pc' := 35) dX12_tellHarmless_34 rfl rfl ?_
      obtain ⟨h5, hf⟩ := chk_s hf
      obtain ⟨b6, hf⟩ := chk_s hf
      refine g_iald (pc' := 36) dX12_tellHarmless_35 rfl h5 (inB_in b6) ?_
      refine g_istore_n (pc' := 37) (lv' := [some (aR v0), some (aI v1), some (aI (mI M (mR M v0 25) v1.toNatClampNeg)), none, none]) dX12_tellHarmless_36 rfl rfl (by decide) rfl ?_
      refine g_iconst (pc' := 38) (0 : Int32) dX12_tellHarmless_37 rfl (by decide) ?_
      refine g_istore_n (pc' := 39) (lv' := [some (aR v0), some (aI v1), some (aI (mI M (mR M v0 25) v1.toNatClampNeg)), some (aI (0 : Int32)), none]) dX12_tellHarmless_38 rfl rfl (by decide) rfl ?_
      exact s_X12_tellHarmless_39 (f_X12_tellHarmless_20 n) ih FUEL v0 v1 (mI M (mR M v0 25) v1.toNatClampNeg) (0 : Int32) M _ hf
theorem s_X12_tellHarmless (v0 : Nat) (M : Mem) (r : (Unit × Mem)) (hf : f_X12_tellHarmless v0 M = some r) : Sem mi_X12_tellHarmless (6) [aR v0] M (oU r.1) r.2 := by
  unfold f_X12_tellHarmless at hf
  refine sem_of (by decide) rfl rfl rfl (Nat.le_of_ble_eq_true rfl) (lv := [some (aR v0), none, none, none, none]) rfl ?_
  refine g_aload_n (pc' := 1) dX12_tellHarmless_0 rfl rfl ?_
  refine g_iconst (pc' := 2) (0 : Int32) dX12_tellHarmless_1 rfl (by decide) ?_
  obtain ⟨h1, hf⟩ := chk_s hf
  refine g_putI (pc' := 5) 12 36 rfl rfl (by decide) inX12 tyX12_ok nmX12 (by decide) rfl rfl rfl rfl q_863 dX12_tellHarmless_2 rfl h1 (gM fun M2 hM2 => ?_)
  have hf := ap_eq hf hM2
  refine g_aload_n (pc' := 6) dX12_tellHarmless_5 rfl rfl ?_
  refine g_iconst (pc' := 7) (-1 : Int32) dX12_tellHarmless_6 rfl (by decide) ?_
  obtain ⟨h3, hf⟩ := chk_s hf
  refine g_putI (pc' := 10) 12 37 rfl rfl (by decide) inX12 tyX12_ok nmX12 (by decide) rfl rfl rfl rfl q_864 dX12_tellHarmless_7 rfl h3 (gM fun M4 hM4 => ?_)
  have hf := ap_eq hf hM4
  refine g_aload_n (pc' := 11) dX12_tellHarmless_10 rfl rfl ?_
  obtain ⟨h5, hf⟩ := chk_s hf
  obtain ⟨r7, M6, e7, hf⟩ := bnd_some hf
  refine g_callVi (pc' := 14) (k' := 0) (u' := 0) (fr2 := 4) (As := []) (b := v0) (st := []) cf_X12_checked q_648 (by omega) (ci := 12) rfl rfl (by decide) dX12_tellHarmless_11 rfl rfl rfl (Nat.le_of_ble_eq_true rfl) (Or.inl rfl) (Nat.le_refl _) (Nat.le_refl _) (Nat.le_refl _) (Nat.le_refl _) h5 (s_X12_checked v0 M4 _ e7) ?_
  refine g_if_eq (pc' := 17) 18 dX12_tellHarmless_14 rfl (by decide) (fun c8 => ?_) (fun c8 => ?_)
  · have hf := ite_t c8 hf
    refine g_iconst (pc' := 19) (0 : Int32) dX12_tellHarmless_18 rfl (by decide) ?_
    refine g_istore_n (pc' := 20) (lv' := [some (aR v0), some (aI (0 : Int32)), none, none, none]) dX12_tellHarmless_19 rfl rfl (by decide) rfl ?_
    refine g_widen (k' := 0) (u' := 0) (by omega) (by omega) ?_
    exact s_X12_tellHarmless_20 FUEL v0 (0 : Int32) M6 _ hf
  · have hf := ite_f c8 hf
    cases hf
    exact g_return dX12_tellHarmless_17 rfl (Nat.le_of_ble_eq_true rfl) (Nat.le_of_ble_eq_true rfl)
def f_X12_hasLeafOf_49 (k5 : Nat → Int32 → Int32 → Int32 → Int32 → Mem → Option (Int32 × Mem)) (v0 : Nat) (v1 : Int32) (v2 : Int32) (v4 : Int32) (w0 : Int32) (M : Mem) : Option (Int32 × Mem) :=
  k5 v0 v1 v2 w0 (v4 + 1) M
def f_X12_hasLeafOf_48 (k5 : Nat → Int32 → Int32 → Int32 → Int32 → Mem → Option (Int32 × Mem)) (v0 : Nat) (v1 : Int32) (v2 : Int32) (v4 : Int32) (M : Mem) : Option (Int32 × Mem) :=
  f_X12_hasLeafOf_49 k5 v0 v1 v2 v4 (0 : Int32) M
def f_X12_hasLeafOf_44 (k5 : Nat → Int32 → Int32 → Int32 → Int32 → Mem → Option (Int32 × Mem)) (v0 : Nat) (v1 : Int32) (v2 : Int32) (v4 : Int32) (M : Mem) : Option (Int32 × Mem) :=
  f_X12_hasLeafOf_49 k5 v0 v1 v2 v4 (1 : Int32) M
def f_X12_hasLeafOf_5 : Nat → Nat → Int32 → Int32 → Int32 → Int32 → Mem → Option (Int32 × Mem)
  | 0, _, _, _, _, _, _ => none
  | n + 1, v0, v1, v2, v3, v4, M =>
    if mK M v0 = 13 then
      if mK M (mR M v0 24) = 21 then
        if inB (0 : Int32) (mN M (mR M v0 24)) = true then
          if (mI M (mR M v0 24) (0 : Int32).toNatClampNeg) ≤ v4 then
            if zB v3 = true then
            some (v3, M)
            else none
          else
            if v3 = 0 then
              bnd (f_X12_isOf v2 v4 M) fun r7 M6 =>
              if r7 = 0 then
                f_X12_hasLeafOf_48 (f_X12_hasLeafOf_5 n) v0 v1 v2 v4 M6
              else
                if mK M6 v0 = 13 then
                  if mK M6 (mR M6 v0 25) = 21 then
                    if inB v4 (mN M6 (mR M6 v0 25)) = true then
                      bnd (f_X12_isInside v0 (mI M6 (mR M6 v0 25) v4.toNatClampNeg) v1 M6) fun r13 M12 =>
                      if r13 = 0 then
                        f_X12_hasLeafOf_48 (f_X12_hasLeafOf_5 n) v0 v1 v2 v4 M12
                      else
                        f_X12_hasLeafOf_44 (f_X12_hasLeafOf_5 n) v0 v1 v2 v4 M12
                    else none
                  else none
                else none
            else
              f_X12_hasLeafOf_44 (f_X12_hasLeafOf_5 n) v0 v1 v2 v4 M
        else none
      else none
    else none
def f_X12_hasLeafOf (v0 : Nat) (v1 : Int32) (v2 : Int32) (M : Mem) : Option (Int32 × Mem) :=
  f_X12_hasLeafOf_5 FUEL v0 v1 v2 (0 : Int32) (0 : Int32) M
theorem s_X12_hasLeafOf_49 (k5 : Nat → Int32 → Int32 → Int32 → Int32 → Mem → Option (Int32 × Mem)) (hk5 : ∀ (v0 : Nat) (v1 : Int32) (v2 : Int32) (v3 : Int32) (v4 : Int32) (M : Mem) (r : (Int32 × Mem)), k5 v0 v1 v2 v3 v4 M = some r → G mi_X12_hasLeafOf 2 (oI r.1) r.2 5 [some (aR v0), some (aI v1), some (aI v2), some (aI v3), some (aI v4)] [] M 0 0) (v0 : Nat) (v1 : Int32) (v2 : Int32) (v4 : Int32) (w0 : Int32) (M : Mem) (r : (Int32 × Mem)) (hf : f_X12_hasLeafOf_49 k5 v0 v1 v2 v4 w0 M = some r) : G mi_X12_hasLeafOf 2 (oI r.1) r.2 49 [some (aR v0), some (aI v1), some (aI v2), none, some (aI v4)] [aI w0] M 0 0 := by
  unfold f_X12_hasLeafOf_49 at hf
  refine g_istore_n (pc' := 50) (lv' := [some (aR v0), some (aI v1), some (aI v2), some (aI w0), some (aI v4)]) dX12_hasLeafOf_49 rfl rfl (by decide) rfl ?_
  refine g_iinc (pc' := 53) (lv' := [some (aR v0), some (aI v1), some (aI v2), some (aI w0), some (aI (v4 + 1))]) (v4 + 1) dX12_hasLeafOf_50 rfl rfl (by rfl) rfl (by decide) rfl ?_
  refine g_goto (pc' := 5) dX12_hasLeafOf_53 (by decide) ?_
  exact hk5 v0 v1 v2 w0 (v4 + 1) M _ hf
theorem s_X12_hasLeafOf_48 (k5 : Nat → Int32 → Int32 → Int32 → Int32 → Mem → Option (Int32 × Mem)) (hk5 : ∀ (v0 : Nat) (v1 : Int32) (v2 : Int32) (v3 : Int32) (v4 : Int32) (M : Mem) (r : (Int32 × Mem)), k5 v0 v1 v2 v3 v4 M = some r → G mi_X12_hasLeafOf 2 (oI r.1) r.2 5 [some (aR v0), some (aI v1), some (aI v2), some (aI v3), some (aI v4)] [] M 0 0) (v0 : Nat) (v1 : Int32) (v2 : Int32) (v4 : Int32) (M : Mem) (r : (Int32 × Mem)) (hf : f_X12_hasLeafOf_48 k5 v0 v1 v2 v4 M = some r) : G mi_X12_hasLeafOf 2 (oI r.1) r.2 48 [some (aR v0), some (aI v1), some (aI v2), none, some (aI v4)] [] M 0 0 := by
  unfold f_X12_hasLeafOf_48 at hf
  refine g_iconst (pc' := 49) (0 : Int32) dX12_hasLeafOf_48 rfl (by decide) ?_
  exact s_X12_hasLeafOf_49 k5 hk5 v0 v1 v2 v4 (0 : Int32) M _ hf
theorem s_X12_hasLeafOf_44 (k5 : Nat → Int32 → Int32 → Int32 → Int32 → Mem → Option (Int32 × Mem)) (hk5 : ∀ (v0 : Nat) (v1 : Int32) (v2 : Int32) (v3 : Int32) (v4 : Int32) (M : Mem) (r : (Int32 × Mem)), k5 v0 v1 v2 v3 v4 M = some r → G mi_X12_hasLeafOf 2 (oI r.1) r.2 5 [some (aR v0), some (aI v1), some (aI v2), some (aI v3), some (aI v4)] [] M 0 0) (v0 : Nat) (v1 : Int32) (v2 : Int32) (v4 : Int32) (M : Mem) (r : (Int32 × Mem)) (hf : f_X12_hasLeafOf_44 k5 v0 v1 v2 v4 M = some r) : G mi_X12_hasLeafOf 2 (oI r.1) r.2 44 [some (aR v0), some (aI v1), some (aI v2), none, some (aI v4)] [] M 0 0 := by
  unfold f_X12_hasLeafOf_44 at hf
  refine g_iconst (pc' := 45) (1 : Int32) dX12_hasLeafOf_44 rfl (by decide) ?_
  refine g_goto (pc' := 49) dX12_hasLeafOf_45 (by decide) ?_
  exact s_X12_hasLeafOf_49 k5 hk5 v0 v1 v2 v4 (1 : Int32) M _ hf
theorem s_X12_hasLeafOf_5 : ∀ (n : Nat) (v0 : Nat) (v1 : Int32) (v2 : Int32) (v3 : Int32) (v4 : Int32) (M : Mem) (r : (Int32 × Mem)), f_X12_hasLeafOf_5 n v0 v1 v2 v3 v4 M = some r → G mi_X12_hasLeafOf 2 (oI r.1) r.2 5 [some (aR v0), some (aI v1), some (aI v2), some (aI v3), some (aI v4)] [] M 0 0 := by
  intro n
  induction n with
  | zero => intro v0 v1 v2 v3 v4 M r hf; cases hf
  | succ n ih =>
    intro v0 v1 v2 v3 v4 M r hf
    unfold f_X12_hasLeafOf_5 at hf
    refine g_iload (pc' := 7) dX12_hasLeafOf_5 rfl rfl ?_
    refine g_aload_n (pc' := 8) dX12_hasLeafOf_7 rfl rfl ?_
    obtain ⟨h1, hf⟩ := chk_s hf
    refine g_getR (pc' := 11) 12 24 rfl rfl (by decide) inX12 (by decide) rfl rfl q_136 dX12_hasLeafOf_8 rfl h1 ?_
    refine g_iconst (pc' := 12) (0 : Int32) dX12_hasLeafOf_11 rfl (by decide) ?_
    obtain ⟨h2, hf⟩ := chk_s hf
    obtain ⟨b3, hf⟩ := chk_s hf
    refine g_iald (pc' := 13) dX12_hasLeafOf_12 rfl h2 (inB_in b3) ?_
    refine g_icmp_ge (pc' := 16) 56 dX12_hasLeafOf_13 rfl (by decide) (fun c4 => ?_) (fun c4 => ?_)
    · have hf := ite_t c4 hf
      refine g_iload_n (pc' := 57) dX12_hasLeafOf_56 rfl rfl ?_
      obtain ⟨hz, hf⟩ := chk_s hf
      cases hf
      exact g_zreturn dX12_hasLeafOf_57 rfl (zB_ok hz) (Nat.le_of_ble_eq_true rfl) (Nat.le_of_ble_eq_true rfl)
    · have hf := ite_f c4 hf
      refine g_iload_n (pc' := 17) dX12_hasLeafOf_16 rfl rfl ?_
      refine g_if_ne (pc' := 20) 44 dX12_hasLeafOf_17 rfl (by decide) (fun c5 => ?_) (fun c5 => ?_)
      · have hf := ite_f c5 hf
        refine g_mask [true, true, true, false, true] rfl ?_
        exact s_X12_hasLeafOf_44 (f_X12_hasLeafOf_5 n) ih v0 v1 v2 v4 M _ hf
      · have hf := ite_t c5 hf
        refine g_iload_n (pc' := 21) dX12_hasLeafOf_20 rfl rfl ?_
        refine g_iload (pc' := 23) dX12_hasLeafOf_21 rfl rfl ?_
        obtain ⟨r7, M6, e7, hf⟩ := bnd_some hf
        refine g_callSi (pc' := 26) (k' := 0) (u' := 0) (fr2 := 1) (As := [aI v2, aI v4]) (st := []) cf_X12_isOf q_885 (by omega) dX12_hasLeafOf_23 rfl rfl rfl (Nat.le_of_ble_eq_true rfl) (Or.inl rfl) (Nat.le_refl _) (Nat.le_refl _) (Nat.le_refl _) (Nat.le_refl _) (s_X12_isOf v2 v4 M _ e7) ?_
        refine g_if_eq (pc' := 29) 48 dX12_hasLeafOf_26 rfl (by decide) (fun c8 => ?_) (fun c8 => ?_)
        · have hf := ite_t c8 hf
          refine g_mask [true, true, true, false, true] rfl ?_
          refine g_widen (k' := 0) (u' := 0) (by omega) (by omega) ?_
          exact s_X12_hasLeafOf_48 (f_X12_hasLeafOf_5 n) ih v0 v1 v2 v4 M6 _ hf
        · have hf := ite_f c8 hf
          refine g_aload_n (pc' := 30) dX12_hasLeafOf_29 rfl rfl ?_
          refine g_aload_n (pc' := 31) dX12_hasLeafOf_30 rfl rfl ?_
          obtain ⟨h9, hf⟩ := chk_s hf
          refine g_getR (pc' := 34) 12 25 rfl rfl (by decide) inX12 (by decide) rfl rfl q_137 dX12_hasLeafOf_31 rfl h9 ?_
          refine g_iload (pc' := 36) dX12_hasLeafOf_34 rfl rfl ?_
          obtain ⟨h10, hf⟩ := chk_s hf
          obtain ⟨b11, hf⟩ := chk_s hf
          refine g_iald (pc' := 37) dX12_hasLeafOf_36 rfl h10 (inB_in b11) ?_
          refine g_iload_n (pc' := 38) dX12_hasLeafOf_37 rfl rfl ?_
          obtain ⟨r13, M12, e13, hf⟩ := bnd_some hf
          refine g_callVi (pc' := 41) (k' := 0) (u' := 0) (fr2 := 1) (As := [aI (mI M6 (mR M6 v0 25) v4.toNatClampNeg), aI v1]) (b := v0) (st := []) cf_X12_isInside q_686 (by omega) (ci := 12) rfl rfl (by decide) dX12_hasLeafOf_38 rfl rfl rfl (Nat.le_of_ble_eq_true rfl) (Or.inl rfl) (Nat.le_refl _) (Nat.le_refl _) (Nat.le_refl _) (Nat.le_refl _) h9 (s_X12_isInside v0 (mI M6 (mR M6 v0 25) v4.toNatClampNeg) v1 M6 _ e13) ?_
          refine g_if_eq (pc' := 44) 48 dX12_hasLeafOf_41 rfl (by decide) (fun c14 => ?_) (fun c14 => ?_)
          · have hf := ite_t c14 hf
            refine g_mask [true, true, true, false, true] rfl ?_
            refine g_widen (k' := 0) (u' := 0) (by omega) (by omega) ?_
            exact s_X12_hasLeafOf_48 (f_X12_hasLeafOf_5 n) ih v0 v1 v2 v4 M12 _ hf
          · have hf := ite_f c14 hf
            refine g_mask [true, true, true, false, true] rfl ?_
            refine g_widen (k' := 0) (u' := 0) (by omega) (by omega) ?_
            exact s_X12_hasLeafOf_44 (f_X12_hasLeafOf_5 n) ih v0 v1 v2 v4 M12 _ hf
theorem s_X12_hasLeafOf (v0 : Nat) (v1 : Int32) (v2 : Int32) (M : Mem) (r : (Int32 × Mem)) (hf : f_X12_hasLeafOf v0 v1 v2 M = some r) : Sem mi_X12_hasLeafOf (2) [aR v0, aI v1, aI v2] M (oI r.1) r.2 := by
  unfold f_X12_hasLeafOf at hf
  refine sem_of (by decide) rfl rfl rfl (Nat.le_of_ble_eq_true rfl) (lv := [some (aR v0), some (aI v1), some (aI v2), none, none]) rfl ?_
  refine g_iconst (pc' := 1) (0 : Int32) dX12_hasLeafOf_0 rfl (by decide) ?_
  refine g_istore_n (pc' := 2) (lv' := [some (aR v0), some (aI v1), some (aI v2), some (aI (0 : Int32)), none]) dX12_hasLeafOf_1 rfl rfl (by decide) rfl ?_
  refine g_iconst (pc' := 3) (0 : Int32) dX12_hasLeafOf_2 rfl (by decide) ?_
  refine g_istore (pc' := 5) (lv' := [some (aR v0), some (aI v1), some (aI v2), some (aI (0 : Int32)), some (aI (0 : Int32))]) dX12_hasLeafOf_3 rfl rfl (by decide) rfl ?_
  exact s_X12_hasLeafOf_5 FUEL v0 v1 v2 (0 : Int32) (0 : Int32) M _ hf
def f_X12_coverNow_94 (k4 : Nat → Int32 → Int32 → Mem → Option (Int32 × Mem)) (v0 : Nat) (v1 : Int32) (v2 : Int32) (M : Mem) : Option (Int32 × Mem) :=
  k4 v0 v1 (v2 + 1) M
def f_X12_coverNow_88 (k4 : Nat → Int32 → Int32 → Mem → Option (Int32 × Mem)) (v0 : Nat) (v1 : Int32) (v2 : Int32) (v3 : Int32) (M : Mem) : Option (Int32 × Mem) :=
  if v3 = 0 then
    f_X12_coverNow_94 k4 v0 v1 v2 M
  else
    f_X12_coverNow_94 k4 v0 v2 v2 M
def f_X12_coverNow_81 (k4 : Nat → Int32 → Int32 → Mem → Option (Int32 × Mem)) (k41 : Nat → Int32 → Int32 → Int32 → Int32 → Mem → Option (Int32 × Mem)) (v0 : Nat) (v1 : Int32) (v2 : Int32) (v4 : Int32) (w0 : Int32) (M : Mem) : Option (Int32 × Mem) :=
  k41 v0 v1 v2 w0 (v4 + 1) M
def f_X12_coverNow_76 (k4 : Nat → Int32 → Int32 → Mem → Option (Int32 × Mem)) (k41 : Nat → Int32 → Int32 → Int32 → Int32 → Mem → Option (Int32 × Mem)) (v0 : Nat) (v1 : Int32) (v2 : Int32) (v4 : Int32) (M : Mem) : Option (Int32 × Mem) :=
  f_X12_coverNow_81 k4 k41 v0 v1 v2 v4 (1 : Int32) M
def f_X12_coverNow_41 (k4 : Nat → Int32 → Int32 → Mem → Option (Int32 × Mem)) : Nat → Nat → Int32 → Int32 → Int32 → Int32 → Mem → Option (Int32 × Mem)
  | 0, _, _, _, _, _, _ => none
  | n + 1, v0, v1, v2, v3, v4, M =>
    if mK M v0 = 13 then
      if mK M (mR M v0 23) = 21 then
        if inB (0 : Int32) (mN M (mR M v0 23)) = true then
          if (mI M (mR M v0 23) (0 : Int32).toNatClampNeg) ≤ v4 then
            f_X12_coverNow_88 k4 v0 v1 v2 v3 M
          else
            if v3 = 0 then
              f_X12_coverNow_88 k4 v0 v1 v2 v3 M
            else
              if mK M (mR M v0 15) = 21 then
                if inB v4 (mN M (mR M v0 15)) = true then
                  if (mI M (mR M v0 15) v4.toNatClampNeg) = 0 then
                    f_X12_coverNow_76 k4 (f_X12_coverNow_41 k4 n) v0 v1 v2 v4 M
                  else
                    bnd (f_X12_hasLeafOf v0 v4 v2 M) fun r10 M9 =>
                    if r10 = 0 then
                      f_X12_coverNow_81 k4 (f_X12_coverNow_41 k4 n) v0 v1 v2 v4 (0 : Int32) M9
                    else
                      f_X12_coverNow_76 k4 (f_X12_coverNow_41 k4 n) v0 v1 v2 v4 M9
                else none
              else none
        else none
      else none
    else none
def f_X12_coverNow_37 (k4 : Nat → Int32 → Int32 → Mem → Option (Int32 × Mem)) (v0 : Nat) (v1 : Int32) (v2 : Int32) (w0 : Int32) (M : Mem) : Option (Int32 × Mem) :=
  f_X12_coverNow_41 k4 FUEL v0 v1 v2 w0 (0 : Int32) M
def f_X12_coverNow_32 (k4 : Nat → Int32 → Int32 → Mem → Option (Int32 × Mem)) (v0 : Nat) (v1 : Int32) (v2 : Int32) (M : Mem) : Option (Int32 × Mem) :=
  f_X12_coverNow_37 k4 v0 v1 v2 (1 : Int32) M
def f_X12_coverNow_4 : Nat → Nat → Int32 → Int32 → Mem → Option (Int32 × Mem)
  | 0, _, _, _, _ => none
  | n + 1, v0, v1, v2, M =>
    if mK M v0 = 13 then
      if mK M (mR M v0 24) = 21 then
        if inB (0 : Int32) (mN M (mR M v0 24)) = true then
          if ((1 : Int32) <<< ((mI M (mR M v0 24) (0 : Int32).toNatClampNeg) &&& 31)) ≤ v2 then
            some (v1, M)
          else
            if v1 = (-1 : Int32) then
              f_X12_coverNow_32 (f_X12_coverNow_4 n) v0 v1 v2 M
            else
              bnd (f_X12_bitsOf v2 M) fun r7 M6 =>
              bnd (f_X12_bitsOf v1 M6) fun r9 M8 =>
              if r9 ≤ r7 then
                f_X12_coverNow_37 (f_X12_coverNow_4 n) v0 v1 v2 (0 : Int32) M8
              else
                f_X12_coverNow_32 (f_X12_coverNow_4 n) v0 v1 v2 M8
        else none
      else none
    else none
def f_X12_coverNow (v0 : Nat) (M : Mem) : Option (Int32 × Mem) :=
  f_X12_coverNow_4 FUEL v0 (-1 : Int32) (0 : Int32) M
theorem s_X12_coverNow_94 (k4 : Nat → Int32 → Int32 → Mem → Option (Int32 × Mem)) (hk4 : ∀ (v0 : Nat) (v1 : Int32) (v2 : Int32) (M : Mem) (r : (Int32 × Mem)), k4 v0 v1 v2 M = some r → G mi_X12_coverNow 3 (oI r.1) r.2 4 [some (aR v0), some (aI v1), some (aI v2), none, none] [] M 0 0) (v0 : Nat) (v1 : Int32) (v2 : Int32) (M : Mem) (r : (Int32 × Mem)) (hf : f_X12_coverNow_94 k4 v0 v1 v2 M = some r) : G mi_X12_coverNow 3 (oI r.1) r.2 94 [some (aR v0), some (aI v1), some (aI v2), none, none] [] M 0 0 := by
  unfold f_X12_coverNow_94 at hf
  refine g_iinc (pc' := 97) (lv' := [some (aR v0), some (aI v1), some (aI (v2 + 1)), none, none]) (v2 + 1) dX12_coverNow_94 rfl rfl (by rfl) rfl (by decide) rfl ?_
  refine g_goto (pc' := 4) dX12_coverNow_97 (by decide) ?_
  exact hk4 v0 v1 (v2 + 1) M _ hf
theorem s_X12_coverNow_88 (k4 : Nat → Int32 → Int32 → Mem → Option (Int32 × Mem)) (hk4 : ∀ (v0 : Nat) (v1 : Int32) (v2 : Int32) (M : Mem) (r : (Int32 × Mem)), k4 v0 v1 v2 M = some r → G mi_X12_coverNow 3 (oI r.1) r.2 4 [some (aR v0), some (aI v1), some (aI v2), none, none] [] M 0 0) (v0 : Nat) (v1 : Int32) (v2 : Int32) (v3 : Int32) (M : Mem) (r : (Int32 × Mem)) (hf : f_X12_coverNow_88 k4 v0 v1 v2 v3 M = some r) : G mi_X12_coverNow 3 (oI r.1) r.2 88 [some (aR v0), some (aI v1), some (aI v2), some (aI v3), none] [] M 0 0 := by
  unfold f_X12_coverNow_88 at hf
  refine g_iload_n (pc' := 89) dX12_coverNow_88 rfl rfl ?_
  refine g_if_eq (pc' := 92) 94 dX12_coverNow_89 rfl (by decide) (fun c1 => ?_) (fun c1 => ?_)
  · have hf := ite_t c1 hf
    refine g_mask [true, true, true, false, true] rfl ?_
    exact s_X12_coverNow_94 k4 hk4 v0 v1 v2 M _ hf
  · have hf := ite_f c1 hf
    refine g_iload_n (pc' := 93) dX12_coverNow_92 rfl rfl ?_
    refine g_istore_n (pc' := 94) (lv' := [some (aR v0), some (aI v2), some (aI v2), some (aI v3), none]) dX12_coverNow_93 rfl rfl (by decide) rfl ?_
    refine g_mask [true, true, true, false, true] rfl ?_
    exact s_X12_coverNow_94 k4 hk4 v0 v2 v2 M _ hf
theorem s_X12_coverNow_81 (k4 : Nat → Int32 → Int32 → Mem → Option (Int32 × Mem)) (k41 : Nat → Int32 → Int32 → Int32 → Int32 → Mem → Option (Int32 × Mem)) (hk4 : ∀ (v0 : Nat) (v1 : Int32) (v2 : Int32) (M : Mem) (r : (Int32 × Mem)), k4 v0 v1 v2 M = some r → G mi_X12_coverNow 3 (oI r.1) r.2 4 [some (aR v0), some (aI v1), some (aI v2), none, none] [] M 0 0) (hk41 : ∀ (v0 : Nat) (v1 : Int32) (v2 : Int32) (v3 : Int32) (v4 : Int32) (M : Mem) (r : (Int32 × Mem)), k41 v0 v1 v2 v3 v4 M = some r → G mi_X12_coverNow 3 (oI r.1) r.2 41 [some (aR v0), some (aI v1), some (aI v2), some (aI v3), some (aI v4)] [] M 0 0) (v0 : Nat) (v1 : Int32) (v2 : Int32) (v4 : Int32) (w0 : Int32) (M : Mem) (r : (Int32 × Mem)) (hf : f_X12_coverNow_81 k4 k41 v0 v1 v2 v4 w0 M = some r) : G mi_X12_coverNow 3 (oI r.1) r.2 81 [some (aR v0), some (aI v1), some (aI v2), none, some (aI v4)] [aI w0] M 0 0 := by
  unfold f_X12_coverNow_81 at hf
  refine g_istore_n (pc' := 82) (lv' := [some (aR v0), some (aI v1), some (aI v2), some (aI w0), some (aI v4)]) dX12_coverNow_81 rfl rfl (by decide) rfl ?_
  refine g_iinc (pc' := 85) (lv' := [some (aR v0), some (aI v1), some (aI v2), some (aI w0), some (aI (v4 + 1))]) (v4 + 1) dX12_coverNow_82 rfl rfl (by rfl) rfl (by decide) rfl ?_
  refine g_goto (pc' := 41) dX12_coverNow_85 (by decide) ?_
  exact hk41 v0 v1 v2 w0 (v4 + 1) M _ hf
theorem s_X12_coverNow_76 (k4 : Nat → Int32 → Int32 → Mem → Option (Int32 × Mem)) (k41 : Nat → Int32 → Int32 → Int32 → Int32 → Mem → Option (Int32 × Mem)) (hk4 : ∀ (v0 : Nat) (v1 : Int32) (v2 : Int32) (M : Mem) (r : (Int32 × Mem)), k4 v0 v1 v2 M = some r → G mi_X12_coverNow 3 (oI r.1) r.2 4 [some (aR v0), some (aI v1), some (aI v2), none, none] [] M 0 0) (hk41 : ∀ (v0 : Nat) (v1 : Int32) (v2 : Int32) (v3 : Int32) (v4 : Int32) (M : Mem) (r : (Int32 × Mem)), k41 v0 v1 v2 v3 v4 M = some r → G mi_X12_coverNow 3 (oI r.1) r.2 41 [some (aR v0), some (aI v1), some (aI v2), some (aI v3), some (aI v4)] [] M 0 0) (v0 : Nat) (v1 : Int32) (v2 : Int32) (v4 : Int32) (M : Mem) (r : (Int32 × Mem)) (hf : f_X12_coverNow_76 k4 k41 v0 v1 v2 v4 M = some r) : G mi_X12_coverNow 3 (oI r.1) r.2 76 [some (aR v0), some (aI v1), some (aI v2), none, some (aI v4)] [] M 0 0 := by
  unfold f_X12_coverNow_76 at hf
  refine g_iconst (pc' := 77) (1 : Int32) dX12_coverNow_76 rfl (by decide) ?_
  refine g_goto (pc' := 81) dX12_coverNow_77 (by decide) ?_
  exact s_X12_coverNow_81 k4 k41 hk4 hk41 v0 v1 v2 v4 (1 : Int32) M _ hf
theorem s_X12_coverNow_41 (k4 : Nat → Int32 → Int32 → Mem → Option (Int32 × Mem)) (hk4 : ∀ (v0 : Nat) (v1 : Int32) (v2 : Int32) (M : Mem) (r : (Int32 × Mem)), k4 v0 v1 v2 M = some r → G mi_X12_coverNow 3 (oI r.1) r.2 4 [some (aR v0), some (aI v1), some (aI v2), none, none] [] M 0 0) : ∀ (n : Nat) (v0 : Nat) (v1 : Int32) (v2 : Int32) (v3 : Int32) (v4 : Int32) (M : Mem) (r : (Int32 × Mem)), f_X12_coverNow_41 k4 n v0 v1 v2 v3 v4 M = some r → G mi_X12_coverNow 3 (oI r.1) r.2 41 [some (aR v0), some (aI v1), some (aI v2), some (aI v3), some (aI v4)] [] M 0 0 := by
  intro n
  induction n with
  | zero => intro v0 v1 v2 v3 v4 M r hf; cases hf
  | succ n ih =>
    intro v0 v1 v2 v3 v4 M r hf
    unfold f_X12_coverNow_41 at hf
    refine g_iload (pc' := 43) dX12_coverNow_41 rfl rfl ?_
    refine g_aload_n (pc' := 44) dX12_coverNow_43 rfl rfl ?_
    obtain ⟨h1, hf⟩ := chk_s hf
    refine g_getR (pc' := 47) 12 23 rfl rfl (by decide) inX12 (by decide) rfl rfl q_135 dX12_coverNow_44 rfl h1 ?_
    refine g_iconst (pc' := 48) (0 : Int32) dX12_coverNow_47 rfl (by decide) ?_
    obtain ⟨h2, hf⟩ := chk_s hf
    obtain ⟨b3, hf⟩ := chk_s hf
    refine g_iald (pc' := 49) dX12_coverNow_48 rfl h2 (inB_in b3) ?_
    refine g_icmp_ge (pc' := 52) 88 dX12_coverNow_49 rfl (by decide) (fun c4 => ?_) (fun c4 => ?_)
    · have hf := ite_t c4 hf
      refine g_mask [true, true, true, true, false] rfl ?_
      exact s_X12_coverNow_88 k4 hk4 v0 v1 v2 v3 M _ hf
    · have hf := ite_f c4 hf
      refine g_iload_n (pc' := 53) dX12_coverNow_52 rfl rfl ?_
      refine g_if_eq (pc' := 56) 88 dX12_coverNow_53 rfl (by decide) (fun c5 => ?_) (fun c5 => ?_)
      · have hf := ite_t c5 hf
        refine g_mask [true, true, true, true, false] rfl ?_
        exact s_X12_coverNow_88 k4 hk4 v0 v1 v2 v3 M _ hf
      · have hf := ite_f c5 hf
        refine g_aload_n (pc' := 57) dX12_coverNow_56 rfl rfl ?_
        refine g_getR (pc' := 60) 12 15 rfl rfl (by decide) inX12 (by decide) rfl rfl q_127 dX12_coverNow_57 rfl h1 ?_
        refine g_iload (pc' := 62) dX12_coverNow_60 rfl rfl ?_
        obtain ⟨h6, hf⟩ := chk_s hf
        obtain ⟨b7, hf⟩ := chk_s hf
        refine g_iald (pc' := 63) dX12_coverNow_62 rfl h6 (inB_in b7) ?_
        refine g_if_eq (pc' := 66) 76 dX12_coverNow_63 rfl (by decide) (fun c8 => ?_) (fun c8 => ?_)
        · have hf := ite_t c8 hf
          refine g_mask [true, true, true, false, true] rfl ?_
          exact s_X12_coverNow_76 k4 (f_X12_coverNow_41 k4 n) hk4 ih v0 v1 v2 v4 M _ hf
        · have hf := ite_f c8 hf
          refine g_aload_n (pc' := 67) dX12_coverNow_66 rfl rfl ?_
          refine g_iload (pc' := 69) dX12_coverNow_67 rfl rfl ?_
          refine g_iload_n (pc' := 70) dX12_coverNow_69 rfl rfl ?_
          obtain ⟨r10, M9, e10, hf⟩ := bnd_some hf
          refine g_callVi (pc' := 73) (k' := 0) (u' := 0) (fr2 := 2) (As := [aI v4, aI v2]) (b := v0) (st := []) cf_X12_hasLeafOf q_881 (by omega) (ci := 12) rfl rfl (by decide) dX12_coverNow_70 rfl rfl rfl (Nat.le_of_ble_eq_true rfl) (Or.inl rfl) (Nat.le_refl _) (Nat.le_refl _) (Nat.le_refl _) (Nat.le_refl _) h1 (s_X12_hasLeafOf v0 v4 v2 M _ e10) ?_
          refine g_if_eq (pc' := 76) 80 dX12_coverNow_73 rfl (by decide) (fun c11 => ?_) (fun c11 => ?_)
          · have hf := ite_t c11 hf
            refine g_iconst (pc' := 81) (0 : Int32) dX12_coverNow_80 rfl (by decide) ?_
            refine g_mask [true, true, true, false, true] rfl ?_
            refine g_widen (k' := 0) (u' := 0) (by omega) (by omega) ?_
            exact s_X12_coverNow_81 k4 (f_X12_coverNow_41 k4 n) hk4 ih v0 v1 v2 v4 (0 : Int32) M9 _ hf
          · have hf := ite_f c11 hf
            refine g_mask [true, true, true, false, true] rfl ?_
            refine g_widen (k' := 0) (u' := 0) (by omega) (by omega) ?_
            exact s_X12_coverNow_76 k4 (f_X12_coverNow_41 k4 n) hk4 ih v0 v1 v2 v4 M9 _ hf
theorem s_X12_coverNow_37 (k4 : Nat → Int32 → Int32 → Mem → Option (Int32 × Mem)) (hk4 : ∀ (v0 : Nat) (v1 : Int32) (v2 : Int32) (M : Mem) (r : (Int32 × Mem)), k4 v0 v1 v2 M = some r → G mi_X12_coverNow 3 (oI r.1) r.2 4 [some (aR v0), some (aI v1), some (aI v2), none, none] [] M 0 0) (v0 : Nat) (v1 : Int32) (v2 : Int32) (w0 : Int32) (M : Mem) (r : (Int32 × Mem)) (hf : f_X12_coverNow_37 k4 v0 v1 v2 w0 M = some r) : G mi_X12_coverNow 3 (oI r.1) r.2 37 [some (aR v0), some (aI v1), some (aI v2), none, none] [aI w0] M 0 0 := by
  unfold f_X12_coverNow_37 at hf
  refine g_istore_n (pc' := 38) (lv' := [some (aR v0), some (aI v1), some (aI v2), some (aI w0), none]) dX12_coverNow_37 rfl rfl (by decide) rfl ?_
  refine g_iconst (pc' := 39) (0 : Int32) dX12_coverNow_38 rfl (by decide) ?_
  refine g_istore (pc' := 41) (lv' := [some (aR v0), some (aI v1), some (aI v2), some (aI w0), some (aI (0 : Int32))]) dX12_coverNow_39 rfl rfl (by decide) rfl ?_
  exact s_X12_coverNow_41 k4 hk4 FUEL v0 v1 v2 w0 (0 : Int32) M _ hf
theorem s_X12_coverNow_32 (k4 : Nat → Int32 → Int32 → Mem → Option (Int32 × Mem)) (hk4 : ∀ (v0 : Nat) (v1 : Int32) (v2 : Int32) (M : Mem) (r : (Int32 × Mem)), k4 v0 v1 v2 M = some r → G mi_X12_coverNow 3 (oI r.1) r.2 4 [some (aR v0), some (aI v1), some (aI v2), none, none] [] M 0 0) (v0 : Nat) (v1 : Int32) (v2 : Int32) (M : Mem) (r : (Int32 × Mem)) (hf : f_X12_coverNow_32 k4 v0 v1 v2 M = some r) : G mi_X12_coverNow 3 (oI r.1) r.2 32 [some (aR v0), some (aI v1), some (aI v2), none, none] [] M 0 0 := by
  unfold f_X12_coverNow_32 at hf
  refine g_iconst (pc' := 33) (1 : Int32) dX12_coverNow_32 rfl (by decide) ?_
  refine g_goto (pc' := 37) dX12_coverNow_33 (by decide) ?_
  exact s_X12_coverNow_37 k4 hk4 v0 v1 v2 (1 : Int32) M _ hf
theorem s_X12_coverNow_4 : ∀ (n : Nat) (v0 : Nat) (v1 : Int32) (v2 : Int32) (M : Mem) (r : (Int32 × Mem)), f_X12_coverNow_4 n v0 v1 v2 M = some r → G mi_X12_coverNow 3 (oI r.1) r.2 4 [some (aR v0), some (aI v1), some (aI v2), none, none] [] M 0 0 := by
  intro n
  induction n with
  | zero => intro v0 v1 v2 M r hf; cases hf
  | succ n ih =>
    intro v0 v1 v2 M r hf
    unfold f_X12_coverNow_4 at hf
    refine g_iload_n (pc' := 5) dX12_coverNow_4 rfl rfl ?_
    refine g_iconst (pc' := 6) (1 : Int32) dX12_coverNow_5 rfl (by decide) ?_
    refine g_aload_n (pc' := 7) dX12_coverNow_6 rfl rfl ?_
    obtain ⟨h1, hf⟩ := chk_s hf
    refine g_getR (pc' := 10) 12 24 rfl rfl (by decide) inX12 (by decide) rfl rfl q_136 dX12_coverNow_7 rfl h1 ?_
    refine g_iconst (pc' := 11) (0 : Int32) dX12_coverNow_10 rfl (by decide) ?_
    obtain ⟨h2, hf⟩ := chk_s hf
    obtain ⟨b3, hf⟩ := chk_s hf
    refine g_iald (pc' := 12) dX12_coverNow_11 rfl h2 (inB_in b3) ?_
    refine g_ishl (pc' := 13) dX12_coverNow_12 rfl ?_
    refine g_icmp_ge (pc' := 16) 100 dX12_coverNow_13 rfl (by decide) (fun c4 => ?_) (fun c4 => ?_)
    · have hf := ite_t c4 hf
      refine g_iload_n (pc' := 101) dX12_coverNow_100 rfl rfl ?_
      cases hf
      exact g_ireturn dX12_coverNow_101 rfl (Nat.le_of_ble_eq_true rfl) (Nat.le_of_ble_eq_true rfl)
    · have hf := ite_f c4 hf
      refine g_iload_n (pc' := 17) dX12_coverNow_16 rfl rfl ?_
      refine g_iconst (pc' := 18) (-1 : Int32) dX12_coverNow_17 rfl (by decide) ?_
      refine g_icmp_eq (pc' := 21) 32 dX12_coverNow_18 rfl (by decide) (fun c5 => ?_) (fun c5 => ?_)
      · have hf := ite_t c5 hf
        exact s_X12_coverNow_32 (f_X12_coverNow_4 n) ih v0 v1 v2 M _ hf
      · have hf := ite_f c5 hf
        refine g_iload_n (pc' := 22) dX12_coverNow_21 rfl rfl ?_
        obtain ⟨r7, M6, e7, hf⟩ := bnd_some hf
        refine g_callSi (pc' := 25) (k' := 0) (u' := 0) (fr2 := 1) (As := [aI v2]) (st := []) cf_X12_bitsOf q_878 (by omega) dX12_coverNow_22 rfl rfl rfl (Nat.le_of_ble_eq_true rfl) (Or.inl rfl) (Nat.le_refl _) (Nat.le_refl _) (Nat.le_refl _) (Nat.le_refl _) (s_X12_bitsOf v2 M _ e7) ?_
        refine g_iload_n (pc' := 26) dX12_coverNow_25 rfl rfl ?_
        obtain ⟨r9, M8, e9, hf⟩ := bnd_some hf
        refine g_callSi (pc' := 29) (k' := 0) (u' := 0) (fr2 := 1) (As := [aI v1]) (st := [aI r7]) cf_X12_bitsOf q_878 (by omega) dX12_coverNow_26 rfl rfl rfl (Nat.le_of_ble_eq_true rfl) (Or.inl rfl) (Nat.le_refl _) (Nat.le_refl _) (Nat.le_refl _) (Nat.le_refl _) (s_X12_bitsOf v1 M6 _ e9) ?_
        refine g_icmp_ge (pc' := 32) 36 dX12_coverNow_29 rfl (by decide) (fun c10 => ?_) (fun c10 => ?_)
        · have hf := ite_t c10 hf
          refine g_iconst (pc' := 37) (0 : Int32) dX12_coverNow_36 rfl (by decide) ?_
          refine g_widen (k' := 0) (u' := 0) (by omega) (by omega) ?_
          exact s_X12_coverNow_37 (f_X12_coverNow_4 n) ih v0 v1 v2 (0 : Int32) M8 _ hf
        · have hf := ite_f c10 hf
          refine g_widen (k' := 0) (u' := 0) (by omega) (by omega) ?_
          exact s_X12_coverNow_32 (f_X12_coverNow_4 n) ih v0 v1 v2 M8 _ hf
theorem s_X12_coverNow (v0 : Nat) (M : Mem) (r : (Int32 × Mem)) (hf : f_X12_coverNow v0 M = some r) : Sem mi_X12_coverNow (3) [aR v0] M (oI r.1) r.2 := by
  unfold f_X12_coverNow at hf
  refine sem_of (by decide) rfl rfl rfl (Nat.le_of_ble_eq_true rfl) (lv := [some (aR v0), none, none, none, none]) rfl ?_
  refine g_iconst (pc' := 1) (-1 : Int32) dX12_coverNow_0 rfl (by decide) ?_
  refine g_istore_n (pc' := 2) (lv' := [some (aR v0), some (aI (-1 : Int32)), none, none, none]) dX12_coverNow_1 rfl rfl (by decide) rfl ?_
  refine g_iconst (pc' := 3) (0 : Int32) dX12_coverNow_2 rfl (by decide) ?_
  refine g_istore_n (pc' := 4) (lv' := [some (aR v0), some (aI (-1 : Int32)), some (aI (0 : Int32)), none, none]) dX12_coverNow_3 rfl rfl (by decide) rfl ?_
  exact s_X12_coverNow_4 FUEL v0 (-1 : Int32) (0 : Int32) M _ hf
def f_X12_greatest_4 : Nat → Nat → Nat → Int32 → Int32 → Mem → Option (Int32 × Mem)
  | 0, _, _, _, _, _ => none
  | n + 1, v0, v1, v2, v3, M =>
    if mK M v0 = 13 then
      if mK M (mR M v0 23) = 21 then
        if inB (0 : Int32) (mN M (mR M v0 23)) = true then
          if (mI M (mR M v0 23) (0 : Int32).toNatClampNeg) ≤ v3 then
            some (v2, M)
          else
            if mK M v1 = 21 then
              if inB v3 (mN M v1) = true then
                f_X12_greatest_4 n v0 v1 (if v2 < (mI M v1 v3.toNatClampNeg) then (mI M v1 v3.toNatClampNeg) else v2) (v3 + 1) M
              else none
            else none
        else none
      else none
    else none
def f_X12_greatest (v0 : Nat) (v1 : Nat) (M : Mem) : Option (Int32 × Mem) :=
  f_X12_greatest_4 FUEL v0 v1 (0 : Int32) (0 : Int32) M
theorem s_X12_greatest_4 : ∀ (n : Nat) (v0 : Nat) (v1 : Nat) (v2 : Int32) (v3 : Int32) (M : Mem) (r : (Int32 × Mem)), f_X12_greatest_4 n v0 v1 v2 v3 M = some r → G mi_X12_greatest 1 (oI r.1) r.2 4 [some (aR v0), some (aR v1), some (aI v2), some (aI v3)] [] M 0 0 := by
  intro n
  induction n with
  | zero => intro v0 v1 v2 v3 M r hf; cases hf
  | succ n ih =>
    intro v0 v1 v2 v3 M r hf
    unfold f_X12_greatest_4 at hf
    refine g_iload_n (pc' := 5) dX12_greatest_4 rfl rfl ?_
    refine g_aload_n (pc' := 6) dX12_greatest_5 rfl rfl ?_
    obtain ⟨h1, hf⟩ := chk_s hf
    refine g_getR (pc' := 9) 12 23 rfl rfl (by decide) inX12 (by decide) rfl rfl q_135 dX12_greatest_6 rfl h1 ?_
    refine g_iconst (pc' := 10) (0 : Int32) dX12_greatest_9 rfl (by decide) ?_
    obtain ⟨h2, hf⟩ := chk_s hf
    obtain ⟨b3, hf⟩ := chk_s hf
    refine g_iald (pc' := 11) dX12_greatest_10 rfl h2 (inB_in b3) ?_
    refine g_icmp_ge (pc' := 14) 28 dX12_greatest_11 rfl (by decide) (fun c4 => ?_) (fun c4 => ?_)
    · have hf := ite_t c4 hf
      refine g_iload_n (pc' := 29) dX12_greatest_28 rfl rfl ?_
      cases hf
      exact g_ireturn dX12_greatest_29 rfl (Nat.le_of_ble_eq_true rfl) (Nat.le_of_ble_eq_true rfl)
    · have hf := ite_f c4 hf
      refine g_iload_n (pc' := 15) dX12_greatest_14 rfl rfl ?_
      refine g_aload_n (pc' := 16) dX12_greatest_15 rfl rfl ?_
      refine g_iload_n (pc' := 17) dX12_greatest_16 rfl rfl ?_
      obtain ⟨h5, hf⟩ := chk_s hf
      obtain ⟨b6, hf⟩ := chk_s hf
      refine g_iald (pc' := 18) dX12_greatest_17 rfl h5 (inB_in b6) ?_
      refine g_max (pc' := 21) q_873 q_810 wall_i_java_lang_Math q_811 (by omega) (Nat.le_of_ble_eq_true rfl) (Nat.le_of_ble_eq_true rfl) (Nat.le_of_ble_eq_true rfl) dX12_greatest_18 rfl ?_
      refine g_istore_n (pc' := 22) (lv' := [some (aR v0), some (aR v1), some (aI (if v2 < (mI M v1 v3.toNatClampNeg) then (mI M v1 v3.toNatClampNeg) else v2)), some (aI v3)]) dX12_greatest_21 rfl rfl (by decide) rfl ?_
      refine g_iinc (pc' := 25) (lv' := [some (aR v0), some (aR v1), some (aI (if v2 < (mI M v1 v3.toNatClampNeg) then (mI M v1 v3.toNatClampNeg) else v2)), some (aI (v3 + 1))]) (v3 + 1) dX12_greatest_22 rfl rfl (by rfl) rfl (by decide) rfl ?_
      refine g_goto (pc' := 4) dX12_greatest_25 (by decide) ?_
      exact ih v0 v1 (if v2 < (mI M v1 v3.toNatClampNeg) then (mI M v1 v3.toNatClampNeg) else v2) (v3 + 1) M _ hf
theorem s_X12_greatest (v0 : Nat) (v1 : Nat) (M : Mem) (r : (Int32 × Mem)) (hf : f_X12_greatest v0 v1 M = some r) : Sem mi_X12_greatest (1) [aR v0, aR v1] M (oI r.1) r.2 := by
  unfold f_X12_greatest at hf
  refine sem_of (by decide) rfl rfl rfl (Nat.le_of_ble_eq_true rfl) (lv := [some (aR v0), some (aR v1), none, none]) rfl ?_
  refine g_iconst (pc' := 1) (0 : Int32) dX12_greatest_0 rfl (by decide) ?_
  refine g_istore_n (pc' := 2) (lv' := [some (aR v0), some (aR v1), some (aI (0 : Int32)), none]) dX12_greatest_1 rfl rfl (by decide) rfl ?_
  refine g_iconst (pc' := 3) (0 : Int32) dX12_greatest_2 rfl (by decide) ?_
  refine g_istore_n (pc' := 4) (lv' := [some (aR v0), some (aR v1), some (aI (0 : Int32)), some (aI (0 : Int32))]) dX12_greatest_3 rfl rfl (by decide) rfl ?_
  exact s_X12_greatest_4 FUEL v0 v1 (0 : Int32) (0 : Int32) M _ hf
def f_X12_allEntries_4 : Nat → Nat → Int32 → Int32 → Mem → Option (Int32 × Mem)
  | 0, _, _, _, _ => none
  | n + 1, v0, v1, v2, M =>
    if mK M v0 = 13 then
      if mK M (mR M v0 24) = 21 then
        if inB (0 : Int32) (mN M (mR M v0 24)) = true then
          if (mI M (mR M v0 24) (0 : Int32).toNatClampNeg) ≤ v2 then
            some (v1, M)
          else
            if mK M (mR M v0 28) = 21 then
              if inB v2 (mN M (mR M v0 28)) = true then
                f_X12_allEntries_4 n v0 (v1 + (mI M (mR M v0 28) v2.toNatClampNeg)) (v2 + 1) M
              else none
            else none
        else none
      else none
    else none
def f_X12_allEntries (v0 : Nat) (M : Mem) : Option (Int32 × Mem) :=
  f_X12_allEntries_4 FUEL v0 (0 : Int32) (0 : Int32) M
theorem s_X12_allEntries_4 : ∀ (n : Nat) (v0 : Nat) (v1 : Int32) (v2 : Int32) (M : Mem) (r : (Int32 × Mem)), f_X12_allEntries_4 n v0 v1 v2 M = some r → G mi_X12_allEntries 1 (oI r.1) r.2 4 [some (aR v0), some (aI v1), some (aI v2)] [] M 0 0 := by
  intro n
  induction n with
  | zero => intro v0 v1 v2 M r hf; cases hf
  | succ n ih =>
    intro v0 v1 v2 M r hf
    unfold f_X12_allEntries_4 at hf
    refine g_iload_n (pc' := 5) dX12_allEntries_4 rfl rfl ?_
    refine g_aload_n (pc' := 6) dX12_allEntries_5 rfl rfl ?_
    obtain ⟨h1, hf⟩ := chk_s hf
    refine g_getR (pc' := 9) 12 24 rfl rfl (by decide) inX12 (by decide) rfl rfl q_136 dX12_allEntries_6 rfl h1 ?_
    refine g_iconst (pc' := 10) (0 : Int32) dX12_allEntries_9 rfl (by decide) ?_
    obtain ⟨h2, hf⟩ := chk_s hf
    obtain ⟨b3, hf⟩ := chk_s hf
    refine g_iald (pc' := 11) dX12_allEntries_10 rfl h2 (inB_in b3) ?_
    refine g_icmp_ge (pc' := 14) 29 dX12_allEntries_11 rfl (by decide) (fun c4 => ?_) (fun c4 => ?_)
    · have hf := ite_t c4 hf
      refine g_iload_n (pc' := 30) dX12_allEntries_29 rfl rfl ?_
      cases hf
      exact g_ireturn dX12_allEntries_30 rfl (Nat.le_of_ble_eq_true rfl) (Nat.le_of_ble_eq_true rfl)
    · have hf := ite_f c4 hf
      refine g_iload_n (pc' := 15) dX12_allEntries_14 rfl rfl ?_
      refine g_aload_n (pc' := 16) dX12_allEntries_15 rfl rfl ?_
      refine g_getR (pc' := 19) 12 28 rfl rfl (by decide) inX12 (by decide) rfl rfl q_139 dX12_allEntries_16 rfl h1 ?_
      refine g_iload_n (pc' := 20) dX12_allEntries_19 rfl rfl ?_
      obtain ⟨h5, hf⟩ := chk_s hf
      obtain ⟨b6, hf⟩ := chk_s hf
      refine g_iald (pc' := 21) dX12_allEntries_20 rfl h5 (inB_in b6) ?_
      refine g_iadd (pc' := 22) dX12_allEntries_21 rfl ?_
      refine g_istore_n (pc' := 23) (lv' := [some (aR v0), some (aI (v1 + (mI M (mR M v0 28) v2.toNatClampNeg))), some (aI v2)]) dX12_allEntries_22 rfl rfl (by decide) rfl ?_
      refine g_iinc (pc' := 26) (lv' := [some (aR v0), some (aI (v1 + (mI M (mR M v0 28) v2.toNatClampNeg))), some (aI (v2 + 1))]) (v2 + 1) dX12_allEntries_23 rfl rfl (by rfl) rfl (by decide) rfl ?_
      refine g_goto (pc' := 4) dX12_allEntries_26 (by decide) ?_
      exact ih v0 (v1 + (mI M (mR M v0 28) v2.toNatClampNeg)) (v2 + 1) M _ hf
theorem s_X12_allEntries (v0 : Nat) (M : Mem) (r : (Int32 × Mem)) (hf : f_X12_allEntries v0 M = some r) : Sem mi_X12_allEntries (1) [aR v0] M (oI r.1) r.2 := by
  unfold f_X12_allEntries at hf
  refine sem_of (by decide) rfl rfl rfl (Nat.le_of_ble_eq_true rfl) (lv := [some (aR v0), none, none]) rfl ?_
  refine g_iconst (pc' := 1) (0 : Int32) dX12_allEntries_0 rfl (by decide) ?_
  refine g_istore_n (pc' := 2) (lv' := [some (aR v0), some (aI (0 : Int32)), none]) dX12_allEntries_1 rfl rfl (by decide) rfl ?_
  refine g_iconst (pc' := 3) (0 : Int32) dX12_allEntries_2 rfl (by decide) ?_
  refine g_istore_n (pc' := 4) (lv' := [some (aR v0), some (aI (0 : Int32)), some (aI (0 : Int32))]) dX12_allEntries_3 rfl rfl (by decide) rfl ?_
  exact s_X12_allEntries_4 FUEL v0 (0 : Int32) (0 : Int32) M _ hf
def f_X12_count_204 (v0 : Nat) (v1 : Int32) (M : Mem) : Option (Int32 × Mem) :=
  if mK M v0 = 13 then
    if mK M (mR M v0 4) = 21 then
      if inB (v1 - (16 : Int32)) (mN M (mR M v0 4)) = true then
        some (mI M (mR M v0 4) (v1 - (16 : Int32)).toNatClampNeg, M)
      else none
    else none
  else none
def f_X12_count (v0 : Nat) (v1 : Int32) (M : Mem) : Option (Int32 × Mem) :=
  if mK M v0 = 13 then
    ap (sI M v0 2 (0 : Int32)) fun M2 =>
    if v1 = (0 : Int32) then
      if mK M2 v0 = 13 then
        if mK M2 (mR M2 v0 23) = 21 then
          if inB (0 : Int32) (mN M2 (mR M2 v0 23)) = true then
            some (mI M2 (mR M2 v0 23) (0 : Int32).toNatClampNeg, M2)
          else none
        else none
      else none
    else
    if v1 = (1 : Int32) then
      if mK M2 v0 = 13 then
        if mK M2 (mR M2 v0 24) = 21 then
          if inB (0 : Int32) (mN M2 (mR M2 v0 24)) = true then
            some (mI M2 (mR M2 v0 24) (0 : Int32).toNatClampNeg, M2)
          else none
        else none
      else none
    else
    if v1 = (2 : Int32) then
      if mK M2 v0 = 13 then
        some (mI M2 v0 30, M2)
      else none
    else
    if v1 = (3 : Int32) then
      if mK M2 v0 = 13 then
        bnd (f_X12_allEntries v0 M2) fun r16 M15 =>
        some (r16, M15)
      else none
    else
    if v1 = (4 : Int32) then
      if mK M2 v0 = 13 then
        bnd (f_X12_greatest v0 (mR M2 v0 18) M2) fun r20 M19 =>
        some (r20, M19)
      else none
    else
    if v1 = (5 : Int32) then
      if mK M2 v0 = 13 then
        bnd (f_X12_greatest v0 (mR M2 v0 19) M2) fun r24 M23 =>
        some (r24, M23)
      else none
    else
    if v1 = (6 : Int32) then
      if mK M2 v0 = 13 then
        if mK M2 (mR M2 v0 23) = 21 then
          if inB (1 : Int32) (mN M2 (mR M2 v0 23)) = true then
            some (mI M2 (mR M2 v0 23) (1 : Int32).toNatClampNeg, M2)
          else none
        else none
      else none
    else
    if v1 = (7 : Int32) then
      if mK M2 v0 = 13 then
        some (mI M2 v0 47, M2)
      else none
    else
    if v1 = (8 : Int32) then
      if mK M2 v0 = 13 then
        bnd (f_X12_coverNow v0 M2) fun r34 M33 =>
        some (r34, M33)
      else none
    else
    if v1 = (9 : Int32) then
      if mK M2 v0 = 13 then
        bnd (f_X12_checked v0 M2) fun r38 M37 =>
        some (r38, M37)
      else none
    else
    if v1 = (10 : Int32) then
      if mK M2 v0 = 13 then
        bnd (f_X12_checked v0 M2) fun r42 M41 =>
        if mK M41 v0 = 13 then
          some (mI M41 v0 34, M41)
        else none
      else none
    else
    if v1 = (11 : Int32) then
      if mK M2 v0 = 13 then
        bnd (f_X12_checked v0 M2) fun r47 M46 =>
        if mK M46 v0 = 13 then
          some (mI M46 v0 35, M46)
        else none
      else none
    else
    if v1 = (12 : Int32) then
      if mK M2 v0 = 13 then
        bnd (f_X12_tellHarmless v0 M2) fun _ M51 =>
        if mK M51 v0 = 13 then
          some (mI M51 v0 36, M51)
        else none
      else none
    else
    if v1 = (13 : Int32) then
      if mK M2 v0 = 13 then
        bnd (f_X12_tellHarmless v0 M2) fun _ M56 =>
        if mK M56 v0 = 13 then
          some (mI M56 v0 37, M56)
        else none
      else none
    else
    if v1 = (14 : Int32) then
      if mK M2 v0 = 13 then
        some (mI M2 v0 31, M2)
      else none
    else
    if v1 = (15 : Int32) then
      if mK M2 v0 = 13 then
        some (mI M2 v0 5, M2)
      else none
    else
    if v1 = (16 : Int32) then
      f_X12_count_204 v0 v1 M2
    else
    if v1 = (17 : Int32) then
      f_X12_count_204 v0 v1 M2
    else
    if mK M2 v0 = 13 then
      bnd (f_X12_fail v0 (1 : Int32) M2) fun r67 M66 =>
      some (r67, M66)
    else none
  else none
theorem s_X12_count_204 (v0 : Nat) (v1 : Int32) (M : Mem) (r : (Int32 × Mem)) (hf : f_X12_count_204 v0 v1 M = some r) : G mi_X12_count 7 (oI r.1) r.2 204 [some (aR v0), some (aI v1)] [] M 0 0 := by
  unfold f_X12_count_204 at hf
  refine g_aload_n (pc' := 205) dX12_count_204 rfl rfl ?_
  obtain ⟨h1, hf⟩ := chk_s hf
  refine g_getR (pc' := 208) 12 4 rfl rfl (by decide) inX12 (by decide) rfl rfl q_125 dX12_count_205 rfl h1 ?_
  refine g_iload_n (pc' := 209) dX12_count_208 rfl rfl ?_
  refine g_bipush (pc' := 211) (16 : Int32) dX12_count_209 rfl (by decide) ?_
  refine g_isub (pc' := 212) dX12_count_211 rfl ?_
  obtain ⟨h2, hf⟩ := chk_s hf
  obtain ⟨b3, hf⟩ := chk_s hf
  refine g_iald (pc' := 213) dX12_count_212 rfl h2 (inB_in b3) ?_
  cases hf
  exact g_ireturn dX12_count_213 rfl (Nat.le_of_ble_eq_true rfl) (Nat.le_of_ble_eq_true rfl)
theorem s_X12_count (v0 : Nat) (v1 : Int32) (M : Mem) (r : (Int32 × Mem)) (hf : f_X12_count v0 v1 M = some r) : Sem mi_X12_count (7) [aR v0, aI v1] M (oI r.1) r.2 := by
  unfold f_X12_count at hf
  refine sem_of (by decide) rfl rfl rfl (Nat.le_of_ble_eq_true rfl) (lv := [some (aR v0), some (aI v1)]) rfl ?_
  refine g_aload_n (pc' := 1) dX12_count_0 rfl rfl ?_
  refine g_iconst (pc' := 2) (0 : Int32) dX12_count_1 rfl (by decide) ?_
  obtain ⟨h1, hf⟩ := chk_s hf
  refine g_putI (pc' := 5) 12 2 rfl rfl (by decide) inX12 tyX12_ok nmX12 (by decide) rfl rfl rfl rfl q_167 dX12_count_2 rfl h1 (gM fun M2 hM2 => ?_)
  have hf := ap_eq hf hM2
  refine g_iload_n (pc' := 6) dX12_count_5 rfl rfl ?_
  by_cases c3 : v1 = (0 : Int32)
  · have hf := ite_t c3 hf
    refine g_tsw (pc' := 92) (0 : Int32) dX12_count_6 c3 (by decide) (by decide) rfl (by decide) ?_
    refine g_aload_n (pc' := 93) dX12_count_92 rfl rfl ?_
    obtain ⟨h4, hf⟩ := chk_s hf
    refine g_getR (pc' := 96) 12 23 rfl rfl (by decide) inX12 (by decide) rfl rfl q_135 dX12_count_93 rfl h4 ?_
    refine g_iconst (pc' := 97) (0 : Int32) dX12_count_96 rfl (by decide) ?_
    obtain ⟨h5, hf⟩ := chk_s hf
    obtain ⟨b6, hf⟩ := chk_s hf
    refine g_iald (pc' := 98) dX12_count_97 rfl h5 (inB_in b6) ?_
    cases hf
    exact g_ireturn dX12_count_98 rfl (Nat.le_of_ble_eq_true rfl) (Nat.le_of_ble_eq_true rfl)
  have hf := ite_f c3 hf
  by_cases c7 : v1 = (1 : Int32)
  · have hf := ite_t c7 hf
    refine g_tsw (pc' := 99) (1 : Int32) dX12_count_6 c7 (by decide) (by decide) rfl (by decide) ?_
    refine g_aload_n (pc' := 100) dX12_count_99 rfl rfl ?_
    obtain ⟨h8, hf⟩ := chk_s hf
    refine g_getR (pc' := 103) 12 24 rfl rfl (by decide) inX12 (by decide) rfl rfl q_136 dX12_count_100 rfl h8 ?_
    refine g_iconst (pc' := 104) (0 : Int32) dX12_count_103 rfl (by decide) ?_
    obtain ⟨h9, hf⟩ := chk_s hf
    obtain ⟨b10, hf⟩ := chk_s hf
    refine g_iald (pc' := 105) dX12_count_104 rfl h9 (inB_in b10) ?_
    cases hf
    exact g_ireturn dX12_count_105 rfl (Nat.le_of_ble_eq_true rfl) (Nat.le_of_ble_eq_true rfl)
  have hf := ite_f c7 hf
  by_cases c11 : v1 = (2 : Int32)
  · have hf := ite_t c11 hf
    refine g_tsw (pc' := 106) (2 : Int32) dX12_count_6 c11 (by decide) (by decide) rfl (by decide) ?_
    refine g_aload_n (pc' := 107) dX12_count_106 rfl rfl ?_
    obtain ⟨h12, hf⟩ := chk_s hf
    refine g_getI (pc' := 110) 12 30 rfl rfl (by decide) inX12 (by decide) rfl rfl q_364 dX12_count_107 rfl h12 ?_
    cases hf
    exact g_ireturn dX12_count_110 rfl (Nat.le_of_ble_eq_true rfl) (Nat.le_of_ble_eq_true rfl)
  have hf := ite_f c11 hf
  by_cases c13 : v1 = (3 : Int32)
  · have hf := ite_t c13 hf
    refine g_tsw (pc' := 111) (3 : Int32) dX12_count_6 c13 (by decide) (by decide) rfl (by decide) ?_
    refine g_aload_n (pc' := 112) dX12_count_111 rfl rfl ?_
    obtain ⟨h14, hf⟩ := chk_s hf
    obtain ⟨r16, M15, e16, hf⟩ := bnd_some hf
    refine g_callVi (pc' := 115) (k' := 0) (u' := 0) (fr2 := 1) (As := []) (b := v0) (st := []) cf_X12_allEntries q_865 (by omega) (ci := 12) rfl rfl (by decide) dX12_count_112 rfl rfl rfl (Nat.le_of_ble_eq_true rfl) (Or.inl rfl) (Nat.le_refl _) (Nat.le_refl _) (Nat.le_refl _) (Nat.le_refl _) h14 (s_X12_allEntries v0 M2 _ e16) ?_
    cases hf
    exact g_ireturn dX12_count_115 rfl (Nat.le_of_ble_eq_true rfl) (Nat.le_of_ble_eq_true rfl)
  have hf := ite_f c13 hf
  by_cases c17 : v1 = (4 : Int32)
  · have hf := ite_t c17 hf
    refine g_tsw (pc' := 116) (4 : Int32) dX12_count_6 c17 (by decide) (by decide) rfl (by decide) ?_
    refine g_aload_n (pc' := 117) dX12_count_116 rfl rfl ?_
    refine g_aload_n (pc' := 118) dX12_count_117 rfl rfl ?_
    obtain ⟨h18, hf⟩ := chk_s hf
    refine g_getR (pc' := 121) 12 18 rfl rfl (by decide) inX12 (by decide) rfl rfl q_130 dX12_count_118 rfl h18 ?_
    obtain ⟨r20, M19, e20, hf⟩ := bnd_some hf
    refine g_callVi (pc' := 124) (k' := 0) (u' := 0) (fr2 := 1) (As := [aR (mR M2 v0 18)]) (b := v0) (st := []) cf_X12_greatest q_869 (by omega) (ci := 12) rfl rfl (by decide) dX12_count_121 rfl rfl rfl (Nat.le_of_ble_eq_true rfl) (Or.inl rfl) (Nat.le_refl _) (Nat.le_refl _) (Nat.le_refl _) (Nat.le_refl _) h18 (s_X12_greatest v0 (mR M2 v0 18) M2 _ e20) ?_
    cases hf
    exact g_ireturn dX12_count_124 rfl (Nat.le_of_ble_eq_true rfl) (Nat.le_of_ble_eq_true rfl)
  have hf := ite_f c17 hf
  by_cases c21 : v1 = (5 : Int32)
  · have hf := ite_t c21 hf
    refine g_tsw (pc' := 125) (5 : Int32) dX12_count_6 c21 (by decide) (by decide) rfl (by decide) ?_
    refine g_aload_n (pc' := 126) dX12_count_125 rfl rfl ?_
    refine g_aload_n (pc' := 127) dX12_count_126 rfl rfl ?_
    obtain ⟨h22, hf⟩ := chk_s hf
    refine g_getR (pc' := 130) 12 19 rfl rfl (by decide) inX12 (by decide) rfl rfl q_131 dX12_count_127 rfl h22 ?_
    obtain ⟨r24, M23, e24, hf⟩ := bnd_some hf
    refine g_callVi (pc' := 133) (k' := 0) (u' := 0) (fr2 := 1) (As := [aR (mR M2 v0 19)]) (b := v0) (st := []) cf_X12_greatest q_869 (by omega) (ci := 12) rfl rfl (by decide) dX12_count_130 rfl rfl rfl (Nat.le_of_ble_eq_true rfl) (Or.inl rfl) (Nat.le_refl _) (Nat.le_refl _) (Nat.le_refl _) (Nat.le_refl _) h22 (s_X12_greatest v0 (mR M2 v0 19) M2 _ e24) ?_
    cases hf
    exact g_ireturn dX12_count_133 rfl (Nat.le_of_ble_eq_true rfl) (Nat.le_of_ble_eq_true rfl)
  have hf := ite_f c21 hf
  by_cases c25 : v1 = (6 : Int32)
  · have hf := ite_t c25 hf
    refine g_tsw (pc' := 134) (6 : Int32) dX12_count_6 c25 (by decide) (by decide) rfl (by decide) ?_
    refine g_aload_n (pc' := 135) dX12_count_134 rfl rfl ?_
    obtain ⟨h26, hf⟩ := chk_s hf
    refine g_getR (pc' := 138) 12 23 rfl rfl (by decide) inX12 (by decide) rfl rfl q_135 dX12_count_135 rfl h26 ?_
    refine g_iconst (pc' := 139) (1 : Int32) dX12_count_138 rfl (by decide) ?_
    obtain ⟨h27, hf⟩ := chk_s hf
    obtain ⟨b28, hf⟩ := chk_s hf
    refine g_iald (pc' := 140) dX12_count_139 rfl h27 (inB_in b28) ?_
    cases hf
    exact g_ireturn dX12_count_140 rfl (Nat.le_of_ble_eq_true rfl) (Nat.le_of_ble_eq_true rfl)
  have hf := ite_f c25 hf
  by_cases c29 : v1 = (7 : Int32)
  · have hf := ite_t c29 hf
    refine g_tsw (pc' := 141) (7 : Int32) dX12_count_6 c29 (by decide) (by decide) rfl (by decide) ?_
    refine g_aload_n (pc' := 142) dX12_count_141 rfl rfl ?_
    obtain ⟨h30, hf⟩ := chk_s hf
    refine g_getI (pc' := 145) 12 47 rfl rfl (by decide) inX12 (by decide) rfl rfl q_363 dX12_count_142 rfl h30 ?_
    cases hf
    exact g_ireturn dX12_count_145 rfl (Nat.le_of_ble_eq_true rfl) (Nat.le_of_ble_eq_true rfl)
  have hf := ite_f c29 hf
  by_cases c31 : v1 = (8 : Int32)
  · have hf := ite_t c31 hf
    refine g_tsw (pc' := 146) (8 : Int32) dX12_count_6 c31 (by decide) (by decide) rfl (by decide) ?_
    refine g_aload_n (pc' := 147) dX12_count_146 rfl rfl ?_
    obtain ⟨h32, hf⟩ := chk_s hf
    obtain ⟨r34, M33, e34, hf⟩ := bnd_some hf
    refine g_callVi (pc' := 150) (k' := 0) (u' := 0) (fr2 := 3) (As := []) (b := v0) (st := []) cf_X12_coverNow q_874 (by omega) (ci := 12) rfl rfl (by decide) dX12_count_147 rfl rfl rfl (Nat.le_of_ble_eq_true rfl) (Or.inl rfl) (Nat.le_refl _) (Nat.le_refl _) (Nat.le_refl _) (Nat.le_refl _) h32 (s_X12_coverNow v0 M2 _ e34) ?_
    cases hf
    exact g_ireturn dX12_count_150 rfl (Nat.le_of_ble_eq_true rfl) (Nat.le_of_ble_eq_true rfl)
  have hf := ite_f c31 hf
  by_cases c35 : v1 = (9 : Int32)
  · have hf := ite_t c35 hf
    refine g_tsw (pc' := 151) (9 : Int32) dX12_count_6 c35 (by decide) (by decide) rfl (by decide) ?_
    refine g_aload_n (pc' := 152) dX12_count_151 rfl rfl ?_
    obtain ⟨h36, hf⟩ := chk_s hf
    obtain ⟨r38, M37, e38, hf⟩ := bnd_some hf
    refine g_callVi (pc' := 155) (k' := 0) (u' := 0) (fr2 := 4) (As := []) (b := v0) (st := []) cf_X12_checked q_648 (by omega) (ci := 12) rfl rfl (by decide) dX12_count_152 rfl rfl rfl (Nat.le_of_ble_eq_true rfl) (Or.inl rfl) (Nat.le_refl _) (Nat.le_refl _) (Nat.le_refl _) (Nat.le_refl _) h36 (s_X12_checked v0 M2 _ e38) ?_
    cases hf
    exact g_ireturn dX12_count_155 rfl (Nat.le_of_ble_eq_true rfl) (Nat.le_of_ble_eq_true rfl)
  have hf := ite_f c35 hf
  by_cases c39 : v1 = (10 : Int32)
  · have hf := ite_t c39 hf
    refine g_tsw (pc' := 156) (10 : Int32) dX12_count_6 c39 (by decide) (by decide) rfl (by decide) ?_
    refine g_aload_n (pc' := 157) dX12_count_156 rfl rfl ?_
    obtain ⟨h40, hf⟩ := chk_s hf
    obtain ⟨r42, M41, e42, hf⟩ := bnd_some hf
    refine g_callVi (pc' := 160) (k' := 0) (u' := 0) (fr2 := 4) (As := []) (b := v0) (st := []) cf_X12_checked q_648 (by omega) (ci := 12) rfl rfl (by decide) dX12_count_157 rfl rfl rfl (Nat.le_of_ble_eq_true rfl) (Or.inl rfl) (Nat.le_refl _) (Nat.le_refl _) (Nat.le_refl _) (Nat.le_refl _) h40 (s_X12_checked v0 M2 _ e42) ?_
    refine g_pop (pc' := 161) dX12_count_160 rfl rfl ?_
    refine g_aload_n (pc' := 162) dX12_count_161 rfl rfl ?_
    obtain ⟨h43, hf⟩ := chk_s hf
    refine g_getI (pc' := 165) 12 34 rfl rfl (by decide) inX12 (by decide) rfl rfl q_672 dX12_count_162 rfl h43 ?_
    cases hf
    exact g_ireturn dX12_count_165 rfl (Nat.le_of_ble_eq_true rfl) (Nat.le_of_ble_eq_true rfl)
  have hf := ite_f c39 hf
  by_cases c44 : v1 = (11 : Int32)
  · have hf := ite_t c44 hf
    refine g_tsw (pc' := 166) (11 : Int32) dX12_count_6 c44 (by decide) (by decide) rfl (by decide) ?_
    refine g_aload_n (pc' := 167) dX12_count_166 rfl rfl ?_
    obtain ⟨h45, hf⟩ := chk_s hf
    obtain ⟨r47, M46, e47, hf⟩ := bnd_some hf
    refine g_callVi (pc' := 170) (k' := 0) (u' := 0) (fr2 := 4) (As := []) (b := v0) (st := []) cf_X12_checked q_648 (by omega) (ci := 12) rfl rfl (by decide) dX12_count_167 rfl rfl rfl (Nat.le_of_ble_eq_true rfl) (Or.inl rfl) (Nat.le_refl _) (Nat.le_refl _) (Nat.le_refl _) (Nat.le_refl _) h45 (s_X12_checked v0 M2 _ e47) ?_
    refine g_pop (pc' := 171) dX12_count_170 rfl rfl ?_
    refine g_aload_n (pc' := 172) dX12_count_171 rfl rfl ?_
    obtain ⟨h48, hf⟩ := chk_s hf
    refine g_getI (pc' := 175) 12 35 rfl rfl (by decide) inX12 (by decide) rfl rfl q_673 dX12_count_172 rfl h48 ?_
    cases hf
    exact g_ireturn dX12_count_175 rfl (Nat.le_of_ble_eq_true rfl) (Nat.le_of_ble_eq_true rfl)
  have hf := ite_f c44 hf
  by_cases c49 : v1 = (12 : Int32)
  · have hf := ite_t c49 hf
    refine g_tsw (pc' := 176) (12 : Int32) dX12_count_6 c49 (by decide) (by decide) rfl (by decide) ?_
    refine g_aload_n (pc' := 177) dX12_count_176 rfl rfl ?_
    obtain ⟨h50, hf⟩ := chk_s hf
    obtain ⟨_, M51, e52, hf⟩ := bnd_some hf
    refine g_callVv (pc' := 180) (k' := 0) (u' := 0) (fr2 := 6) (As := []) (b := v0) (st := []) cf_X12_tellHarmless q_888 (by omega) (ci := 12) rfl rfl (by decide) dX12_count_177 rfl rfl rfl (Nat.le_of_ble_eq_true rfl) (Or.inl rfl) (Nat.le_refl _) (Nat.le_refl _) (Nat.le_refl _) (Nat.le_refl _) h50 (s_X12_tellHarmless v0 M2 _ e52) ?_
    refine g_aload_n (pc' := 181) dX12_count_180 rfl rfl ?_
    obtain ⟨h53, hf⟩ := chk_s hf
    refine g_getI (pc' := 184) 12 36 rfl rfl (by decide) inX12 (by decide) rfl rfl q_863 dX12_count_181 rfl h53 ?_
    cases hf
    exact g_ireturn dX12_count_184 rfl (Nat.le_of_ble_eq_true rfl) (Nat.le_of_ble_eq_true rfl)
  have hf := ite_f c49 hf
  by_cases c54 : v1 = (13 : Int32)
  · have hf := ite_t c54 hf
    refine g_tsw (pc' := 185) (13 : Int32) dX12_count_6 c54 (by decide) (by decide) rfl (by decide) ?_
    refine g_aload_n (pc' := 186) dX12_count_185 rfl rfl ?_
    obtain ⟨h55, hf⟩ := chk_s hf
    obtain ⟨_, M56, e57, hf⟩ := bnd_some hf
    refine g_callVv (pc' := 189) (k' := 0) (u' := 0) (fr2 := 6) (As := []) (b := v0) (st := []) cf_X12_tellHarmless q_888 (by omega) (ci := 12) rfl rfl (by decide) dX12_count_186 rfl rfl rfl (Nat.le_of_ble_eq_true rfl) (Or.inl rfl) (Nat.le_refl _) (Nat.le_refl _) (Nat.le_refl _) (Nat.le_refl _) h55 (s_X12_tellHarmless v0 M2 _ e57) ?_
    refine g_aload_n (pc' := 190) dX12_count_189 rfl rfl ?_
    obtain ⟨h58, hf⟩ := chk_s hf
    refine g_getI (pc' := 193) 12 37 rfl rfl (by decide) inX12 (by decide) rfl rfl q_864 dX12_count_190 rfl h58 ?_
    cases hf
    exact g_ireturn dX12_count_193 rfl (Nat.le_of_ble_eq_true rfl) (Nat.le_of_ble_eq_true rfl)
  have hf := ite_f c54 hf
  by_cases c59 : v1 = (14 : Int32)
  · have hf := ite_t c59 hf
    refine g_tsw (pc' := 194) (14 : Int32) dX12_count_6 c59 (by decide) (by decide) rfl (by decide) ?_
    refine g_aload_n (pc' := 195) dX12_count_194 rfl rfl ?_
    obtain ⟨h60, hf⟩ := chk_s hf
    refine g_getI (pc' := 198) 12 31 rfl rfl (by decide) inX12 (by decide) rfl rfl q_365 dX12_count_195 rfl h60 ?_
    cases hf
    exact g_ireturn dX12_count_198 rfl (Nat.le_of_ble_eq_true rfl) (Nat.le_of_ble_eq_true rfl)
  have hf := ite_f c59 hf
  by_cases c61 : v1 = (15 : Int32)
  · have hf := ite_t c61 hf
    refine g_tsw (pc' := 199) (15 : Int32) dX12_count_6 c61 (by decide) (by decide) rfl (by decide) ?_
    refine g_aload_n (pc' := 200) dX12_count_199 rfl rfl ?_
    obtain ⟨h62, hf⟩ := chk_s hf
    refine g_getI (pc' := 203) 12 5 rfl rfl (by decide) inX12 (by decide) rfl rfl q_168 dX12_count_200 rfl h62 ?_
    cases hf
    exact g_ireturn dX12_count_203 rfl (Nat.le_of_ble_eq_true rfl) (Nat.le_of_ble_eq_true rfl)
  have hf := ite_f c61 hf
  by_cases c63 : v1 = (16 : Int32)
  · have hf := ite_t c63 hf
    refine g_tsw (pc' := 204) (16 : Int32) dX12_count_6 c63 (by decide) (by decide) rfl (by decide) ?_
    exact s_X12_count_204 v0 v1 M2 _ hf
  have hf := ite_f c63 hf
  by_cases c64 : v1 = (17 : Int32)
  · have hf := ite_t c64 hf
    refine g_tsw (pc' := 204) (17 : Int32) dX12_count_6 c64 (by decide) (by decide) rfl (by decide) ?_
    exact s_X12_count_204 v0 v1 M2 _ hf
  have hf := ite_f c64 hf
  have nc3 := nei c3 (z := 0) (by decide)
  have nc7 := nei c7 (z := 1) (by decide)
  have nc11 := nei c11 (z := 2) (by decide)
  have nc13 := nei c13 (z := 3) (by decide)
  have nc17 := nei c17 (z := 4) (by decide)
  have nc21 := nei c21 (z := 5) (by decide)
  have nc25 := nei c25 (z := 6) (by decide)
  have nc29 := nei c29 (z := 7) (by decide)
  have nc31 := nei c31 (z := 8) (by decide)
  have nc35 := nei c35 (z := 9) (by decide)
  have nc39 := nei c39 (z := 10) (by decide)
  have nc44 := nei c44 (z := 11) (by decide)
  have nc49 := nei c49 (z := 12) (by decide)
  have nc54 := nei c54 (z := 13) (by decide)
  have nc59 := nei c59 (z := 14) (by decide)
  have nc61 := nei c61 (z := 15) (by decide)
  have nc63 := nei c63 (z := 16) (by decide)
  have nc64 := nei c64 (z := 17) (by decide)
  refine g_tableOut (pc' := 214) dX12_count_6 (by omega) (by decide) ?_
  refine g_aload_n (pc' := 215) dX12_count_214 rfl rfl ?_
  refine g_iconst (pc' := 216) (1 : Int32) dX12_count_215 rfl (by decide) ?_
  obtain ⟨h65, hf⟩ := chk_s hf
  obtain ⟨r67, M66, e67, hf⟩ := bnd_some hf
  refine g_callVi (pc' := 219) (k' := 0) (u' := 0) (fr2 := 1) (As := [aI (1 : Int32)]) (b := v0) (st := []) cf_X12_fail q_904 (by omega) (ci := 12) rfl rfl (by decide) dX12_count_216 rfl rfl rfl (Nat.le_of_ble_eq_true rfl) (Or.inl rfl) (Nat.le_refl _) (Nat.le_refl _) (Nat.le_refl _) (Nat.le_refl _) h65 (s_X12_fail v0 (1 : Int32) M2 _ e67) ?_
  cases hf
  exact g_ireturn dX12_count_219 rfl (Nat.le_of_ble_eq_true rfl) (Nat.le_of_ble_eq_true rfl)
def f_X12_isField (v0 : Nat) (v1 : Int32) (M : Mem) : Option (Int32 × Mem) :=
  if mK M v0 = 13 then
    if mK M (mR M v0 23) = 21 then
      if inB (0 : Int32) (mN M (mR M v0 23)) = true then
        bnd (f_X12_isIn v1.toInt64 (0 : Int64) (((mI M (mR M v0 23) (0 : Int32).toNatClampNeg) - (1 : Int32)).toInt64) M) fun r5 M4 =>
        if zB r5 = true then
        some (r5, M4)
        else none
      else none
    else none
  else none
theorem s_X12_isField (v0 : Nat) (v1 : Int32) (M : Mem) (r : (Int32 × Mem)) (hf : f_X12_isField v0 v1 M = some r) : Sem mi_X12_isField (2) [aR v0, aI v1] M (oI r.1) r.2 := by
  unfold f_X12_isField at hf
  refine sem_of (by decide) rfl rfl rfl (Nat.le_of_ble_eq_true rfl) (lv := [some (aR v0), some (aI v1)]) rfl ?_
  refine g_iload_n (pc' := 1) dX12_isField_0 rfl rfl ?_
  refine g_i2l (pc' := 2) dX12_isField_1 rfl ?_
  refine g_lconst (pc' := 3) (0 : Int64) dX12_isField_2 rfl (by decide) ?_
  refine g_aload_n (pc' := 4) dX12_isField_3 rfl rfl ?_
  obtain ⟨h1, hf⟩ := chk_s hf
  refine g_getR (pc' := 7) 12 23 rfl rfl (by decide) inX12 (by decide) rfl rfl q_135 dX12_isField_4 rfl h1 ?_
  refine g_iconst (pc' := 8) (0 : Int32) dX12_isField_7 rfl (by decide) ?_
  obtain ⟨h2, hf⟩ := chk_s hf
  obtain ⟨b3, hf⟩ := chk_s hf
  refine g_iald (pc' := 9) dX12_isField_8 rfl h2 (inB_in b3) ?_
  refine g_iconst (pc' := 10) (1 : Int32) dX12_isField_9 rfl (by decide) ?_
  refine g_isub (pc' := 11) dX12_isField_10 rfl ?_
  refine g_i2l (pc' := 12) dX12_isField_11 rfl ?_
  obtain ⟨r5, M4, e5, hf⟩ := bnd_some hf
  refine g_callSi (pc' := 15) (k' := 0) (u' := 0) (fr2 := 1) (As := [aL v1.toInt64, aL (0 : Int64), aL (((mI M (mR M v0 23) (0 : Int32).toNatClampNeg) - (1 : Int32)).toInt64)]) (st := []) cf_X12_isIn q_932 (by omega) dX12_isField_12 rfl rfl rfl (Nat.le_of_ble_eq_true rfl) (Or.inl rfl) (Nat.le_refl _) (Nat.le_refl _) (Nat.le_refl _) (Nat.le_refl _) (s_X12_isIn v1.toInt64 (0 : Int64) (((mI M (mR M v0 23) (0 : Int32).toNatClampNeg) - (1 : Int32)).toInt64) M _ e5) ?_
  obtain ⟨hz, hf⟩ := chk_s hf
  cases hf
  exact g_zreturn dX12_isField_15 rfl (zB_ok hz) (Nat.le_of_ble_eq_true rfl) (Nat.le_of_ble_eq_true rfl)
def f_X12_isLeaf (v0 : Nat) (v1 : Int32) (M : Mem) : Option (Int32 × Mem) :=
  if mK M v0 = 13 then
    if mK M (mR M v0 24) = 21 then
      if inB (0 : Int32) (mN M (mR M v0 24)) = true then
        bnd (f_X12_isIn v1.toInt64 (0 : Int64) (((mI M (mR M v0 24) (0 : Int32).toNatClampNeg) - (1 : Int32)).toInt64) M) fun r5 M4 =>
        if zB r5 = true then
        some (r5, M4)
        else none
      else none
    else none
  else none
theorem s_X12_isLeaf (v0 : Nat) (v1 : Int32) (M : Mem) (r : (Int32 × Mem)) (hf : f_X12_isLeaf v0 v1 M = some r) : Sem mi_X12_isLeaf (2) [aR v0, aI v1] M (oI r.1) r.2 := by
  unfold f_X12_isLeaf at hf
  refine sem_of (by decide) rfl rfl rfl (Nat.le_of_ble_eq_true rfl) (lv := [some (aR v0), some (aI v1)]) rfl ?_
  refine g_iload_n (pc' := 1) dX12_isLeaf_0 rfl rfl ?_
  refine g_i2l (pc' := 2) dX12_isLeaf_1 rfl ?_
  refine g_lconst (pc' := 3) (0 : Int64) dX12_isLeaf_2 rfl (by decide) ?_
  refine g_aload_n (pc' := 4) dX12_isLeaf_3 rfl rfl ?_
  obtain ⟨h1, hf⟩ := chk_s hf
  refine g_getR (pc' := 7) 12 24 rfl rfl (by decide) inX12 (by decide) rfl rfl q_136 dX12_isLeaf_4 rfl h1 ?_
  refine g_iconst (pc' := 8) (0 : Int32) dX12_isLeaf_7 rfl (by decide) ?_
  obtain ⟨h2, hf⟩ := chk_s hf
  obtain ⟨b3, hf⟩ := chk_s hf
  refine g_iald (pc' := 9) dX12_isLeaf_8 rfl h2 (inB_in b3) ?_
  refine g_iconst (pc' := 10) (1 : Int32) dX12_isLeaf_9 rfl (by decide) ?_
  refine g_isub (pc' := 11) dX12_isLeaf_10 rfl ?_
  refine g_i2l (pc' := 12) dX12_isLeaf_11 rfl ?_
  obtain ⟨r5, M4, e5, hf⟩ := bnd_some hf
  refine g_callSi (pc' := 15) (k' := 0) (u' := 0) (fr2 := 1) (As := [aL v1.toInt64, aL (0 : Int64), aL (((mI M (mR M v0 24) (0 : Int32).toNatClampNeg) - (1 : Int32)).toInt64)]) (st := []) cf_X12_isIn q_932 (by omega) dX12_isLeaf_12 rfl rfl rfl (Nat.le_of_ble_eq_true rfl) (Or.inl rfl) (Nat.le_refl _) (Nat.le_refl _) (Nat.le_refl _) (Nat.le_refl _) (s_X12_isIn v1.toInt64 (0 : Int64) (((mI M (mR M v0 24) (0 : Int32).toNatClampNeg) - (1 : Int32)).toInt64) M _ e5) ?_
  obtain ⟨hz, hf⟩ := chk_s hf
  cases hf
  exact g_zreturn dX12_isLeaf_15 rfl (zB_ok hz) (Nat.le_of_ble_eq_true rfl) (Nat.le_of_ble_eq_true rfl)
def f_X12_isRecord (v0 : Nat) (v1 : Int32) (M : Mem) : Option (Int32 × Mem) :=
  if mK M v0 = 13 then
    bnd (f_X12_isIn v1.toInt64 (0 : Int64) (((mI M v0 30) - (1 : Int32)).toInt64) M) fun r3 M2 =>
    if zB r3 = true then
    some (r3, M2)
    else none
  else none
theorem s_X12_isRecord (v0 : Nat) (v1 : Int32) (M : Mem) (r : (Int32 × Mem)) (hf : f_X12_isRecord v0 v1 M = some r) : Sem mi_X12_isRecord (2) [aR v0, aI v1] M (oI r.1) r.2 := by
  unfold f_X12_isRecord at hf
  refine sem_of (by decide) rfl rfl rfl (Nat.le_of_ble_eq_true rfl) (lv := [some (aR v0), some (aI v1)]) rfl ?_
  refine g_iload_n (pc' := 1) dX12_isRecord_0 rfl rfl ?_
  refine g_i2l (pc' := 2) dX12_isRecord_1 rfl ?_
  refine g_lconst (pc' := 3) (0 : Int64) dX12_isRecord_2 rfl (by decide) ?_
  refine g_aload_n (pc' := 4) dX12_isRecord_3 rfl rfl ?_
  obtain ⟨h1, hf⟩ := chk_s hf
  refine g_getI (pc' := 7) 12 30 rfl rfl (by decide) inX12 (by decide) rfl rfl q_364 dX12_isRecord_4 rfl h1 ?_
  refine g_iconst (pc' := 8) (1 : Int32) dX12_isRecord_7 rfl (by decide) ?_
  refine g_isub (pc' := 9) dX12_isRecord_8 rfl ?_
  refine g_i2l (pc' := 10) dX12_isRecord_9 rfl ?_
  obtain ⟨r3, M2, e3, hf⟩ := bnd_some hf
  refine g_callSi (pc' := 13) (k' := 0) (u' := 0) (fr2 := 1) (As := [aL v1.toInt64, aL (0 : Int64), aL (((mI M v0 30) - (1 : Int32)).toInt64)]) (st := []) cf_X12_isIn q_932 (by omega) dX12_isRecord_10 rfl rfl rfl (Nat.le_of_ble_eq_true rfl) (Or.inl rfl) (Nat.le_refl _) (Nat.le_refl _) (Nat.le_refl _) (Nat.le_refl _) (s_X12_isIn v1.toInt64 (0 : Int64) (((mI M v0 30) - (1 : Int32)).toInt64) M _ e3) ?_
  obtain ⟨hz, hf⟩ := chk_s hf
  cases hf
  exact g_zreturn dX12_isRecord_13 rfl (zB_ok hz) (Nat.le_of_ble_eq_true rfl) (Nat.le_of_ble_eq_true rfl)
def f_X12_field_52 (k24 : Nat → Int32 → Int32 → Int32 → Int32 → Mem → Option (Int32 × Mem)) (v0 : Nat) (v1 : Int32) (v2 : Int32) (v4 : Int32) (w0 : Int32) (w1 : Int32) (M : Mem) : Option (Int32 × Mem) :=
  k24 v0 v1 v2 (w0 + w1) (v4 + 1) M
def f_X12_field_24 : Nat → Nat → Int32 → Int32 → Int32 → Int32 → Mem → Option (Int32 × Mem)
  | 0, _, _, _, _, _, _ => none
  | n + 1, v0, v1, v2, v3, v4, M =>
    if mK M v0 = 13 then
      if mK M (mR M v0 23) = 21 then
        if inB (0 : Int32) (mN M (mR M v0 23)) = true then
          if (mI M (mR M v0 23) (0 : Int32).toNatClampNeg) ≤ v4 then
            if v2 = (0 : Int32) then
              if mK M (mR M v0 15) = 21 then
                if inB v1 (mN M (mR M v0 15)) = true then
                  some (mI M (mR M v0 15) v1.toNatClampNeg, M)
                else none
              else none
            else
            if v2 = (1 : Int32) then
              if mK M (mR M v0 17) = 21 then
                if inB v1 (mN M (mR M v0 17)) = true then
                  some (mI M (mR M v0 17) v1.toNatClampNeg, M)
                else none
              else none
            else
            if v2 = (2 : Int32) then
              if mK M (mR M v0 16) = 21 then
                if inB v1 (mN M (mR M v0 16)) = true then
                  some (mI M (mR M v0 16) v1.toNatClampNeg, M)
                else none
              else none
            else
            if v2 = (3 : Int32) then
              if mK M (mR M v0 18) = 21 then
                if inB v1 (mN M (mR M v0 18)) = true then
                  some (mI M (mR M v0 18) v1.toNatClampNeg, M)
                else none
              else none
            else
            if v2 = (4 : Int32) then
              if mK M (mR M v0 19) = 21 then
                if inB v1 (mN M (mR M v0 19)) = true then
                  some (mI M (mR M v0 19) v1.toNatClampNeg, M)
                else none
              else none
            else
            if v2 = (5 : Int32) then
              if mK M (mR M v0 20) = 21 then
                if inB v1 (mN M (mR M v0 20)) = true then
                  some (mI M (mR M v0 20) v1.toNatClampNeg, M)
                else none
              else none
            else
            if v2 = (6 : Int32) then
              some (v3, M)
            else
            bnd (f_X12_fail v0 (1 : Int32) M) fun r25 M24 =>
            some (r25, M24)
          else
            if mK M (mR M v0 16) = 21 then
              if inB v4 (mN M (mR M v0 16)) = true then
                if (mI M (mR M v0 16) v4.toNatClampNeg) = v1 then
                  f_X12_field_52 (f_X12_field_24 n) v0 v1 v2 v4 v3 (1 : Int32) M
                else
                  f_X12_field_52 (f_X12_field_24 n) v0 v1 v2 v4 v3 (0 : Int32) M
              else none
            else none
        else none
      else none
    else none
def f_X12_field (v0 : Nat) (v1 : Int32) (v2 : Int32) (M : Mem) : Option (Int32 × Mem) :=
  if mK M v0 = 13 then
    ap (sI M v0 2 (0 : Int32)) fun M2 =>
    if mK M2 v0 = 13 then
      bnd (f_X12_isField v0 v1 M2) fun r5 M4 =>
      if r5 = 0 then
        if mK M4 v0 = 13 then
          bnd (f_X12_fail v0 (1 : Int32) M4) fun r9 M8 =>
          some (r9, M8)
        else none
      else
        f_X12_field_24 FUEL v0 v1 v2 (0 : Int32) (0 : Int32) M4
    else none
  else none
theorem s_X12_field_52 (k24 : Nat → Int32 → Int32 → Int32 → Int32 → Mem → Option (Int32 × Mem)) (hk24 : ∀ (v0 : Nat) (v1 : Int32) (v2 : Int32) (v3 : Int32) (v4 : Int32) (M : Mem) (r : (Int32 × Mem)), k24 v0 v1 v2 v3 v4 M = some r → G mi_X12_field 3 (oI r.1) r.2 24 [some (aR v0), some (aI v1), some (aI v2), some (aI v3), some (aI v4)] [] M 0 0) (v0 : Nat) (v1 : Int32) (v2 : Int32) (v4 : Int32) (w0 : Int32) (w1 : Int32) (M : Mem) (r : (Int32 × Mem)) (hf : f_X12_field_52 k24 v0 v1 v2 v4 w0 w1 M = some r) : G mi_X12_field 3 (oI r.1) r.2 52 [some (aR v0), some (aI v1), some (aI v2), none, some (aI v4)] [aI w1, aI w0] M 0 0 := by
  unfold f_X12_field_52 at hf
  refine g_iadd (pc' := 53) dX12_field_52 rfl ?_
  refine g_istore_n (pc' := 54) (lv' := [some (aR v0), some (aI v1), some (aI v2), some (aI (w0 + w1)), some (aI v4)]) dX12_field_53 rfl rfl (by decide) rfl ?_
  refine g_iinc (pc' := 57) (lv' := [some (aR v0), some (aI v1), some (aI v2), some (aI (w0 + w1)), some (aI (v4 + 1))]) (v4 + 1) dX12_field_54 rfl rfl (by rfl) rfl (by decide) rfl ?_
  refine g_goto (pc' := 24) dX12_field_57 (by decide) ?_
  exact hk24 v0 v1 v2 (w0 + w1) (v4 + 1) M _ hf
theorem s_X12_field_24 : ∀ (n : Nat) (v0 : Nat) (v1 : Int32) (v2 : Int32) (v3 : Int32) (v4 : Int32) (M : Mem) (r : (Int32 × Mem)), f_X12_field_24 n v0 v1 v2 v3 v4 M = some r → G mi_X12_field 3 (oI r.1) r.2 24 [some (aR v0), some (aI v1), some (aI v2), some (aI v3), some (aI v4)] [] M 0 0 := by
  intro n
  induction n with
  | zero => intro v0 v1 v2 v3 v4 M r hf; cases hf
  | succ n ih =>
    intro v0 v1 v2 v3 v4 M r hf
    unfold f_X12_field_24 at hf
    refine g_iload (pc' := 26) dX12_field_24 rfl rfl ?_
    refine g_aload_n (pc' := 27) dX12_field_26 rfl rfl ?_
    obtain ⟨h1, hf⟩ := chk_s hf
    refine g_getR (pc' := 30) 12 23 rfl rfl (by decide) inX12 (by decide) rfl rfl q_135 dX12_field_27 rfl h1 ?_
    refine g_iconst (pc' := 31) (0 : Int32) dX12_field_30 rfl (by decide) ?_
    obtain ⟨h2, hf⟩ := chk_s hf
    obtain ⟨b3, hf⟩ := chk_s hf
    refine g_iald (pc' := 32) dX12_field_31 rfl h2 (inB_in b3) ?_
    refine g_icmp_ge (pc' := 35) 60 dX12_field_32 rfl (by decide) (fun c4 => ?_) (fun c4 => ?_)
    · have hf := ite_t c4 hf
      refine g_iload_n (pc' := 61) dX12_field_60 rfl rfl ?_
      by_cases c5 : v2 = (0 : Int32)
      · have hf := ite_t c5 hf
        refine g_tsw (pc' := 104) (0 : Int32) dX12_field_61 c5 (by decide) (by decide) rfl (by decide) ?_
        refine g_aload_n (pc' := 105) dX12_field_104 rfl rfl ?_
        refine g_getR (pc' := 108) 12 15 rfl rfl (by decide) inX12 (by decide) rfl rfl q_127 dX12_field_105 rfl h1 ?_
        refine g_iload_n (pc' := 109) dX12_field_108 rfl rfl ?_
        obtain ⟨h6, hf⟩ := chk_s hf
        obtain ⟨b7, hf⟩ := chk_s hf
        refine g_iald (pc' := 110) dX12_field_109 rfl h6 (inB_in b7) ?_
        cases hf
        exact g_ireturn dX12_field_110 rfl (Nat.le_of_ble_eq_true rfl) (Nat.le_of_ble_eq_true rfl)
      have hf := ite_f c5 hf
      by_cases c8 : v2 = (1 : Int32)
      · have hf := ite_t c8 hf
        refine g_tsw (pc' := 111) (1 : Int32) dX12_field_61 c8 (by decide) (by decide) rfl (by decide) ?_
        refine g_aload_n (pc' := 112) dX12_field_111 rfl rfl ?_
        refine g_getR (pc' := 115) 12 17 rfl rfl (by decide) inX12 (by decide) rfl rfl q_129 dX12_field_112 rfl h1 ?_
        refine g_iload_n (pc' := 116) dX12_field_115 rfl rfl ?_
        obtain ⟨h9, hf⟩ := chk_s hf
        obtain ⟨b10, hf⟩ := chk_s hf
        refine g_iald (pc' := 117) dX12_field_116 rfl h9 (inB_in b10) ?_
        cases hf
        exact g_ireturn dX12_field_117 rfl (Nat.le_of_ble_eq_true rfl) (Nat.le_of_ble_eq_true rfl)
      have hf := ite_f c8 hf
      by_cases c11 : v2 = (2 : Int32)
      · have hf := ite_t c11 hf
        refine g_tsw (pc' := 118) (2 : Int32) dX12_field_61 c11 (by decide) (by decide) rfl (by decide) ?_
        refine g_aload_n (pc' := 119) dX12_field_118 rfl rfl ?_
        refine g_getR (pc' := 122) 12 16 rfl rfl (by decide) inX12 (by decide) rfl rfl q_128 dX12_field_119 rfl h1 ?_
        refine g_iload_n (pc' := 123) dX12_field_122 rfl rfl ?_
        obtain ⟨h12, hf⟩ := chk_s hf
        obtain ⟨b13, hf⟩ := chk_s hf
        refine g_iald (pc' := 124) dX12_field_123 rfl h12 (inB_in b13) ?_
        cases hf
        exact g_ireturn dX12_field_124 rfl (Nat.le_of_ble_eq_true rfl) (Nat.le_of_ble_eq_true rfl)
      have hf := ite_f c11 hf
      by_cases c14 : v2 = (3 : Int32)
      · have hf := ite_t c14 hf
        refine g_tsw (pc' := 125) (3 : Int32) dX12_field_61 c14 (by decide) (by decide) rfl (by decide) ?_
        refine g_aload_n (pc' := 126) dX12_field_125 rfl rfl ?_
        refine g_getR (pc' := 129) 12 18 rfl rfl (by decide) inX12 (by decide) rfl rfl q_130 dX12_field_126 rfl h1 ?_
        refine g_iload_n (pc' := 130) dX12_field_129 rfl rfl ?_
        obtain ⟨h15, hf⟩ := chk_s hf
        obtain ⟨b16, hf⟩ := chk_s hf
        refine g_iald (pc' := 131) dX12_field_130 rfl h15 (inB_in b16) ?_
        cases hf
        exact g_ireturn dX12_field_131 rfl (Nat.le_of_ble_eq_true rfl) (Nat.le_of_ble_eq_true rfl)
      have hf := ite_f c14 hf
      by_cases c17 : v2 = (4 : Int32)
      · have hf := ite_t c17 hf
        refine g_tsw (pc' := 132) (4 : Int32) dX12_field_61 c17 (by decide) (by decide) rfl (by decide) ?_
        refine g_aload_n (pc' := 133) dX12_field_132 rfl rfl ?_
        refine g_getR (pc' := 136) 12 19 rfl rfl (by decide) inX12 (by decide) rfl rfl q_131 dX12_field_133 rfl h1 ?_
        refine g_iload_n (pc' := 137) dX12_field_136 rfl rfl ?_
        obtain ⟨h18, hf⟩ := chk_s hf
        obtain ⟨b19, hf⟩ := chk_s hf
        refine g_iald (pc' := 138) dX12_field_137 rfl h18 (inB_in b19) ?_
        cases hf
        exact g_ireturn dX12_field_138 rfl (Nat.le_of_ble_eq_true rfl) (Nat.le_of_ble_eq_true rfl)
      have hf := ite_f c17 hf
      by_cases c20 : v2 = (5 : Int32)
      · have hf := ite_t c20 hf
        refine g_tsw (pc' := 139) (5 : Int32) dX12_field_61 c20 (by decide) (by decide) rfl (by decide) ?_
        refine g_aload_n (pc' := 140) dX12_field_139 rfl rfl ?_
        refine g_getR (pc' := 143) 12 20 rfl rfl (by decide) inX12 (by decide) rfl rfl q_132 dX12_field_140 rfl h1 ?_
        refine g_iload_n (pc' := 144) dX12_field_143 rfl rfl ?_
        obtain ⟨h21, hf⟩ := chk_s hf
        obtain ⟨b22, hf⟩ := chk_s hf
        refine g_iald (pc' := 145) dX12_field_144 rfl h21 (inB_in b22) ?_
        cases hf
        exact g_ireturn dX12_field_145 rfl (Nat.le_of_ble_eq_true rfl) (Nat.le_of_ble_eq_true rfl)
      have hf := ite_f c20 hf
      by_cases c23 : v2 = (6 : Int32)
      · have hf := ite_t c23 hf
        refine g_tsw (pc' := 146) (6 : Int32) dX12_field_61 c23 (by decide) (by decide) rfl (by decide) ?_
        refine g_iload_n (pc' := 147) dX12_field_146 rfl rfl ?_
        cases hf
        exact g_ireturn dX12_field_147 rfl (Nat.le_of_ble_eq_true rfl) (Nat.le_of_ble_eq_true rfl)
      have hf := ite_f c23 hf
      have nc5 := nei c5 (z := 0) (by decide)
      have nc8 := nei c8 (z := 1) (by decide)
      have nc11 := nei c11 (z := 2) (by decide)
      have nc14 := nei c14 (z := 3) (by decide)
      have nc17 := nei c17 (z := 4) (by decide)
      have nc20 := nei c20 (z := 5) (by decide)
      have nc23 := nei c23 (z := 6) (by decide)
      refine g_tableOut (pc' := 148) dX12_field_61 (by omega) (by decide) ?_
      refine g_aload_n (pc' := 149) dX12_field_148 rfl rfl ?_
      refine g_iconst (pc' := 150) (1 : Int32) dX12_field_149 rfl (by decide) ?_
      obtain ⟨r25, M24, e25, hf⟩ := bnd_some hf
      refine g_callVi (pc' := 153) (k' := 0) (u' := 0) (fr2 := 1) (As := [aI (1 : Int32)]) (b := v0) (st := []) cf_X12_fail q_904 (by omega) (ci := 12) rfl rfl (by decide) dX12_field_150 rfl rfl rfl (Nat.le_of_ble_eq_true rfl) (Or.inl rfl) (Nat.le_refl _) (Nat.le_refl _) (Nat.le_refl _) (Nat.le_refl _) h1 (s_X12_fail v0 (1 : Int32) M _ e25) ?_
      cases hf
      exact g_ireturn dX12_field_153 rfl (Nat.le_of_ble_eq_true rfl) (Nat.le_of_ble_eq_true rfl)
    · have hf := ite_f c4 hf
      refine g_iload_n (pc' := 36) dX12_field_35 rfl rfl ?_
      refine g_aload_n (pc' := 37) dX12_field_36 rfl rfl ?_
      refine g_getR (pc' := 40) 12 16 rfl rfl (by decide) inX12 (by decide) rfl rfl q_128 dX12_field_37 rfl h1 ?_
      refine g_iload (pc' := 42) dX12_field_40 rfl rfl ?_
      obtain ⟨h26, hf⟩ := chk_s hf
      obtain ⟨b27, hf⟩ := chk_s hf
      refine g_iald (pc' := 43) dX12_field_42 rfl h26 (inB_in b27) ?_
      refine g_iload_n (pc' := 44) dX12_field_43 rfl rfl ?_
      refine g_icmp_ne (pc' := 47) 51 dX12_field_44 rfl (by decide) (fun c28 => ?_) (fun c28 => ?_)
      · have hf := ite_f c28 hf
        refine g_iconst (pc' := 52) (0 : Int32) dX12_field_51 rfl (by decide) ?_
        refine g_mask [true, true, true, false, true] rfl ?_
        exact s_X12_field_52 (f_X12_field_24 n) ih v0 v1 v2 v4 v3 (0 : Int32) M _ hf
      · have hf := ite_t c28 hf
        refine g_iconst (pc' := 48) (1 : Int32) dX12_field_47 rfl (by decide) ?_
        refine g_goto (pc' := 52) dX12_field_48 (by decide) ?_
        refine g_mask [true, true, true, false, true] rfl ?_
        exact s_X12_field_52 (f_X12_field_24 n) ih v0 v1 v2 v4 v3 (1 : Int32) M _ hf
theorem s_X12_field (v0 : Nat) (v1 : Int32) (v2 : Int32) (M : Mem) (r : (Int32 × Mem)) (hf : f_X12_field v0 v1 v2 M = some r) : Sem mi_X12_field (3) [aR v0, aI v1, aI v2] M (oI r.1) r.2 := by
  unfold f_X12_field at hf
  refine sem_of (by decide) rfl rfl rfl (Nat.le_of_ble_eq_true rfl) (lv := [some (aR v0), some (aI v1), some (aI v2), none, none]) rfl ?_
  refine g_aload_n (pc' := 1) dX12_field_0 rfl rfl ?_
  refine g_iconst (pc' := 2) (0 : Int32) dX12_field_1 rfl (by decide) ?_
  obtain ⟨h1, hf⟩ := chk_s hf
  refine g_putI (pc' := 5) 12 2 rfl rfl (by decide) inX12 tyX12_ok nmX12 (by decide) rfl rfl rfl rfl q_167 dX12_field_2 rfl h1 (gM fun M2 hM2 => ?_)
  have hf := ap_eq hf hM2
  refine g_aload_n (pc' := 6) dX12_field_5 rfl rfl ?_
  refine g_iload_n (pc' := 7) dX12_field_6 rfl rfl ?_
  obtain ⟨h3, hf⟩ := chk_s hf
  obtain ⟨r5, M4, e5, hf⟩ := bnd_some hf
  refine g_callVi (pc' := 10) (k' := 0) (u' := 0) (fr2 := 2) (As := [aI v1]) (b := v0) (st := []) cf_X12_isField q_928 (by omega) (ci := 12) rfl rfl (by decide) dX12_field_7 rfl rfl rfl (Nat.le_of_ble_eq_true rfl) (Or.inl rfl) (Nat.le_refl _) (Nat.le_refl _) (Nat.le_refl _) (Nat.le_refl _) h3 (s_X12_isField v0 v1 M2 _ e5) ?_
  refine g_if_ne (pc' := 13) 19 dX12_field_10 rfl (by decide) (fun c6 => ?_) (fun c6 => ?_)
  · have hf := ite_f c6 hf
    refine g_iconst (pc' := 20) (0 : Int32) dX12_field_19 rfl (by decide) ?_
    refine g_istore_n (pc' := 21) (lv' := [some (aR v0), some (aI v1), some (aI v2), some (aI (0 : Int32)), none]) dX12_field_20 rfl rfl (by decide) rfl ?_
    refine g_iconst (pc' := 22) (0 : Int32) dX12_field_21 rfl (by decide) ?_
    refine g_istore (pc' := 24) (lv' := [some (aR v0), some (aI v1), some (aI v2), some (aI (0 : Int32)), some (aI (0 : Int32))]) dX12_field_22 rfl rfl (by decide) rfl ?_
    refine g_widen (k' := 0) (u' := 0) (by omega) (by omega) ?_
    exact s_X12_field_24 FUEL v0 v1 v2 (0 : Int32) (0 : Int32) M4 _ hf
  · have hf := ite_t c6 hf
    refine g_aload_n (pc' := 14) dX12_field_13 rfl rfl ?_
    refine g_iconst (pc' := 15) (1 : Int32) dX12_field_14 rfl (by decide) ?_
    obtain ⟨h7, hf⟩ := chk_s hf
    obtain ⟨r9, M8, e9, hf⟩ := bnd_some hf
    refine g_callVi (pc' := 18) (k' := 0) (u' := 0) (fr2 := 1) (As := [aI (1 : Int32)]) (b := v0) (st := []) cf_X12_fail q_904 (by omega) (ci := 12) rfl rfl (by decide) dX12_field_15 rfl rfl rfl (Nat.le_of_ble_eq_true rfl) (Or.inl rfl) (Nat.le_refl _) (Nat.le_refl _) (Nat.le_refl _) (Nat.le_refl _) h7 (s_X12_fail v0 (1 : Int32) M4 _ e9) ?_
    cases hf
    exact g_ireturn dX12_field_18 rfl (Nat.le_of_ble_eq_true rfl) (Nat.le_of_ble_eq_true rfl)
def f_X12_name_44 (v0 : Nat) (M : Mem) : Option (Int32 × Mem) :=
  if mK M v0 = 13 then
    bnd (f_X12_fail v0 (1 : Int32) M) fun r3 M2 =>
    some (r3, M2)
  else none
def f_X12_name (v0 : Nat) (v1 : Int32) (v2 : Int32) (M : Mem) : Option (Int32 × Mem) :=
  if mK M v0 = 13 then
    ap (sI M v0 2 (0 : Int32)) fun M2 =>
    if mK M2 v0 = 13 then
      bnd (f_X12_isField v0 v1 M2) fun r5 M4 =>
      if r5 = 0 then
        f_X12_name_44 v0 M4
      else
        if mK M4 v0 = 13 then
          if mK M4 (mR M4 v0 20) = 21 then
            if inB v1 (mN M4 (mR M4 v0 20)) = true then
              bnd (f_X12_isIn v2.toInt64 (0 : Int64) (((mI M4 (mR M4 v0 20) v1.toNatClampNeg) - (1 : Int32)).toInt64) M4) fun r11 M10 =>
              if r11 = 0 then
                f_X12_name_44 v0 M10
              else
                if mK M10 v0 = 13 then
                  if mK M10 (mR M10 v0 22) = 21 then
                    if inB (((4 : Int32) * v1) + v2) (mN M10 (mR M10 v0 22)) = true then
                      some (mI M10 (mR M10 v0 22) (((4 : Int32) * v1) + v2).toNatClampNeg, M10)
                    else none
                  else none
                else none
            else none
          else none
        else none
    else none
  else none
theorem s_X12_name_44 (v0 : Nat) (M : Mem) (r : (Int32 × Mem)) (hf : f_X12_name_44 v0 M = some r) : G mi_X12_name 3 (oI r.1) r.2 44 [some (aR v0), none, none] [] M 0 0 := by
  unfold f_X12_name_44 at hf
  refine g_aload_n (pc' := 45) dX12_name_44 rfl rfl ?_
  refine g_iconst (pc' := 46) (1 : Int32) dX12_name_45 rfl (by decide) ?_
  obtain ⟨h1, hf⟩ := chk_s hf
  obtain ⟨r3, M2, e3, hf⟩ := bnd_some hf
  refine g_callVi (pc' := 49) (k' := 0) (u' := 0) (fr2 := 1) (As := [aI (1 : Int32)]) (b := v0) (st := []) cf_X12_fail q_904 (by omega) (ci := 12) rfl rfl (by decide) dX12_name_46 rfl rfl rfl (Nat.le_of_ble_eq_true rfl) (Or.inl rfl) (Nat.le_refl _) (Nat.le_refl _) (Nat.le_refl _) (Nat.le_refl _) h1 (s_X12_fail v0 (1 : Int32) M _ e3) ?_
  cases hf
  exact g_ireturn dX12_name_49 rfl (Nat.le_of_ble_eq_true rfl) (Nat.le_of_ble_eq_true rfl)
theorem s_X12_name (v0 : Nat) (v1 : Int32) (v2 : Int32) (M : Mem) (r : (Int32 × Mem)) (hf : f_X12_name v0 v1 v2 M = some r) : Sem mi_X12_name (3) [aR v0, aI v1, aI v2] M (oI r.1) r.2 := by
  unfold f_X12_name at hf
  refine sem_of (by decide) rfl rfl rfl (Nat.le_of_ble_eq_true rfl) (lv := [some (aR v0), some (aI v1), some (aI v2)]) rfl ?_
  refine g_aload_n (pc' := 1) dX12_name_0 rfl rfl ?_
  refine g_iconst (pc' := 2) (0 : Int32) dX12_name_1 rfl (by decide) ?_
  obtain ⟨h1, hf⟩ := chk_s hf
  refine g_putI (pc' := 5) 12 2 rfl rfl (by decide) inX12 tyX12_ok nmX12 (by decide) rfl rfl rfl rfl q_167 dX12_name_2 rfl h1 (gM fun M2 hM2 => ?_)
  have hf := ap_eq hf hM2
  refine g_aload_n (pc' := 6) dX12_name_5 rfl rfl ?_
  refine g_iload_n (pc' := 7) dX12_name_6 rfl rfl ?_
  obtain ⟨h3, hf⟩ := chk_s hf
  obtain ⟨r5, M4, e5, hf⟩ := bnd_some hf
  refine g_callVi (pc' := 10) (k' := 0) (u' := 0) (fr2 := 2) (As := [aI v1]) (b := v0) (st := []) cf_X12_isField q_928 (by omega) (ci := 12) rfl rfl (by decide) dX12_name_7 rfl rfl rfl (Nat.le_of_ble_eq_true rfl) (Or.inl rfl) (Nat.le_refl _) (Nat.le_refl _) (Nat.le_refl _) (Nat.le_refl _) h3 (s_X12_isField v0 v1 M2 _ e5) ?_
  refine g_if_eq (pc' := 13) 44 dX12_name_10 rfl (by decide) (fun c6 => ?_) (fun c6 => ?_)
  · have hf := ite_t c6 hf
    refine g_mask [true, false, false] rfl ?_
    refine g_widen (k' := 0) (u' := 0) (by omega) (by omega) ?_
    exact s_X12_name_44 v0 M4 _ hf
  · have hf := ite_f c6 hf
    refine g_iload_n (pc' := 14) dX12_name_13 rfl rfl ?_
    refine g_i2l (pc' := 15) dX12_name_14 rfl ?_
    refine g_lconst (pc' := 16) (0 : Int64) dX12_name_15 rfl (by decide) ?_
    refine g_aload_n (pc' := 17) dX12_name_16 rfl rfl ?_
    obtain ⟨h7, hf⟩ := chk_s hf
    refine g_getR (pc' := 20) 12 20 rfl rfl (by decide) inX12 (by decide) rfl rfl q_132 dX12_name_17 rfl h7 ?_
    refine g_iload_n (pc' := 21) dX12_name_20 rfl rfl ?_
    obtain ⟨h8, hf⟩ := chk_s hf
    obtain ⟨b9, hf⟩ := chk_s hf
    refine g_iald (pc' := 22) dX12_name_21 rfl h8 (inB_in b9) ?_
    refine g_iconst (pc' := 23) (1 : Int32) dX12_name_22 rfl (by decide) ?_
    refine g_isub (pc' := 24) dX12_name_23 rfl ?_
    refine g_i2l (pc' := 25) dX12_name_24 rfl ?_
    obtain ⟨r11, M10, e11, hf⟩ := bnd_some hf
    refine g_callSi (pc' := 28) (k' := 0) (u' := 0) (fr2 := 1) (As := [aL v2.toInt64, aL (0 : Int64), aL (((mI M4 (mR M4 v0 20) v1.toNatClampNeg) - (1 : Int32)).toInt64)]) (st := []) cf_X12_isIn q_932 (by omega) dX12_name_25 rfl rfl rfl (Nat.le_of_ble_eq_true rfl) (Or.inl rfl) (Nat.le_refl _) (Nat.le_refl _) (Nat.le_refl _) (Nat.le_refl _) (s_X12_isIn v2.toInt64 (0 : Int64) (((mI M4 (mR M4 v0 20) v1.toNatClampNeg) - (1 : Int32)).toInt64) M4 _ e11) ?_
    refine g_if_eq (pc' := 31) 44 dX12_name_28 rfl (by decide) (fun c12 => ?_) (fun c12 => ?_)
    · have hf := ite_t c12 hf
      refine g_mask [true, false, false] rfl ?_
      refine g_widen (k' := 0) (u' := 0) (by omega) (by omega) ?_
      exact s_X12_name_44 v0 M10 _ hf
    · have hf := ite_f c12 hf
      refine g_aload_n (pc' := 32) dX12_name_31 rfl rfl ?_
      obtain ⟨h13, hf⟩ := chk_s hf
      refine g_getR (pc' := 35) 12 22 rfl rfl (by decide) inX12 (by decide) rfl rfl q_134 dX12_name_32 rfl h13 ?_
      refine g_iconst (pc' := 36) (4 : Int32) dX12_name_35 rfl (by decide) ?_
      refine g_iload_n (pc' := 37) dX12_name_36 rfl rfl ?_
      refine g_imul (pc' := 38) dX12_name_37 rfl ?_
      refine g_iload_n (pc' := 39) dX12_name_38 rfl rfl ?_
      refine g_iadd (pc' := 40) dX12_name_39 rfl ?_
      obtain ⟨h14, hf⟩ := chk_s hf
      obtain ⟨b15, hf⟩ := chk_s hf
      refine g_iald (pc' := 41) dX12_name_40 rfl h14 (inB_in b15) ?_
      refine g_goto (pc' := 49) dX12_name_41 (by decide) ?_
      cases hf
      exact g_ireturn dX12_name_49 rfl (Nat.le_of_ble_eq_true rfl) (Nat.le_of_ble_eq_true rfl)
def f_X12_runsOf_84 (k5 : Nat → Int32 → Int32 → Int32 → Int32 → Mem → Option (Int32 × Mem)) (v0 : Nat) (v1 : Int32) (v2 : Int32) (v4 : Int32) (w0 : Int32) (w1 : Int32) (M : Mem) : Option (Int32 × Mem) :=
  k5 v0 v1 v2 (w0 + w1) (v4 + 1) M
def f_X12_runsOf_71 (k5 : Nat → Int32 → Int32 → Int32 → Int32 → Mem → Option (Int32 × Mem)) (v0 : Nat) (v1 : Int32) (v2 : Int32) (v3 : Int32) (v4 : Int32) (w0 : Int32) (M : Mem) : Option (Int32 × Mem) :=
  if w0 = 0 then
    f_X12_runsOf_84 k5 v0 v1 v2 v4 v3 (0 : Int32) M
  else
    f_X12_runsOf_84 k5 v0 v1 v2 v4 v3 (1 : Int32) M
def f_X12_runsOf_70 (k5 : Nat → Int32 → Int32 → Int32 → Int32 → Mem → Option (Int32 × Mem)) (v0 : Nat) (v1 : Int32) (v2 : Int32) (v3 : Int32) (v4 : Int32) (M : Mem) : Option (Int32 × Mem) :=
  f_X12_runsOf_71 k5 v0 v1 v2 v3 v4 (0 : Int32) M
def f_X12_runsOf_66 (k5 : Nat → Int32 → Int32 → Int32 → Int32 → Mem → Option (Int32 × Mem)) (v0 : Nat) (v1 : Int32) (v2 : Int32) (v3 : Int32) (v4 : Int32) (M : Mem) : Option (Int32 × Mem) :=
  f_X12_runsOf_71 k5 v0 v1 v2 v3 v4 (1 : Int32) M
def f_X12_runsOf_5 : Nat → Nat → Int32 → Int32 → Int32 → Int32 → Mem → Option (Int32 × Mem)
  | 0, _, _, _, _, _, _ => none
  | n + 1, v0, v1, v2, v3, v4, M =>
    if mK M v0 = 13 then
      if mK M (mR M v0 28) = 21 then
        if inB v1 (mN M (mR M v0 28)) = true then
          if (mI M (mR M v0 28) v1.toNatClampNeg) ≤ v4 then
            some (v3, M)
          else
            if v4 = 0 then
              f_X12_runsOf_66 (f_X12_runsOf_5 n) v0 v1 v2 v3 v4 M
            else
              if v2 = 0 then
                bnd (f_X12_repAt v0 v1 v4 M) fun r8 M7 =>
                if mK M7 v0 = 13 then
                  bnd (f_X12_repAt v0 v1 (v4 - (1 : Int32)) M7) fun r11 M10 =>
                  if r8 = r11 then
                    f_X12_runsOf_70 (f_X12_runsOf_5 n) v0 v1 v2 v3 v4 M10
                  else
                    f_X12_runsOf_66 (f_X12_runsOf_5 n) v0 v1 v2 v3 v4 M10
                else none
              else
                bnd (f_X12_defAt v0 v1 v4 M) fun r14 M13 =>
                if mK M13 v0 = 13 then
                  bnd (f_X12_defAt v0 v1 (v4 - (1 : Int32)) M13) fun r17 M16 =>
                  if r14 = r17 then
                    f_X12_runsOf_70 (f_X12_runsOf_5 n) v0 v1 v2 v3 v4 M16
                  else
                    f_X12_runsOf_66 (f_X12_runsOf_5 n) v0 v1 v2 v3 v4 M16
                else none
        else none
      else none
    else none
def f_X12_runsOf (v0 : Nat) (v1 : Int32) (v2 : Int32) (M : Mem) : Option (Int32 × Mem) :=
  f_X12_runsOf_5 FUEL v0 v1 v2 (0 : Int32) (0 : Int32) M
theorem s_X12_runsOf_84 (k5 : Nat → Int32 → Int32 → Int32 → Int32 → Mem → Option (Int32 × Mem)) (hk5 : ∀ (v0 : Nat) (v1 : Int32) (v2 : Int32) (v3 : Int32) (v4 : Int32) (M : Mem) (r : (Int32 × Mem)), k5 v0 v1 v2 v3 v4 M = some r → G mi_X12_runsOf 2 (oI r.1) r.2 5 [some (aR v0), some (aI v1), some (aI v2), some (aI v3), some (aI v4), none] [] M 0 0) (v0 : Nat) (v1 : Int32) (v2 : Int32) (v4 : Int32) (w0 : Int32) (w1 : Int32) (M : Mem) (r : (Int32 × Mem)) (hf : f_X12_runsOf_84 k5 v0 v1 v2 v4 w0 w1 M = some r) : G mi_X12_runsOf 2 (oI r.1) r.2 84 [some (aR v0), some (aI v1), some (aI v2), none, some (aI v4), none] [aI w1, aI w0] M 0 0 := by
  unfold f_X12_runsOf_84 at hf
  refine g_iadd (pc' := 85) dX12_runsOf_84 rfl ?_
  refine g_istore_n (pc' := 86) (lv' := [some (aR v0), some (aI v1), some (aI v2), some (aI (w0 + w1)), some (aI v4), none]) dX12_runsOf_85 rfl rfl (by decide) rfl ?_
  refine g_iinc (pc' := 89) (lv' := [some (aR v0), some (aI v1), some (aI v2), some (aI (w0 + w1)), some (aI (v4 + 1)), none]) (v4 + 1) dX12_runsOf_86 rfl rfl (by rfl) rfl (by decide) rfl ?_
  refine g_goto (pc' := 5) dX12_runsOf_89 (by decide) ?_
  exact hk5 v0 v1 v2 (w0 + w1) (v4 + 1) M _ hf
theorem s_X12_runsOf_71 (k5 : Nat → Int32 → Int32 → Int32 → Int32 → Mem → Option (Int32 × Mem)) (hk5 : ∀ (v0 : Nat) (v1 : Int32) (v2 : Int32) (v3 : Int32) (v4 : Int32) (M : Mem) (r : (Int32 × Mem)), k5 v0 v1 v2 v3 v4 M = some r → G mi_X12_runsOf 2 (oI r.1) r.2 5 [some (aR v0), some (aI v1), some (aI v2), some (aI v3), some (aI v4), none] [] M 0 0) (v0 : Nat) (v1 : Int32) (v2 : Int32) (v3 : Int32) (v4 : Int32) (w0 : Int32) (M : Mem) (r : (Int32 × Mem)) (hf : f_X12_runsOf_71 k5 v0 v1 v2 v3 v4 w0 M = some r) : G mi_X12_runsOf 2 (oI r.1) r.2 71 [some (aR v0), some (aI v1), some (aI v2), some (aI v3), some (aI v4), none] [aI w0] M 0 0 := by
  unfold f_X12_runsOf_71 at hf
  refine g_istore (pc' := 73) (lv' := [some (aR v0), some (aI v1), some (aI v2), some (aI v3), some (aI v4), some (aI w0)]) dX12_runsOf_71 rfl rfl (by decide) rfl ?_
  refine g_iload_n (pc' := 74) dX12_runsOf_73 rfl rfl ?_
  refine g_iload (pc' := 76) dX12_runsOf_74 rfl rfl ?_
  refine g_if_eq (pc' := 79) 83 dX12_runsOf_76 rfl (by decide) (fun c1 => ?_) (fun c1 => ?_)
  · have hf := ite_t c1 hf
    refine g_iconst (pc' := 84) (0 : Int32) dX12_runsOf_83 rfl (by decide) ?_
    refine g_mask [true, true, true, false, true, false] rfl ?_
    exact s_X12_runsOf_84 k5 hk5 v0 v1 v2 v4 v3 (0 : Int32) M _ hf
  · have hf := ite_f c1 hf
    refine g_iconst (pc' := 80) (1 : Int32) dX12_runsOf_79 rfl (by decide) ?_
    refine g_goto (pc' := 84) dX12_runsOf_80 (by decide) ?_
    refine g_mask [true, true, true, false, true, false] rfl ?_
    exact s_X12_runsOf_84 k5 hk5 v0 v1 v2 v4 v3 (1 : Int32) M _ hf
theorem s_X12_runsOf_70 (k5 : Nat → Int32 → Int32 → Int32 → Int32 → Mem → Option (Int32 × Mem)) (hk5 : ∀ (v0 : Nat) (v1 : Int32) (v2 : Int32) (v3 : Int32) (v4 : Int32) (M : Mem) (r : (Int32 × Mem)), k5 v0 v1 v2 v3 v4 M = some r → G mi_X12_runsOf 2 (oI r.1) r.2 5 [some (aR v0), some (aI v1), some (aI v2), some (aI v3), some (aI v4), none] [] M 0 0) (v0 : Nat) (v1 : Int32) (v2 : Int32) (v3 : Int32) (v4 : Int32) (M : Mem) (r : (Int32 × Mem)) (hf : f_X12_runsOf_70 k5 v0 v1 v2 v3 v4 M = some r) : G mi_X12_runsOf 2 (oI r.1) r.2 70 [some (aR v0), some (aI v1), some (aI v2), some (aI v3), some (aI v4), none] [] M 0 0 := by
  unfold f_X12_runsOf_70 at hf
  refine g_iconst (pc' := 71) (0 : Int32) dX12_runsOf_70 rfl (by decide) ?_
  exact s_X12_runsOf_71 k5 hk5 v0 v1 v2 v3 v4 (0 : Int32) M _ hf
theorem s_X12_runsOf_66 (k5 : Nat → Int32 → Int32 → Int32 → Int32 → Mem → Option (Int32 × Mem)) (hk5 : ∀ (v0 : Nat) (v1 : Int32) (v2 : Int32) (v3 : Int32) (v4 : Int32) (M : Mem) (r : (Int32 × Mem)), k5 v0 v1 v2 v3 v4 M = some r → G mi_X12_runsOf 2 (oI r.1) r.2 5 [some (aR v0), some (aI v1), some (aI v2), some (aI v3), some (aI v4), none] [] M 0 0) (v0 : Nat) (v1 : Int32) (v2 : Int32) (v3 : Int32) (v4 : Int32) (M : Mem) (r : (Int32 × Mem)) (hf : f_X12_runsOf_66 k5 v0 v1 v2 v3 v4 M = some r) : G mi_X12_runsOf 2 (oI r.1) r.2 66 [some (aR v0), some (aI v1), some (aI v2), some (aI v3), some (aI v4), none] [] M 0 0 := by
  unfold f_X12_runsOf_66 at hf
  refine g_iconst (pc' := 67) (1 : Int32) dX12_runsOf_66 rfl (by decide) ?_
  refine g_goto (pc' := 71) dX12_runsOf_67 (by decide) ?_
  exact s_X12_runsOf_71 k5 hk5 v0 v1 v2 v3 v4 (1 : Int32) M _ hf
theorem s_X12_runsOf_5 : ∀ (n : Nat) (v0 : Nat) (v1 : Int32) (v2 : Int32) (v3 : Int32) (v4 : Int32) (M : Mem) (r : (Int32 × Mem)), f_X12_runsOf_5 n v0 v1 v2 v3 v4 M = some r → G mi_X12_runsOf 2 (oI r.1) r.2 5 [some (aR v0), some (aI v1), some (aI v2), some (aI v3), some (aI v4), none] [] M 0 0 := by
  intro n
  induction n with
  | zero => intro v0 v1 v2 v3 v4 M r hf; cases hf
  | succ n ih =>
    intro v0 v1 v2 v3 v4 M r hf
    unfold f_X12_runsOf_5 at hf
    refine g_iload (pc' := 7) dX12_runsOf_5 rfl rfl ?_
    refine g_aload_n (pc' := 8) dX12_runsOf_7 rfl rfl ?_
    obtain ⟨h1, hf⟩ := chk_s hf
    refine g_getR (pc' := 11) 12 28 rfl rfl (by decide) inX12 (by decide) rfl rfl q_139 dX12_runsOf_8 rfl h1 ?_
    refine g_iload_n (pc' := 12) dX12_runsOf_11 rfl rfl ?_
    obtain ⟨h2, hf⟩ := chk_s hf
    obtain ⟨b3, hf⟩ := chk_s hf
    refine g_iald (pc' := 13) dX12_runsOf_12 rfl h2 (inB_in b3) ?_
    refine g_icmp_ge (pc' := 16) 92 dX12_runsOf_13 rfl (by decide) (fun c4 => ?_) (fun c4 => ?_)
    · have hf := ite_t c4 hf
      refine g_iload_n (pc' := 93) dX12_runsOf_92 rfl rfl ?_
      cases hf
      exact g_ireturn dX12_runsOf_93 rfl (Nat.le_of_ble_eq_true rfl) (Nat.le_of_ble_eq_true rfl)
    · have hf := ite_f c4 hf
      refine g_iload (pc' := 18) dX12_runsOf_16 rfl rfl ?_
      refine g_if_eq (pc' := 21) 66 dX12_runsOf_18 rfl (by decide) (fun c5 => ?_) (fun c5 => ?_)
      · have hf := ite_t c5 hf
        exact s_X12_runsOf_66 (f_X12_runsOf_5 n) ih v0 v1 v2 v3 v4 M _ hf
      · have hf := ite_f c5 hf
        refine g_iload_n (pc' := 22) dX12_runsOf_21 rfl rfl ?_
        refine g_if_eq (pc' := 25) 47 dX12_runsOf_22 rfl (by decide) (fun c6 => ?_) (fun c6 => ?_)
        · have hf := ite_t c6 hf
          refine g_aload_n (pc' := 48) dX12_runsOf_47 rfl rfl ?_
          refine g_iload_n (pc' := 49) dX12_runsOf_48 rfl rfl ?_
          refine g_iload (pc' := 51) dX12_runsOf_49 rfl rfl ?_
          obtain ⟨r8, M7, e8, hf⟩ := bnd_some hf
          refine g_callVi (pc' := 54) (k' := 0) (u' := 0) (fr2 := 1) (As := [aI v1, aI v4]) (b := v0) (st := []) cf_X12_repAt q_656 (by omega) (ci := 12) rfl rfl (by decide) dX12_runsOf_51 rfl rfl rfl (Nat.le_of_ble_eq_true rfl) (Or.inl rfl) (Nat.le_refl _) (Nat.le_refl _) (Nat.le_refl _) (Nat.le_refl _) h1 (s_X12_repAt v0 v1 v4 M _ e8) ?_
          refine g_aload_n (pc' := 55) dX12_runsOf_54 rfl rfl ?_
          refine g_iload_n (pc' := 56) dX12_runsOf_55 rfl rfl ?_
          refine g_iload (pc' := 58) dX12_runsOf_56 rfl rfl ?_
          refine g_iconst (pc' := 59) (1 : Int32) dX12_runsOf_58 rfl (by decide) ?_
          refine g_isub (pc' := 60) dX12_runsOf_59 rfl ?_
          obtain ⟨h9, hf⟩ := chk_s hf
          obtain ⟨r11, M10, e11, hf⟩ := bnd_some hf
          refine g_callVi (pc' := 63) (k' := 0) (u' := 0) (fr2 := 1) (As := [aI v1, aI (v4 - (1 : Int32))]) (b := v0) (st := [aI r8]) cf_X12_repAt q_656 (by omega) (ci := 12) rfl rfl (by decide) dX12_runsOf_60 rfl rfl rfl (Nat.le_of_ble_eq_true rfl) (Or.inl rfl) (Nat.le_refl _) (Nat.le_refl _) (Nat.le_refl _) (Nat.le_refl _) h9 (s_X12_repAt v0 v1 (v4 - (1 : Int32)) M7 _ e11) ?_
          refine g_icmp_eq (pc' := 66) 70 dX12_runsOf_63 rfl (by decide) (fun c12 => ?_) (fun c12 => ?_)
          · have hf := ite_t c12 hf
            refine g_widen (k' := 0) (u' := 0) (by omega) (by omega) ?_
            exact s_X12_runsOf_70 (f_X12_runsOf_5 n) ih v0 v1 v2 v3 v4 M10 _ hf
          · have hf := ite_f c12 hf
            refine g_widen (k' := 0) (u' := 0) (by omega) (by omega) ?_
            exact s_X12_runsOf_66 (f_X12_runsOf_5 n) ih v0 v1 v2 v3 v4 M10 _ hf
        · have hf := ite_f c6 hf
          refine g_aload_n (pc' := 26) dX12_runsOf_25 rfl rfl ?_
          refine g_iload_n (pc' := 27) dX12_runsOf_26 rfl rfl ?_
          refine g_iload (pc' := 29) dX12_runsOf_27 rfl rfl ?_
          obtain ⟨r14, M13, e14, hf⟩ := bnd_some hf
          refine g_callVi (pc' := 32) (k' := 0) (u' := 0) (fr2 := 1) (As := [aI v1, aI v4]) (b := v0) (st := []) cf_X12_defAt q_660 (by omega) (ci := 12) rfl rfl (by decide) dX12_runsOf_29 rfl rfl rfl (Nat.le_of_ble_eq_true rfl) (Or.inl rfl) (Nat.le_refl _) (Nat.le_refl _) (Nat.le_refl _) (Nat.le_refl _) h1 (s_X12_defAt v0 v1 v4 M _ e14) ?_
          refine g_aload_n (pc' := 33) dX12_runsOf_32 rfl rfl ?_
          refine g_iload_n (pc' := 34) dX12_runsOf_33 rfl rfl ?_
          refine g_iload (pc' := 36) dX12_runsOf_34 rfl rfl ?_
          refine g_iconst (pc' := 37) (1 : Int32) dX12_runsOf_36 rfl (by decide) ?_
          refine g_isub (pc' := 38) dX12_runsOf_37 rfl ?_
          obtain ⟨h15, hf⟩ := chk_s hf
          obtain ⟨r17, M16, e17, hf⟩ := bnd_some hf
          refine g_callVi (pc' := 41) (k' := 0) (u' := 0) (fr2 := 1) (As := [aI v1, aI (v4 - (1 : Int32))]) (b := v0) (st := [aI r14]) cf_X12_defAt q_660 (by omega) (ci := 12) rfl rfl (by decide) dX12_runsOf_38 rfl rfl rfl (Nat.le_of_ble_eq_true rfl) (Or.inl rfl) (Nat.le_refl _) (Nat.le_refl _) (Nat.le_refl _) (Nat.le_refl _) h15 (s_X12_defAt v0 v1 (v4 - (1 : Int32)) M13 _ e17) ?_
          refine g_icmp_eq (pc' := 44) 70 dX12_runsOf_41 rfl (by decide) (fun c18 => ?_) (fun c18 => ?_)
          · have hf := ite_t c18 hf
            refine g_widen (k' := 0) (u' := 0) (by omega) (by omega) ?_
            exact s_X12_runsOf_70 (f_X12_runsOf_5 n) ih v0 v1 v2 v3 v4 M16 _ hf
          · have hf := ite_f c18 hf
            refine g_goto (pc' := 66) dX12_runsOf_44 (by decide) ?_
            refine g_widen (k' := 0) (u' := 0) (by omega) (by omega) ?_
            exact s_X12_runsOf_66 (f_X12_runsOf_5 n) ih v0 v1 v2 v3 v4 M16 _ hf
theorem s_X12_runsOf (v0 : Nat) (v1 : Int32) (v2 : Int32) (M : Mem) (r : (Int32 × Mem)) (hf : f_X12_runsOf v0 v1 v2 M = some r) : Sem mi_X12_runsOf (2) [aR v0, aI v1, aI v2] M (oI r.1) r.2 := by
  unfold f_X12_runsOf at hf
  refine sem_of (by decide) rfl rfl rfl (Nat.le_of_ble_eq_true rfl) (lv := [some (aR v0), some (aI v1), some (aI v2), none, none, none]) rfl ?_
  refine g_iconst (pc' := 1) (0 : Int32) dX12_runsOf_0 rfl (by decide) ?_
  refine g_istore_n (pc' := 2) (lv' := [some (aR v0), some (aI v1), some (aI v2), some (aI (0 : Int32)), none, none]) dX12_runsOf_1 rfl rfl (by decide) rfl ?_
  refine g_iconst (pc' := 3) (0 : Int32) dX12_runsOf_2 rfl (by decide) ?_
  refine g_istore (pc' := 5) (lv' := [some (aR v0), some (aI v1), some (aI v2), some (aI (0 : Int32)), some (aI (0 : Int32)), none]) dX12_runsOf_3 rfl rfl (by decide) rfl ?_
  exact s_X12_runsOf_5 FUEL v0 v1 v2 (0 : Int32) (0 : Int32) M _ hf
def f_X12_digitsOf_2 : Nat → Int32 → Int32 → Mem → Option (Int32 × Mem)
  | 0, _, _, _ => none
  | n + 1, v0, v1, M =>
    if (v0 >>> (v1 &&& 31)) = 0 then
      some (v1, M)
    else
      f_X12_digitsOf_2 n v0 (v1 + 1) M
def f_X12_digitsOf (v0 : Int32) (M : Mem) : Option (Int32 × Mem) :=
  f_X12_digitsOf_2 FUEL v0 (0 : Int32) M
theorem s_X12_digitsOf_2 : ∀ (n : Nat) (v0 : Int32) (v1 : Int32) (M : Mem) (r : (Int32 × Mem)), f_X12_digitsOf_2 n v0 v1 M = some r → G mi_X12_digitsOf 1 (oI r.1) r.2 2 [some (aI v0), some (aI v1)] [] M 0 0 := by
  intro n
  induction n with
  | zero => intro v0 v1 M r hf; cases hf
  | succ n ih =>
    intro v0 v1 M r hf
    unfold f_X12_digitsOf_2 at hf
    refine g_iload_n (pc' := 3) dX12_digitsOf_2 rfl rfl ?_
    refine g_iload_n (pc' := 4) dX12_digitsOf_3 rfl rfl ?_
    refine g_ishr (pc' := 5) dX12_digitsOf_4 rfl ?_
    refine g_if_eq (pc' := 8) 14 dX12_digitsOf_5 rfl (by decide) (fun c1 => ?_) (fun c1 => ?_)
    · have hf := ite_t c1 hf
      refine g_iload_n (pc' := 15) dX12_digitsOf_14 rfl rfl ?_
      cases hf
      exact g_ireturn dX12_digitsOf_15 rfl (Nat.le_of_ble_eq_true rfl) (Nat.le_of_ble_eq_true rfl)
    · have hf := ite_f c1 hf
      refine g_iinc (pc' := 11) (lv' := [some (aI v0), some (aI (v1 + 1))]) (v1 + 1) dX12_digitsOf_8 rfl rfl (by rfl) rfl (by decide) rfl ?_
      refine g_goto (pc' := 2) dX12_digitsOf_11 (by decide) ?_
      exact ih v0 (v1 + 1) M _ hf
theorem s_X12_digitsOf (v0 : Int32) (M : Mem) (r : (Int32 × Mem)) (hf : f_X12_digitsOf v0 M = some r) : Sem mi_X12_digitsOf (1) [aI v0] M (oI r.1) r.2 := by
  unfold f_X12_digitsOf at hf
  refine sem_of (by decide) rfl rfl rfl (Nat.le_of_ble_eq_true rfl) (lv := [some (aI v0), none]) rfl ?_
  refine g_iconst (pc' := 1) (0 : Int32) dX12_digitsOf_0 rfl (by decide) ?_
  refine g_istore_n (pc' := 2) (lv' := [some (aI v0), some (aI (0 : Int32))]) dX12_digitsOf_1 rfl rfl (by decide) rfl ?_
  exact s_X12_digitsOf_2 FUEL v0 (0 : Int32) M _ hf
def f_X12_leaf_86 (w0 : Nat) (w1 : Int32) (w2 : Int32) (M : Mem) : Option (Int32 × Mem) :=
  if mK M w0 = 13 then
    bnd (f_X12_runsOf w0 w1 w2 M) fun r3 M2 =>
    some (r3, M2)
  else none
def f_X12_leaf_74 (v0 : Nat) (v1 : Int32) (v2 : Int32) (M : Mem) : Option (Int32 × Mem) :=
  if v2 = (3 : Int32) then
    f_X12_leaf_86 v0 v1 (1 : Int32) M
  else
    f_X12_leaf_86 v0 v1 (0 : Int32) M
def f_X12_leaf (v0 : Nat) (v1 : Int32) (v2 : Int32) (M : Mem) : Option (Int32 × Mem) :=
  if mK M v0 = 13 then
    ap (sI M v0 2 (0 : Int32)) fun M2 =>
    if mK M2 v0 = 13 then
      bnd (f_X12_isLeaf v0 v1 M2) fun r5 M4 =>
      if r5 = 0 then
        if mK M4 v0 = 13 then
          bnd (f_X12_fail v0 (1 : Int32) M4) fun r38 M37 =>
          some (r38, M37)
        else none
      else
        if v2 = (0 : Int32) then
          if mK M4 v0 = 13 then
            if mK M4 (mR M4 v0 25) = 21 then
              if inB v1 (mN M4 (mR M4 v0 25)) = true then
                some (mI M4 (mR M4 v0 25) v1.toNatClampNeg, M4)
              else none
            else none
          else none
        else
        if v2 = (1 : Int32) then
          if mK M4 v0 = 13 then
            if mK M4 (mR M4 v0 28) = 21 then
              if inB v1 (mN M4 (mR M4 v0 28)) = true then
                some (mI M4 (mR M4 v0 28) v1.toNatClampNeg, M4)
              else none
            else none
          else none
        else
        if v2 = (2 : Int32) then
          f_X12_leaf_74 v0 v1 v2 M4
        else
        if v2 = (3 : Int32) then
          f_X12_leaf_74 v0 v1 v2 M4
        else
        if v2 = (4 : Int32) then
          if mK M4 v0 = 13 then
            if mK M4 (mR M4 v0 25) = 21 then
              if inB v1 (mN M4 (mR M4 v0 25)) = true then
                if mK M4 (mR M4 v0 19) = 21 then
                  if inB (mI M4 (mR M4 v0 25) v1.toNatClampNeg) (mN M4 (mR M4 v0 19)) = true then
                    bnd (f_X12_digitsOf (mI M4 (mR M4 v0 19) (mI M4 (mR M4 v0 25) v1.toNatClampNeg).toNatClampNeg) M4) fun r24 M23 =>
                    some (r24, M23)
                  else none
                else none
              else none
            else none
          else none
        else
        if v2 = (5 : Int32) then
          if mK M4 v0 = 13 then
            if mK M4 (mR M4 v0 25) = 21 then
              if inB v1 (mN M4 (mR M4 v0 25)) = true then
                if mK M4 (mR M4 v0 18) = 21 then
                  if inB (mI M4 (mR M4 v0 25) v1.toNatClampNeg) (mN M4 (mR M4 v0 18)) = true then
                    bnd (f_X12_digitsOf (mI M4 (mR M4 v0 18) (mI M4 (mR M4 v0 25) v1.toNatClampNeg).toNatClampNeg) M4) fun r32 M31 =>
                    some (r32, M31)
                  else none
                else none
              else none
            else none
          else none
        else
        if mK M4 v0 = 13 then
          bnd (f_X12_fail v0 (1 : Int32) M4) fun r35 M34 =>
          some (r35, M34)
        else none
    else none
  else none
theorem s_X12_leaf_86 (w0 : Nat) (w1 : Int32) (w2 : Int32) (M : Mem) (r : (Int32 × Mem)) (hf : f_X12_leaf_86 w0 w1 w2 M = some r) : G mi_X12_leaf 3 (oI r.1) r.2 86 [none, none, none] [aI w2, aI w1, aR w0] M 0 0 := by
  unfold f_X12_leaf_86 at hf
  obtain ⟨h1, hf⟩ := chk_s hf
  obtain ⟨r3, M2, e3, hf⟩ := bnd_some hf
  refine g_callVi (pc' := 89) (k' := 0) (u' := 0) (fr2 := 2) (As := [aI w1, aI w2]) (b := w0) (st := []) cf_X12_runsOf q_978 (by omega) (ci := 12) rfl rfl (by decide) dX12_leaf_86 rfl rfl rfl (Nat.le_of_ble_eq_true rfl) (Or.inl rfl) (Nat.le_refl _) (Nat.le_refl _) (Nat.le_refl _) (Nat.le_refl _) h1 (s_X12_runsOf w0 w1 w2 M _ e3) ?_
  cases hf
  exact g_ireturn dX12_leaf_89 rfl (Nat.le_of_ble_eq_true rfl) (Nat.le_of_ble_eq_true rfl)
theorem s_X12_leaf_74 (v0 : Nat) (v1 : Int32) (v2 : Int32) (M : Mem) (r : (Int32 × Mem)) (hf : f_X12_leaf_74 v0 v1 v2 M = some r) : G mi_X12_leaf 3 (oI r.1) r.2 74 [some (aR v0), some (aI v1), some (aI v2)] [] M 0 0 := by
  unfold f_X12_leaf_74 at hf
  refine g_aload_n (pc' := 75) dX12_leaf_74 rfl rfl ?_
  refine g_iload_n (pc' := 76) dX12_leaf_75 rfl rfl ?_
  refine g_iload_n (pc' := 77) dX12_leaf_76 rfl rfl ?_
  refine g_iconst (pc' := 78) (3 : Int32) dX12_leaf_77 rfl (by decide) ?_
  refine g_icmp_ne (pc' := 81) 85 dX12_leaf_78 rfl (by decide) (fun c1 => ?_) (fun c1 => ?_)
  · have hf := ite_f c1 hf
    refine g_iconst (pc' := 86) (0 : Int32) dX12_leaf_85 rfl (by decide) ?_
    refine g_mask [false, false, false] rfl ?_
    exact s_X12_leaf_86 v0 v1 (0 : Int32) M _ hf
  · have hf := ite_t c1 hf
    refine g_iconst (pc' := 82) (1 : Int32) dX12_leaf_81 rfl (by decide) ?_
    refine g_goto (pc' := 86) dX12_leaf_82 (by decide) ?_
    refine g_mask [false, false, false] rfl ?_
    exact s_X12_leaf_86 v0 v1 (1 : Int32) M _ hf
theorem s_X12_leaf (v0 : Nat) (v1 : Int32) (v2 : Int32) (M : Mem) (r : (Int32 × Mem)) (hf : f_X12_leaf v0 v1 v2 M = some r) : Sem mi_X12_leaf (3) [aR v0, aI v1, aI v2] M (oI r.1) r.2 := by
  unfold f_X12_leaf at hf
  refine sem_of (by decide) rfl rfl rfl (Nat.le_of_ble_eq_true rfl) (lv := [some (aR v0), some (aI v1), some (aI v2)]) rfl ?_
  refine g_aload_n (pc' := 1) dX12_leaf_0 rfl rfl ?_
  refine g_iconst (pc' := 2) (0 : Int32) dX12_leaf_1 rfl (by decide) ?_
  obtain ⟨h1, hf⟩ := chk_s hf
  refine g_putI (pc' := 5) 12 2 rfl rfl (by decide) inX12 tyX12_ok nmX12 (by decide) rfl rfl rfl rfl q_167 dX12_leaf_2 rfl h1 (gM fun M2 hM2 => ?_)
  have hf := ap_eq hf hM2
  refine g_aload_n (pc' := 6) dX12_leaf_5 rfl rfl ?_
  refine g_iload_n (pc' := 7) dX12_leaf_6 rfl rfl ?_
  obtain ⟨h3, hf⟩ := chk_s hf
  obtain ⟨r5, M4, e5, hf⟩ := bnd_some hf
  refine g_callVi (pc' := 10) (k' := 0) (u' := 0) (fr2 := 2) (As := [aI v1]) (b := v0) (st := []) cf_X12_isLeaf q_974 (by omega) (ci := 12) rfl rfl (by decide) dX12_leaf_7 rfl rfl rfl (Nat.le_of_ble_eq_true rfl) (Or.inl rfl) (Nat.le_refl _) (Nat.le_refl _) (Nat.le_refl _) (Nat.le_refl _) h3 (s_X12_isLeaf v0 v1 M2 _ e5) ?_
  refine g_if_ne (pc' := 13) 19 dX12_leaf_10 rfl (by decide) (fun c6 => ?_) (fun c6 => ?_)
  · have hf := ite_f c6 hf
    refine g_iload_n (pc' := 20) dX12_leaf_19 rfl rfl ?_
    by_cases c7 : v2 = (0 : Int32)
    · have hf := ite_t c7 hf
      refine g_tsw (pc' := 60) (0 : Int32) dX12_leaf_20 c7 (by decide) (by decide) rfl (by decide) ?_
      refine g_aload_n (pc' := 61) dX12_leaf_60 rfl rfl ?_
      obtain ⟨h8, hf⟩ := chk_s hf
      refine g_getR (pc' := 64) 12 25 rfl rfl (by decide) inX12 (by decide) rfl rfl q_137 dX12_leaf_61 rfl h8 ?_
      refine g_iload_n (pc' := 65) dX12_leaf_64 rfl rfl ?_
      obtain ⟨h9, hf⟩ := chk_s hf
      obtain ⟨b10, hf⟩ := chk_s hf
      refine g_iald (pc' := 66) dX12_leaf_65 rfl h9 (inB_in b10) ?_
      cases hf
      exact g_ireturn dX12_leaf_66 rfl (Nat.le_of_ble_eq_true rfl) (Nat.le_of_ble_eq_true rfl)
    have hf := ite_f c7 hf
    by_cases c11 : v2 = (1 : Int32)
    · have hf := ite_t c11 hf
      refine g_tsw (pc' := 67) (1 : Int32) dX12_leaf_20 c11 (by decide) (by decide) rfl (by decide) ?_
      refine g_aload_n (pc' := 68) dX12_leaf_67 rfl rfl ?_
      obtain ⟨h12, hf⟩ := chk_s hf
      refine g_getR (pc' := 71) 12 28 rfl rfl (by decide) inX12 (by decide) rfl rfl q_139 dX12_leaf_68 rfl h12 ?_
      refine g_iload_n (pc' := 72) dX12_leaf_71 rfl rfl ?_
      obtain ⟨h13, hf⟩ := chk_s hf
      obtain ⟨b14, hf⟩ := chk_s hf
      refine g_iald (pc' := 73) dX12_leaf_72 rfl h13 (inB_in b14) ?_
      cases hf
      exact g_ireturn dX12_leaf_73 rfl (Nat.le_of_ble_eq_true rfl) (Nat.le_of_ble_eq_true rfl)
    have hf := ite_f c11 hf
    by_cases c15 : v2 = (2 : Int32)
    · have hf := ite_t c15 hf
      refine g_tsw (pc' := 74) (2 : Int32) dX12_leaf_20 c15 (by decide) (by decide) rfl (by decide) ?_
      refine g_widen (k' := 0) (u' := 0) (by omega) (by omega) ?_
      exact s_X12_leaf_74 v0 v1 v2 M4 _ hf
    have hf := ite_f c15 hf
    by_cases c16 : v2 = (3 : Int32)
    · have hf := ite_t c16 hf
      refine g_tsw (pc' := 74) (3 : Int32) dX12_leaf_20 c16 (by decide) (by decide) rfl (by decide) ?_
      refine g_widen (k' := 0) (u' := 0) (by omega) (by omega) ?_
      exact s_X12_leaf_74 v0 v1 v2 M4 _ hf
    have hf := ite_f c16 hf
    by_cases c17 : v2 = (4 : Int32)
    · have hf := ite_t c17 hf
      refine g_tsw (pc' := 90) (4 : Int32) dX12_leaf_20 c17 (by decide) (by decide) rfl (by decide) ?_
      refine g_aload_n (pc' := 91) dX12_leaf_90 rfl rfl ?_
      obtain ⟨h18, hf⟩ := chk_s hf
      refine g_getR (pc' := 94) 12 19 rfl rfl (by decide) inX12 (by decide) rfl rfl q_131 dX12_leaf_91 rfl h18 ?_
      refine g_aload_n (pc' := 95) dX12_leaf_94 rfl rfl ?_
      refine g_getR (pc' := 98) 12 25 rfl rfl (by decide) inX12 (by decide) rfl rfl q_137 dX12_leaf_95 rfl h18 ?_
      refine g_iload_n (pc' := 99) dX12_leaf_98 rfl rfl ?_
      obtain ⟨h19, hf⟩ := chk_s hf
      obtain ⟨b20, hf⟩ := chk_s hf
      refine g_iald (pc' := 100) dX12_leaf_99 rfl h19 (inB_in b20) ?_
      obtain ⟨h21, hf⟩ := chk_s hf
      obtain ⟨b22, hf⟩ := chk_s hf
      refine g_iald (pc' := 101) dX12_leaf_100 rfl h21 (inB_in b22) ?_
      obtain ⟨r24, M23, e24, hf⟩ := bnd_some hf
      refine g_callSi (pc' := 104) (k' := 0) (u' := 0) (fr2 := 1) (As := [aI (mI M4 (mR M4 v0 19) (mI M4 (mR M4 v0 25) v1.toNatClampNeg).toNatClampNeg)]) (st := []) cf_X12_digitsOf q_982 (by omega) dX12_leaf_101 rfl rfl rfl (Nat.le_of_ble_eq_true rfl) (Or.inl rfl) (Nat.le_refl _) (Nat.le_refl _) (Nat.le_refl _) (Nat.le_refl _) (s_X12_digitsOf (mI M4 (mR M4 v0 19) (mI M4 (mR M4 v0 25) v1.toNatClampNeg).toNatClampNeg) M4 _ e24) ?_
      cases hf
      exact g_ireturn dX12_leaf_104 rfl (Nat.le_of_ble_eq_true rfl) (Nat.le_of_ble_eq_true rfl)
    have hf := ite_f c17 hf
    by_cases c25 : v2 = (5 : Int32)
    · have hf := ite_t c25 hf
      refine g_tsw (pc' := 105) (5 : Int32) dX12_leaf_20 c25 (by decide) (by decide) rfl (by decide) ?_
      refine g_aload_n (pc' := 106) dX12_leaf_105 rfl rfl ?_
      obtain ⟨h26, hf⟩ := chk_s hf
      refine g_getR (pc' := 109) 12 18 rfl rfl (by decide) inX12 (by decide) rfl rfl q_130 dX12_leaf_106 rfl h26 ?_
      refine g_aload_n (pc' := 110) dX12_leaf_109 rfl rfl ?_
      refine g_getR (pc' := 113) 12 25 rfl rfl (by decide) inX12 (by decide) rfl rfl q_137 dX12_leaf_110 rfl h26 ?_
      refine g_iload_n (pc' := 114) dX12_leaf_113 rfl rfl ?_
      obtain ⟨h27, hf⟩ := chk_s hf
      obtain ⟨b28, hf⟩ := chk_s hf
      refine g_iald (pc' := 115) dX12_leaf_114 rfl h27 (inB_in b28) ?_
      obtain ⟨h29, hf⟩ := chk_s hf
      obtain ⟨b30, hf⟩ := chk_s hf
      refine g_iald (pc' := 116) dX12_leaf_115 rfl h29 (inB_in b30) ?_
      obtain ⟨r32, M31, e32, hf⟩ := bnd_some hf
      refine g_callSi (pc' := 119) (k' := 0) (u' := 0) (fr2 := 1) (As := [aI (mI M4 (mR M4 v0 18) (mI M4 (mR M4 v0 25) v1.toNatClampNeg).toNatClampNeg)]) (st := []) cf_X12_digitsOf q_982 (by omega) dX12_leaf_116 rfl rfl rfl (Nat.le_of_ble_eq_true rfl) (Or.inl rfl) (Nat.le_refl _) (Nat.le_refl _) (Nat.le_refl _) (Nat.le_refl _) (s_X12_digitsOf (mI M4 (mR M4 v0 18) (mI M4 (mR M4 v0 25) v1.toNatClampNeg).toNatClampNeg) M4 _ e32) ?_
      cases hf
      exact g_ireturn dX12_leaf_119 rfl (Nat.le_of_ble_eq_true rfl) (Nat.le_of_ble_eq_true rfl)
    have hf := ite_f c25 hf
    have nc7 := nei c7 (z := 0) (by decide)
    have nc11 := nei c11 (z := 1) (by decide)
    have nc15 := nei c15 (z := 2) (by decide)
    have nc16 := nei c16 (z := 3) (by decide)
    have nc17 := nei c17 (z := 4) (by decide)
    have nc25 := nei c25 (z := 5) (by decide)
    refine g_tableOut (pc' := 120) dX12_leaf_20 (by omega) (by decide) ?_
    refine g_aload_n (pc' := 121) dX12_leaf_120 rfl rfl ?_
    refine g_iconst (pc' := 122) (1 : Int32) dX12_leaf_121 rfl (by decide) ?_
    obtain ⟨h33, hf⟩ := chk_s hf
    obtain ⟨r35, M34, e35, hf⟩ := bnd_some hf
    refine g_callVi (pc' := 125) (k' := 0) (u' := 0) (fr2 := 1) (As := [aI (1 : Int32)]) (b := v0) (st := []) cf_X12_fail q_904 (by omega) (ci := 12) rfl rfl (by decide) dX12_leaf_122 rfl rfl rfl (Nat.le_of_ble_eq_true rfl) (Or.inl rfl) (Nat.le_refl _) (Nat.le_refl _) (Nat.le_refl _) (Nat.le_refl _) h33 (s_X12_fail v0 (1 : Int32) M4 _ e35) ?_
    cases hf
    exact g_ireturn dX12_leaf_125 rfl (Nat.le_of_ble_eq_true rfl) (Nat.le_of_ble_eq_true rfl)
  · have hf := ite_t c6 hf
    refine g_aload_n (pc' := 14) dX12_leaf_13 rfl rfl ?_
    refine g_iconst (pc' := 15) (1 : Int32) dX12_leaf_14 rfl (by decide) ?_
    obtain ⟨h36, hf⟩ := chk_s hf
    obtain ⟨r38, M37, e38, hf⟩ := bnd_some hf
    refine g_callVi (pc' := 18) (k' := 0) (u' := 0) (fr2 := 1) (As := [aI (1 : Int32)]) (b := v0) (st := []) cf_X12_fail q_904 (by omega) (ci := 12) rfl rfl (by decide) dX12_leaf_15 rfl rfl rfl (Nat.le_of_ble_eq_true rfl) (Or.inl rfl) (Nat.le_refl _) (Nat.le_refl _) (Nat.le_refl _) (Nat.le_refl _) h36 (s_X12_fail v0 (1 : Int32) M4 _ e38) ?_
    cases hf
    exact g_ireturn dX12_leaf_18 rfl (Nat.le_of_ble_eq_true rfl) (Nat.le_of_ble_eq_true rfl)
def f_X12_isEntry (v0 : Nat) (v1 : Int32) (v2 : Int32) (M : Mem) : Option (Int32 × Mem) :=
  if mK M v0 = 13 then
    bnd (f_X12_isLeaf v0 v1 M) fun r3 M2 =>
    if r3 = 0 then
      some ((0 : Int32), M2)
    else
      if mK M2 v0 = 13 then
        if mK M2 (mR M2 v0 28) = 21 then
          if inB v1 (mN M2 (mR M2 v0 28)) = true then
            bnd (f_X12_isIn v2.toInt64 (0 : Int64) (((mI M2 (mR M2 v0 28) v1.toNatClampNeg) - (1 : Int32)).toInt64) M2) fun r9 M8 =>
            if r9 = 0 then
              some ((0 : Int32), M8)
            else
              some ((1 : Int32), M8)
          else none
        else none
      else none
  else none
theorem s_X12_isEntry (v0 : Nat) (v1 : Int32) (v2 : Int32) (M : Mem) (r : (Int32 × Mem)) (hf : f_X12_isEntry v0 v1 v2 M = some r) : Sem mi_X12_isEntry (3) [aR v0, aI v1, aI v2] M (oI r.1) r.2 := by
  unfold f_X12_isEntry at hf
  refine sem_of (by decide) rfl rfl rfl (Nat.le_of_ble_eq_true rfl) (lv := [some (aR v0), some (aI v1), some (aI v2)]) rfl ?_
  refine g_aload_n (pc' := 1) dX12_isEntry_0 rfl rfl ?_
  refine g_iload_n (pc' := 2) dX12_isEntry_1 rfl rfl ?_
  obtain ⟨h1, hf⟩ := chk_s hf
  obtain ⟨r3, M2, e3, hf⟩ := bnd_some hf
  refine g_callVi (pc' := 5) (k' := 0) (u' := 0) (fr2 := 2) (As := [aI v1]) (b := v0) (st := []) cf_X12_isLeaf q_974 (by omega) (ci := 12) rfl rfl (by decide) dX12_isEntry_2 rfl rfl rfl (Nat.le_of_ble_eq_true rfl) (Or.inl rfl) (Nat.le_refl _) (Nat.le_refl _) (Nat.le_refl _) (Nat.le_refl _) h1 (s_X12_isLeaf v0 v1 M _ e3) ?_
  refine g_if_eq (pc' := 8) 30 dX12_isEntry_5 rfl (by decide) (fun c4 => ?_) (fun c4 => ?_)
  · have hf := ite_t c4 hf
    refine g_iconst (pc' := 31) (0 : Int32) dX12_isEntry_30 rfl (by decide) ?_
    cases hf
    exact g_zreturn dX12_isEntry_31 rfl (Or.inl rfl) (Nat.le_of_ble_eq_true rfl) (Nat.le_of_ble_eq_true rfl)
  · have hf := ite_f c4 hf
    refine g_iload_n (pc' := 9) dX12_isEntry_8 rfl rfl ?_
    refine g_i2l (pc' := 10) dX12_isEntry_9 rfl ?_
    refine g_lconst (pc' := 11) (0 : Int64) dX12_isEntry_10 rfl (by decide) ?_
    refine g_aload_n (pc' := 12) dX12_isEntry_11 rfl rfl ?_
    obtain ⟨h5, hf⟩ := chk_s hf
    refine g_getR (pc' := 15) 12 28 rfl rfl (by decide) inX12 (by decide) rfl rfl q_139 dX12_isEntry_12 rfl h5 ?_
    refine g_iload_n (pc' := 16) dX12_isEntry_15 rfl rfl ?_
    obtain ⟨h6, hf⟩ := chk_s hf
    obtain ⟨b7, hf⟩ := chk_s hf
    refine g_iald (pc' := 17) dX12_isEntry_16 rfl h6 (inB_in b7) ?_
    refine g_iconst (pc' := 18) (1 : Int32) dX12_isEntry_17 rfl (by decide) ?_
    refine g_isub (pc' := 19) dX12_isEntry_18 rfl ?_
    refine g_i2l (pc' := 20) dX12_isEntry_19 rfl ?_
    obtain ⟨r9, M8, e9, hf⟩ := bnd_some hf
    refine g_callSi (pc' := 23) (k' := 0) (u' := 0) (fr2 := 1) (As := [aL v2.toInt64, aL (0 : Int64), aL (((mI M2 (mR M2 v0 28) v1.toNatClampNeg) - (1 : Int32)).toInt64)]) (st := []) cf_X12_isIn q_932 (by omega) dX12_isEntry_20 rfl rfl rfl (Nat.le_of_ble_eq_true rfl) (Or.inl rfl) (Nat.le_refl _) (Nat.le_refl _) (Nat.le_refl _) (Nat.le_refl _) (s_X12_isIn v2.toInt64 (0 : Int64) (((mI M2 (mR M2 v0 28) v1.toNatClampNeg) - (1 : Int32)).toInt64) M2 _ e9) ?_
    refine g_if_eq (pc' := 26) 30 dX12_isEntry_23 rfl (by decide) (fun c10 => ?_) (fun c10 => ?_)
    · have hf := ite_t c10 hf
      refine g_iconst (pc' := 31) (0 : Int32) dX12_isEntry_30 rfl (by decide) ?_
      cases hf
      exact g_zreturn dX12_isEntry_31 rfl (Or.inl rfl) (Nat.le_of_ble_eq_true rfl) (Nat.le_of_ble_eq_true rfl)
    · have hf := ite_f c10 hf
      refine g_iconst (pc' := 27) (1 : Int32) dX12_isEntry_26 rfl (by decide) ?_
      refine g_goto (pc' := 31) dX12_isEntry_27 (by decide) ?_
      cases hf
      exact g_zreturn dX12_isEntry_31 rfl (Or.inr rfl) (Nat.le_of_ble_eq_true rfl) (Nat.le_of_ble_eq_true rfl)
def f_X12_entry (v0 : Nat) (v1 : Int32) (v2 : Int32) (v3 : Int32) (M : Mem) : Option (Int32 × Mem) :=
  if mK M v0 = 13 then
    ap (sI M v0 2 (0 : Int32)) fun M2 =>
    if mK M2 v0 = 13 then
      bnd (f_X12_isEntry v0 v1 v2 M2) fun r5 M4 =>
      if r5 = 0 then
        if mK M4 v0 = 13 then
          bnd (f_X12_fail v0 (1 : Int32) M4) fun r28 M27 =>
          some (r28, M27)
        else none
      else
        if v3 = (0 : Int32) then
          if mK M4 v0 = 13 then
            bnd (f_X12_repAt v0 v1 v2 M4) fun r10 M9 =>
            some (r10, M9)
          else none
        else
        if v3 = (1 : Int32) then
          if mK M4 v0 = 13 then
            bnd (f_X12_defAt v0 v1 v2 M4) fun r14 M13 =>
            some (r14, M13)
          else none
        else
        if v3 = (2 : Int32) then
          if mK M4 v0 = 13 then
            bnd (f_X12_hasValue v0 v1 v2 M4) fun r18 M17 =>
            if r18 = 0 then
              some ((-1 : Int32), M17)
            else
              if mK M17 v0 = 13 then
                bnd (f_X12_valueAt v0 v1 v2 M17) fun r22 M21 =>
                some (r22, M21)
              else none
          else none
        else
        if mK M4 v0 = 13 then
          bnd (f_X12_fail v0 (1 : Int32) M4) fun r25 M24 =>
          some (r25, M24)
        else none
    else none
  else none
theorem s_X12_entry (v0 : Nat) (v1 : Int32) (v2 : Int32) (v3 : Int32) (M : Mem) (r : (Int32 × Mem)) (hf : f_X12_entry v0 v1 v2 v3 M = some r) : Sem mi_X12_entry (4) [aR v0, aI v1, aI v2, aI v3] M (oI r.1) r.2 := by
  unfold f_X12_entry at hf
  refine sem_of (by decide) rfl rfl rfl (Nat.le_of_ble_eq_true rfl) (lv := [some (aR v0), some (aI v1), some (aI v2), some (aI v3)]) rfl ?_
  refine g_aload_n (pc' := 1) dX12_entry_0 rfl rfl ?_
  refine g_iconst (pc' := 2) (0 : Int32) dX12_entry_1 rfl (by decide) ?_
  obtain ⟨h1, hf⟩ := chk_s hf
  refine g_putI (pc' := 5) 12 2 rfl rfl (by decide) inX12 tyX12_ok nmX12 (by decide) rfl rfl rfl rfl q_167 dX12_entry_2 rfl h1 (gM fun M2 hM2 => ?_)
  have hf := ap_eq hf hM2
  refine g_aload_n (pc' := 6) dX12_entry_5 rfl rfl ?_
  refine g_iload_n (pc' := 7) dX12_entry_6 rfl rfl ?_
  refine g_iload_n (pc' := 8) dX12_entry_7 rfl rfl ?_
  obtain ⟨h3, hf⟩ := chk_s hf
  obtain ⟨r5, M4, e5, hf⟩ := bnd_some hf
  refine g_callVi (pc' := 11) (k' := 0) (u' := 0) (fr2 := 3) (As := [aI v1, aI v2]) (b := v0) (st := []) cf_X12_isEntry q_1006 (by omega) (ci := 12) rfl rfl (by decide) dX12_entry_8 rfl rfl rfl (Nat.le_of_ble_eq_true rfl) (Or.inl rfl) (Nat.le_refl _) (Nat.le_refl _) (Nat.le_refl _) (Nat.le_refl _) h3 (s_X12_isEntry v0 v1 v2 M2 _ e5) ?_
  refine g_if_ne (pc' := 14) 20 dX12_entry_11 rfl (by decide) (fun c6 => ?_) (fun c6 => ?_)
  · have hf := ite_f c6 hf
    refine g_iload_n (pc' := 21) dX12_entry_20 rfl rfl ?_
    by_cases c7 : v3 = (0 : Int32)
    · have hf := ite_t c7 hf
      refine g_tsw (pc' := 48) (0 : Int32) dX12_entry_21 c7 (by decide) (by decide) rfl (by decide) ?_
      refine g_aload_n (pc' := 49) dX12_entry_48 rfl rfl ?_
      refine g_iload_n (pc' := 50) dX12_entry_49 rfl rfl ?_
      refine g_iload_n (pc' := 51) dX12_entry_50 rfl rfl ?_
      obtain ⟨h8, hf⟩ := chk_s hf
      obtain ⟨r10, M9, e10, hf⟩ := bnd_some hf
      refine g_callVi (pc' := 54) (k' := 0) (u' := 0) (fr2 := 1) (As := [aI v1, aI v2]) (b := v0) (st := []) cf_X12_repAt q_656 (by omega) (ci := 12) rfl rfl (by decide) dX12_entry_51 rfl rfl rfl (Nat.le_of_ble_eq_true rfl) (Or.inl rfl) (Nat.le_refl _) (Nat.le_refl _) (Nat.le_refl _) (Nat.le_refl _) h8 (s_X12_repAt v0 v1 v2 M4 _ e10) ?_
      cases hf
      exact g_ireturn dX12_entry_54 rfl (Nat.le_of_ble_eq_true rfl) (Nat.le_of_ble_eq_true rfl)
    have hf := ite_f c7 hf
    by_cases c11 : v3 = (1 : Int32)
    · have hf := ite_t c11 hf
      refine g_tsw (pc' := 55) (1 : Int32) dX12_entry_21 c11 (by decide) (by decide) rfl (by decide) ?_
      refine g_aload_n (pc' := 56) dX12_entry_55 rfl rfl ?_
      refine g_iload_n (pc' := 57) dX12_entry_56 rfl rfl ?_
      refine g_iload_n (pc' := 58) dX12_entry_57 rfl rfl ?_
      obtain ⟨h12, hf⟩ := chk_s hf
      obtain ⟨r14, M13, e14, hf⟩ := bnd_some hf
      refine g_callVi (pc' := 61) (k' := 0) (u' := 0) (fr2 := 1) (As := [aI v1, aI v2]) (b := v0) (st := []) cf_X12_defAt q_660 (by omega) (ci := 12) rfl rfl (by decide) dX12_entry_58 rfl rfl rfl (Nat.le_of_ble_eq_true rfl) (Or.inl rfl) (Nat.le_refl _) (Nat.le_refl _) (Nat.le_refl _) (Nat.le_refl _) h12 (s_X12_defAt v0 v1 v2 M4 _ e14) ?_
      cases hf
      exact g_ireturn dX12_entry_61 rfl (Nat.le_of_ble_eq_true rfl) (Nat.le_of_ble_eq_true rfl)
    have hf := ite_f c11 hf
    by_cases c15 : v3 = (2 : Int32)
    · have hf := ite_t c15 hf
      refine g_tsw (pc' := 62) (2 : Int32) dX12_entry_21 c15 (by decide) (by decide) rfl (by decide) ?_
      refine g_aload_n (pc' := 63) dX12_entry_62 rfl rfl ?_
      refine g_iload_n (pc' := 64) dX12_entry_63 rfl rfl ?_
      refine g_iload_n (pc' := 65) dX12_entry_64 rfl rfl ?_
      obtain ⟨h16, hf⟩ := chk_s hf
      obtain ⟨r18, M17, e18, hf⟩ := bnd_some hf
      refine g_callVi (pc' := 68) (k' := 0) (u' := 0) (fr2 := 2) (As := [aI v1, aI v2]) (b := v0) (st := []) cf_X12_hasValue q_1010 (by omega) (ci := 12) rfl rfl (by decide) dX12_entry_65 rfl rfl rfl (Nat.le_of_ble_eq_true rfl) (Or.inl rfl) (Nat.le_refl _) (Nat.le_refl _) (Nat.le_refl _) (Nat.le_refl _) h16 (s_X12_hasValue v0 v1 v2 M4 _ e18) ?_
      refine g_if_eq (pc' := 71) 80 dX12_entry_68 rfl (by decide) (fun c19 => ?_) (fun c19 => ?_)
      · have hf := ite_t c19 hf
        refine g_iconst (pc' := 81) (-1 : Int32) dX12_entry_80 rfl (by decide) ?_
        cases hf
        exact g_ireturn dX12_entry_81 rfl (Nat.le_of_ble_eq_true rfl) (Nat.le_of_ble_eq_true rfl)
      · have hf := ite_f c19 hf
        refine g_aload_n (pc' := 72) dX12_entry_71 rfl rfl ?_
        refine g_iload_n (pc' := 73) dX12_entry_72 rfl rfl ?_
        refine g_iload_n (pc' := 74) dX12_entry_73 rfl rfl ?_
        obtain ⟨h20, hf⟩ := chk_s hf
        obtain ⟨r22, M21, e22, hf⟩ := bnd_some hf
        refine g_callVi (pc' := 77) (k' := 0) (u' := 0) (fr2 := 1) (As := [aI v1, aI v2]) (b := v0) (st := []) cf_X12_valueAt q_896 (by omega) (ci := 12) rfl rfl (by decide) dX12_entry_74 rfl rfl rfl (Nat.le_of_ble_eq_true rfl) (Or.inl rfl) (Nat.le_refl _) (Nat.le_refl _) (Nat.le_refl _) (Nat.le_refl _) h20 (s_X12_valueAt v0 v1 v2 M17 _ e22) ?_
        refine g_goto (pc' := 81) dX12_entry_77 (by decide) ?_
        cases hf
        exact g_ireturn dX12_entry_81 rfl (Nat.le_of_ble_eq_true rfl) (Nat.le_of_ble_eq_true rfl)
    have hf := ite_f c15 hf
    have nc7 := nei c7 (z := 0) (by decide)
    have nc11 := nei c11 (z := 1) (by decide)
    have nc15 := nei c15 (z := 2) (by decide)
    refine g_tableOut (pc' := 82) dX12_entry_21 (by omega) (by decide) ?_
    refine g_aload_n (pc' := 83) dX12_entry_82 rfl rfl ?_
    refine g_iconst (pc' := 84) (1 : Int32) dX12_entry_83 rfl (by decide) ?_
    obtain ⟨h23, hf⟩ := chk_s hf
    obtain ⟨r25, M24, e25, hf⟩ := bnd_some hf
    refine g_callVi (pc' := 87) (k' := 0) (u' := 0) (fr2 := 1) (As := [aI (1 : Int32)]) (b := v0) (st := []) cf_X12_fail q_904 (by omega) (ci := 12) rfl rfl (by decide) dX12_entry_84 rfl rfl rfl (Nat.le_of_ble_eq_true rfl) (Or.inl rfl) (Nat.le_refl _) (Nat.le_refl _) (Nat.le_refl _) (Nat.le_refl _) h23 (s_X12_fail v0 (1 : Int32) M4 _ e25) ?_
    cases hf
    exact g_ireturn dX12_entry_87 rfl (Nat.le_of_ble_eq_true rfl) (Nat.le_of_ble_eq_true rfl)
  · have hf := ite_t c6 hf
    refine g_aload_n (pc' := 15) dX12_entry_14 rfl rfl ?_
    refine g_iconst (pc' := 16) (1 : Int32) dX12_entry_15 rfl (by decide) ?_
    obtain ⟨h26, hf⟩ := chk_s hf
    obtain ⟨r28, M27, e28, hf⟩ := bnd_some hf
    refine g_callVi (pc' := 19) (k' := 0) (u' := 0) (fr2 := 1) (As := [aI (1 : Int32)]) (b := v0) (st := []) cf_X12_fail q_904 (by omega) (ci := 12) rfl rfl (by decide) dX12_entry_16 rfl rfl rfl (Nat.le_of_ble_eq_true rfl) (Or.inl rfl) (Nat.le_refl _) (Nat.le_refl _) (Nat.le_refl _) (Nat.le_refl _) h26 (s_X12_fail v0 (1 : Int32) M4 _ e28) ?_
    cases hf
    exact g_ireturn dX12_entry_19 rfl (Nat.le_of_ble_eq_true rfl) (Nat.le_of_ble_eq_true rfl)
def f_X12_firstOf_39 (k5 : Nat → Int32 → Int32 → Int32 → Mem → Option (Int32 × Mem)) (v0 : Nat) (v1 : Int32) (v3 : Int32) (v4 : Int32) (M : Mem) : Option (Int32 × Mem) :=
  k5 v0 v1 v3 (v4 + 1) M
def f_X12_firstOf_5 : Nat → Nat → Int32 → Int32 → Int32 → Mem → Option (Int32 × Mem)
  | 0, _, _, _, _, _ => none
  | n + 1, v0, v1, v3, v4, M =>
    if mK M v0 = 13 then
      if mK M (mR M v0 28) = 21 then
        if inB v1 (mN M (mR M v0 28)) = true then
          if (mI M (mR M v0 28) v1.toNatClampNeg) ≤ v4 then
            some (mI M (mR M v0 28) v1.toNatClampNeg, M)
          else
            bnd (f_X12_repAt v0 v1 v4 M) fun r6 M5 =>
            if r6 = 0 then
              if v3 = 0 then
                some (v4, M5)
              else
                f_X12_firstOf_39 (f_X12_firstOf_5 n) v0 v1 (v3 + (-1)) v4 M5
            else
              f_X12_firstOf_39 (f_X12_firstOf_5 n) v0 v1 v3 v4 M5
        else none
      else none
    else none
def f_X12_firstOf (v0 : Nat) (v1 : Int32) (v2 : Int32) (M : Mem) : Option (Int32 × Mem) :=
  f_X12_firstOf_5 FUEL v0 v1 v2 (0 : Int32) M
theorem s_X12_firstOf_39 (k5 : Nat → Int32 → Int32 → Int32 → Mem → Option (Int32 × Mem)) (hk5 : ∀ (v0 : Nat) (v1 : Int32) (v3 : Int32) (v4 : Int32) (M : Mem) (r : (Int32 × Mem)), k5 v0 v1 v3 v4 M = some r → G mi_X12_firstOf 2 (oI r.1) r.2 5 [some (aR v0), some (aI v1), none, some (aI v3), some (aI v4)] [] M 0 0) (v0 : Nat) (v1 : Int32) (v3 : Int32) (v4 : Int32) (M : Mem) (r : (Int32 × Mem)) (hf : f_X12_firstOf_39 k5 v0 v1 v3 v4 M = some r) : G mi_X12_firstOf 2 (oI r.1) r.2 39 [some (aR v0), some (aI v1), none, some (aI v3), some (aI v4)] [] M 0 0 := by
  unfold f_X12_firstOf_39 at hf
  refine g_iinc (pc' := 42) (lv' := [some (aR v0), some (aI v1), none, some (aI v3), some (aI (v4 + 1))]) (v4 + 1) dX12_firstOf_39 rfl rfl (by rfl) rfl (by decide) rfl ?_
  refine g_goto (pc' := 5) dX12_firstOf_42 (by decide) ?_
  exact hk5 v0 v1 v3 (v4 + 1) M _ hf
theorem s_X12_firstOf_5 : ∀ (n : Nat) (v0 : Nat) (v1 : Int32) (v3 : Int32) (v4 : Int32) (M : Mem) (r : (Int32 × Mem)), f_X12_firstOf_5 n v0 v1 v3 v4 M = some r → G mi_X12_firstOf 2 (oI r.1) r.2 5 [some (aR v0), some (aI v1), none, some (aI v3), some (aI v4)] [] M 0 0 := by
  intro n
  induction n with
  | zero => intro v0 v1 v3 v4 M r hf; cases hf
  | succ n ih =>
    intro v0 v1 v3 v4 M r hf
    unfold f_X12_firstOf_5 at hf
    refine g_iload (pc' := 7) dX12_firstOf_5 rfl rfl ?_
    refine g_aload_n (pc' := 8) dX12_firstOf_7 rfl rfl ?_
    obtain ⟨h1, hf⟩ := chk_s hf
    refine g_getR (pc' := 11) 12 28 rfl rfl (by decide) inX12 (by decide) rfl rfl q_139 dX12_firstOf_8 rfl h1 ?_
    refine g_iload_n (pc' := 12) dX12_firstOf_11 rfl rfl ?_
    obtain ⟨h2, hf⟩ := chk_s hf
    obtain ⟨b3, hf⟩ := chk_s hf
    refine g_iald (pc' := 13) dX12_firstOf_12 rfl h2 (inB_in b3) ?_
    refine g_icmp_ge (pc' := 16) 45 dX12_firstOf_13 rfl (by decide) (fun c4 => ?_) (fun c4 => ?_)
    · have hf := ite_t c4 hf
      refine g_aload_n (pc' := 46) dX12_firstOf_45 rfl rfl ?_
      refine g_getR (pc' := 49) 12 28 rfl rfl (by decide) inX12 (by decide) rfl rfl q_139 dX12_firstOf_46 rfl h1 ?_
      refine g_iload_n (pc' := 50) dX12_firstOf_49 rfl rfl ?_
      refine g_iald (pc' := 51) dX12_firstOf_50 rfl h2 (inB_in b3) ?_
      cases hf
      exact g_ireturn dX12_firstOf_51 rfl (Nat.le_of_ble_eq_true rfl) (Nat.le_of_ble_eq_true rfl)
    · have hf := ite_f c4 hf
      refine g_aload_n (pc' := 17) dX12_firstOf_16 rfl rfl ?_
      refine g_iload_n (pc' := 18) dX12_firstOf_17 rfl rfl ?_
      refine g_iload (pc' := 20) dX12_firstOf_18 rfl rfl ?_
      obtain ⟨r6, M5, e6, hf⟩ := bnd_some hf
      refine g_callVi (pc' := 23) (k' := 0) (u' := 0) (fr2 := 1) (As := [aI v1, aI v4]) (b := v0) (st := []) cf_X12_repAt q_656 (by omega) (ci := 12) rfl rfl (by decide) dX12_firstOf_20 rfl rfl rfl (Nat.le_of_ble_eq_true rfl) (Or.inl rfl) (Nat.le_refl _) (Nat.le_refl _) (Nat.le_refl _) (Nat.le_refl _) h1 (s_X12_repAt v0 v1 v4 M _ e6) ?_
      refine g_if_eq (pc' := 26) 29 dX12_firstOf_23 rfl (by decide) (fun c7 => ?_) (fun c7 => ?_)
      · have hf := ite_t c7 hf
        refine g_iload_n (pc' := 30) dX12_firstOf_29 rfl rfl ?_
        refine g_if_ne (pc' := 33) 36 dX12_firstOf_30 rfl (by decide) (fun c8 => ?_) (fun c8 => ?_)
        · have hf := ite_f c8 hf
          refine g_iinc (pc' := 39) (lv' := [some (aR v0), some (aI v1), none, some (aI (v3 + (-1))), some (aI v4)]) (v3 + (-1)) dX12_firstOf_36 rfl rfl (by rfl) rfl (by decide) rfl ?_
          refine g_widen (k' := 0) (u' := 0) (by omega) (by omega) ?_
          exact s_X12_firstOf_39 (f_X12_firstOf_5 n) ih v0 v1 (v3 + (-1)) v4 M5 _ hf
        · have hf := ite_t c8 hf
          refine g_iload (pc' := 35) dX12_firstOf_33 rfl rfl ?_
          cases hf
          exact g_ireturn dX12_firstOf_35 rfl (Nat.le_of_ble_eq_true rfl) (Nat.le_of_ble_eq_true rfl)
      · have hf := ite_f c7 hf
        refine g_goto (pc' := 39) dX12_firstOf_26 (by decide) ?_
        refine g_widen (k' := 0) (u' := 0) (by omega) (by omega) ?_
        exact s_X12_firstOf_39 (f_X12_firstOf_5 n) ih v0 v1 v3 v4 M5 _ hf
theorem s_X12_firstOf (v0 : Nat) (v1 : Int32) (v2 : Int32) (M : Mem) (r : (Int32 × Mem)) (hf : f_X12_firstOf v0 v1 v2 M = some r) : Sem mi_X12_firstOf (2) [aR v0, aI v1, aI v2] M (oI r.1) r.2 := by
  unfold f_X12_firstOf at hf
  refine sem_of (by decide) rfl rfl rfl (Nat.le_of_ble_eq_true rfl) (lv := [some (aR v0), some (aI v1), some (aI v2), none, none]) rfl ?_
  refine g_iload_n (pc' := 1) dX12_firstOf_0 rfl rfl ?_
  refine g_istore_n (pc' := 2) (lv' := [some (aR v0), some (aI v1), some (aI v2), some (aI v2), none]) dX12_firstOf_1 rfl rfl (by decide) rfl ?_
  refine g_iconst (pc' := 3) (0 : Int32) dX12_firstOf_2 rfl (by decide) ?_
  refine g_istore (pc' := 5) (lv' := [some (aR v0), some (aI v1), some (aI v2), some (aI v2), some (aI (0 : Int32))]) dX12_firstOf_3 rfl rfl (by decide) rfl ?_
  refine g_mask [true, true, false, true, true] rfl ?_
  exact s_X12_firstOf_5 FUEL v0 v1 v2 (0 : Int32) M _ hf
def f_X12_behindOf (v0 : Nat) (v1 : Int32) (v2 : Int32) (M : Mem) : Option (Int32 × Mem) :=
  if mK M v0 = 13 then
    bnd (f_X12_stepIn v0 v1 (v2 + (1 : Int32)) (0 : Int32) M) fun r3 M2 =>
    some (r3, M2)
  else none
theorem s_X12_behindOf (v0 : Nat) (v1 : Int32) (v2 : Int32) (M : Mem) (r : (Int32 × Mem)) (hf : f_X12_behindOf v0 v1 v2 M = some r) : Sem mi_X12_behindOf (3) [aR v0, aI v1, aI v2] M (oI r.1) r.2 := by
  unfold f_X12_behindOf at hf
  refine sem_of (by decide) rfl rfl rfl (Nat.le_of_ble_eq_true rfl) (lv := [some (aR v0), some (aI v1), some (aI v2)]) rfl ?_
  refine g_aload_n (pc' := 1) dX12_behindOf_0 rfl rfl ?_
  refine g_iload_n (pc' := 2) dX12_behindOf_1 rfl rfl ?_
  refine g_iload_n (pc' := 3) dX12_behindOf_2 rfl rfl ?_
  refine g_iconst (pc' := 4) (1 : Int32) dX12_behindOf_3 rfl (by decide) ?_
  refine g_iadd (pc' := 5) dX12_behindOf_4 rfl ?_
  refine g_iconst (pc' := 6) (0 : Int32) dX12_behindOf_5 rfl (by decide) ?_
  obtain ⟨h1, hf⟩ := chk_s hf
  obtain ⟨r3, M2, e3, hf⟩ := bnd_some hf
  refine g_callVi (pc' := 9) (k' := 0) (u' := 0) (fr2 := 2) (As := [aI v1, aI (v2 + (1 : Int32)), aI (0 : Int32)]) (b := v0) (st := []) cf_X12_stepIn q_690 (by omega) (ci := 12) rfl rfl (by decide) dX12_behindOf_6 rfl rfl rfl (Nat.le_of_ble_eq_true rfl) (Or.inl rfl) (Nat.le_refl _) (Nat.le_refl _) (Nat.le_refl _) (Nat.le_refl _) h1 (s_X12_stepIn v0 v1 (v2 + (1 : Int32)) (0 : Int32) M _ e3) ?_
  cases hf
  exact g_ireturn dX12_behindOf_9 rfl (Nat.le_of_ble_eq_true rfl) (Nat.le_of_ble_eq_true rfl)
def f_X12_skip_31 (v0 : Nat) (M : Mem) : Option (Int32 × Mem) :=
  if mK M v0 = 13 then
    bnd (f_X12_fail v0 (1 : Int32) M) fun r3 M2 =>
    some (r3, M2)
  else none
def f_X12_skip (v0 : Nat) (v1 : Int32) (v2 : Int32) (v3 : Int32) (M : Mem) : Option (Int32 × Mem) :=
  if mK M v0 = 13 then
    ap (sI M v0 2 (0 : Int32)) fun M2 =>
    if mK M2 v0 = 13 then
      bnd (f_X12_isLeaf v0 v1 M2) fun r5 M4 =>
      if r5 = 0 then
        f_X12_skip_31 v0 M4
      else
        if mK M4 v0 = 13 then
          bnd (f_X12_isRecord v0 v2 M4) fun r9 M8 =>
          if r9 = 0 then
            f_X12_skip_31 v0 M8
          else
            bnd (f_X12_isIn v3.toInt64 (0 : Int64) (1 : Int64) M8) fun r12 M11 =>
            if r12 = 0 then
              f_X12_skip_31 v0 M11
            else
              if mK M11 v0 = 13 then
                bnd (f_X12_firstOf v0 v1 v2 M11) fun r16 M15 =>
                if mK M15 v0 = 13 then
                  if mK M15 (mR M15 v0 28) = 21 then
                    if inB v1 (mN M15 (mR M15 v0 28)) = true then
                      if r16 = (mI M15 (mR M15 v0 28) v1.toNatClampNeg) then
                        some ((-1 : Int32), M15)
                      else
                        if v3 = 0 then
                          some (r16, M15)
                        else
                          bnd (f_X12_behindOf v0 v1 r16 M15) fun r23 M22 =>
                          some (r23 - r16, M22)
                    else none
                  else none
                else none
              else none
        else none
    else none
  else none
theorem s_X12_skip_31 (v0 : Nat) (M : Mem) (r : (Int32 × Mem)) (hf : f_X12_skip_31 v0 M = some r) : G mi_X12_skip 4 (oI r.1) r.2 31 [some (aR v0), none, none, none, none] [] M 0 0 := by
  unfold f_X12_skip_31 at hf
  refine g_aload_n (pc' := 32) dX12_skip_31 rfl rfl ?_
  refine g_iconst (pc' := 33) (1 : Int32) dX12_skip_32 rfl (by decide) ?_
  obtain ⟨h1, hf⟩ := chk_s hf
  obtain ⟨r3, M2, e3, hf⟩ := bnd_some hf
  refine g_callVi (pc' := 36) (k' := 0) (u' := 0) (fr2 := 1) (As := [aI (1 : Int32)]) (b := v0) (st := []) cf_X12_fail q_904 (by omega) (ci := 12) rfl rfl (by decide) dX12_skip_33 rfl rfl rfl (Nat.le_of_ble_eq_true rfl) (Or.inl rfl) (Nat.le_refl _) (Nat.le_refl _) (Nat.le_refl _) (Nat.le_refl _) h1 (s_X12_fail v0 (1 : Int32) M _ e3) ?_
  cases hf
  exact g_ireturn dX12_skip_36 rfl (Nat.le_of_ble_eq_true rfl) (Nat.le_of_ble_eq_true rfl)
theorem s_X12_skip (v0 : Nat) (v1 : Int32) (v2 : Int32) (v3 : Int32) (M : Mem) (r : (Int32 × Mem)) (hf : f_X12_skip v0 v1 v2 v3 M = some r) : Sem mi_X12_skip (4) [aR v0, aI v1, aI v2, aI v3] M (oI r.1) r.2 := by
  unfold f_X12_skip at hf
  refine sem_of (by decide) rfl rfl rfl (Nat.le_of_ble_eq_true rfl) (lv := [some (aR v0), some (aI v1), some (aI v2), some (aI v3), none]) rfl ?_
  refine g_aload_n (pc' := 1) dX12_skip_0 rfl rfl ?_
  refine g_iconst (pc' := 2) (0 : Int32) dX12_skip_1 rfl (by decide) ?_
  obtain ⟨h1, hf⟩ := chk_s hf
  refine g_putI (pc' := 5) 12 2 rfl rfl (by decide) inX12 tyX12_ok nmX12 (by decide) rfl rfl rfl rfl q_167 dX12_skip_2 rfl h1 (gM fun M2 hM2 => ?_)
  have hf := ap_eq hf hM2
  refine g_aload_n (pc' := 6) dX12_skip_5 rfl rfl ?_
  refine g_iload_n (pc' := 7) dX12_skip_6 rfl rfl ?_
  obtain ⟨h3, hf⟩ := chk_s hf
  obtain ⟨r5, M4, e5, hf⟩ := bnd_some hf
  refine g_callVi (pc' := 10) (k' := 0) (u' := 0) (fr2 := 2) (As := [aI v1]) (b := v0) (st := []) cf_X12_isLeaf q_974 (by omega) (ci := 12) rfl rfl (by decide) dX12_skip_7 rfl rfl rfl (Nat.le_of_ble_eq_true rfl) (Or.inl rfl) (Nat.le_refl _) (Nat.le_refl _) (Nat.le_refl _) (Nat.le_refl _) h3 (s_X12_isLeaf v0 v1 M2 _ e5) ?_
  refine g_if_eq (pc' := 13) 31 dX12_skip_10 rfl (by decide) (fun c6 => ?_) (fun c6 => ?_)
  · have hf := ite_t c6 hf
    refine g_mask [true, false, false, false, true] rfl ?_
    refine g_widen (k' := 0) (u' := 0) (by omega) (by omega) ?_
    exact s_X12_skip_31 v0 M4 _ hf
  · have hf := ite_f c6 hf
    refine g_aload_n (pc' := 14) dX12_skip_13 rfl rfl ?_
    refine g_iload_n (pc' := 15) dX12_skip_14 rfl rfl ?_
    obtain ⟨h7, hf⟩ := chk_s hf
    obtain ⟨r9, M8, e9, hf⟩ := bnd_some hf
    refine g_callVi (pc' := 18) (k' := 0) (u' := 0) (fr2 := 2) (As := [aI v2]) (b := v0) (st := []) cf_X12_isRecord q_1034 (by omega) (ci := 12) rfl rfl (by decide) dX12_skip_15 rfl rfl rfl (Nat.le_of_ble_eq_true rfl) (Or.inl rfl) (Nat.le_refl _) (Nat.le_refl _) (Nat.le_refl _) (Nat.le_refl _) h7 (s_X12_isRecord v0 v2 M4 _ e9) ?_
    refine g_if_eq (pc' := 21) 31 dX12_skip_18 rfl (by decide) (fun c10 => ?_) (fun c10 => ?_)
    · have hf := ite_t c10 hf
      refine g_mask [true, false, false, false, true] rfl ?_
      refine g_widen (k' := 0) (u' := 0) (by omega) (by omega) ?_
      exact s_X12_skip_31 v0 M8 _ hf
    · have hf := ite_f c10 hf
      refine g_iload_n (pc' := 22) dX12_skip_21 rfl rfl ?_
      refine g_i2l (pc' := 23) dX12_skip_22 rfl ?_
      refine g_lconst (pc' := 24) (0 : Int64) dX12_skip_23 rfl (by decide) ?_
      refine g_lconst (pc' := 25) (1 : Int64) dX12_skip_24 rfl (by decide) ?_
      obtain ⟨r12, M11, e12, hf⟩ := bnd_some hf
      refine g_callSi (pc' := 28) (k' := 0) (u' := 0) (fr2 := 1) (As := [aL v3.toInt64, aL (0 : Int64), aL (1 : Int64)]) (st := []) cf_X12_isIn q_932 (by omega) dX12_skip_25 rfl rfl rfl (Nat.le_of_ble_eq_true rfl) (Or.inl rfl) (Nat.le_refl _) (Nat.le_refl _) (Nat.le_refl _) (Nat.le_refl _) (s_X12_isIn v3.toInt64 (0 : Int64) (1 : Int64) M8 _ e12) ?_
      refine g_if_ne (pc' := 31) 37 dX12_skip_28 rfl (by decide) (fun c13 => ?_) (fun c13 => ?_)
      · have hf := ite_f c13 hf
        refine g_aload_n (pc' := 38) dX12_skip_37 rfl rfl ?_
        refine g_iload_n (pc' := 39) dX12_skip_38 rfl rfl ?_
        refine g_iload_n (pc' := 40) dX12_skip_39 rfl rfl ?_
        obtain ⟨h14, hf⟩ := chk_s hf
        obtain ⟨r16, M15, e16, hf⟩ := bnd_some hf
        refine g_callVi (pc' := 43) (k' := 0) (u' := 0) (fr2 := 2) (As := [aI v1, aI v2]) (b := v0) (st := []) cf_X12_firstOf q_1038 (by omega) (ci := 12) rfl rfl (by decide) dX12_skip_40 rfl rfl rfl (Nat.le_of_ble_eq_true rfl) (Or.inl rfl) (Nat.le_refl _) (Nat.le_refl _) (Nat.le_refl _) (Nat.le_refl _) h14 (s_X12_firstOf v0 v1 v2 M11 _ e16) ?_
        refine g_istore (pc' := 45) (lv' := [some (aR v0), some (aI v1), some (aI v2), some (aI v3), some (aI r16)]) dX12_skip_43 rfl rfl (by decide) rfl ?_
        refine g_iload (pc' := 47) dX12_skip_45 rfl rfl ?_
        refine g_aload_n (pc' := 48) dX12_skip_47 rfl rfl ?_
        obtain ⟨h17, hf⟩ := chk_s hf
        refine g_getR (pc' := 51) 12 28 rfl rfl (by decide) inX12 (by decide) rfl rfl q_139 dX12_skip_48 rfl h17 ?_
        refine g_iload_n (pc' := 52) dX12_skip_51 rfl rfl ?_
        obtain ⟨h18, hf⟩ := chk_s hf
        obtain ⟨b19, hf⟩ := chk_s hf
        refine g_iald (pc' := 53) dX12_skip_52 rfl h18 (inB_in b19) ?_
        refine g_icmp_ne (pc' := 56) 58 dX12_skip_53 rfl (by decide) (fun c20 => ?_) (fun c20 => ?_)
        · have hf := ite_f c20 hf
          refine g_iload_n (pc' := 59) dX12_skip_58 rfl rfl ?_
          refine g_if_ne (pc' := 62) 67 dX12_skip_59 rfl (by decide) (fun c21 => ?_) (fun c21 => ?_)
          · have hf := ite_f c21 hf
            refine g_aload_n (pc' := 68) dX12_skip_67 rfl rfl ?_
            refine g_iload_n (pc' := 69) dX12_skip_68 rfl rfl ?_
            refine g_iload (pc' := 71) dX12_skip_69 rfl rfl ?_
            obtain ⟨r23, M22, e23, hf⟩ := bnd_some hf
            refine g_callVi (pc' := 74) (k' := 0) (u' := 0) (fr2 := 3) (As := [aI v1, aI r16]) (b := v0) (st := []) cf_X12_behindOf q_1042 (by omega) (ci := 12) rfl rfl (by decide) dX12_skip_71 rfl rfl rfl (Nat.le_of_ble_eq_true rfl) (Or.inl rfl) (Nat.le_refl _) (Nat.le_refl _) (Nat.le_refl _) (Nat.le_refl _) h17 (s_X12_behindOf v0 v1 r16 M15 _ e23) ?_
            refine g_iload (pc' := 76) dX12_skip_74 rfl rfl ?_
            refine g_isub (pc' := 77) dX12_skip_76 rfl ?_
            cases hf
            exact g_ireturn dX12_skip_77 rfl (Nat.le_of_ble_eq_true rfl) (Nat.le_of_ble_eq_true rfl)
          · have hf := ite_t c21 hf
            refine g_iload (pc' := 64) dX12_skip_62 rfl rfl ?_
            refine g_goto (pc' := 77) dX12_skip_64 (by decide) ?_
            cases hf
            exact g_ireturn dX12_skip_77 rfl (Nat.le_of_ble_eq_true rfl) (Nat.le_of_ble_eq_true rfl)
        · have hf := ite_t c20 hf
          refine g_iconst (pc' := 57) (-1 : Int32) dX12_skip_56 rfl (by decide) ?_
          cases hf
          exact g_ireturn dX12_skip_57 rfl (Nat.le_of_ble_eq_true rfl) (Nat.le_of_ble_eq_true rfl)
      · have hf := ite_t c13 hf
        refine g_mask [true, false, false, false, true] rfl ?_
        refine g_widen (k' := 0) (u' := 0) (by omega) (by omega) ?_
        exact s_X12_skip_31 v0 M11 _ hf
