/-! The law's calls, one after another -/
set_option maxRecDepth 100000 in
set_option maxHeartbeats 8000000 in
theorem law_step {L n : Nat} {xs : Nat → Int32} {v4 : Int32} {M : Mem} {kk : Nat → Nat → Nat → Int32 → Mem → Option (Int32 × Mem)} (hk : f_L_law_23 L xs n = kk) (hlt : ¬ ((Int32.ofNat L) - (6 : Int32)) < v4) (i0 : inB v4 L = true) (i1 : inB (v4 + (1 : Int32)) L = true) (i2 : inB (v4 + (2 : Int32)) L = true) (i3 : inB (v4 + (3 : Int32)) L = true) (i4 : inB (v4 + (4 : Int32)) L = true) (i5 : inB (v4 + (5 : Int32)) L = true) (hI : INV M) (hm : mn M + 2 < 900000) : ∃ M2, f_L_law_23 L xs (n + 1) 1 134 164 v4 M = kk 1 134 164 (v4 + 6) M2 ∧ INV M2 ∧ mn M2 ≤ mn M + 2 := by
  have hLay : Lay M := by
    obtain ⟨s, v, q, p, p', S, V, Pi, A, n, Bs, t, z, fl, a4, a5, im, hI⟩ := hI
    exact hI.1
  have k12 : mK M 1 = 12 := hLay.1.o.1
  have okr := (okLaw hLay).1
  unfold f_L_law_23
  rw [if_neg hlt, if_pos i0]
  rw [hk]
  generalize (xs v4.toNatClampNeg) &&& (31 : Int32) = w
  by_cases h0 : w = (0 : Int32)
  · rw [if_pos h0]
    rw [if_pos i1, if_pos i2, if_pos i3, if_pos i4, if_pos i5, if_pos k12]
    simp only [i1, i2, i3, i4, i5, if_true]
    obtain ⟨M2, e, r⟩ := o_feed hI (xs (v4 + (1 : Int32)).toNatClampNeg) (xs (v4 + (2 : Int32)).toNatClampNeg) (xs (v4 + (3 : Int32)).toNatClampNeg) (xs (v4 + (4 : Int32)).toNatClampNeg) (xs (v4 + (5 : Int32)).toNatClampNeg) (fun M => f_L_law_1908 L xs kk 1 134 164 v4 M)
    exact ⟨M2, e, r⟩
  rw [if_neg h0]
  by_cases h1 : w = (1 : Int32)
  · rw [if_pos h1]
    rw [if_pos i1]
    simp only [i1, if_true]
    obtain ⟨M2, e, r⟩ := o_schema hI (xs (v4 + (1 : Int32)).toNatClampNeg) (fun M => f_L_law_298 L xs kk 1 134 164 v4 M)
    exact ⟨M2, e, r⟩
  rw [if_neg h1]
  by_cases h2 : w = (2 : Int32)
  · rw [if_pos h2]
    rw [if_pos i1, if_pos okr]
    simp only [i1, if_true]
    obtain ⟨M2, e, r⟩ := o_add hI hm (xs (v4 + (1 : Int32)).toNatClampNeg) (fun M => f_L_law_354 L xs kk 1 134 164 v4 M)
    exact ⟨M2, e, r⟩
  rw [if_neg h2]
  by_cases h3 : w = (3 : Int32)
  · rw [if_pos h3]
    rw [if_pos i1]
    simp only [i1, if_true]
    obtain ⟨M2, e, r⟩ := o_view hI (xs (v4 + (1 : Int32)).toNatClampNeg) (fun M => f_L_law_410 L xs kk 1 134 164 v4 M)
    exact ⟨M2, e, r⟩
  rw [if_neg h3]
  by_cases h4 : w = (4 : Int32)
  · rw [if_pos h4]
    rw [if_pos i1]
    simp only [i1, if_true]
    obtain ⟨M2, e, r⟩ := o_pipe hI (xs (v4 + (1 : Int32)).toNatClampNeg) (fun M => f_L_law_466 L xs kk 1 134 164 v4 M)
    exact ⟨M2, e, r⟩
  rw [if_neg h4]
  by_cases h5 : w = (5 : Int32)
  · rw [if_pos h5]
    rw [if_pos k12]
    obtain ⟨M2, e, r⟩ := o_fault hI (fun M => f_L_law_1908 L xs kk 1 134 164 v4 M)
    exact ⟨M2, e, r⟩
  rw [if_neg h5]
  by_cases h6 : w = (6 : Int32)
  · rw [if_pos h6]
    rw [if_pos i1]
    simp only [i1, if_true]
    obtain ⟨M2, e, r⟩ := o_count hI (xs (v4 + (1 : Int32)).toNatClampNeg) (fun M => f_L_law_535 L xs kk 1 134 164 v4 M)
    exact ⟨M2, e, r⟩
  rw [if_neg h6]
  by_cases h7 : w = (7 : Int32)
  · rw [if_pos h7]
    rw [if_pos i1, if_pos i2]
    simp only [i1, i2, if_true]
    obtain ⟨M2, e, r⟩ := o_field hI (xs (v4 + (1 : Int32)).toNatClampNeg) (xs (v4 + (2 : Int32)).toNatClampNeg) (fun M => f_L_law_603 L xs kk 1 134 164 v4 M)
    exact ⟨M2, e, r⟩
  rw [if_neg h7]
  by_cases h8 : w = (8 : Int32)
  · rw [if_pos h8]
    rw [if_pos i1, if_pos i2]
    simp only [i1, i2, if_true]
    obtain ⟨M2, e, r⟩ := o_name hI (xs (v4 + (1 : Int32)).toNatClampNeg) (xs (v4 + (2 : Int32)).toNatClampNeg) (fun M => f_L_law_671 L xs kk 1 134 164 v4 M)
    exact ⟨M2, e, r⟩
  rw [if_neg h8]
  by_cases h9 : w = (9 : Int32)
  · rw [if_pos h9]
    rw [if_pos i1, if_pos i2]
    simp only [i1, i2, if_true]
    obtain ⟨M2, e, r⟩ := o_leaf hI (xs (v4 + (1 : Int32)).toNatClampNeg) (xs (v4 + (2 : Int32)).toNatClampNeg) (fun M => f_L_law_739 L xs kk 1 134 164 v4 M)
    exact ⟨M2, e, r⟩
  rw [if_neg h9]
  by_cases h10 : w = (10 : Int32)
  · rw [if_pos h10]
    rw [if_pos i1, if_pos i2, if_pos i3]
    simp only [i1, i2, i3, if_true]
    obtain ⟨M2, e, r⟩ := o_entry hI (xs (v4 + (1 : Int32)).toNatClampNeg) (xs (v4 + (2 : Int32)).toNatClampNeg) (xs (v4 + (3 : Int32)).toNatClampNeg) (fun M => f_L_law_819 L xs kk 1 134 164 v4 M)
    exact ⟨M2, e, r⟩
  rw [if_neg h10]
  by_cases h11 : w = (11 : Int32)
  · rw [if_pos h11]
    rw [if_pos i1, if_pos i2, if_pos i3]
    simp only [i1, i2, i3, if_true]
    obtain ⟨M2, e, r⟩ := o_skip hI (xs (v4 + (1 : Int32)).toNatClampNeg) (xs (v4 + (2 : Int32)).toNatClampNeg) (xs (v4 + (3 : Int32)).toNatClampNeg) (fun M => f_L_law_899 L xs kk 1 134 164 v4 M)
    exact ⟨M2, e, r⟩
  rw [if_neg h11]
  by_cases h12 : w = (12 : Int32)
  · rw [if_pos h12]
    rw [if_pos i1, if_pos i2, if_pos i3]
    simp only [i1, i2, i3, if_true]
    obtain ⟨M2, e, r⟩ := o_next hI (xs (v4 + (1 : Int32)).toNatClampNeg) (xs (v4 + (2 : Int32)).toNatClampNeg) (xs (v4 + (3 : Int32)).toNatClampNeg) (fun M => f_L_law_979 L xs kk 1 134 164 v4 M)
    exact ⟨M2, e, r⟩
  rw [if_neg h12]
  by_cases h13 : w = (13 : Int32)
  · rw [if_pos h13]
    rw [if_pos i1, if_pos i2]
    simp only [i1, i2, if_true]
    obtain ⟨M2, e, r⟩ := o_length hI (xs (v4 + (1 : Int32)).toNatClampNeg) (xs (v4 + (2 : Int32)).toNatClampNeg) (fun M => f_L_law_1047 L xs kk 1 134 164 v4 M)
    exact ⟨M2, e, r⟩
  rw [if_neg h13]
  by_cases h14 : w = (14 : Int32)
  · rw [if_pos h14]
    rw [if_pos i1, if_pos i2, if_pos i3]
    simp only [i1, i2, i3, if_true]
    obtain ⟨M2, e, r⟩ := o_sign hI (xs (v4 + (1 : Int32)).toNatClampNeg) (xs (v4 + (2 : Int32)).toNatClampNeg) (xs (v4 + (3 : Int32)).toNatClampNeg) (fun M => f_L_law_1127 L xs kk 1 134 164 v4 M)
    exact ⟨M2, e, r⟩
  rw [if_neg h14]
  by_cases h15 : w = (15 : Int32)
  · rw [if_pos h15]
    rw [if_pos i1, if_pos i2]
    simp only [i1, i2, if_true]
    obtain ⟨M2, e, r⟩ := o_reads hI (xs (v4 + (1 : Int32)).toNatClampNeg) (xs (v4 + (2 : Int32)).toNatClampNeg) (fun M => f_L_law_1195 L xs kk 1 134 164 v4 M)
    exact ⟨M2, e, r⟩
  rw [if_neg h15]
  by_cases h16 : w = (16 : Int32)
  · rw [if_pos h16]
    rw [if_pos i1]
    simp only [i1, if_true]
    obtain ⟨M2, e, r⟩ := o_seen hI (xs (v4 + (1 : Int32)).toNatClampNeg) (fun M => f_L_law_1251 L xs kk 1 134 164 v4 M)
    exact ⟨M2, e, r⟩
  rw [if_neg h16]
  by_cases h17 : w = (17 : Int32)
  · rw [if_pos h17]
    rw [if_pos i1, if_pos i2]
    simp only [i1, i2, if_true]
    obtain ⟨M2, e, r⟩ := o_seenSign hI (xs (v4 + (1 : Int32)).toNatClampNeg) (xs (v4 + (2 : Int32)).toNatClampNeg) (fun M => f_L_law_1319 L xs kk 1 134 164 v4 M)
    exact ⟨M2, e, r⟩
  rw [if_neg h17]
  by_cases h18 : w = (18 : Int32)
  · rw [if_pos h18]
    rw [if_pos i1, if_pos i2]
    simp only [i1, i2, if_true]
    obtain ⟨M2, e, r⟩ := o_fold hI (xs (v4 + (1 : Int32)).toNatClampNeg) (xs (v4 + (2 : Int32)).toNatClampNeg) (fun M => f_L_law_1387 L xs kk 1 134 164 v4 M)
    exact ⟨M2, e, r⟩
  rw [if_neg h18]
  by_cases h19 : w = (19 : Int32)
  · rw [if_pos h19]
    rw [if_pos i1, if_pos i2, if_pos i3]
    simp only [i1, i2, i3, if_true]
    obtain ⟨M2, e, r⟩ := o_picked hI (xs (v4 + (1 : Int32)).toNatClampNeg) (xs (v4 + (2 : Int32)).toNatClampNeg) (xs (v4 + (3 : Int32)).toNatClampNeg) (fun M => f_L_law_1467 L xs kk 1 134 164 v4 M)
    exact ⟨M2, e, r⟩
  rw [if_neg h19]
  by_cases h20 : w = (20 : Int32)
  · rw [if_pos h20]
    rw [if_pos i1, if_pos i2]
    simp only [i1, i2, if_true]
    obtain ⟨M2, e, r⟩ := o_pages hI (xs (v4 + (1 : Int32)).toNatClampNeg) (xs (v4 + (2 : Int32)).toNatClampNeg) (fun M => f_L_law_1535 L xs kk 1 134 164 v4 M)
    exact ⟨M2, e, r⟩
  rw [if_neg h20]
  by_cases h21 : w = (21 : Int32)
  · rw [if_pos h21]
    rw [if_pos i1, if_pos i2]
    simp only [i1, i2, if_true]
    obtain ⟨M2, e, r⟩ := o_piped hI (xs (v4 + (1 : Int32)).toNatClampNeg) (xs (v4 + (2 : Int32)).toNatClampNeg) (fun M => f_L_law_1603 L xs kk 1 134 164 v4 M)
    exact ⟨M2, e, r⟩
  rw [if_neg h21]
  by_cases h22 : w = (22 : Int32)
  · rw [if_pos h22]
    rw [if_pos k12, if_pos okr]
    obtain ⟨M2, e, r⟩ := o_drop hI hm (fun M => f_L_law_1908 L xs kk 1 134 164 v4 M)
    exact ⟨M2, e, r⟩
  rw [if_neg h22]
  by_cases h23 : w = (23 : Int32)
  · rw [if_pos h23]
    rw [if_pos i1, if_pos i2, if_pos i3, if_pos okr]
    simp only [i1, i2, i3, if_true]
    obtain ⟨M2, e, r⟩ := o_set hI hm (xs (v4 + (1 : Int32)).toNatClampNeg) (xs (v4 + (2 : Int32)).toNatClampNeg) (xs (v4 + (3 : Int32)).toNatClampNeg) (fun M => f_L_law_1696 L xs kk 1 134 164 v4 M)
    exact ⟨M2, e, r⟩
  rw [if_neg h23]
  by_cases h24 : w = (24 : Int32)
  · rw [if_pos h24]
    rw [if_pos i1, if_pos i2, if_pos i3, if_pos i4, if_pos okr]
    simp only [i1, i2, i3, i4, if_true]
    obtain ⟨M2, e, r⟩ := o_damage hI hm (xs (v4 + (1 : Int32)).toNatClampNeg) (xs (v4 + (2 : Int32)).toNatClampNeg) (xs (v4 + (3 : Int32)).toNatClampNeg) (xs (v4 + (4 : Int32)).toNatClampNeg) (fun M => f_L_law_1788 L xs kk 1 134 164 v4 M)
    exact ⟨M2, e, r⟩
  rw [if_neg h24]
  by_cases h25 : w = (25 : Int32)
  · rw [if_pos h25]
    rw [if_pos k12]
    obtain ⟨M2, e, r⟩ := o_undo hI (fun M => f_L_law_1908 L xs kk 1 134 164 v4 M)
    exact ⟨M2, e, r⟩
  rw [if_neg h25]
  by_cases h26 : w = (26 : Int32)
  · rw [if_pos h26]
    rw [if_pos i1, if_pos i2, if_pos i3]
    simp only [i1, i2, i3, if_true]
    obtain ⟨M2, e, r⟩ := o_years hI (xs (v4 + (1 : Int32)).toNatClampNeg) (xs (v4 + (2 : Int32)).toNatClampNeg) (xs (v4 + (3 : Int32)).toNatClampNeg) (fun M => f_L_law_1881 L xs kk 1 134 164 v4 M)
    exact ⟨M2, e, r⟩
  rw [if_neg h26]
  by_cases h27 : w = (27 : Int32)
  · rw [if_pos h27]
    rw [if_pos k12]
    obtain ⟨M2, e, r⟩ := o_image hI (fun M => f_L_law_1908 L xs kk 1 134 164 v4 M)
    exact ⟨M2, e, r⟩
  rw [if_neg h27]
  by_cases h28 : w = (28 : Int32)
  · rw [if_pos h28]
    rw [if_pos k12]
    obtain ⟨M2, e, r⟩ := o_restore hI (fun M => f_L_law_1908 L xs kk 1 134 164 v4 M)
    exact ⟨M2, e, r⟩
  rw [if_neg h28]
  exact ⟨M, rfl, hI, by omega⟩
