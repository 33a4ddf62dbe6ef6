/-! The start, and the whole run -/
def MS : Mem := mNew MB 22 1
theorem MS_K {a : Nat} (h : a ≤ 163) : mK MS a = mK MB a := mK_new_ne (by rw [MB_n]; omega)
theorem MS_N {a : Nat} (h : a ≤ 163) : mN MS a = mN MB a := mN_new_ne (by rw [MB_n]; omega)
theorem MS_R {a : Nat} (h : a ≤ 163) : mR MS a = mR MB a := mR_new_ne (by rw [MB_n]; omega)
theorem MS_I {a : Nat} (h : a ≤ 163) : mI MS a = mI MB a := mI_new_ne (by rw [MB_n]; omega)
theorem CLay_MS : CLay MS := by
  have h := CLay_MB
  unfold CLay CLay' at h ⊢
  simp (disch := omega) only [MS_K, MS_N, MS_R]
  exact h
theorem RLay_MS : RLay MS := by
  have h := RLay_MB
  unfold RLay RLay' at h ⊢
  simp (disch := omega) only [MS_K, MS_N, MS_R]
  exact h
theorem ColLay_MS {b : Nat} (hb : b = 21 ∨ b = 56) (h : ColLay MB b) : ColLay MS b := by
  obtain ⟨h1, h2, h3, h4, h5, h6, h7, h8, h9, h10, h11⟩ := h
  refine ⟨fun l q => ?_, fun l q => ?_, fun l q => ?_, fun l q => ?_, fun l q => ?_, fun l q => ?_, fun l q => ?_, fun l q => ?_, fun l q => ?_, fun l q => ?_, fun l q => ?_⟩
  · rw [MS_K (by omega)]; exact h1 l q
  · rw [MS_R (by omega)]; exact h2 l q
  · rw [MS_R (by omega)]; exact h3 l q
  · rw [MS_R (by omega)]; exact h4 l q
  · rw [MS_K (by omega)]; exact h5 l q
  · rw [MS_K (by omega)]; exact h6 l q
  · rw [MS_K (by omega)]; exact h7 l q
  · rw [MS_N (by omega)]; exact h8 l q
  · rw [MS_N (by omega)]; exact h9 l q
  · rw [MS_N (by omega)]; exact h10 l q
  · rw [MS_R (by omega)]; exact h11 l q
theorem ShLay.same {M M' : Mem} {s : Nat} (hs : s ≤ 112) (K : ∀ a, a ≤ 163 → mK M' a = mK M a) (N : ∀ a, a ≤ 163 → mN M' a = mN M a) (R : ∀ a j, a ≤ 163 → mR M' a j = mR M a j) (h : ShLay M s) : ShLay M' s := by
  have R : ∀ j, mR M' s j = mR M s j := fun j => R s j (by omega)
  unfold ShLay ShLay' at h ⊢
  simp (disch := omega) only [K, N, R]
  exact h
theorem ShLay_MS {s : Nat} (hs : s ≤ 112) (h : ShLay MB s) : ShLay MS s := h.same hs (fun _ q => MS_K q) (fun _ q => MS_N q) (fun _ j q => by rw [MS_R q])
theorem PiLay.same {M M' : Mem} {p : Nat} (hs : p ≤ 129) (K : ∀ a, a ≤ 163 → mK M' a = mK M a) (N : ∀ a, a ≤ 163 → mN M' a = mN M a) (R : ∀ a j, a ≤ 163 → mR M' a j = mR M a j) (h : PiLay M p) : PiLay M' p := by
  have R : ∀ j, mR M' p j = mR M p j := fun j => R p j (by omega)
  unfold PiLay PiLay' at h ⊢
  simp (disch := omega) only [K, N, R]
  exact h
theorem PiLay_MS {p : Nat} (hp : p ≤ 129) (h : PiLay MB p) : PiLay MS p := h.same hp (fun _ q => MS_K q) (fun _ q => MS_N q) (fun _ j q => by rw [MS_R q])
theorem MS_n : mn MS = 164 := by
  show mn MB + 1 = 164
  rw [MB_n]
theorem Lay_MS : Lay MS := ⟨CLay_MS, RLay_MS, ColLay_MS (Or.inl rfl) ColLay_MB.1, ColLay_MS (Or.inr rfl) ColLay_MB.2, ⟨ShLay_MS (by omega) ShLay_MB.1, ShLay_MS (by omega) ShLay_MB.2.1, ShLay_MS (by omega) ShLay_MB.2.2⟩, ⟨PiLay_MS (by omega) PiLay_MB.1, PiLay_MS (by omega) PiLay_MB.2⟩, by rw [MS_n]; omega, by decide +kernel, by decide +kernel⟩
theorem MB_r : mR MB 1 8 = 88 ∧ mR MB 1 9 = 100 ∧ mR MB 1 10 = 112 ∧ mR MB 1 11 = 124 ∧ mR MB 1 12 = 129 := by decide +kernel
theorem MB_c : mI MB 88 0 = i32 0 ∧ mI MB 88 1 = i32 0 ∧ mI MB 100 0 = i32 0 ∧ mI MB 124 0 = i32 0 ∧ mI MB 2 1 = i32 0 ∧ mI MB 1 14 = i32 (-1) ∧ mI MB 18 4 = i32 0 ∧ mI MB 18 5 = i32 0 ∧ mI MB 18 1 = i32 0 ∧ mI MB 18 3 = i32 0 ∧ mI MB 1 13 = i32 0 := by decide +kernel
theorem MB_cc : (∀ l, l < 8 → mI MB (21 + 4 * l) 3 = i32 0) ∧ (∀ l, l < 8 → mI MB (21 + 4 * l) 4 = i32 0) := by decide +kernel
theorem MB_i : mI MB 147 0 = i32 0 ∧ mI MB 148 0 = i32 0 ∧ mI MB 147 1 = i32 0 ∧ mI MB 134 47 = i32 0 ∧ mI MB 134 5 = i32 0 ∧ mI MB 134 14 = i32 (-1) ∧ mI MB 138 0 = i32 0 ∧ mI MB 138 1 = i32 0 ∧ mI MB 134 30 = i32 0 ∧ mI MB 134 31 = i32 0 ∧ mI MB 134 50 = i32 0 := by decide +kernel
theorem MB_ci : ∀ l, l < 8 → mI MB 151 l = i32 0 := by decide +kernel
theorem INV_MS : INV MS := by
  have nz : ∀ {q : Prop} (f : Nat), f < 0 → q := fun f hf => absurd hf (Nat.not_lt_zero f)
  obtain ⟨r1, r2, r3, r4, r5⟩ := MB_r
  obtain ⟨c1, c2, c3, c4, c5, c6, c7, c8, c9, c10, c11⟩ := MB_c
  obtain ⟨i1, i2, i3, i4, i5, i6, i7, i8, i9, i10, i11⟩ := MB_i
  have bi : BI T00 false T00 (-1) 0 (fun _ => 0) := BI_start
  have uu : PU T00 T00 P00 A00 0 (fun _ => A00) none := ⟨bi.wf, ⟨_, bi.vt0⟩, ⟨fun _ => 0, VT_00 T00⟩, P00_ok, Nat.zero_le _, rfl, trivial⟩
  have C : CI MS 88 100 112 124 129 T00 T00 P00 A00 0 (fun _ => A00) (fun _ => 0) 0 (i32 (-1)) (i32 0) (i32 0) none := by
    refine ⟨⟨Or.inl rfl, Or.inr (Or.inl rfl), Or.inr (Or.inr rfl), by omega, by omega, by omega, Or.inl rfl, Or.inr rfl, by omega⟩, ⟨?_, ?_, ?_, ?_, ?_⟩, ⟨⟨?_, ?_, fun f hf => nz f hf, fun f hf => nz f hf, fun f hf => nz f hf, fun f hf => nz f hf, fun f hf => nz f hf, fun f hf => nz f hf, fun f i hf => nz f hf, fun f hf => nz f hf, fun f i hf => nz f hf, fun f hf => nz f hf, fun f hf => nz f hf⟩, ⟨?_, ShLay_MS (by omega) ShLay_MB.2.1, by omega, by omega, ⟨?_, fun f hf => nz f hf, fun f hf => nz f hf, fun f hf => nz f hf⟩, fun f hf => nz f hf⟩, ⟨?_, fun f hf => nz f hf, fun f hf => nz f hf⟩⟩, ⟨?_, fun f hf => nz f hf, by omega, fun i => by show (0 : Int) ≤ 0 ∧ (0 : Int) ≤ 255; omega⟩, ⟨?_, ?_, ?_⟩, ⟨⟨A00_ok, fun l q => ?_, fun l j q r => nz j r, fun l j q r => nz j r, fun l j q r => nz j r, fun l q => ?_, fun l => ?_⟩, ?_, ⟨by omega, ?_, fun k hk => nz k hk⟩⟩, ?_⟩
    · rw [MS_R (by omega)]; exact r1
    · rw [MS_R (by omega)]; exact r2
    · rw [MS_R (by omega)]; exact r3
    · rw [MS_R (by omega)]; exact r4
    · rw [MS_R (by omega)]; exact r5
    · rw [MS_I (by omega)]; exact c1
    · rw [MS_I (by omega)]; exact c2
    · rw [MS_R (by omega)]; exact r2
    · rw [MS_I (by omega)]; exact c3
    · rw [MS_I (by omega)]; exact c4
    · rw [MS_I (by omega)]; exact c5
    · rw [MS_I (by omega)]; exact c6
    · rw [MS_I (by omega)]; exact c7
    · rw [MS_I (by omega)]; exact c8
    · rw [MS_I (by omega)]; exact MB_cc.1 l q
    · rw [MS_I (by omega)]; exact MB_cc.2 l q
    · show (0 : Int) ≤ 0 ∧ (0 : Int) ≤ 9
      omega
    · rw [MS_I (by omega)]; exact c9
    · rw [MS_I (by omega)]; exact c10
    · show mI MS 1 13 = i32 0
      rw [MS_I (by omega)]; exact c11
  have R : RI MS T00 T00 P00 A00 0 (fun _ => A00) (fun _ => 0) 0 (i32 (-1)) (i32 0) (i32 0) none := by
    refine ⟨⟨⟨?_, ?_, fun f hf => nz f hf, fun f hf => nz f hf, fun f hf => nz f hf, fun f hf => nz f hf, fun f hf => nz f hf, fun f hf => nz f hf, fun f i hf => nz f hf, fun f hf => nz f hf, fun f hf => nz f hf⟩, ⟨?_, fun f hf => nz f hf, fun f hf => nz f hf, fun f hf => nz f hf⟩, ⟨?_, fun f hf => nz f hf, fun f hf => nz f hf⟩⟩, ⟨?_, fun f hf => nz f hf, by omega, fun i => by show (0 : Int) ≤ 0 ∧ (0 : Int) ≤ 255; omega⟩, ⟨?_, ?_, ?_⟩, ⟨⟨A00_ok, fun l q => ?_, fun l j q r => nz j r, ?_⟩, ?_, fun k hk => nz k hk⟩, ?_⟩
    · rw [MS_I (by omega)]; exact i1
    · rw [MS_I (by omega)]; exact i2
    · rw [MS_I (by omega)]; exact i3
    · rw [MS_I (by omega)]; exact i4
    · rw [MS_I (by omega)]; exact i5
    · rw [MS_I (by omega)]; exact i6
    · rw [MS_I (by omega)]; exact i7
    · rw [MS_I (by omega)]; exact i8
    · rw [MS_I (by omega)]; exact MB_ci l q
    · rw [MS_I (by omega)]; exact i9
    · rw [MS_I (by omega)]; exact i10
    · show mI MS 134 50 = i32 0
      rw [MS_I (by omega)]; exact i11
  exact ⟨_, _, _, _, _, _, _, _, _, _, _, _, _, _, _, _, _, Lay_MS, uu, C, R⟩
theorem law_loop {L : Nat} (hL : L ≤ 3072) (xs : Nat → Int32) : ∀ (k i fuel : Nat) (M : Mem), L < 6 * (i + k) → k < fuel → i ≤ 600 → INV M → mn M ≤ 164 + 2 * i → ∃ M', f_L_law_23 L xs fuel 1 134 164 (i32 ((6 * i : Nat) : Int)) M = some (1, M') := by
  intro k
  induction k with
  | zero =>
    intro i fuel M hk hf hi hI hm
    obtain ⟨fuel, rfl⟩ : ∃ q, fuel = q + 1 := ⟨fuel - 1, by omega⟩
    refine ⟨M, ?_⟩
    have hlt : ((Int32.ofNat L) - (6 : Int32)) < i32 ((6 * i : Nat) : Int) := by
      rw [i32_ofNat]
      simp (disch := omega) only [↓reduceIte, add_i0, cast_add1, cast_sub1, toNat120, i32_lit, i32_neg, i32_add, i32_sub, i32_mul, i32_nat, i32_le, i32_lt, i32_eq, inB_i, Int.toNat_natCast, mI_sI_eq, mI_sI_ne, mR_sR_eq, mR_sR_ne, mI_sR, mR_sI, mK_sI, mN_sI, mn_sI, mJ_sI, mK_sR, mN_sR, mn_sR, mJ_sR, mI_wI, mR_wI, mK_wI, mN_wI, mn_wI, mJ_wI, ↓bnd_of, ↓bndX_r, ↓bndX_l, ↓ap_nr, bnd_of, bndX_r, bndX_l, if_true, if_false, ite_true, ite_false, not_true_eq_false, not_false_eq_true, Nat.reduceAdd, Nat.reduceMul, Nat.reduceEqDiff, Int.reduceToNat, Int.reduceNeg, Ilt_t, Ilt_f, Ile_t, Ile_f, Ieq_t, Ieq_f, Nlt_t, Nlt_f, Nle_t, Nle_f, Neq_t, Neq_f, or_true, true_or, or_false, false_or, and_true, true_and, and_false, false_and, ne_eq, or_self, and_self, decide_true, decide_false, Bool.false_eq_true]
    unfold f_L_law_23
    rw [if_pos hlt]
  | succ k ih =>
    intro i fuel M hk hf hi hI hm
    obtain ⟨fuel, rfl⟩ : ∃ q, fuel = q + 1 := ⟨fuel - 1, by omega⟩
    by_cases c : L < 6 * i + 6
    · refine ⟨M, ?_⟩
      have hlt : ((Int32.ofNat L) - (6 : Int32)) < i32 ((6 * i : Nat) : Int) := by
        rw [i32_ofNat]
        simp (disch := omega) only [↓reduceIte, add_i0, cast_add1, cast_sub1, toNat120, i32_lit, i32_neg, i32_add, i32_sub, i32_mul, i32_nat, i32_le, i32_lt, i32_eq, inB_i, Int.toNat_natCast, mI_sI_eq, mI_sI_ne, mR_sR_eq, mR_sR_ne, mI_sR, mR_sI, mK_sI, mN_sI, mn_sI, mJ_sI, mK_sR, mN_sR, mn_sR, mJ_sR, mI_wI, mR_wI, mK_wI, mN_wI, mn_wI, mJ_wI, ↓bnd_of, ↓bndX_r, ↓bndX_l, ↓ap_nr, bnd_of, bndX_r, bndX_l, if_true, if_false, ite_true, ite_false, not_true_eq_false, not_false_eq_true, Nat.reduceAdd, Nat.reduceMul, Nat.reduceEqDiff, Int.reduceToNat, Int.reduceNeg, Ilt_t, Ilt_f, Ile_t, Ile_f, Ieq_t, Ieq_f, Nlt_t, Nlt_f, Nle_t, Nle_f, Neq_t, Neq_f, or_true, true_or, or_false, false_or, and_true, true_and, and_false, false_and, ne_eq, or_self, and_self, decide_true, decide_false, Bool.false_eq_true]
      unfold f_L_law_23
      rw [if_pos hlt]
    · have hlt : ¬ ((Int32.ofNat L) - (6 : Int32)) < i32 ((6 * i : Nat) : Int) := by
        rw [i32_ofNat]
        simp (disch := omega) only [↓reduceIte, add_i0, cast_add1, cast_sub1, toNat120, i32_lit, i32_neg, i32_add, i32_sub, i32_mul, i32_nat, i32_le, i32_lt, i32_eq, inB_i, Int.toNat_natCast, mI_sI_eq, mI_sI_ne, mR_sR_eq, mR_sR_ne, mI_sR, mR_sI, mK_sI, mN_sI, mn_sI, mJ_sI, mK_sR, mN_sR, mn_sR, mJ_sR, mI_wI, mR_wI, mK_wI, mN_wI, mn_wI, mJ_wI, ↓bnd_of, ↓bndX_r, ↓bndX_l, ↓ap_nr, bnd_of, bndX_r, bndX_l, if_true, if_false, ite_true, ite_false, not_true_eq_false, not_false_eq_true, Nat.reduceAdd, Nat.reduceMul, Nat.reduceEqDiff, Int.reduceToNat, Int.reduceNeg, Ilt_t, Ilt_f, Ile_t, Ile_f, Ieq_t, Ieq_f, Nlt_t, Nlt_f, Nle_t, Nle_f, Neq_t, Neq_f, or_true, true_or, or_false, false_or, and_true, true_and, and_false, false_and, ne_eq, or_self, and_self, decide_true, decide_false, Bool.false_eq_true]
      have i0 : inB (i32 ((6 * i : Nat) : Int)) L = true := by simp (disch := omega) only [↓reduceIte, add_i0, cast_add1, cast_sub1, toNat120, i32_lit, i32_neg, i32_add, i32_sub, i32_mul, i32_nat, i32_le, i32_lt, i32_eq, inB_i, Int.toNat_natCast, mI_sI_eq, mI_sI_ne, mR_sR_eq, mR_sR_ne, mI_sR, mR_sI, mK_sI, mN_sI, mn_sI, mJ_sI, mK_sR, mN_sR, mn_sR, mJ_sR, mI_wI, mR_wI, mK_wI, mN_wI, mn_wI, mJ_wI, ↓bnd_of, ↓bndX_r, ↓bndX_l, ↓ap_nr, bnd_of, bndX_r, bndX_l, if_true, if_false, ite_true, ite_false, not_true_eq_false, not_false_eq_true, Nat.reduceAdd, Nat.reduceMul, Nat.reduceEqDiff, Int.reduceToNat, Int.reduceNeg, Ilt_t, Ilt_f, Ile_t, Ile_f, Ieq_t, Ieq_f, Nlt_t, Nlt_f, Nle_t, Nle_f, Neq_t, Neq_f, or_true, true_or, or_false, false_or, and_true, true_and, and_false, false_and, ne_eq, or_self, and_self, decide_true, decide_false, Bool.false_eq_true]
      have i1 : inB (i32 ((6 * i : Nat) : Int) + (1 : Int32)) L = true := by simp (disch := omega) only [↓reduceIte, add_i0, cast_add1, cast_sub1, toNat120, i32_lit, i32_neg, i32_add, i32_sub, i32_mul, i32_nat, i32_le, i32_lt, i32_eq, inB_i, Int.toNat_natCast, mI_sI_eq, mI_sI_ne, mR_sR_eq, mR_sR_ne, mI_sR, mR_sI, mK_sI, mN_sI, mn_sI, mJ_sI, mK_sR, mN_sR, mn_sR, mJ_sR, mI_wI, mR_wI, mK_wI, mN_wI, mn_wI, mJ_wI, ↓bnd_of, ↓bndX_r, ↓bndX_l, ↓ap_nr, bnd_of, bndX_r, bndX_l, if_true, if_false, ite_true, ite_false, not_true_eq_false, not_false_eq_true, Nat.reduceAdd, Nat.reduceMul, Nat.reduceEqDiff, Int.reduceToNat, Int.reduceNeg, Ilt_t, Ilt_f, Ile_t, Ile_f, Ieq_t, Ieq_f, Nlt_t, Nlt_f, Nle_t, Nle_f, Neq_t, Neq_f, or_true, true_or, or_false, false_or, and_true, true_and, and_false, false_and, ne_eq, or_self, and_self, decide_true, decide_false, Bool.false_eq_true]
      have i2 : inB (i32 ((6 * i : Nat) : Int) + (2 : Int32)) L = true := by simp (disch := omega) only [↓reduceIte, add_i0, cast_add1, cast_sub1, toNat120, i32_lit, i32_neg, i32_add, i32_sub, i32_mul, i32_nat, i32_le, i32_lt, i32_eq, inB_i, Int.toNat_natCast, mI_sI_eq, mI_sI_ne, mR_sR_eq, mR_sR_ne, mI_sR, mR_sI, mK_sI, mN_sI, mn_sI, mJ_sI, mK_sR, mN_sR, mn_sR, mJ_sR, mI_wI, mR_wI, mK_wI, mN_wI, mn_wI, mJ_wI, ↓bnd_of, ↓bndX_r, ↓bndX_l, ↓ap_nr, bnd_of, bndX_r, bndX_l, if_true, if_false, ite_true, ite_false, not_true_eq_false, not_false_eq_true, Nat.reduceAdd, Nat.reduceMul, Nat.reduceEqDiff, Int.reduceToNat, Int.reduceNeg, Ilt_t, Ilt_f, Ile_t, Ile_f, Ieq_t, Ieq_f, Nlt_t, Nlt_f, Nle_t, Nle_f, Neq_t, Neq_f, or_true, true_or, or_false, false_or, and_true, true_and, and_false, false_and, ne_eq, or_self, and_self, decide_true, decide_false, Bool.false_eq_true]
      have i3 : inB (i32 ((6 * i : Nat) : Int) + (3 : Int32)) L = true := by simp (disch := omega) only [↓reduceIte, add_i0, cast_add1, cast_sub1, toNat120, i32_lit, i32_neg, i32_add, i32_sub, i32_mul, i32_nat, i32_le, i32_lt, i32_eq, inB_i, Int.toNat_natCast, mI_sI_eq, mI_sI_ne, mR_sR_eq, mR_sR_ne, mI_sR, mR_sI, mK_sI, mN_sI, mn_sI, mJ_sI, mK_sR, mN_sR, mn_sR, mJ_sR, mI_wI, mR_wI, mK_wI, mN_wI, mn_wI, mJ_wI, ↓bnd_of, ↓bndX_r, ↓bndX_l, ↓ap_nr, bnd_of, bndX_r, bndX_l, if_true, if_false, ite_true, ite_false, not_true_eq_false, not_false_eq_true, Nat.reduceAdd, Nat.reduceMul, Nat.reduceEqDiff, Int.reduceToNat, Int.reduceNeg, Ilt_t, Ilt_f, Ile_t, Ile_f, Ieq_t, Ieq_f, Nlt_t, Nlt_f, Nle_t, Nle_f, Neq_t, Neq_f, or_true, true_or, or_false, false_or, and_true, true_and, and_false, false_and, ne_eq, or_self, and_self, decide_true, decide_false, Bool.false_eq_true]
      have i4 : inB (i32 ((6 * i : Nat) : Int) + (4 : Int32)) L = true := by simp (disch := omega) only [↓reduceIte, add_i0, cast_add1, cast_sub1, toNat120, i32_lit, i32_neg, i32_add, i32_sub, i32_mul, i32_nat, i32_le, i32_lt, i32_eq, inB_i, Int.toNat_natCast, mI_sI_eq, mI_sI_ne, mR_sR_eq, mR_sR_ne, mI_sR, mR_sI, mK_sI, mN_sI, mn_sI, mJ_sI, mK_sR, mN_sR, mn_sR, mJ_sR, mI_wI, mR_wI, mK_wI, mN_wI, mn_wI, mJ_wI, ↓bnd_of, ↓bndX_r, ↓bndX_l, ↓ap_nr, bnd_of, bndX_r, bndX_l, if_true, if_false, ite_true, ite_false, not_true_eq_false, not_false_eq_true, Nat.reduceAdd, Nat.reduceMul, Nat.reduceEqDiff, Int.reduceToNat, Int.reduceNeg, Ilt_t, Ilt_f, Ile_t, Ile_f, Ieq_t, Ieq_f, Nlt_t, Nlt_f, Nle_t, Nle_f, Neq_t, Neq_f, or_true, true_or, or_false, false_or, and_true, true_and, and_false, false_and, ne_eq, or_self, and_self, decide_true, decide_false, Bool.false_eq_true]
      have i5 : inB (i32 ((6 * i : Nat) : Int) + (5 : Int32)) L = true := by simp (disch := omega) only [↓reduceIte, add_i0, cast_add1, cast_sub1, toNat120, i32_lit, i32_neg, i32_add, i32_sub, i32_mul, i32_nat, i32_le, i32_lt, i32_eq, inB_i, Int.toNat_natCast, mI_sI_eq, mI_sI_ne, mR_sR_eq, mR_sR_ne, mI_sR, mR_sI, mK_sI, mN_sI, mn_sI, mJ_sI, mK_sR, mN_sR, mn_sR, mJ_sR, mI_wI, mR_wI, mK_wI, mN_wI, mn_wI, mJ_wI, ↓bnd_of, ↓bndX_r, ↓bndX_l, ↓ap_nr, bnd_of, bndX_r, bndX_l, if_true, if_false, ite_true, ite_false, not_true_eq_false, not_false_eq_true, Nat.reduceAdd, Nat.reduceMul, Nat.reduceEqDiff, Int.reduceToNat, Int.reduceNeg, Ilt_t, Ilt_f, Ile_t, Ile_f, Ieq_t, Ieq_f, Nlt_t, Nlt_f, Nle_t, Nle_f, Neq_t, Neq_f, or_true, true_or, or_false, false_or, and_true, true_and, and_false, false_and, ne_eq, or_self, and_self, decide_true, decide_false, Bool.false_eq_true]
      have i6 : i32 ((6 * i : Nat) : Int) + (6 : Int32) = i32 ((6 * (i + 1) : Nat) : Int) := by
        have : ((6 * (i + 1) : Nat) : Int) = ((6 * i : Nat) : Int) + 6 := by omega
        rw [this]
        simp (disch := omega) only [↓reduceIte, add_i0, cast_add1, cast_sub1, toNat120, i32_lit, i32_neg, i32_add, i32_sub, i32_mul, i32_nat, i32_le, i32_lt, i32_eq, inB_i, Int.toNat_natCast, mI_sI_eq, mI_sI_ne, mR_sR_eq, mR_sR_ne, mI_sR, mR_sI, mK_sI, mN_sI, mn_sI, mJ_sI, mK_sR, mN_sR, mn_sR, mJ_sR, mI_wI, mR_wI, mK_wI, mN_wI, mn_wI, mJ_wI, ↓bnd_of, ↓bndX_r, ↓bndX_l, ↓ap_nr, bnd_of, bndX_r, bndX_l, if_true, if_false, ite_true, ite_false, not_true_eq_false, not_false_eq_true, Nat.reduceAdd, Nat.reduceMul, Nat.reduceEqDiff, Int.reduceToNat, Int.reduceNeg, Ilt_t, Ilt_f, Ile_t, Ile_f, Ieq_t, Ieq_f, Nlt_t, Nlt_f, Nle_t, Nle_f, Neq_t, Neq_f, or_true, true_or, or_false, false_or, and_true, true_and, and_false, false_and, ne_eq, or_self, and_self, decide_true, decide_false, Bool.false_eq_true]
      obtain ⟨M2, e, I2, n2⟩ := law_step (xs := xs) (n := fuel) rfl hlt i0 i1 i2 i3 i4 i5 hI (by omega)
      rw [i6] at e
      rw [e]
      exact ih (i + 1) fuel M2 (by omega) (by omega) (by omega) I2 (by omega)
theorem law_run (L : Nat) (xs : Nat → Int32) (hL : L ≤ 3072) : ∃ M', f_law L xs M00 = some (1, M') := by
  rw [law_init]
  exact law_loop hL xs 513 0 600 MS (by omega) (by omega) (by omega) INV_MS (by rw [MS_n]; omega)
