/-! the greatest levels, how many entries -/
theorem imax1 (a b : Int) : (if a < b then i32 b else i32 a) = i32 (if a < b then b else a) := by
  split <;> rfl
def mxF (row : Nat → Int) : Nat → Nat → Int → Int := lp (fun i m => if m < row i then row i else m)
theorem mxF_spec (row : Nat → Int) : ∀ (k j : Nat) (m : Int), m ≤ mxF row k j m ∧ (∀ i, j ≤ i → i < j + k → row i ≤ mxF row k j m) ∧ (mxF row k j m = m ∨ ∃ i, j ≤ i ∧ i < j + k ∧ mxF row k j m = row i) := by
  intro k
  induction k with
  | zero => intro j m; exact ⟨Int.le_refl _, fun i h1 h2 => by omega, Or.inl rfl⟩
  | succ k ih =>
    intro j m
    have e : mxF row (k + 1) j m = mxF row k (j + 1) (if m < row j then row j else m) := rfl
    rw [e]
    obtain ⟨h1, h2, h3⟩ := ih (j + 1) (if m < row j then row j else m)
    by_cases c : m < row j
    · simp only [c, if_true] at h1 h2 h3 ⊢
      refine ⟨by clear h2 h3; omega, fun i q1 q2 => ?_, ?_⟩
      · by_cases e : i = j
        · subst e; exact h1
        · exact h2 i (by clear h2 h3; omega) (by clear h2 h3; omega)
      · rcases h3 with h3 | ⟨i, q1, q2, q3⟩
        · exact Or.inr ⟨j, by omega, by omega, h3⟩
        · exact Or.inr ⟨i, by omega, by omega, q3⟩
    · simp only [c, if_false] at h1 h2 h3 ⊢
      refine ⟨h1, fun i q1 q2 => ?_, ?_⟩
      · by_cases e : i = j
        · subst e; clear h2 h3; omega
        · exact h2 i (by clear h2 h3; omega) (by clear h2 h3; omega)
      · rcases h3 with h3 | ⟨i, q1, q2, q3⟩
        · exact Or.inl h3
        · exact Or.inr ⟨i, by omega, by omega, q3⟩
section
variable {M : Mem} {s : Nat} {S : Sc} {A : St}
/-- further in, the levels are no less -/
theorem Sc.lev_in (hS : S.ok) (row : Nat → Int) (hr : ∀ f, f < S.nf → S.gr f ≠ -1 → row (S.gr f).toNat ≤ row f) : ∀ (n : Nat) (k : Int) (g : Nat), k < n → -1 ≤ k → k < S.nf → S.ins k g = true → row g ≤ row k.toNat := by
  have hn := hS.1
  intro n
  induction n with
  | zero =>
    intro k g h1 h2 h3 h4
    have : k = -1 := by omega
    subst this
    rw [Sc.ins_m1 hS] at h4
    cases h4
  | succ n ih =>
    intro k g h1 h2 h3 h4
    rcases (Sc.ins_eq hS h2 (by omega) g).mp h4 with e | ⟨e, e2⟩
    · rw [e]; simp
    · have b := Sc.gr_lt hS k.toNat
      have i := ih (S.gr k.toNat) g (by omega) b.1 (by omega) e2
      by_cases c : S.gr k.toNat = -1
      · rw [c, Sc.ins_m1 hS] at e2
        cases e2
      · have := hr k.toNat (by omega) c
        omega
theorem Sc.sd_in (hW : S.wf) {k : Int} {g : Nat} (h1 : -1 ≤ k) (h2 : k < S.nf) (h : S.ins k g = true) : S.sd g ≤ S.sd k.toNat := by
  have hn := hW.1.1
  refine Sc.lev_in hW.1 S.sd (fun f hf hg => ?_) 17 k g (by omega) h1 h2 h
  have := hW.2.1 f hf
  rw [if_neg hg] at this
  split at this <;> omega
theorem Sc.sr_in (hW : S.wf) {k : Int} {g : Nat} (h1 : -1 ≤ k) (h2 : k < S.nf) (h : S.ins k g = true) : S.sr g ≤ S.sr k.toNat := by
  have hn := hW.1.1
  refine Sc.lev_in hW.1 S.sr (fun f hf hg => ?_) 17 k g (by omega) h1 h2 h
  have := hW.2.2.1 f hf
  rw [if_neg hg] at this
  split at this <;> omega
theorem mx_leaf (hW : S.wf) (row : Nat → Int) (h0 : ∀ f, 0 ≤ row f) (hin : ∀ l f, l < S.nl → S.ins (S.fo l) f = true → row f ≤ row (S.fo l)) : mxF (fun l => row (S.fo l)) S.nl 0 0 = mxF row S.nf 0 0 := by
  obtain ⟨a1, a2, a3⟩ := mxF_spec (fun l => row (S.fo l)) S.nl 0 0
  obtain ⟨b1, b2, b3⟩ := mxF_spec row S.nf 0 0
  have h1 : mxF (fun l => row (S.fo l)) S.nl 0 0 ≤ mxF row S.nf 0 0 := by
    rcases a3 with h | ⟨i, q1, q2, q3⟩
    · omega
    · have := b2 (S.fo i) (by omega) (by have := Sc.fo_lt hW.1 (show i < S.nl by omega); omega)
      omega
  have h2 : mxF row S.nf 0 0 ≤ mxF (fun l => row (S.fo l)) S.nl 0 0 := by
    rcases b3 with h | ⟨i, q1, q2, q3⟩
    · omega
    · obtain ⟨l, hl, hi⟩ := Sc.has_leaf hW S.nf i (by omega) (by omega)
      have e1 := a2 l (by omega) (by omega)
      have e2 := hin l i hl hi
      omega
  omega
def Sc.gSd (S : Sc) : Int := mxF S.sd S.nf 0 0
def Sc.gSr (S : Sc) : Int := mxF S.sr S.nf 0 0
theorem X5_greatest (hS : S.ok) (hL : ShLay M s) (hC : CSh M s S) (row : Nat → Int) (a : Nat) (hr : ∀ f, 0 ≤ row f ∧ row f ≤ 9) (hK : mK M a = 21) (hN : mN M a = 16) (hrow : ∀ f, f < S.nf → mI M a f = i32 (row f)) : f_X5_greatestOfLeaves s a M = some (i32 (mxF (fun l => row (S.fo l)) S.nl 0 0), M) := by
  have hnl := hS.2.1
  obtain ⟨c0, c1, ck, cg, cl, cd, cr, -, -, -, cb, -, cf⟩ := hC
  have H : ∀ (k j n : Nat) (m : Int), j + k = S.nl → k < n → 0 ≤ m → m ≤ 9 → f_X5_greatestOfLeaves_4 n s a (i32 m) (i32 j) M = some (i32 (mxF (fun l => row (S.fo l)) k j m), M) := by
    intro k
    induction k with
    | zero =>
      intro j n m hj hn q1 q2
      obtain ⟨n, rfl⟩ : ∃ m, n = m + 1 := ⟨n - 1, by omega⟩
      simp (disch := omega) only [add_i0, cast_add1, cast_sub1, toNat120, i32_lit, i32_neg, i32_add, i32_sub, i32_mul, i32_nat, i32_le, i32_lt, i32_eq, inB_i, Int.toNat_natCast, mI_sI_eq, mI_sI_ne, mR_sR_eq, mR_sR_ne, mI_sR, mR_sI, mK_sI, mN_sI, mn_sI, mJ_sI, mK_sR, mN_sR, mn_sR, mJ_sR, mI_wI, mR_wI, mK_wI, mN_wI, mn_wI, mJ_wI, ↓bnd_of, ↓bndX_r, ↓bndX_l, ↓ap_of, bnd_of, bndX_r, bndX_l, if_true, if_false, ite_true, ite_false, not_true_eq_false, not_false_eq_true, Nat.reduceAdd, Nat.reduceMul, Nat.reduceEqDiff, Int.reduceToNat, Int.reduceNeg, Ilt_t, Ilt_f, Ile_t, Ile_f, Ieq_t, Ieq_f, Nlt_t, Nlt_f, Nle_t, Nle_f, Neq_t, Neq_f, or_true, true_or, or_false, false_or, and_true, true_and, and_false, false_and, ne_eq, or_self, and_self, decide_true, decide_false, Bool.false_eq_true, f_X5_greatestOfLeaves_4, mxF, lp, hL.o, c1]
    | succ k ih =>
      intro j n m hj hn q1 q2
      obtain ⟨n, rfl⟩ : ∃ m, n = m + 1 := ⟨n - 1, by omega⟩
      have hfo := Sc.fo_lt hS (show j < S.nl by omega)
      have b := hr (S.fo j)
      have e : mxF (fun l => row (S.fo l)) (k + 1) j m = mxF (fun l => row (S.fo l)) k (j + 1) (if m < row (S.fo j) then row (S.fo j) else m) := rfl
      have i := ih (j + 1) n (if m < row (S.fo j) then row (S.fo j) else m) (by omega) (by omega) (by split <;> omega) (by split <;> omega)
      rw [e, ← i]
      simp (disch := omega) only [add_i0, cast_add1, cast_sub1, toNat120, i32_lit, i32_neg, i32_add, i32_sub, i32_mul, i32_nat, i32_le, i32_lt, i32_eq, inB_i, Int.toNat_natCast, mI_sI_eq, mI_sI_ne, mR_sR_eq, mR_sR_ne, mI_sR, mR_sI, mK_sI, mN_sI, mn_sI, mJ_sI, mK_sR, mN_sR, mn_sR, mJ_sR, mI_wI, mR_wI, mK_wI, mN_wI, mn_wI, mJ_wI, ↓bnd_of, ↓bndX_r, ↓bndX_l, ↓ap_of, bnd_of, bndX_r, bndX_l, if_true, if_false, ite_true, ite_false, not_true_eq_false, not_false_eq_true, Nat.reduceAdd, Nat.reduceMul, Nat.reduceEqDiff, Int.reduceToNat, Int.reduceNeg, Ilt_t, Ilt_f, Ile_t, Ile_f, Ieq_t, Ieq_f, Nlt_t, Nlt_f, Nle_t, Nle_f, Neq_t, Neq_f, or_true, true_or, or_false, false_or, and_true, true_and, and_false, false_and, ne_eq, or_self, and_self, decide_true, decide_false, Bool.false_eq_true, f_X5_greatestOfLeaves_4, hL.o, c1, cf, hK, hN, hrow, imax1]
  have h := H S.nl 0 FUEL 0 (by omega) (by unfold FUEL; omega) (by omega) (by omega)
  unfold f_X5_greatestOfLeaves
  exact h
theorem X12_greatest (hS : S.ok) (hV : RV M S A) (row : Nat → Int) (a : Nat) (hr : ∀ f, 0 ≤ row f ∧ row f ≤ 9) (hK : mK M a = 21) (hN : mN M a = 48) (hrow : ∀ f, f < S.nf → mI M a f = i32 (row f)) : f_X12_greatest 134 a M = some (i32 (mxF row S.nf 0 0), M) := by
  have hnl := hS.1
  have hL := hV.1
  have c0 := hV.2.1.1
  have H : ∀ (k j n : Nat) (m : Int), j + k = S.nf → k < n → 0 ≤ m → m ≤ 9 → f_X12_greatest_4 n 134 a (i32 m) (i32 j) M = some (i32 (mxF row k j m), M) := by
    intro k
    induction k with
    | zero =>
      intro j n m hj hn q1 q2
      obtain ⟨n, rfl⟩ : ∃ m, n = m + 1 := ⟨n - 1, by omega⟩
      simp (disch := omega) only [add_i0, cast_add1, cast_sub1, toNat120, i32_lit, i32_neg, i32_add, i32_sub, i32_mul, i32_nat, i32_le, i32_lt, i32_eq, inB_i, Int.toNat_natCast, mI_sI_eq, mI_sI_ne, mR_sR_eq, mR_sR_ne, mI_sR, mR_sI, mK_sI, mN_sI, mn_sI, mJ_sI, mK_sR, mN_sR, mn_sR, mJ_sR, mI_wI, mR_wI, mK_wI, mN_wI, mn_wI, mJ_wI, ↓bnd_of, ↓bndX_r, ↓bndX_l, ↓ap_of, bnd_of, bndX_r, bndX_l, if_true, if_false, ite_true, ite_false, not_true_eq_false, not_false_eq_true, Nat.reduceAdd, Nat.reduceMul, Nat.reduceEqDiff, Int.reduceToNat, Int.reduceNeg, Ilt_t, Ilt_f, Ile_t, Ile_f, Ieq_t, Ieq_f, Nlt_t, Nlt_f, Nle_t, Nle_f, Neq_t, Neq_f, or_true, true_or, or_false, false_or, and_true, true_and, and_false, false_and, ne_eq, or_self, and_self, decide_true, decide_false, Bool.false_eq_true, f_X12_greatest_4, mxF, lp, hL.o, c0]
    | succ k ih =>
      intro j n m hj hn q1 q2
      obtain ⟨n, rfl⟩ : ∃ m, n = m + 1 := ⟨n - 1, by omega⟩
      have b := hr j
      have e : mxF row (k + 1) j m = mxF row k (j + 1) (if m < row j then row j else m) := rfl
      have i := ih (j + 1) n (if m < row j then row j else m) (by omega) (by omega) (by split <;> omega) (by split <;> omega)
      rw [e, ← i]
      simp (disch := omega) only [add_i0, cast_add1, cast_sub1, toNat120, i32_lit, i32_neg, i32_add, i32_sub, i32_mul, i32_nat, i32_le, i32_lt, i32_eq, inB_i, Int.toNat_natCast, mI_sI_eq, mI_sI_ne, mR_sR_eq, mR_sR_ne, mI_sR, mR_sI, mK_sI, mN_sI, mn_sI, mJ_sI, mK_sR, mN_sR, mn_sR, mJ_sR, mI_wI, mR_wI, mK_wI, mN_wI, mn_wI, mJ_wI, ↓bnd_of, ↓bndX_r, ↓bndX_l, ↓ap_of, bnd_of, bndX_r, bndX_l, if_true, if_false, ite_true, ite_false, not_true_eq_false, not_false_eq_true, Nat.reduceAdd, Nat.reduceMul, Nat.reduceEqDiff, Int.reduceToNat, Int.reduceNeg, Ilt_t, Ilt_f, Ile_t, Ile_f, Ieq_t, Ieq_f, Nlt_t, Nlt_f, Nle_t, Nle_f, Neq_t, Neq_f, or_true, true_or, or_false, false_or, and_true, true_and, and_false, false_and, ne_eq, or_self, and_self, decide_true, decide_false, Bool.false_eq_true, f_X12_greatest_4, hL.o, c0, hK, hN, hrow, imax1]
  have h := H S.nf 0 FUEL 0 (by omega) (by unfold FUEL; omega) (by omega) (by omega)
  unfold f_X12_greatest
  exact h
def St.all (A : St) (n : Nat) : Int32 := lp (fun l x => x + i32 (A.sz l)) n 0 (i32 0)
theorem X7_entriesOfAll (hS : S.ok) (hV : CV M s S A) : f_X7_entriesOfAll 18 (i32 S.nl) M = some (A.all S.nl, M) := by
  have hnl := hS.2.1
  obtain ⟨hL, hc, hs, hC, hA, hr, -⟩ := hV
  have hcol := hc.2.2.2.2.2.2.2.2.2.2
  simp only [Nat.reduceSub] at hcol
  have a1 := hA.2.1
  have H : ∀ (k j n : Nat) (x : Int32), j + k = S.nl → k < n → f_X7_entriesOfAll_4 n 18 (i32 S.nl) x (i32 j) M = some (lp (fun l x => x + i32 (A.sz l)) k j x, M) := by
    intro k
    induction k with
    | zero =>
      intro j n x hj hn
      obtain ⟨n, rfl⟩ : ∃ m, n = m + 1 := ⟨n - 1, by omega⟩
      simp (disch := omega) only [add_i0, cast_add1, cast_sub1, toNat120, i32_lit, i32_neg, i32_add, i32_sub, i32_mul, i32_nat, i32_le, i32_lt, i32_eq, inB_i, Int.toNat_natCast, mI_sI_eq, mI_sI_ne, mR_sR_eq, mR_sR_ne, mI_sR, mR_sI, mK_sI, mN_sI, mn_sI, mJ_sI, mK_sR, mN_sR, mn_sR, mJ_sR, mI_wI, mR_wI, mK_wI, mN_wI, mn_wI, mJ_wI, ↓bnd_of, ↓bndX_r, ↓bndX_l, ↓ap_of, bnd_of, bndX_r, bndX_l, if_true, if_false, ite_true, ite_false, not_true_eq_false, not_false_eq_true, Nat.reduceAdd, Nat.reduceMul, Nat.reduceEqDiff, Int.reduceToNat, Int.reduceNeg, Ilt_t, Ilt_f, Ile_t, Ile_f, Ieq_t, Ieq_f, Nlt_t, Nlt_f, Nle_t, Nle_f, Neq_t, Neq_f, or_true, true_or, or_false, false_or, and_true, true_and, and_false, false_and, ne_eq, or_self, and_self, decide_true, decide_false, Bool.false_eq_true, f_X7_entriesOfAll_4, lp]
    | succ k ih =>
      intro j n x hj hn
      obtain ⟨n, rfl⟩ : ∃ m, n = m + 1 := ⟨n - 1, by omega⟩
      simp (disch := omega) only [add_i0, cast_add1, cast_sub1, toNat120, i32_lit, i32_neg, i32_add, i32_sub, i32_mul, i32_nat, i32_le, i32_lt, i32_eq, inB_i, Int.toNat_natCast, mI_sI_eq, mI_sI_ne, mR_sR_eq, mR_sR_ne, mI_sR, mR_sI, mK_sI, mN_sI, mn_sI, mJ_sI, mK_sR, mN_sR, mn_sR, mJ_sR, mI_wI, mR_wI, mK_wI, mN_wI, mn_wI, mJ_wI, ↓bnd_of, ↓bndX_r, ↓bndX_l, ↓ap_of, bnd_of, bndX_r, bndX_l, if_true, if_false, ite_true, ite_false, not_true_eq_false, not_false_eq_true, Nat.reduceAdd, Nat.reduceMul, Nat.reduceEqDiff, Int.reduceToNat, Int.reduceNeg, Ilt_t, Ilt_f, Ile_t, Ile_f, Ieq_t, Ieq_f, Nlt_t, Nlt_f, Nle_t, Nle_f, Neq_t, Neq_f, or_true, true_or, or_false, false_or, and_true, true_and, and_false, false_and, ne_eq, or_self, and_self, decide_true, decide_false, Bool.false_eq_true, f_X7_entriesOfAll_4, lp, hL.o, hcol, hc, a1, ih]
  have h := H S.nl 0 FUEL (i32 0) (by omega) (by unfold FUEL; omega)
  unfold f_X7_entriesOfAll
  exact h
theorem X12_allEntries (hS : S.ok) (hV : RV M S A) : f_X12_allEntries 134 M = some (A.all S.nl, M) := by
  have hnl := hS.2.1
  have hL := hV.1
  have c1 := hV.2.1.2.1
  have a1 := hV.2.2.2.1
  have H : ∀ (k j n : Nat) (x : Int32), j + k = S.nl → k < n → f_X12_allEntries_4 n 134 x (i32 j) M = some (lp (fun l x => x + i32 (A.sz l)) k j x, M) := by
    intro k
    induction k with
    | zero =>
      intro j n x hj hn
      obtain ⟨n, rfl⟩ : ∃ m, n = m + 1 := ⟨n - 1, by omega⟩
      simp (disch := omega) only [add_i0, cast_add1, cast_sub1, toNat120, i32_lit, i32_neg, i32_add, i32_sub, i32_mul, i32_nat, i32_le, i32_lt, i32_eq, inB_i, Int.toNat_natCast, mI_sI_eq, mI_sI_ne, mR_sR_eq, mR_sR_ne, mI_sR, mR_sI, mK_sI, mN_sI, mn_sI, mJ_sI, mK_sR, mN_sR, mn_sR, mJ_sR, mI_wI, mR_wI, mK_wI, mN_wI, mn_wI, mJ_wI, ↓bnd_of, ↓bndX_r, ↓bndX_l, ↓ap_of, bnd_of, bndX_r, bndX_l, if_true, if_false, ite_true, ite_false, not_true_eq_false, not_false_eq_true, Nat.reduceAdd, Nat.reduceMul, Nat.reduceEqDiff, Int.reduceToNat, Int.reduceNeg, Ilt_t, Ilt_f, Ile_t, Ile_f, Ieq_t, Ieq_f, Nlt_t, Nlt_f, Nle_t, Nle_f, Neq_t, Neq_f, or_true, true_or, or_false, false_or, and_true, true_and, and_false, false_and, ne_eq, or_self, and_self, decide_true, decide_false, Bool.false_eq_true, f_X12_allEntries_4, lp, hL.o, c1]
    | succ k ih =>
      intro j n x hj hn
      obtain ⟨n, rfl⟩ : ∃ m, n = m + 1 := ⟨n - 1, by omega⟩
      simp (disch := omega) only [add_i0, cast_add1, cast_sub1, toNat120, i32_lit, i32_neg, i32_add, i32_sub, i32_mul, i32_nat, i32_le, i32_lt, i32_eq, inB_i, Int.toNat_natCast, mI_sI_eq, mI_sI_ne, mR_sR_eq, mR_sR_ne, mI_sR, mR_sI, mK_sI, mN_sI, mn_sI, mJ_sI, mK_sR, mN_sR, mn_sR, mJ_sR, mI_wI, mR_wI, mK_wI, mN_wI, mn_wI, mJ_wI, ↓bnd_of, ↓bndX_r, ↓bndX_l, ↓ap_of, bnd_of, bndX_r, bndX_l, if_true, if_false, ite_true, ite_false, not_true_eq_false, not_false_eq_true, Nat.reduceAdd, Nat.reduceMul, Nat.reduceEqDiff, Int.reduceToNat, Int.reduceNeg, Ilt_t, Ilt_f, Ile_t, Ile_f, Ieq_t, Ieq_f, Nlt_t, Nlt_f, Nle_t, Nle_f, Neq_t, Neq_f, or_true, true_or, or_false, false_or, and_true, true_and, and_false, false_and, ne_eq, or_self, and_self, decide_true, decide_false, Bool.false_eq_true, f_X12_allEntries_4, lp, hL.o, c1, a1, ih]
  have h := H S.nl 0 FUEL (i32 0) (by omega) (by unfold FUEL; omega)
  unfold f_X12_allEntries
  exact h
end
