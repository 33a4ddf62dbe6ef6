/-! What is told: the reference -/
theorem behF_gt (rp : Nat → Int) (x : Int) : ∀ (k j i : Nat), j ≤ i → i < behF rp x k j → x < rp i := by
  intro k
  induction k with
  | zero => intro j i h1 h2; simp only [behF] at h2; omega
  | succ k ih =>
    intro j i h1 h2
    unfold behF at h2
    by_cases c : rp j ≤ x
    · rw [if_pos c] at h2; omega
    · rw [if_neg c] at h2
      by_cases e : i = j
      · subst e; omega
      · exact ih (j + 1) i (by omega) h2
theorem behF_skip (rp : Nat → Int) (x : Int) : ∀ (d k j : Nat), d ≤ k → (∀ i, j ≤ i → i < j + d → x < rp i) → behF rp x k j = behF rp x (k - d) (j + d) := by
  intro d
  induction d with
  | zero => intro k j h1 h2; rfl
  | succ d ih =>
    intro k j h1 h2
    obtain ⟨k, rfl⟩ : ∃ q, k = q + 1 := ⟨k - 1, by omega⟩
    have h3 := h2 j (by omega) (by omega)
    conv => lhs; unfold behF
    rw [if_neg (by omega), ih k (j + 1) (by omega) (fun i q1 q2 => h2 i (by omega) (by omega)), show k + 1 - (d + 1) = k - d by omega, show j + 1 + d = j + (d + 1) by omega]
theorem toNatA (b i : Nat) : ((b : Int) + (i : Int)).toNat = b + i := by omega
theorem toNat8 (e l : Nat) : (8 * (e : Int) + (l : Int)).toNat = 8 * e + l := by omega
/-- the item ends within the one around it -/
theorem nx_in (A : St) {l j : Nat} {R x : Int} (h : j < A.sz l) (hx : R ≤ x) : A.nx l x j ≤ A.nx l R j ∧ ((A.nx l x j < A.nx l R j) ↔ (A.nx l x j < A.sz l ∧ R < A.rp l (A.nx l x j))) := by
  have h1 := A.nx_le x h
  have h2 := A.nx_le R h
  have g1 := behF_gt (A.rp l) x (A.sz l - (j + 1)) (j + 1)
  have g2 := behF_gt (A.rp l) R (A.sz l - (j + 1)) (j + 1)
  have le : A.nx l x j ≤ A.nx l R j := by
    by_cases c : A.nx l x j ≤ A.nx l R j
    · exact c
    · have := g1 (A.nx l R j) (by omega) (by unfold St.nx at c ⊢; omega)
      omega
  refine ⟨le, fun q => ⟨by omega, g2 _ (by omega) q⟩, fun q => ?_⟩
  by_cases c : A.nx l x j < A.nx l R j
  · exact c
  · have : A.nx l x j = A.nx l R j := by omega
    rw [this] at q
    omega
theorem nx_nx (A : St) {l j : Nat} {R x : Int} (h : j < A.sz l) (hx : R ≤ x) (h1 : A.nx l x j < A.sz l) (h2 : R < A.rp l (A.nx l x j)) : A.nx l R (A.nx l x j) = A.nx l R j := by
  have hb := A.nx_le x h
  have g1 := behF_gt (A.rp l) x (A.sz l - (j + 1)) (j + 1)
  have := behF_skip (A.rp l) R (A.nx l x j + 1 - (j + 1)) (A.sz l - (j + 1)) (j + 1) (by omega) (fun i q1 q2 => by
    by_cases c : i = A.nx l x j
    · rw [c]; exact h2
    · have := g1 i q1 (by unfold St.nx at *; omega)
      omega)
  rw [show A.sz l - (j + 1) - (A.nx l x j + 1 - (j + 1)) = A.sz l - (A.nx l x j + 1) by omega, show j + 1 + (A.nx l x j + 1 - (j + 1)) = A.nx l x j + 1 by omega] at this
  exact this.symm
def RT (M : Mem) (w : Int32) (p : Int32 × Int32) : Prop := mI M 134 42 = w ∧ mI M 134 41 = p.1 ∧ mI M 134 43 = p.2
def RC (e : Nat) (a j : Nat) : Prop := (a = 134 ∧ (j = 41 ∨ j = 43)) ∨ ((a = 156 ∨ a = 157) ∧ 8 * (e + 1) ≤ j)
def RTV (M : Mem) (b : Nat) (S T : Sc) (A : St) : Prop := RV M S A ∧ mI M 147 (b / 16) = i32 T.nf ∧ (∀ f, f < T.nf → mI M 139 (b + f) = i32 (T.kd f)) ∧ (∀ f, f < T.nf → mI M 140 (b + f) = i32 (T.gr f)) ∧ (∀ f, f < T.nf → mI M 145 (b + f) = i32 (T.tw f))
def RPos (M : Mem) (S : Sc) (A : St) (g : Int) (e : Nat) (pos : Nat → Nat) : Prop := ∀ l, l < S.nl → S.sc g (S.fo l) → mI M 156 (8 * e + l) = i32 (pos l) ∧ mI M 157 (8 * e + l) = i32 (A.nx l (S.lv g) (pos l))
section
variable {M : Mem} {b : Nat} {S T : Sc} {A : St} {tl : Nat → Bool} {w : Int32} {p : Int32 × Int32} {dp : Nat → Nat} {st : Int32}
theorem RC_scr {e : Nat} : ∀ a j, RC e a j → ScI a j := fun a j q => by
  rcases q with ⟨h, h2⟩ | ⟨h1, h2⟩
  · subst h; exact sc_134 (by omega)
  · exact sc_153 ⟨by omega, by omega⟩
theorem RC_mono {d e : Nat} (h : d ≤ e) : ∀ a j, RC e a j → RC d a j := fun a j q => by unfold RC at q ⊢; omega
theorem RTV.chg {M M' : Mem} {e : Nat} (hS : S.ok) (h : RTV M b S T A) (g : Chg (RC e) M M') : RTV M' b S T A := by
  obtain ⟨h1, h2, h3, h4, h5⟩ := h
  refine ⟨h1.scr hS (g.scr RC_scr), ?_, fun f q => ?_, fun f q => ?_, fun f q => ?_⟩
  · rw [g.i (by unfold RC; omega)]; exact h2
  · rw [g.i (by unfold RC; omega)]; exact h3 f q
  · rw [g.i (by unfold RC; omega)]; exact h4 f q
  · rw [g.i (by unfold RC; omega)]; exact h5 f q
theorem RLay.chg {M M' : Mem} {e : Nat} (h : RLay M) (g : Chg (RC e) M M') : RLay M' := h.scr (g.scr RC_scr)
theorem RLay.k (hL : RLay M) : mK M 134 = 13 := hL.o.1
theorem X12_say (hL : RLay M) (h : RT M w p) (c : Int32) : ∃ M', f_X12_say 134 c M = some ((), M') ∧ Chg (RC 5) M M' ∧ RT M' w (outS w [c] p) := by
  obtain ⟨h1, h2, h3⟩ := h
  have k := hL.k
  by_cases d : p.1 = w
  · refine ⟨sI (sI M 134 43 c) 134 41 (p.1 + i32 1), ?_, ((Chg.rf _ M).sI (by unfold RC; omega)).sI (by unfold RC; omega), ?_, ?_, ?_⟩
    · simp (disch := omega) only [↓reduceIte, add_i0, cast_add1, cast_sub1, toNat120, i32_lit, i32_neg, i32_add, i32_sub, i32_mul, i32_nat, i32_le, i32_lt, i32_eq, inB_i, Int.toNat_natCast, mI_sI_eq, mI_sI_ne, mR_sR_eq, mR_sR_ne, mI_sR, mR_sI, mK_sI, mN_sI, mn_sI, mJ_sI, mK_sR, mN_sR, mn_sR, mJ_sR, mI_wI, mR_wI, mK_wI, mN_wI, mn_wI, mJ_wI, ↓bnd_of, ↓bndX_r, ↓bndX_l, ↓ap_nr, bnd_of, bndX_r, bndX_l, if_true, if_false, ite_true, ite_false, not_true_eq_false, not_false_eq_true, Nat.reduceAdd, Nat.reduceMul, Nat.reduceEqDiff, Int.reduceToNat, Int.reduceNeg, Ilt_t, Ilt_f, Ile_t, Ile_f, Ieq_t, Ieq_f, Nlt_t, Nlt_f, Nle_t, Nle_f, Neq_t, Neq_f, or_true, true_or, or_false, false_or, and_true, true_and, and_false, false_and, ne_eq, or_self, and_self, decide_true, decide_false, Bool.false_eq_true, f_X12_say, f_X12_say_16, k, h1, h2, d]
    · simp (disch := omega) only [↓reduceIte, add_i0, cast_add1, cast_sub1, toNat120, i32_lit, i32_neg, i32_add, i32_sub, i32_mul, i32_nat, i32_le, i32_lt, i32_eq, inB_i, Int.toNat_natCast, mI_sI_eq, mI_sI_ne, mR_sR_eq, mR_sR_ne, mI_sR, mR_sI, mK_sI, mN_sI, mn_sI, mJ_sI, mK_sR, mN_sR, mn_sR, mJ_sR, mI_wI, mR_wI, mK_wI, mN_wI, mn_wI, mJ_wI, ↓bnd_of, ↓bndX_r, ↓bndX_l, ↓ap_nr, bnd_of, bndX_r, bndX_l, if_true, if_false, ite_true, ite_false, not_true_eq_false, not_false_eq_true, Nat.reduceAdd, Nat.reduceMul, Nat.reduceEqDiff, Int.reduceToNat, Int.reduceNeg, Ilt_t, Ilt_f, Ile_t, Ile_f, Ieq_t, Ieq_f, Nlt_t, Nlt_f, Nle_t, Nle_f, Neq_t, Neq_f, or_true, true_or, or_false, false_or, and_true, true_and, and_false, false_and, ne_eq, or_self, and_self, decide_true, decide_false, Bool.false_eq_true, h1]
    · simp (disch := omega) only [↓reduceIte, add_i0, cast_add1, cast_sub1, toNat120, i32_lit, i32_neg, i32_add, i32_sub, i32_mul, i32_nat, i32_le, i32_lt, i32_eq, inB_i, Int.toNat_natCast, mI_sI_eq, mI_sI_ne, mR_sR_eq, mR_sR_ne, mI_sR, mR_sI, mK_sI, mN_sI, mn_sI, mJ_sI, mK_sR, mN_sR, mn_sR, mJ_sR, mI_wI, mR_wI, mK_wI, mN_wI, mn_wI, mJ_wI, ↓bnd_of, ↓bndX_r, ↓bndX_l, ↓ap_nr, bnd_of, bndX_r, bndX_l, if_true, if_false, ite_true, ite_false, not_true_eq_false, not_false_eq_true, Nat.reduceAdd, Nat.reduceMul, Nat.reduceEqDiff, Int.reduceToNat, Int.reduceNeg, Ilt_t, Ilt_f, Ile_t, Ile_f, Ieq_t, Ieq_f, Nlt_t, Nlt_f, Nle_t, Nle_f, Neq_t, Neq_f, or_true, true_or, or_false, false_or, and_true, true_and, and_false, false_and, ne_eq, or_self, and_self, decide_true, decide_false, Bool.false_eq_true, outS]
    · simp (disch := omega) only [↓reduceIte, add_i0, cast_add1, cast_sub1, toNat120, i32_lit, i32_neg, i32_add, i32_sub, i32_mul, i32_nat, i32_le, i32_lt, i32_eq, inB_i, Int.toNat_natCast, mI_sI_eq, mI_sI_ne, mR_sR_eq, mR_sR_ne, mI_sR, mR_sI, mK_sI, mN_sI, mn_sI, mJ_sI, mK_sR, mN_sR, mn_sR, mJ_sR, mI_wI, mR_wI, mK_wI, mN_wI, mn_wI, mJ_wI, ↓bnd_of, ↓bndX_r, ↓bndX_l, ↓ap_nr, bnd_of, bndX_r, bndX_l, if_true, if_false, ite_true, ite_false, not_true_eq_false, not_false_eq_true, Nat.reduceAdd, Nat.reduceMul, Nat.reduceEqDiff, Int.reduceToNat, Int.reduceNeg, Ilt_t, Ilt_f, Ile_t, Ile_f, Ieq_t, Ieq_f, Nlt_t, Nlt_f, Nle_t, Nle_f, Neq_t, Neq_f, or_true, true_or, or_false, false_or, and_true, true_and, and_false, false_and, ne_eq, or_self, and_self, decide_true, decide_false, Bool.false_eq_true, outS, d]
  · refine ⟨sI M 134 41 (p.1 + i32 1), ?_, (Chg.rf _ M).sI (by unfold RC; omega), ?_, ?_, ?_⟩
    · simp (disch := omega) only [↓reduceIte, add_i0, cast_add1, cast_sub1, toNat120, i32_lit, i32_neg, i32_add, i32_sub, i32_mul, i32_nat, i32_le, i32_lt, i32_eq, inB_i, Int.toNat_natCast, mI_sI_eq, mI_sI_ne, mR_sR_eq, mR_sR_ne, mI_sR, mR_sI, mK_sI, mN_sI, mn_sI, mJ_sI, mK_sR, mN_sR, mn_sR, mJ_sR, mI_wI, mR_wI, mK_wI, mN_wI, mn_wI, mJ_wI, ↓bnd_of, ↓bndX_r, ↓bndX_l, ↓ap_nr, bnd_of, bndX_r, bndX_l, if_true, if_false, ite_true, ite_false, not_true_eq_false, not_false_eq_true, Nat.reduceAdd, Nat.reduceMul, Nat.reduceEqDiff, Int.reduceToNat, Int.reduceNeg, Ilt_t, Ilt_f, Ile_t, Ile_f, Ieq_t, Ieq_f, Nlt_t, Nlt_f, Nle_t, Nle_f, Neq_t, Neq_f, or_true, true_or, or_false, false_or, and_true, true_and, and_false, false_and, ne_eq, or_self, and_self, decide_true, decide_false, Bool.false_eq_true, f_X12_say, f_X12_say_16, k, h1, h2, d]
    · simp (disch := omega) only [↓reduceIte, add_i0, cast_add1, cast_sub1, toNat120, i32_lit, i32_neg, i32_add, i32_sub, i32_mul, i32_nat, i32_le, i32_lt, i32_eq, inB_i, Int.toNat_natCast, mI_sI_eq, mI_sI_ne, mR_sR_eq, mR_sR_ne, mI_sR, mR_sI, mK_sI, mN_sI, mn_sI, mJ_sI, mK_sR, mN_sR, mn_sR, mJ_sR, mI_wI, mR_wI, mK_wI, mN_wI, mn_wI, mJ_wI, ↓bnd_of, ↓bndX_r, ↓bndX_l, ↓ap_nr, bnd_of, bndX_r, bndX_l, if_true, if_false, ite_true, ite_false, not_true_eq_false, not_false_eq_true, Nat.reduceAdd, Nat.reduceMul, Nat.reduceEqDiff, Int.reduceToNat, Int.reduceNeg, Ilt_t, Ilt_f, Ile_t, Ile_f, Ieq_t, Ieq_f, Nlt_t, Nlt_f, Nle_t, Nle_f, Neq_t, Neq_f, or_true, true_or, or_false, false_or, and_true, true_and, and_false, false_and, ne_eq, or_self, and_self, decide_true, decide_false, Bool.false_eq_true, h1]
    · simp (disch := omega) only [↓reduceIte, add_i0, cast_add1, cast_sub1, toNat120, i32_lit, i32_neg, i32_add, i32_sub, i32_mul, i32_nat, i32_le, i32_lt, i32_eq, inB_i, Int.toNat_natCast, mI_sI_eq, mI_sI_ne, mR_sR_eq, mR_sR_ne, mI_sR, mR_sI, mK_sI, mN_sI, mn_sI, mJ_sI, mK_sR, mN_sR, mn_sR, mJ_sR, mI_wI, mR_wI, mK_wI, mN_wI, mn_wI, mJ_wI, ↓bnd_of, ↓bndX_r, ↓bndX_l, ↓ap_nr, bnd_of, bndX_r, bndX_l, if_true, if_false, ite_true, ite_false, not_true_eq_false, not_false_eq_true, Nat.reduceAdd, Nat.reduceMul, Nat.reduceEqDiff, Int.reduceToNat, Int.reduceNeg, Ilt_t, Ilt_f, Ile_t, Ile_f, Ieq_t, Ieq_f, Nlt_t, Nlt_f, Nle_t, Nle_f, Neq_t, Neq_f, or_true, true_or, or_false, false_or, and_true, true_and, and_false, false_and, ne_eq, or_self, and_self, decide_true, decide_false, Bool.false_eq_true, outS]
    · simp (disch := omega) only [↓reduceIte, add_i0, cast_add1, cast_sub1, toNat120, i32_lit, i32_neg, i32_add, i32_sub, i32_mul, i32_nat, i32_le, i32_lt, i32_eq, inB_i, Int.toNat_natCast, mI_sI_eq, mI_sI_ne, mR_sR_eq, mR_sR_ne, mI_sR, mR_sI, mK_sI, mN_sI, mn_sI, mJ_sI, mK_sR, mN_sR, mn_sR, mJ_sR, mI_wI, mR_wI, mK_wI, mN_wI, mn_wI, mJ_wI, ↓bnd_of, ↓bndX_r, ↓bndX_l, ↓ap_nr, bnd_of, bndX_r, bndX_l, if_true, if_false, ite_true, ite_false, not_true_eq_false, not_false_eq_true, Nat.reduceAdd, Nat.reduceMul, Nat.reduceEqDiff, Int.reduceToNat, Int.reduceNeg, Ilt_t, Ilt_f, Ile_t, Ile_f, Ieq_t, Ieq_f, Nlt_t, Nlt_f, Nle_t, Nle_f, Neq_t, Neq_f, or_true, true_or, or_false, false_or, and_true, true_and, and_false, false_and, ne_eq, or_self, and_self, decide_true, decide_false, Bool.false_eq_true, outS, d, h3]
theorem X12_say18 (hL : RLay M) (h : RT M w p) (v : Int) (v0 : 0 ≤ v) (v1 : v ≤ 999) (n : Nat) : (∃ M', f_X12_sayNumber_18 (n + 2) 134 (i32 v) (i32 1) M = some ((), M') ∧ Chg (RC 5) M M' ∧ RT M' w (outS w [i32 (48 + (v - v / 10 * 10))] p)) := by
  obtain ⟨M', e, g, q⟩ := X12_say hL h (i32 (48 + (v - v / 10 * 10)))
  refine ⟨M', ?_, g, q⟩
  have e2 : (48 : Int32) + ((i32 v / i32 1) - (i32 v / i32 1) / (10 : Int32) * (10 : Int32)) = i32 (48 + (v - v / 10 * 10)) := by
    simp (disch := omega) only [↓reduceIte, add_i0, cast_add1, cast_sub1, toNat120, i32_lit, i32_neg, i32_add, i32_sub, i32_mul, i32_nat, i32_le, i32_lt, i32_eq, inB_i, Int.toNat_natCast, mI_sI_eq, mI_sI_ne, mR_sR_eq, mR_sR_ne, mI_sR, mR_sI, mK_sI, mN_sI, mn_sI, mJ_sI, mK_sR, mN_sR, mn_sR, mJ_sR, mI_wI, mR_wI, mK_wI, mN_wI, mn_wI, mJ_wI, ↓bnd_of, ↓bndX_r, ↓bndX_l, ↓ap_nr, bnd_of, bndX_r, bndX_l, if_true, if_false, ite_true, ite_false, not_true_eq_false, not_false_eq_true, Nat.reduceAdd, Nat.reduceMul, Nat.reduceEqDiff, Int.reduceToNat, Int.reduceNeg, Ilt_t, Ilt_f, Ile_t, Ile_f, Ieq_t, Ieq_f, Nlt_t, Nlt_f, Nle_t, Nle_f, Neq_t, Neq_f, or_true, true_or, or_false, false_or, and_true, true_and, and_false, false_and, ne_eq, or_self, and_self, decide_true, decide_false, Bool.false_eq_true, i32_div]
  unfold f_X12_sayNumber_18
  rw [if_neg (by simp (disch := omega) only [↓reduceIte, add_i0, cast_add1, cast_sub1, toNat120, i32_lit, i32_neg, i32_add, i32_sub, i32_mul, i32_nat, i32_le, i32_lt, i32_eq, inB_i, Int.toNat_natCast, mI_sI_eq, mI_sI_ne, mR_sR_eq, mR_sR_ne, mI_sR, mR_sI, mK_sI, mN_sI, mn_sI, mJ_sI, mK_sR, mN_sR, mn_sR, mJ_sR, mI_wI, mR_wI, mK_wI, mN_wI, mn_wI, mJ_wI, ↓bnd_of, ↓bndX_r, ↓bndX_l, ↓ap_nr, bnd_of, bndX_r, bndX_l, if_true, if_false, ite_true, ite_false, not_true_eq_false, not_false_eq_true, Nat.reduceAdd, Nat.reduceMul, Nat.reduceEqDiff, Int.reduceToNat, Int.reduceNeg, Ilt_t, Ilt_f, Ile_t, Ile_f, Ieq_t, Ieq_f, Nlt_t, Nlt_f, Nle_t, Nle_f, Neq_t, Neq_f, or_true, true_or, or_false, false_or, and_true, true_and, and_false, false_and, ne_eq, or_self, and_self, decide_true, decide_false, Bool.false_eq_true]), if_pos (by simp (disch := omega) only [↓reduceIte, add_i0, cast_add1, cast_sub1, toNat120, i32_lit, i32_neg, i32_add, i32_sub, i32_mul, i32_nat, i32_le, i32_lt, i32_eq, inB_i, Int.toNat_natCast, mI_sI_eq, mI_sI_ne, mR_sR_eq, mR_sR_ne, mI_sR, mR_sI, mK_sI, mN_sI, mn_sI, mJ_sI, mK_sR, mN_sR, mn_sR, mJ_sR, mI_wI, mR_wI, mK_wI, mN_wI, mn_wI, mJ_wI, ↓bnd_of, ↓bndX_r, ↓bndX_l, ↓ap_nr, bnd_of, bndX_r, bndX_l, if_true, if_false, ite_true, ite_false, not_true_eq_false, not_false_eq_true, Nat.reduceAdd, Nat.reduceMul, Nat.reduceEqDiff, Int.reduceToNat, Int.reduceNeg, Ilt_t, Ilt_f, Ile_t, Ile_f, Ieq_t, Ieq_f, Nlt_t, Nlt_f, Nle_t, Nle_f, Neq_t, Neq_f, or_true, true_or, or_false, false_or, and_true, true_and, and_false, false_and, ne_eq, or_self, and_self, decide_true, decide_false, Bool.false_eq_true]), if_pos hL.k, e2, bx e]
  unfold f_X12_sayNumber_18
  rw [if_pos (by simp (disch := omega) only [↓reduceIte, add_i0, cast_add1, cast_sub1, toNat120, i32_lit, i32_neg, i32_add, i32_sub, i32_mul, i32_nat, i32_le, i32_lt, i32_eq, inB_i, Int.toNat_natCast, mI_sI_eq, mI_sI_ne, mR_sR_eq, mR_sR_ne, mI_sR, mR_sI, mK_sI, mN_sI, mn_sI, mJ_sI, mK_sR, mN_sR, mn_sR, mJ_sR, mI_wI, mR_wI, mK_wI, mN_wI, mn_wI, mJ_wI, ↓bnd_of, ↓bndX_r, ↓bndX_l, ↓ap_nr, bnd_of, bndX_r, bndX_l, if_true, if_false, ite_true, ite_false, not_true_eq_false, not_false_eq_true, Nat.reduceAdd, Nat.reduceMul, Nat.reduceEqDiff, Int.reduceToNat, Int.reduceNeg, Ilt_t, Ilt_f, Ile_t, Ile_f, Ieq_t, Ieq_f, Nlt_t, Nlt_f, Nle_t, Nle_f, Neq_t, Neq_f, or_true, true_or, or_false, false_or, and_true, true_and, and_false, false_and, ne_eq, or_self, and_self, decide_true, decide_false, Bool.false_eq_true, i32_div])]
theorem X12_say18b (hL : RLay M) (h : RT M w p) (v : Int) (v0 : 0 ≤ v) (v1 : v ≤ 999) (n : Nat) : (∃ M', f_X12_sayNumber_18 (n + 3) 134 (i32 v) (i32 10) M = some ((), M') ∧ Chg (RC 5) M M' ∧ RT M' w (outS w ([i32 (48 + (v / 10 - v / 10 / 10 * 10))] ++ [i32 (48 + (v - v / 10 * 10))]) p)) := by
  obtain ⟨M1, e1, g1, q1⟩ := X12_say hL h (i32 (48 + (v / 10 - v / 10 / 10 * 10)))
  obtain ⟨M', e, g, q⟩ := X12_say18 (hL.chg g1) q1 v v0 v1 n
  refine ⟨M', ?_, g1.tr g, by rw [outS_app]; exact q⟩
  have e2 : (48 : Int32) + ((i32 v / i32 10) - (i32 v / i32 10) / (10 : Int32) * (10 : Int32)) = i32 (48 + (v / 10 - v / 10 / 10 * 10)) := by simp (disch := omega) only [↓reduceIte, add_i0, cast_add1, cast_sub1, toNat120, i32_lit, i32_neg, i32_add, i32_sub, i32_mul, i32_nat, i32_le, i32_lt, i32_eq, inB_i, Int.toNat_natCast, mI_sI_eq, mI_sI_ne, mR_sR_eq, mR_sR_ne, mI_sR, mR_sI, mK_sI, mN_sI, mn_sI, mJ_sI, mK_sR, mN_sR, mn_sR, mJ_sR, mI_wI, mR_wI, mK_wI, mN_wI, mn_wI, mJ_wI, ↓bnd_of, ↓bndX_r, ↓bndX_l, ↓ap_nr, bnd_of, bndX_r, bndX_l, if_true, if_false, ite_true, ite_false, not_true_eq_false, not_false_eq_true, Nat.reduceAdd, Nat.reduceMul, Nat.reduceEqDiff, Int.reduceToNat, Int.reduceNeg, Ilt_t, Ilt_f, Ile_t, Ile_f, Ieq_t, Ieq_f, Nlt_t, Nlt_f, Nle_t, Nle_f, Neq_t, Neq_f, or_true, true_or, or_false, false_or, and_true, true_and, and_false, false_and, ne_eq, or_self, and_self, decide_true, decide_false, Bool.false_eq_true, i32_div]
  have e3 : i32 10 / (10 : Int32) = i32 1 := by decide
  unfold f_X12_sayNumber_18
  rw [if_neg (by simp (disch := omega) only [↓reduceIte, add_i0, cast_add1, cast_sub1, toNat120, i32_lit, i32_neg, i32_add, i32_sub, i32_mul, i32_nat, i32_le, i32_lt, i32_eq, inB_i, Int.toNat_natCast, mI_sI_eq, mI_sI_ne, mR_sR_eq, mR_sR_ne, mI_sR, mR_sI, mK_sI, mN_sI, mn_sI, mJ_sI, mK_sR, mN_sR, mn_sR, mJ_sR, mI_wI, mR_wI, mK_wI, mN_wI, mn_wI, mJ_wI, ↓bnd_of, ↓bndX_r, ↓bndX_l, ↓ap_nr, bnd_of, bndX_r, bndX_l, if_true, if_false, ite_true, ite_false, not_true_eq_false, not_false_eq_true, Nat.reduceAdd, Nat.reduceMul, Nat.reduceEqDiff, Int.reduceToNat, Int.reduceNeg, Ilt_t, Ilt_f, Ile_t, Ile_f, Ieq_t, Ieq_f, Nlt_t, Nlt_f, Nle_t, Nle_f, Neq_t, Neq_f, or_true, true_or, or_false, false_or, and_true, true_and, and_false, false_and, ne_eq, or_self, and_self, decide_true, decide_false, Bool.false_eq_true]), if_pos (by simp (disch := omega) only [↓reduceIte, add_i0, cast_add1, cast_sub1, toNat120, i32_lit, i32_neg, i32_add, i32_sub, i32_mul, i32_nat, i32_le, i32_lt, i32_eq, inB_i, Int.toNat_natCast, mI_sI_eq, mI_sI_ne, mR_sR_eq, mR_sR_ne, mI_sR, mR_sI, mK_sI, mN_sI, mn_sI, mJ_sI, mK_sR, mN_sR, mn_sR, mJ_sR, mI_wI, mR_wI, mK_wI, mN_wI, mn_wI, mJ_wI, ↓bnd_of, ↓bndX_r, ↓bndX_l, ↓ap_nr, bnd_of, bndX_r, bndX_l, if_true, if_false, ite_true, ite_false, not_true_eq_false, not_false_eq_true, Nat.reduceAdd, Nat.reduceMul, Nat.reduceEqDiff, Int.reduceToNat, Int.reduceNeg, Ilt_t, Ilt_f, Ile_t, Ile_f, Ieq_t, Ieq_f, Nlt_t, Nlt_f, Nle_t, Nle_f, Neq_t, Neq_f, or_true, true_or, or_false, false_or, and_true, true_and, and_false, false_and, ne_eq, or_self, and_self, decide_true, decide_false, Bool.false_eq_true]), if_pos hL.k, e2, bx e1, e3]
  exact e
theorem X12_say18c (hL : RLay M) (h : RT M w p) (v : Int) (v0 : 0 ≤ v) (v1 : v ≤ 999) (n : Nat) : (∃ M', f_X12_sayNumber_18 (n + 4) 134 (i32 v) (i32 100) M = some ((), M') ∧ Chg (RC 5) M M' ∧ RT M' w (outS w ([i32 (48 + v / 100)] ++ ([i32 (48 + (v / 10 - v / 10 / 10 * 10))] ++ [i32 (48 + (v - v / 10 * 10))])) p)) := by
  obtain ⟨M1, e1, g1, q1⟩ := X12_say hL h (i32 (48 + v / 100))
  obtain ⟨M', e, g, q⟩ := X12_say18b (hL.chg g1) q1 v v0 v1 n
  refine ⟨M', ?_, g1.tr g, by rw [outS_app]; exact q⟩
  have e2 : (48 : Int32) + ((i32 v / i32 100) - (i32 v / i32 100) / (10 : Int32) * (10 : Int32)) = i32 (48 + v / 100) := by
    simp (disch := omega) only [↓reduceIte, add_i0, cast_add1, cast_sub1, toNat120, i32_lit, i32_neg, i32_add, i32_sub, i32_mul, i32_nat, i32_le, i32_lt, i32_eq, inB_i, Int.toNat_natCast, mI_sI_eq, mI_sI_ne, mR_sR_eq, mR_sR_ne, mI_sR, mR_sI, mK_sI, mN_sI, mn_sI, mJ_sI, mK_sR, mN_sR, mn_sR, mJ_sR, mI_wI, mR_wI, mK_wI, mN_wI, mn_wI, mJ_wI, ↓bnd_of, ↓bndX_r, ↓bndX_l, ↓ap_nr, bnd_of, bndX_r, bndX_l, if_true, if_false, ite_true, ite_false, not_true_eq_false, not_false_eq_true, Nat.reduceAdd, Nat.reduceMul, Nat.reduceEqDiff, Int.reduceToNat, Int.reduceNeg, Ilt_t, Ilt_f, Ile_t, Ile_f, Ieq_t, Ieq_f, Nlt_t, Nlt_f, Nle_t, Nle_f, Neq_t, Neq_f, or_true, true_or, or_false, false_or, and_true, true_and, and_false, false_and, ne_eq, or_self, and_self, decide_true, decide_false, Bool.false_eq_true, i32_div]
  have e3 : i32 100 / (10 : Int32) = i32 10 := by decide
  unfold f_X12_sayNumber_18
  rw [if_neg (by simp (disch := omega) only [↓reduceIte, add_i0, cast_add1, cast_sub1, toNat120, i32_lit, i32_neg, i32_add, i32_sub, i32_mul, i32_nat, i32_le, i32_lt, i32_eq, inB_i, Int.toNat_natCast, mI_sI_eq, mI_sI_ne, mR_sR_eq, mR_sR_ne, mI_sR, mR_sI, mK_sI, mN_sI, mn_sI, mJ_sI, mK_sR, mN_sR, mn_sR, mJ_sR, mI_wI, mR_wI, mK_wI, mN_wI, mn_wI, mJ_wI, ↓bnd_of, ↓bndX_r, ↓bndX_l, ↓ap_nr, bnd_of, bndX_r, bndX_l, if_true, if_false, ite_true, ite_false, not_true_eq_false, not_false_eq_true, Nat.reduceAdd, Nat.reduceMul, Nat.reduceEqDiff, Int.reduceToNat, Int.reduceNeg, Ilt_t, Ilt_f, Ile_t, Ile_f, Ieq_t, Ieq_f, Nlt_t, Nlt_f, Nle_t, Nle_f, Neq_t, Neq_f, or_true, true_or, or_false, false_or, and_true, true_and, and_false, false_and, ne_eq, or_self, and_self, decide_true, decide_false, Bool.false_eq_true]), if_pos (by simp (disch := omega) only [↓reduceIte, add_i0, cast_add1, cast_sub1, toNat120, i32_lit, i32_neg, i32_add, i32_sub, i32_mul, i32_nat, i32_le, i32_lt, i32_eq, inB_i, Int.toNat_natCast, mI_sI_eq, mI_sI_ne, mR_sR_eq, mR_sR_ne, mI_sR, mR_sI, mK_sI, mN_sI, mn_sI, mJ_sI, mK_sR, mN_sR, mn_sR, mJ_sR, mI_wI, mR_wI, mK_wI, mN_wI, mn_wI, mJ_wI, ↓bnd_of, ↓bndX_r, ↓bndX_l, ↓ap_nr, bnd_of, bndX_r, bndX_l, if_true, if_false, ite_true, ite_false, not_true_eq_false, not_false_eq_true, Nat.reduceAdd, Nat.reduceMul, Nat.reduceEqDiff, Int.reduceToNat, Int.reduceNeg, Ilt_t, Ilt_f, Ile_t, Ile_f, Ieq_t, Ieq_f, Nlt_t, Nlt_f, Nle_t, Nle_f, Neq_t, Neq_f, or_true, true_or, or_false, false_or, and_true, true_and, and_false, false_and, ne_eq, or_self, and_self, decide_true, decide_false, Bool.false_eq_true]), if_pos hL.k, e2, bx e1, e3]
  exact e
theorem X12_sayNumber (hL : RLay M) (h : RT M w p) (v : Int) (v0 : 0 ≤ v) (v1 : v ≤ 999) : ∃ M', f_X12_sayNumber 134 (i32 v) M = some ((), M') ∧ Chg (RC 5) M M' ∧ RT M' w (outS w (numL v) p) := by
  obtain ⟨n, hn⟩ : ∃ n, FUEL = n + 4 := ⟨FUEL - 4, by unfold FUEL; omega⟩
  have e1 : ((1 : Int32) * (10 : Int32)) = i32 10 := by decide
  have e2 : (i32 10 * (10 : Int32)) = i32 100 := by decide
  unfold numL
  by_cases c : v < 10
  · rw [if_pos (by omega), if_pos c]
    obtain ⟨M', e, g, q⟩ := X12_say18 hL h v v0 v1 (n + 2)
    refine ⟨M', ?_, g, q⟩
    unfold f_X12_sayNumber
    rw [hn]
    unfold f_X12_sayNumber_2
    rw [if_pos (by simp (disch := omega) only [↓reduceIte, add_i0, cast_add1, cast_sub1, toNat120, i32_lit, i32_neg, i32_add, i32_sub, i32_mul, i32_nat, i32_le, i32_lt, i32_eq, inB_i, Int.toNat_natCast, mI_sI_eq, mI_sI_ne, mR_sR_eq, mR_sR_ne, mI_sR, mR_sI, mK_sI, mN_sI, mn_sI, mJ_sI, mK_sR, mN_sR, mn_sR, mJ_sR, mI_wI, mR_wI, mK_wI, mN_wI, mn_wI, mJ_wI, ↓bnd_of, ↓bndX_r, ↓bndX_l, ↓ap_nr, bnd_of, bndX_r, bndX_l, if_true, if_false, ite_true, ite_false, not_true_eq_false, not_false_eq_true, Nat.reduceAdd, Nat.reduceMul, Nat.reduceEqDiff, Int.reduceToNat, Int.reduceNeg, Ilt_t, Ilt_f, Ile_t, Ile_f, Ieq_t, Ieq_f, Nlt_t, Nlt_f, Nle_t, Nle_f, Neq_t, Neq_f, or_true, true_or, or_false, false_or, and_true, true_and, and_false, false_and, ne_eq, or_self, and_self, decide_true, decide_false, Bool.false_eq_true, i32_div]), hn]
    exact e
  · rw [if_neg c]
    by_cases c2 : v < 100
    · rw [if_pos c2]
      obtain ⟨M', e, g, q⟩ := X12_say18b hL h v v0 v1 (n + 1)
      refine ⟨M', ?_, g, q⟩
      unfold f_X12_sayNumber
      rw [hn]
      unfold f_X12_sayNumber_2
      rw [if_neg (by simp (disch := omega) only [↓reduceIte, add_i0, cast_add1, cast_sub1, toNat120, i32_lit, i32_neg, i32_add, i32_sub, i32_mul, i32_nat, i32_le, i32_lt, i32_eq, inB_i, Int.toNat_natCast, mI_sI_eq, mI_sI_ne, mR_sR_eq, mR_sR_ne, mI_sR, mR_sI, mK_sI, mN_sI, mn_sI, mJ_sI, mK_sR, mN_sR, mn_sR, mJ_sR, mI_wI, mR_wI, mK_wI, mN_wI, mn_wI, mJ_wI, ↓bnd_of, ↓bndX_r, ↓bndX_l, ↓ap_nr, bnd_of, bndX_r, bndX_l, if_true, if_false, ite_true, ite_false, not_true_eq_false, not_false_eq_true, Nat.reduceAdd, Nat.reduceMul, Nat.reduceEqDiff, Int.reduceToNat, Int.reduceNeg, Ilt_t, Ilt_f, Ile_t, Ile_f, Ieq_t, Ieq_f, Nlt_t, Nlt_f, Nle_t, Nle_f, Neq_t, Neq_f, or_true, true_or, or_false, false_or, and_true, true_and, and_false, false_and, ne_eq, or_self, and_self, decide_true, decide_false, Bool.false_eq_true, i32_div]), e1]
      unfold f_X12_sayNumber_2
      rw [if_pos (by simp (disch := omega) only [↓reduceIte, add_i0, cast_add1, cast_sub1, toNat120, i32_lit, i32_neg, i32_add, i32_sub, i32_mul, i32_nat, i32_le, i32_lt, i32_eq, inB_i, Int.toNat_natCast, mI_sI_eq, mI_sI_ne, mR_sR_eq, mR_sR_ne, mI_sR, mR_sI, mK_sI, mN_sI, mn_sI, mJ_sI, mK_sR, mN_sR, mn_sR, mJ_sR, mI_wI, mR_wI, mK_wI, mN_wI, mn_wI, mJ_wI, ↓bnd_of, ↓bndX_r, ↓bndX_l, ↓ap_nr, bnd_of, bndX_r, bndX_l, if_true, if_false, ite_true, ite_false, not_true_eq_false, not_false_eq_true, Nat.reduceAdd, Nat.reduceMul, Nat.reduceEqDiff, Int.reduceToNat, Int.reduceNeg, Ilt_t, Ilt_f, Ile_t, Ile_f, Ieq_t, Ieq_f, Nlt_t, Nlt_f, Nle_t, Nle_f, Neq_t, Neq_f, or_true, true_or, or_false, false_or, and_true, true_and, and_false, false_and, ne_eq, or_self, and_self, decide_true, decide_false, Bool.false_eq_true, i32_div]), hn]
      exact e
    · rw [if_neg c2]
      obtain ⟨M', e, g, q⟩ := X12_say18c hL h v v0 v1 n
      refine ⟨M', ?_, g, q⟩
      unfold f_X12_sayNumber
      rw [hn]
      unfold f_X12_sayNumber_2
      rw [if_neg (by simp (disch := omega) only [↓reduceIte, add_i0, cast_add1, cast_sub1, toNat120, i32_lit, i32_neg, i32_add, i32_sub, i32_mul, i32_nat, i32_le, i32_lt, i32_eq, inB_i, Int.toNat_natCast, mI_sI_eq, mI_sI_ne, mR_sR_eq, mR_sR_ne, mI_sR, mR_sI, mK_sI, mN_sI, mn_sI, mJ_sI, mK_sR, mN_sR, mn_sR, mJ_sR, mI_wI, mR_wI, mK_wI, mN_wI, mn_wI, mJ_wI, ↓bnd_of, ↓bndX_r, ↓bndX_l, ↓ap_nr, bnd_of, bndX_r, bndX_l, if_true, if_false, ite_true, ite_false, not_true_eq_false, not_false_eq_true, Nat.reduceAdd, Nat.reduceMul, Nat.reduceEqDiff, Int.reduceToNat, Int.reduceNeg, Ilt_t, Ilt_f, Ile_t, Ile_f, Ieq_t, Ieq_f, Nlt_t, Nlt_f, Nle_t, Nle_f, Neq_t, Neq_f, or_true, true_or, or_false, false_or, and_true, true_and, and_false, false_and, ne_eq, or_self, and_self, decide_true, decide_false, Bool.false_eq_true, i32_div]), e1]
      unfold f_X12_sayNumber_2
      rw [if_neg (by simp (disch := omega) only [↓reduceIte, add_i0, cast_add1, cast_sub1, toNat120, i32_lit, i32_neg, i32_add, i32_sub, i32_mul, i32_nat, i32_le, i32_lt, i32_eq, inB_i, Int.toNat_natCast, mI_sI_eq, mI_sI_ne, mR_sR_eq, mR_sR_ne, mI_sR, mR_sI, mK_sI, mN_sI, mn_sI, mJ_sI, mK_sR, mN_sR, mn_sR, mJ_sR, mI_wI, mR_wI, mK_wI, mN_wI, mn_wI, mJ_wI, ↓bnd_of, ↓bndX_r, ↓bndX_l, ↓ap_nr, bnd_of, bndX_r, bndX_l, if_true, if_false, ite_true, ite_false, not_true_eq_false, not_false_eq_true, Nat.reduceAdd, Nat.reduceMul, Nat.reduceEqDiff, Int.reduceToNat, Int.reduceNeg, Ilt_t, Ilt_f, Ile_t, Ile_f, Ieq_t, Ieq_f, Nlt_t, Nlt_f, Nle_t, Nle_f, Neq_t, Neq_f, or_true, true_or, or_false, false_or, and_true, true_and, and_false, false_and, ne_eq, or_self, and_self, decide_true, decide_false, Bool.false_eq_true, i32_div]), e2]
      unfold f_X12_sayNumber_2
      rw [if_pos (by simp (disch := omega) only [↓reduceIte, add_i0, cast_add1, cast_sub1, toNat120, i32_lit, i32_neg, i32_add, i32_sub, i32_mul, i32_nat, i32_le, i32_lt, i32_eq, inB_i, Int.toNat_natCast, mI_sI_eq, mI_sI_ne, mR_sR_eq, mR_sR_ne, mI_sR, mR_sI, mK_sI, mN_sI, mn_sI, mJ_sI, mK_sR, mN_sR, mn_sR, mJ_sR, mI_wI, mR_wI, mK_wI, mN_wI, mn_wI, mJ_wI, ↓bnd_of, ↓bndX_r, ↓bndX_l, ↓ap_nr, bnd_of, bndX_r, bndX_l, if_true, if_false, ite_true, ite_false, not_true_eq_false, not_false_eq_true, Nat.reduceAdd, Nat.reduceMul, Nat.reduceEqDiff, Int.reduceToNat, Int.reduceNeg, Ilt_t, Ilt_f, Ile_t, Ile_f, Ieq_t, Ieq_f, Nlt_t, Nlt_f, Nle_t, Nle_f, Neq_t, Neq_f, or_true, true_or, or_false, false_or, and_true, true_and, and_false, false_and, ne_eq, or_self, and_self, decide_true, decide_false, Bool.false_eq_true, i32_div]), hn]
      exact e
theorem X12_firstLeafIn (hW : S.wf) (hV : RV M S A) {o : Nat} (ho : o < S.nf) : f_X12_firstLeafIn 134 (i32 o) M = some (i32 (leadS S o), M) := by
  have hS := hW.1
  have hnl := hS.2.1
  have hnf := hS.1
  have hld := leadS_b hW ho
  have H : ∀ (k j n : Nat), j + k = leadS S o → k < n → f_X12_firstLeafIn_2 n 134 (i32 o) (i32 j) M = some (i32 (leadS S o), M) := by
    intro k
    induction k with
    | zero =>
      intro j n hj hn
      obtain ⟨n, rfl⟩ : ∃ m, n = m + 1 := ⟨n - 1, by omega⟩
      have : j = leadS S o := by omega
      subst this
      have hfo := Sc.fo_lt hS hld.2.1
      have e := X12_isInside hV.1 hS hV.2.1 (S.fo (leadS S o)) o (by omega) (by omega) (by omega)
      rw [if_pos hld.2.2.1] at e
      have hL := hV.1
      have cf := hV.2.1.2.2.2.2.2.2.2.2.2.2
      simp (disch := omega) only [↓reduceIte, add_i0, cast_add1, cast_sub1, toNat120, i32_lit, i32_neg, i32_add, i32_sub, i32_mul, i32_nat, i32_le, i32_lt, i32_eq, inB_i, Int.toNat_natCast, mI_sI_eq, mI_sI_ne, mR_sR_eq, mR_sR_ne, mI_sR, mR_sI, mK_sI, mN_sI, mn_sI, mJ_sI, mK_sR, mN_sR, mn_sR, mJ_sR, mI_wI, mR_wI, mK_wI, mN_wI, mn_wI, mJ_wI, ↓bnd_of, ↓bndX_r, ↓bndX_l, ↓ap_nr, bnd_of, bndX_r, bndX_l, if_true, if_false, ite_true, ite_false, not_true_eq_false, not_false_eq_true, Nat.reduceAdd, Nat.reduceMul, Nat.reduceEqDiff, Int.reduceToNat, Int.reduceNeg, Ilt_t, Ilt_f, Ile_t, Ile_f, Ieq_t, Ieq_f, Nlt_t, Nlt_f, Nle_t, Nle_f, Neq_t, Neq_f, or_true, true_or, or_false, false_or, and_true, true_and, and_false, false_and, ne_eq, or_self, and_self, decide_true, decide_false, Bool.false_eq_true, f_X12_firstLeafIn_2, hL.o, cf, ↓bx e]
    | succ k ih =>
      intro j n hj hn
      obtain ⟨n, rfl⟩ : ∃ m, n = m + 1 := ⟨n - 1, by omega⟩
      have hfo := Sc.fo_lt hS (show j < S.nl by omega)
      have e := X12_isInside hV.1 hS hV.2.1 (S.fo j) o (by omega) (by omega) (by omega)
      rw [if_neg (by rw [hld.2.2.2 j (by omega)]; decide)] at e
      have hL := hV.1
      have cf := hV.2.1.2.2.2.2.2.2.2.2.2.2
      rw [← ih (j + 1) n (by omega) (by omega)]
      simp (disch := omega) only [↓reduceIte, add_i0, cast_add1, cast_sub1, toNat120, i32_lit, i32_neg, i32_add, i32_sub, i32_mul, i32_nat, i32_le, i32_lt, i32_eq, inB_i, Int.toNat_natCast, mI_sI_eq, mI_sI_ne, mR_sR_eq, mR_sR_ne, mI_sR, mR_sI, mK_sI, mN_sI, mn_sI, mJ_sI, mK_sR, mN_sR, mn_sR, mJ_sR, mI_wI, mR_wI, mK_wI, mN_wI, mn_wI, mJ_wI, ↓bnd_of, ↓bndX_r, ↓bndX_l, ↓ap_nr, bnd_of, bndX_r, bndX_l, if_true, if_false, ite_true, ite_false, not_true_eq_false, not_false_eq_true, Nat.reduceAdd, Nat.reduceMul, Nat.reduceEqDiff, Int.reduceToNat, Int.reduceNeg, Ilt_t, Ilt_f, Ile_t, Ile_f, Ieq_t, Ieq_f, Nlt_t, Nlt_f, Nle_t, Nle_f, Neq_t, Neq_f, or_true, true_or, or_false, false_or, and_true, true_and, and_false, false_and, ne_eq, or_self, and_self, decide_true, decide_false, Bool.false_eq_true, f_X12_firstLeafIn_2, hL.o, cf, ↓bx e]
  exact H (leadS S o) 0 FUEL (by omega) (by unfold FUEL; omega)
/-- what the call one group further in must do -/
def RHF (b : Nat) (S T : Sc) (A : St) (w st : Int32) (dp : Nat → Nat) (kF : Nat → Int32 → Int32 → Int32 → Int32 → Mem → Option (Unit × Mem)) (sub : Nat → (Nat → Nat) → List Int32) (d : Nat) : Prop := ∀ (M : Mem) (i e : Nat) (pos : Nat → Nat) (p : Int32 × Int32), RTV M b S T A → RT M w p → i < T.nf → T.tw i ≠ -1 → dp i = d → e ≤ d + 1 → Al S A (T.tw i) pos → RPos M S A (T.tw i) e pos → ∃ M', kF 134 (i32 b) (i32 i) st (i32 e) M = some ((), M') ∧ Chg (RC e) M M' ∧ RT M' w (outS w (sub i pos) p)
theorem X12_tellItem (hW : S.wf) (hVT : VT S T dp) (hb : b = 0 ∨ b = 16) {kF : Nat → Int32 → Int32 → Int32 → Int32 → Mem → Option (Unit × Mem)} {sub : Nat → (Nat → Nat) → List Int32} {d : Nat} (hF : RHF b S T A w st dp kF sub d) {i e : Nat} (hi : i < T.nf) (hd : dp i = d) (he : e ≤ d + 1) {o : Nat} (ho : T.tw i = o) {pos : Nat → Nat} (hal : Al S A o pos) (hV : RTV M b S T A) (hT : RT M w p) (hp : RPos M S A o e pos) : ∃ M', f_X12_tellItem kF 134 (i32 b) (i32 i) st (i32 e) M = some ((), M') ∧ Chg (RC e) M M' ∧ RT M' w (outS w (itemT S A T sub i pos) p) := by
  have hS := hW.1
  have hnl := hS.2.1
  have hnf := hS.1
  have hT16 := hVT.1
  have hd3 := hVT.2.2.2.2.2.2.2 i hi
  have how := hVT.2.2.2.1 i hi
  have hon : o < S.nf := by omega
  obtain ⟨hRV, t1, t2, t3, t4⟩ := id hV
  have hL := hRV.1
  have cl := hRV.2.1.2.2.2.2.1
  have bl := Sc.lf_b hS o
  have tw1 := t4 i hi
  rw [ho] at tw1
  unfold itemT
  rw [ho, Int.toNat_natCast]
  by_cases c : S.lf o = -1
  · rw [if_pos c]
    obtain ⟨M1, e1, g1, q1⟩ := X12_say hL hT (i32 40)
    obtain ⟨M2, e2, g2, q2⟩ := hF M1 i e pos _ (hV.chg hS g1) q1 hi (by omega) hd he (by rw [ho]; exact hal) (fun l h1 h2 => by
      rw [ho] at h2
      have := hp l h1 h2
      rw [ho, g1.i (by unfold RC; omega), g1.i (by unfold RC; omega)]
      exact this)
    have g12 : Chg (RC e) M M2 := (g1.mono (RC_mono (by omega))).tr g2
    obtain ⟨M3, e3, g3, q3⟩ := X12_say (hL.chg g12) q2 (i32 41)
    refine ⟨M3, ?_, g12.tr (g3.mono (RC_mono (by omega))), ?_⟩
    · have k1 := (hL.chg g1).k
      have k2 := (hL.chg g12).k
      simp (disch := omega) only [↓reduceIte, add_i0, cast_add1, cast_sub1, toNat120, i32_lit, i32_neg, i32_add, i32_sub, i32_mul, i32_nat, i32_le, i32_lt, i32_eq, inB_i, Int.toNat_natCast, mI_sI_eq, mI_sI_ne, mR_sR_eq, mR_sR_ne, mI_sR, mR_sI, mK_sI, mN_sI, mn_sI, mJ_sI, mK_sR, mN_sR, mn_sR, mJ_sR, mI_wI, mR_wI, mK_wI, mN_wI, mn_wI, mJ_wI, ↓bnd_of, ↓bndX_r, ↓bndX_l, ↓ap_nr, bnd_of, bndX_r, bndX_l, if_true, if_false, ite_true, ite_false, not_true_eq_false, not_false_eq_true, Nat.reduceAdd, Nat.reduceMul, Nat.reduceEqDiff, Int.reduceToNat, Int.reduceNeg, Ilt_t, Ilt_f, Ile_t, Ile_f, Ieq_t, Ieq_f, Nlt_t, Nlt_f, Nle_t, Nle_f, Neq_t, Neq_f, or_true, true_or, or_false, false_or, and_true, true_and, and_false, false_and, ne_eq, or_self, and_self, decide_true, decide_false, Bool.false_eq_true, f_X12_tellItem, hL.o, toNatA, tw1, cl, c, ↓bx e1, k1, ↓bx e2, k2, ↓bx e3]
    · rw [outS_cons, outS_app]
      exact q3
  · rw [if_neg c]
    obtain ⟨l, hl⟩ : ∃ l : Nat, S.lf o = l := ⟨(S.lf o).toNat, by omega⟩
    have hw5 := hW.2.2.2.2.2.1 o hon c
    rw [hl, Int.toNat_natCast] at hw5 ⊢
    have hfo : S.fo l = o := hw5.2
    have hin : S.ins (S.fo l) o = true := by rw [hfo]; exact Sc.ins_self hS (by omega)
    have hps := hal.1 l (by omega) (Or.inr (by rw [Int.toNat_natCast]; exact hin))
    have hp1 := (hp l (by omega) (Or.inr (by rw [Int.toNat_natCast]; exact hin))).1
    have bv := St.b hRV.2.2.1 l (pos l)
    have ev := X12_valueAt hL hRV.2.2 (l := l) (j := pos l) (by omega) hps.1
    obtain ⟨M1, e1, g1, q1⟩ := X12_sayNumber hL hT (A.vl l (pos l)) bv.2.2.2.2.1 bv.2.2.2.2.2.1
    refine ⟨M1, ?_, g1.mono (RC_mono (by omega)), q1⟩
    simp (disch := omega) only [↓reduceIte, add_i0, cast_add1, cast_sub1, toNat120, i32_lit, i32_neg, i32_add, i32_sub, i32_mul, i32_nat, i32_le, i32_lt, i32_eq, inB_i, Int.toNat_natCast, mI_sI_eq, mI_sI_ne, mR_sR_eq, mR_sR_ne, mI_sR, mR_sI, mK_sI, mN_sI, mn_sI, mJ_sI, mK_sR, mN_sR, mn_sR, mJ_sR, mI_wI, mR_wI, mK_wI, mN_wI, mn_wI, mJ_wI, ↓bnd_of, ↓bndX_r, ↓bndX_l, ↓ap_nr, bnd_of, bndX_r, bndX_l, if_true, if_false, ite_true, ite_false, not_true_eq_false, not_false_eq_true, Nat.reduceAdd, Nat.reduceMul, Nat.reduceEqDiff, Int.reduceToNat, Int.reduceNeg, Ilt_t, Ilt_f, Ile_t, Ile_f, Ieq_t, Ieq_f, Nlt_t, Nlt_f, Nle_t, Nle_f, Neq_t, Neq_f, or_true, true_or, or_false, false_or, and_true, true_and, and_false, false_and, ne_eq, or_self, and_self, decide_true, decide_false, Bool.false_eq_true, f_X12_tellItem, hL.o, toNatA, toNat8, tw1, cl, hl, hp1, ↓bx ev, ↓bx e1]
theorem X12_many131 (hS : S.ok) (hV : RV M S A) (kF : Nat → Int32 → Int32 → Int32 → Int32 → Mem → Option (Unit × Mem)) (k76 k84 : Nat → Int32 → Int32 → Int32 → Int32 → Int32 → Int32 → Int32 → Int32 → Int32 → Mem → Option (Unit × Mem)) (a1 a2 a3 a6 a7 a9 : Int32) {o e l H : Nat} (ho : o < S.nf) (he : e ≤ 4) (hl : l < S.nl) (hH : mI M 157 (8 * e + l) = i32 H) (hHz : H ≤ A.sz l) (hHr : H = A.sz l ∨ A.rp l H ≤ S.sr o) : ∀ (k j n : Nat), j + k = A.sz l → k < n → j ≤ H → f_X12_tellMany_131 kF k76 k84 n 134 a1 a2 a3 (i32 e) (i32 o) a6 a7 a9 (i32 l) (i32 j) M = f_X12_tellMany_173 kF k76 k84 134 a1 a2 a3 (i32 e) (i32 o) a6 a7 a9 (i32 l) (i32 (behF (A.rp l) (S.sr o) k j)) M := by
  have hnl := hS.2.1
  have hnf := hS.1
  have hL := hV.1
  have cr := hV.2.1.2.2.2.2.2.2.1
  have hz := hV.2.2.1.2.2.2.1 l
  have bo := Sc.sr_b hS o
  intro k
  induction k with
  | zero =>
    intro j n hj hn hjH
    obtain ⟨n, rfl⟩ : ∃ m, n = m + 1 := ⟨n - 1, by omega⟩
    have : H = j := by omega
    subst this
    simp (disch := omega) only [↓reduceIte, add_i0, cast_add1, cast_sub1, toNat120, i32_lit, i32_neg, i32_add, i32_sub, i32_mul, i32_nat, i32_le, i32_lt, i32_eq, inB_i, Int.toNat_natCast, mI_sI_eq, mI_sI_ne, mR_sR_eq, mR_sR_ne, mI_sR, mR_sI, mK_sI, mN_sI, mn_sI, mJ_sI, mK_sR, mN_sR, mn_sR, mJ_sR, mI_wI, mR_wI, mK_wI, mN_wI, mn_wI, mJ_wI, ↓bnd_of, ↓bndX_r, ↓bndX_l, ↓ap_nr, bnd_of, bndX_r, bndX_l, if_true, if_false, ite_true, ite_false, not_true_eq_false, not_false_eq_true, Nat.reduceAdd, Nat.reduceMul, Nat.reduceEqDiff, Int.reduceToNat, Int.reduceNeg, Ilt_t, Ilt_f, Ile_t, Ile_f, Ieq_t, Ieq_f, Nlt_t, Nlt_f, Nle_t, Nle_f, Neq_t, Neq_f, or_true, true_or, or_false, false_or, and_true, true_and, and_false, false_and, ne_eq, or_self, and_self, decide_true, decide_false, Bool.false_eq_true, f_X12_tellMany_131, hL.o, toNat8, hH, behF]
  | succ k ih =>
    intro j n hj hn hjH
    obtain ⟨n, rfl⟩ : ∃ m, n = m + 1 := ⟨n - 1, by omega⟩
    have br := hV.2.2.1.1 l j
    unfold behF
    by_cases c : j = H
    · subst c
      rw [if_pos (by omega)]
      simp (disch := omega) only [↓reduceIte, add_i0, cast_add1, cast_sub1, toNat120, i32_lit, i32_neg, i32_add, i32_sub, i32_mul, i32_nat, i32_le, i32_lt, i32_eq, inB_i, Int.toNat_natCast, mI_sI_eq, mI_sI_ne, mR_sR_eq, mR_sR_ne, mI_sR, mR_sI, mK_sI, mN_sI, mn_sI, mJ_sI, mK_sR, mN_sR, mn_sR, mJ_sR, mI_wI, mR_wI, mK_wI, mN_wI, mn_wI, mJ_wI, ↓bnd_of, ↓bndX_r, ↓bndX_l, ↓ap_nr, bnd_of, bndX_r, bndX_l, if_true, if_false, ite_true, ite_false, not_true_eq_false, not_false_eq_true, Nat.reduceAdd, Nat.reduceMul, Nat.reduceEqDiff, Int.reduceToNat, Int.reduceNeg, Ilt_t, Ilt_f, Ile_t, Ile_f, Ieq_t, Ieq_f, Nlt_t, Nlt_f, Nle_t, Nle_f, Neq_t, Neq_f, or_true, true_or, or_false, false_or, and_true, true_and, and_false, false_and, ne_eq, or_self, and_self, decide_true, decide_false, Bool.false_eq_true, f_X12_tellMany_131, hL.o, toNat8, hH]
    · have er := X12_repAt hL hV.2.2 (l := l) (j := j) (by omega) (by omega)
      by_cases c2 : A.rp l j ≤ S.sr o
      · rw [if_pos c2]
        simp (disch := omega) only [↓reduceIte, add_i0, cast_add1, cast_sub1, toNat120, i32_lit, i32_neg, i32_add, i32_sub, i32_mul, i32_nat, i32_le, i32_lt, i32_eq, inB_i, Int.toNat_natCast, mI_sI_eq, mI_sI_ne, mR_sR_eq, mR_sR_ne, mI_sR, mR_sI, mK_sI, mN_sI, mn_sI, mJ_sI, mK_sR, mN_sR, mn_sR, mJ_sR, mI_wI, mR_wI, mK_wI, mN_wI, mn_wI, mJ_wI, ↓bnd_of, ↓bndX_r, ↓bndX_l, ↓ap_nr, bnd_of, bndX_r, bndX_l, if_true, if_false, ite_true, ite_false, not_true_eq_false, not_false_eq_true, Nat.reduceAdd, Nat.reduceMul, Nat.reduceEqDiff, Int.reduceToNat, Int.reduceNeg, Ilt_t, Ilt_f, Ile_t, Ile_f, Ieq_t, Ieq_f, Nlt_t, Nlt_f, Nle_t, Nle_f, Neq_t, Neq_f, or_true, true_or, or_false, false_or, and_true, true_and, and_false, false_and, ne_eq, or_self, and_self, decide_true, decide_false, Bool.false_eq_true, f_X12_tellMany_131, hL.o, toNat8, hH, ↓bx er, cr]
      · rw [if_neg c2, ← ih (j + 1) n (by omega) (by omega) (by omega)]
        simp (disch := omega) only [↓reduceIte, add_i0, cast_add1, cast_sub1, toNat120, i32_lit, i32_neg, i32_add, i32_sub, i32_mul, i32_nat, i32_le, i32_lt, i32_eq, inB_i, Int.toNat_natCast, mI_sI_eq, mI_sI_ne, mR_sR_eq, mR_sR_ne, mI_sR, mR_sI, mK_sI, mN_sI, mn_sI, mJ_sI, mK_sR, mN_sR, mn_sR, mJ_sR, mI_wI, mR_wI, mK_wI, mN_wI, mn_wI, mJ_wI, ↓bnd_of, ↓bndX_r, ↓bndX_l, ↓ap_nr, bnd_of, bndX_r, bndX_l, if_true, if_false, ite_true, ite_false, not_true_eq_false, not_false_eq_true, Nat.reduceAdd, Nat.reduceMul, Nat.reduceEqDiff, Int.reduceToNat, Int.reduceNeg, Ilt_t, Ilt_f, Ile_t, Ile_f, Ieq_t, Ieq_f, Nlt_t, Nlt_f, Nle_t, Nle_f, Neq_t, Neq_f, or_true, true_or, or_false, false_or, and_true, true_and, and_false, false_and, ne_eq, or_self, and_self, decide_true, decide_false, Bool.false_eq_true, f_X12_tellMany_131, hL.o, toNat8, hH, ↓bx er, cr]
theorem X12_many84 (hW : S.wf) (kF : Nat → Int32 → Int32 → Int32 → Int32 → Mem → Option (Unit × Mem)) (k76 : Nat → Int32 → Int32 → Int32 → Int32 → Int32 → Int32 → Int32 → Int32 → Int32 → Mem → Option (Unit × Mem)) (a1 a2 a3 a6 a9 : Int32) {o e : Nat} {R : Int} (ho : o < S.nf) (he : e ≤ 4) (hR : R ≤ S.sr o) {pos : Nat → Nat} (hal : Al S A o pos) : ∀ (k j n : Nat) (M : Mem), j + k = S.nl → k < n → RV M S A → (∀ l, l < S.nl → S.ins (S.fo l) o = true → mI M 156 (8 * (e + 1) + l) = i32 (pos l) ∧ mI M 157 (8 * e + l) = i32 (A.nx l R (pos l))) → ∃ M', f_X12_tellMany_84 kF k76 n 134 a1 a2 a3 (i32 e) (i32 o) a6 (i32 ((e + 1 : Nat) : Int)) a9 (i32 j) M = f_X12_tellMany_84 kF k76 (n - k) 134 a1 a2 a3 (i32 e) (i32 o) a6 (i32 ((e + 1 : Nat) : Int)) a9 (i32 S.nl) M' ∧ Chg (fun a i => a = 157 ∧ 8 * (e + 1) + j ≤ i) M M' ∧ ∀ l, j ≤ l → l < S.nl → S.ins (S.fo l) o = true → mI M' 157 (8 * (e + 1) + l) = i32 (A.nx l (S.sr o) (pos l)) := by
  have hS := hW.1
  have hnl := hS.2.1
  have hnf := hS.1
  intro k
  induction k with
  | zero =>
    intro j n M hj hn hV hp
    refine ⟨M, ?_, Chg.rf _ M, fun l h1 h2 => by omega⟩
    rw [show j = S.nl by omega]
    rfl
  | succ k ih =>
    intro j n M hj hn hV hp
    obtain ⟨n, rfl⟩ : ∃ m, n = m + 1 := ⟨n - 1, by omega⟩
    have hL := hV.1
    have c1 := hV.2.1.2.1
    have cf := hV.2.1.2.2.2.2.2.2.2.2.2.2
    have hfo := Sc.fo_lt hS (show j < S.nl by omega)
    have ei := X12_isInside hV.1 hS hV.2.1 (S.fo j) o (by omega) (by omega) (by omega)
    by_cases c : S.ins (S.fo j) o = true
    · rw [if_pos c] at ei
      have hps := hal.1 j (by omega) (Or.inr (by rw [Int.toNat_natCast]; exact c))
      have hp1 := hp j (by omega) c
      have hz := hV.2.2.1.2.2.2.1 j
      have nR := A.nx_le R hps.1
      have e131 := X12_many131 hS hV kF k76 (f_X12_tellMany_84 kF k76 n) a1 a2 a3 a6 (i32 ((e + 1 : Nat) : Int)) a9 ho he (show j < S.nl by omega) hp1.2 nR.2.1 (by rcases nR.2.2 with q | q; exact Or.inl q; exact Or.inr (by omega)) (A.sz j - (pos j + 1)) (pos j + 1) FUEL (by omega) (by unfold FUEL; omega) (by omega)
      have enx : behF (A.rp j) (S.sr o) (A.sz j - (pos j + 1)) (pos j + 1) = A.nx j (S.sr o) (pos j) := rfl
      rw [enx] at e131
      have g : Chg (fun a i => a = 157 ∧ 8 * (e + 1) + j ≤ i) M (sI M 157 (8 * (e + 1) + j) (i32 (A.nx j (S.sr o) (pos j)))) := (Chg.rf _ M).sI ⟨rfl, Nat.le_refl _⟩
      have gs := g.scr (fun a i q => sc_153 (by omega))
      obtain ⟨M', q1, q2, q3⟩ := ih (j + 1) n _ (by omega) (by omega) (hV.scr hS gs) (fun l h1 h2 => by
        have := hp l h1 h2
        refine ⟨?_, ?_⟩
        · simp (disch := omega) only [↓reduceIte, add_i0, cast_add1, cast_sub1, toNat120, i32_lit, i32_neg, i32_add, i32_sub, i32_mul, i32_nat, i32_le, i32_lt, i32_eq, inB_i, Int.toNat_natCast, mI_sI_eq, mI_sI_ne, mR_sR_eq, mR_sR_ne, mI_sR, mR_sI, mK_sI, mN_sI, mn_sI, mJ_sI, mK_sR, mN_sR, mn_sR, mJ_sR, mI_wI, mR_wI, mK_wI, mN_wI, mn_wI, mJ_wI, ↓bnd_of, ↓bndX_r, ↓bndX_l, ↓ap_nr, bnd_of, bndX_r, bndX_l, if_true, if_false, ite_true, ite_false, not_true_eq_false, not_false_eq_true, Nat.reduceAdd, Nat.reduceMul, Nat.reduceEqDiff, Int.reduceToNat, Int.reduceNeg, Ilt_t, Ilt_f, Ile_t, Ile_f, Ieq_t, Ieq_f, Nlt_t, Nlt_f, Nle_t, Nle_f, Neq_t, Neq_f, or_true, true_or, or_false, false_or, and_true, true_and, and_false, false_and, ne_eq, or_self, and_self, decide_true, decide_false, Bool.false_eq_true, this]
        · simp (disch := omega) only [↓reduceIte, add_i0, cast_add1, cast_sub1, toNat120, i32_lit, i32_neg, i32_add, i32_sub, i32_mul, i32_nat, i32_le, i32_lt, i32_eq, inB_i, Int.toNat_natCast, mI_sI_eq, mI_sI_ne, mR_sR_eq, mR_sR_ne, mI_sR, mR_sI, mK_sI, mN_sI, mn_sI, mJ_sI, mK_sR, mN_sR, mn_sR, mJ_sR, mI_wI, mR_wI, mK_wI, mN_wI, mn_wI, mJ_wI, ↓bnd_of, ↓bndX_r, ↓bndX_l, ↓ap_nr, bnd_of, bndX_r, bndX_l, if_true, if_false, ite_true, ite_false, not_true_eq_false, not_false_eq_true, Nat.reduceAdd, Nat.reduceMul, Nat.reduceEqDiff, Int.reduceToNat, Int.reduceNeg, Ilt_t, Ilt_f, Ile_t, Ile_f, Ieq_t, Ieq_f, Nlt_t, Nlt_f, Nle_t, Nle_f, Neq_t, Neq_f, or_true, true_or, or_false, false_or, and_true, true_and, and_false, false_and, ne_eq, or_self, and_self, decide_true, decide_false, Bool.false_eq_true, this])
      refine ⟨M', ?_, g.tr (q2.mono (fun a i q => by omega)), fun l h1 h2 h3 => ?_⟩
      · rw [show n + 1 - (k + 1) = n - k by omega, ← q1]
        simp (disch := omega) only [↓reduceIte, add_i0, cast_add1, cast_sub1, toNat120, i32_lit, i32_neg, i32_add, i32_sub, i32_mul, i32_nat, i32_le, i32_lt, i32_eq, inB_i, Int.toNat_natCast, mI_sI_eq, mI_sI_ne, mR_sR_eq, mR_sR_ne, mI_sR, mR_sI, mK_sI, mN_sI, mn_sI, mJ_sI, mK_sR, mN_sR, mn_sR, mJ_sR, mI_wI, mR_wI, mK_wI, mN_wI, mn_wI, mJ_wI, ↓bnd_of, ↓bndX_r, ↓bndX_l, ↓ap_nr, bnd_of, bndX_r, bndX_l, if_true, if_false, ite_true, ite_false, not_true_eq_false, not_false_eq_true, Nat.reduceAdd, Nat.reduceMul, Nat.reduceEqDiff, Int.reduceToNat, Int.reduceNeg, Ilt_t, Ilt_f, Ile_t, Ile_f, Ieq_t, Ieq_f, Nlt_t, Nlt_f, Nle_t, Nle_f, Neq_t, Neq_f, or_true, true_or, or_false, false_or, and_true, true_and, and_false, false_and, ne_eq, or_self, and_self, decide_true, decide_false, Bool.false_eq_true, f_X12_tellMany_84, hL.o, c1, cf, ↓bx ei, toNat8, hp1, e131, f_X12_tellMany_173, f_X12_tellMany_188]
      · by_cases e2 : l = j
        · subst e2
          rw [q2.i (by omega)]
          exact mI_sI_eq
        · exact q3 l (by omega) h2 h3
    · rw [if_neg c] at ei
      obtain ⟨M', q1, q2, q3⟩ := ih (j + 1) n M (by omega) (by omega) hV hp
      refine ⟨M', ?_, q2.mono (fun a i q => by omega), fun l h1 h2 h3 => ?_⟩
      · rw [show n + 1 - (k + 1) = n - k by omega, ← q1]
        simp (disch := omega) only [↓reduceIte, add_i0, cast_add1, cast_sub1, toNat120, i32_lit, i32_neg, i32_add, i32_sub, i32_mul, i32_nat, i32_le, i32_lt, i32_eq, inB_i, Int.toNat_natCast, mI_sI_eq, mI_sI_ne, mR_sR_eq, mR_sR_ne, mI_sR, mR_sI, mK_sI, mN_sI, mn_sI, mJ_sI, mK_sR, mN_sR, mn_sR, mJ_sR, mI_wI, mR_wI, mK_wI, mN_wI, mn_wI, mJ_wI, ↓bnd_of, ↓bndX_r, ↓bndX_l, ↓ap_nr, bnd_of, bndX_r, bndX_l, if_true, if_false, ite_true, ite_false, not_true_eq_false, not_false_eq_true, Nat.reduceAdd, Nat.reduceMul, Nat.reduceEqDiff, Int.reduceToNat, Int.reduceNeg, Ilt_t, Ilt_f, Ile_t, Ile_f, Ieq_t, Ieq_f, Nlt_t, Nlt_f, Nle_t, Nle_f, Neq_t, Neq_f, or_true, true_or, or_false, false_or, and_true, true_and, and_false, false_and, ne_eq, or_self, and_self, decide_true, decide_false, Bool.false_eq_true, f_X12_tellMany_84, hL.o, c1, cf, ↓bx ei, f_X12_tellMany_188]
      · by_cases e2 : l = j
        · subst e2; exact absurd h3 c
        · exact q3 l (by omega) h2 h3
theorem X12_many256 (hW : S.wf) (kF : Nat → Int32 → Int32 → Int32 → Int32 → Mem → Option (Unit × Mem)) (k76 : Nat → Int32 → Int32 → Int32 → Int32 → Int32 → Int32 → Int32 → Int32 → Int32 → Mem → Option (Unit × Mem)) (a1 a2 a3 a4 a6 a8 a9 : Int32) {o e : Nat} (ho : o < S.nf) (he : e ≤ 4) {q : Nat → Nat} : ∀ (k j n : Nat) (M : Mem), j + k = S.nl → k < n → RV M S A → (∀ l, l < S.nl → S.ins (S.fo l) o = true → mI M 157 (8 * (e + 1) + l) = i32 (q l)) → ∃ M', f_X12_tellMany_256 kF k76 n 134 a1 a2 a3 a4 (i32 o) a6 (i32 ((e + 1 : Nat) : Int)) a8 a9 (i32 j) M = k76 134 a1 a2 a3 a4 (i32 o) a6 (i32 ((e + 1 : Nat) : Int)) a8 a9 M' ∧ Chg (fun a i => a = 156 ∧ 8 * (e + 1) + j ≤ i) M M' ∧ ∀ l, j ≤ l → l < S.nl → S.ins (S.fo l) o = true → mI M' 156 (8 * (e + 1) + l) = i32 (q l) := by
  have hS := hW.1
  have hnl := hS.2.1
  have hnf := hS.1
  intro k
  induction k with
  | zero =>
    intro j n M hj hn hV hp
    obtain ⟨n, rfl⟩ : ∃ m, n = m + 1 := ⟨n - 1, by omega⟩
    have hL := hV.1
    have c1 := hV.2.1.2.1
    refine ⟨M, ?_, Chg.rf _ M, fun l h1 h2 => by omega⟩
    simp (disch := omega) only [↓reduceIte, add_i0, cast_add1, cast_sub1, toNat120, i32_lit, i32_neg, i32_add, i32_sub, i32_mul, i32_nat, i32_le, i32_lt, i32_eq, inB_i, Int.toNat_natCast, mI_sI_eq, mI_sI_ne, mR_sR_eq, mR_sR_ne, mI_sR, mR_sI, mK_sI, mN_sI, mn_sI, mJ_sI, mK_sR, mN_sR, mn_sR, mJ_sR, mI_wI, mR_wI, mK_wI, mN_wI, mn_wI, mJ_wI, ↓bnd_of, ↓bndX_r, ↓bndX_l, ↓ap_nr, bnd_of, bndX_r, bndX_l, if_true, if_false, ite_true, ite_false, not_true_eq_false, not_false_eq_true, Nat.reduceAdd, Nat.reduceMul, Nat.reduceEqDiff, Int.reduceToNat, Int.reduceNeg, Ilt_t, Ilt_f, Ile_t, Ile_f, Ieq_t, Ieq_f, Nlt_t, Nlt_f, Nle_t, Nle_f, Neq_t, Neq_f, or_true, true_or, or_false, false_or, and_true, true_and, and_false, false_and, ne_eq, or_self, and_self, decide_true, decide_false, Bool.false_eq_true, f_X12_tellMany_256, hL.o, c1]
  | succ k ih =>
    intro j n M hj hn hV hp
    obtain ⟨n, rfl⟩ : ∃ m, n = m + 1 := ⟨n - 1, by omega⟩
    have hL := hV.1
    have c1 := hV.2.1.2.1
    have cf := hV.2.1.2.2.2.2.2.2.2.2.2.2
    have hfo := Sc.fo_lt hS (show j < S.nl by omega)
    have ei := X12_isInside hV.1 hS hV.2.1 (S.fo j) o (by omega) (by omega) (by omega)
    by_cases c : S.ins (S.fo j) o = true
    · rw [if_pos c] at ei
      have hp1 := hp j (by omega) c
      have g : Chg (fun a i => a = 156 ∧ 8 * (e + 1) + j ≤ i) M (sI M 156 (8 * (e + 1) + j) (i32 (q j))) := (Chg.rf _ M).sI ⟨rfl, Nat.le_refl _⟩
      have gs := g.scr (fun a i q => sc_153 (by omega))
      obtain ⟨M', q1, q2, q3⟩ := ih (j + 1) n _ (by omega) (by omega) (hV.scr hS gs) (fun l h1 h2 => by
        have := hp l h1 h2
        simp (disch := omega) only [↓reduceIte, add_i0, cast_add1, cast_sub1, toNat120, i32_lit, i32_neg, i32_add, i32_sub, i32_mul, i32_nat, i32_le, i32_lt, i32_eq, inB_i, Int.toNat_natCast, mI_sI_eq, mI_sI_ne, mR_sR_eq, mR_sR_ne, mI_sR, mR_sI, mK_sI, mN_sI, mn_sI, mJ_sI, mK_sR, mN_sR, mn_sR, mJ_sR, mI_wI, mR_wI, mK_wI, mN_wI, mn_wI, mJ_wI, ↓bnd_of, ↓bndX_r, ↓bndX_l, ↓ap_nr, bnd_of, bndX_r, bndX_l, if_true, if_false, ite_true, ite_false, not_true_eq_false, not_false_eq_true, Nat.reduceAdd, Nat.reduceMul, Nat.reduceEqDiff, Int.reduceToNat, Int.reduceNeg, Ilt_t, Ilt_f, Ile_t, Ile_f, Ieq_t, Ieq_f, Nlt_t, Nlt_f, Nle_t, Nle_f, Neq_t, Neq_f, or_true, true_or, or_false, false_or, and_true, true_and, and_false, false_and, ne_eq, or_self, and_self, decide_true, decide_false, Bool.false_eq_true, this])
      refine ⟨M', ?_, g.tr (q2.mono (fun a i q => by omega)), fun l h1 h2 h3 => ?_⟩
      · rw [← q1]
        simp (disch := omega) only [↓reduceIte, add_i0, cast_add1, cast_sub1, toNat120, i32_lit, i32_neg, i32_add, i32_sub, i32_mul, i32_nat, i32_le, i32_lt, i32_eq, inB_i, Int.toNat_natCast, mI_sI_eq, mI_sI_ne, mR_sR_eq, mR_sR_ne, mI_sR, mR_sI, mK_sI, mN_sI, mn_sI, mJ_sI, mK_sR, mN_sR, mn_sR, mJ_sR, mI_wI, mR_wI, mK_wI, mN_wI, mn_wI, mJ_wI, ↓bnd_of, ↓bndX_r, ↓bndX_l, ↓ap_nr, bnd_of, bndX_r, bndX_l, if_true, if_false, ite_true, ite_false, not_true_eq_false, not_false_eq_true, Nat.reduceAdd, Nat.reduceMul, Nat.reduceEqDiff, Int.reduceToNat, Int.reduceNeg, Ilt_t, Ilt_f, Ile_t, Ile_f, Ieq_t, Ieq_f, Nlt_t, Nlt_f, Nle_t, Nle_f, Neq_t, Neq_f, or_true, true_or, or_false, false_or, and_true, true_and, and_false, false_and, ne_eq, or_self, and_self, decide_true, decide_false, Bool.false_eq_true, f_X12_tellMany_256, f_X12_tellMany_309, hL.o, c1, cf, ↓bx ei, toNat8, hp1]
      · by_cases e2 : l = j
        · subst e2
          rw [q2.i (by omega)]
          exact mI_sI_eq
        · exact q3 l (by omega) h2 h3
    · rw [if_neg c] at ei
      obtain ⟨M', q1, q2, q3⟩ := ih (j + 1) n M (by omega) (by omega) hV hp
      refine ⟨M', ?_, q2.mono (fun a i q => by omega), fun l h1 h2 h3 => ?_⟩
      · rw [← q1]
        simp (disch := omega) only [↓reduceIte, add_i0, cast_add1, cast_sub1, toNat120, i32_lit, i32_neg, i32_add, i32_sub, i32_mul, i32_nat, i32_le, i32_lt, i32_eq, inB_i, Int.toNat_natCast, mI_sI_eq, mI_sI_ne, mR_sR_eq, mR_sR_ne, mI_sR, mR_sI, mK_sI, mN_sI, mn_sI, mJ_sI, mK_sR, mN_sR, mn_sR, mJ_sR, mI_wI, mR_wI, mK_wI, mN_wI, mn_wI, mJ_wI, ↓bnd_of, ↓bndX_r, ↓bndX_l, ↓ap_nr, bnd_of, bndX_r, bndX_l, if_true, if_false, ite_true, ite_false, not_true_eq_false, not_false_eq_true, Nat.reduceAdd, Nat.reduceMul, Nat.reduceEqDiff, Int.reduceToNat, Int.reduceNeg, Ilt_t, Ilt_f, Ile_t, Ile_f, Ieq_t, Ieq_f, Nlt_t, Nlt_f, Nle_t, Nle_f, Neq_t, Neq_f, or_true, true_or, or_false, false_or, and_true, true_and, and_false, false_and, ne_eq, or_self, and_self, decide_true, decide_false, Bool.false_eq_true, f_X12_tellMany_256, f_X12_tellMany_309, hL.o, c1, cf, ↓bx ei]
      · by_cases e2 : l = j
        · subst e2; exact absurd h3 c
        · exact q3 l (by omega) h2 h3
end
