/-! drop in the class: the row of the last record's entries -/
theorem rpos_mono (c : Nat → Nat) : ∀ (d a : Nat), rpos c a ≤ rpos c (a + d) := by
  intro d
  induction d with
  | zero => intro a; exact Nat.le_refl _
  | succ d ih =>
    intro a
    have h1 := ih a
    have h2 : rpos c (a + d + 1) = rpos c (a + d) + 1 + c (a + d) := rfl
    rw [show a + (d + 1) = a + d + 1 by omega]
    omega
theorem rpos_le {c : Nat → Nat} (h : ∀ l, c l ≤ 120) : ∀ k, rpos c k ≤ 121 * k := by
  intro k
  induction k with
  | zero => exact Nat.le_refl _
  | succ k ih =>
    have h1 := h k
    have h2 : rpos c (k + 1) = rpos c k + 1 + c k := rfl
    omega
/-- how many entries the last record has -/
def cutC (nl : Nat) (A : St) (l : Nat) : Nat := A.sz l - (cutS nl A).sz l
theorem cutS_lt {nl : Nat} {A : St} {l : Nat} (h : l < nl) : (cutS nl A).sz l = lastS A l := if_pos h
section
variable {M : Mem} {A : St} {fu : Nat → Int}
theorem tail85 (K : Nat → Int32 → Nat → Int32 → Int32 → Mem → Option (Nat × Mem)) {r nl l p c lf N : Nat} (hr : 164 < r) (hl : l < 8) (hc8 : lf + c = A.sz l) (hN : p + 1 + c ≤ N) (hN2 : N ≤ 1000) : ∀ (k i m : Nat) (M1 : Mem), i + k = c → k < m → ColLay M1 21 → CC M1 21 fu A → mK M1 r = 21 → mN M1 r = N → ∃ M2, f_X7_tailRow_85 K m 18 (i32 nl) r (i32 ((p + 1 + i : Nat) : Int)) (i32 l) (21 + 4 * l) (i32 ((lf + i : Nat) : Int)) M1 = K 18 (i32 nl) r (i32 ((p + 1 + c : Nat) : Int)) (i32 ((l + 1 : Nat) : Int)) M2 ∧ Chg (fun a j => a = r ∧ p + 1 + i ≤ j ∧ j < p + 1 + c) M1 M2 ∧ ∀ t, i ≤ t → t < c → mI M2 r (p + 1 + t) = i32 (pkI A l (lf + t)) := by
  intro k
  induction k with
  | zero =>
    intro i m M1 hi hm hc hC hK hn
    obtain ⟨m, rfl⟩ : ∃ q, m = q + 1 := ⟨m - 1, by omega⟩
    have ei : i = c := by omega
    subst ei
    have es := hC.2.1 l hl
    have hz := hC.1.2.2.2.1 l
    have hca := hc.at21 hl
    refine ⟨M1, ?_, Chg.rf _ M1, fun t h1 h2 => by omega⟩
    unfold f_X7_tailRow_85
    rw [if_pos hca.o.1, es, hc8, if_pos (by clear hca; simp (disch := omega) only [↓reduceIte, add_i0, cast_add1, cast_sub1, toNat120, i32_lit, i32_neg, i32_add, i32_sub, i32_mul, i32_nat, i32_le, i32_lt, i32_eq, inB_i, Int.toNat_natCast, mI_sI_eq, mI_sI_ne, mR_sR_eq, mR_sR_ne, mI_sR, mR_sI, mK_sI, mN_sI, mn_sI, mJ_sI, mK_sR, mN_sR, mn_sR, mJ_sR, mI_wI, mR_wI, mK_wI, mN_wI, mn_wI, mJ_wI, ↓bnd_of, ↓bndX_r, ↓bndX_l, ↓ap_nr, bnd_of, bndX_r, bndX_l, if_true, if_false, ite_true, ite_false, not_true_eq_false, not_false_eq_true, Nat.reduceAdd, Nat.reduceMul, Nat.reduceEqDiff, Int.reduceToNat, Int.reduceNeg, Ilt_t, Ilt_f, Ile_t, Ile_f, Ieq_t, Ieq_f, Nlt_t, Nlt_f, Nle_t, Nle_f, Neq_t, Neq_f, or_true, true_or, or_false, false_or, and_true, true_and, and_false, false_and, ne_eq, or_self, and_self, decide_true, decide_false, Bool.false_eq_true]), k_add1]
  | succ k ih =>
    intro i m M1 hi hm hc hC hK hn
    obtain ⟨m, rfl⟩ : ∃ q, m = q + 1 := ⟨m - 1, by omega⟩
    have es := hC.2.1 l hl
    have hz := hC.1.2.2.2.1 l
    have hca := hc.at21 hl
    have ep := X2_packed hc hC hl (j := lf + i) (by omega)
    have g : Chg (fun a j => a = r ∧ p + 1 + i ≤ j ∧ j < p + 1 + c) M1 (sI M1 r (p + 1 + i) (i32 (pkI A l (lf + i)))) := (Chg.rf _ M1).sI ⟨rfl, by omega, by omega⟩
    have hC2 : CC (sI M1 r (p + 1 + i) (i32 (pkI A l (lf + i)))) 21 fu A := hC.q2 (fun a j q _ => mI_sI_ne (by omega))
    obtain ⟨M2, e1, g1, q1⟩ := ih (i + 1) m (sI M1 r (p + 1 + i) (i32 (pkI A l (lf + i)))) (by omega) (by omega) (hc.all g) hC2 hK hn
    refine ⟨M2, ?_, g.tr (g1.mono (fun a j q => by omega)), fun t h1 h2 => ?_⟩
    · rw [← e1]
      have nt := nat_i (k := p + 1 + i) (by omega)
      have inr' : inB (i32 ((p + 1 + i : Nat) : Int)) N = true := by clear hca; simp (disch := omega) only [↓reduceIte, add_i0, cast_add1, cast_sub1, toNat120, i32_lit, i32_neg, i32_add, i32_sub, i32_mul, i32_nat, i32_le, i32_lt, i32_eq, inB_i, Int.toNat_natCast, mI_sI_eq, mI_sI_ne, mR_sR_eq, mR_sR_ne, mI_sR, mR_sI, mK_sI, mN_sI, mn_sI, mJ_sI, mK_sR, mN_sR, mn_sR, mJ_sR, mI_wI, mR_wI, mK_wI, mN_wI, mn_wI, mJ_wI, ↓bnd_of, ↓bndX_r, ↓bndX_l, ↓ap_nr, bnd_of, bndX_r, bndX_l, if_true, if_false, ite_true, ite_false, not_true_eq_false, not_false_eq_true, Nat.reduceAdd, Nat.reduceMul, Nat.reduceEqDiff, Int.reduceToNat, Int.reduceNeg, Ilt_t, Ilt_f, Ile_t, Ile_f, Ieq_t, Ieq_f, Nlt_t, Nlt_f, Nle_t, Nle_f, Neq_t, Neq_f, or_true, true_or, or_false, false_or, and_true, true_and, and_false, false_and, ne_eq, or_self, and_self, decide_true, decide_false, Bool.false_eq_true]
      have lt : ¬ (i32 (A.sz l : Int) ≤ i32 ((lf + i : Nat) : Int)) := by clear hca; simp (disch := omega) only [↓reduceIte, add_i0, cast_add1, cast_sub1, toNat120, i32_lit, i32_neg, i32_add, i32_sub, i32_mul, i32_nat, i32_le, i32_lt, i32_eq, inB_i, Int.toNat_natCast, mI_sI_eq, mI_sI_ne, mR_sR_eq, mR_sR_ne, mI_sR, mR_sI, mK_sI, mN_sI, mn_sI, mJ_sI, mK_sR, mN_sR, mn_sR, mJ_sR, mI_wI, mR_wI, mK_wI, mN_wI, mn_wI, mJ_wI, ↓bnd_of, ↓bndX_r, ↓bndX_l, ↓ap_nr, bnd_of, bndX_r, bndX_l, if_true, if_false, ite_true, ite_false, not_true_eq_false, not_false_eq_true, Nat.reduceAdd, Nat.reduceMul, Nat.reduceEqDiff, Int.reduceToNat, Int.reduceNeg, Ilt_t, Ilt_f, Ile_t, Ile_f, Ieq_t, Ieq_f, Nlt_t, Nlt_f, Nle_t, Nle_f, Neq_t, Neq_f, or_true, true_or, or_false, false_or, and_true, true_and, and_false, false_and, ne_eq, or_self, and_self, decide_true, decide_false, Bool.false_eq_true]
      conv => lhs; unfold f_X7_tailRow_85
      rw [if_pos hca.o.1, es, if_neg lt, bx ep, if_pos hK, hn, if_pos inr', nt, ap_of, k_add1, k_add1, show p + 1 + i + 1 = p + 1 + (i + 1) by omega, show lf + i + 1 = lf + (i + 1) by omega]
    · by_cases c1 : t = i
      · subst c1
        rw [g1.i (by omega), mI_sI_eq]
      · exact q1 t (by omega) h2
theorem tail43 {r nl : Nat} (hr : 164 < r) (hnl : nl ≤ 8) (h1 : 1 ≤ A.rc) : ∀ (k j m : Nat) (M1 : Mem), j + k = nl → k < m → CLay M1 → ColLay M1 21 → CC M1 21 fu A → mI M1 18 1 = i32 A.rc → mK M1 r = 21 → mN M1 r = rpos (cutC nl A) nl → ∃ M2, f_X7_tailRow_43 m 18 (i32 nl) r (i32 (rpos (cutC nl A) j : Nat)) (i32 j) M1 = some (r, M2) ∧ Chg (fun a t => a = r ∧ rpos (cutC nl A) j ≤ t) M1 M2 ∧ ∀ l, j ≤ l → l < nl → (mI M2 r (rpos (cutC nl A) l) = i32 (cutC nl A l : Nat) ∧ ∀ i, i < cutC nl A l → mI M2 r (rpos (cutC nl A) l + 1 + i) = i32 (pkI A l ((cutS nl A).sz l + i))) := by
  intro k
  induction k with
  | zero =>
    intro j m M1 hj hm hL hc hC hrc hK hn
    obtain ⟨m, rfl⟩ : ∃ q, m = q + 1 := ⟨m - 1, by omega⟩
    refine ⟨M1, ?_, Chg.rf _ M1, fun l q1 q2 => by omega⟩
    have : j = nl := by omega
    subst this
    unfold f_X7_tailRow_43
    rw [if_pos (by simp (disch := omega) only [↓reduceIte, add_i0, cast_add1, cast_sub1, toNat120, i32_lit, i32_neg, i32_add, i32_sub, i32_mul, i32_nat, i32_le, i32_lt, i32_eq, inB_i, Int.toNat_natCast, mI_sI_eq, mI_sI_ne, mR_sR_eq, mR_sR_ne, mI_sR, mR_sI, mK_sI, mN_sI, mn_sI, mJ_sI, mK_sR, mN_sR, mn_sR, mJ_sR, mI_wI, mR_wI, mK_wI, mN_wI, mn_wI, mJ_wI, ↓bnd_of, ↓bndX_r, ↓bndX_l, ↓ap_nr, bnd_of, bndX_r, bndX_l, if_true, if_false, ite_true, ite_false, not_true_eq_false, not_false_eq_true, Nat.reduceAdd, Nat.reduceMul, Nat.reduceEqDiff, Int.reduceToNat, Int.reduceNeg, Ilt_t, Ilt_f, Ile_t, Ile_f, Ieq_t, Ieq_f, Nlt_t, Nlt_f, Nle_t, Nle_f, Neq_t, Neq_f, or_true, true_or, or_false, false_or, and_true, true_and, and_false, false_and, ne_eq, or_self, and_self, decide_true, decide_false, Bool.false_eq_true])]
  | succ k ih =>
    intro j m M1 hj hm hL hc hC hrc hK hn
    obtain ⟨m, rfl⟩ : ∃ q, m = q + 1 := ⟨m - 1, by omega⟩
    have hj8 : j < 8 := by omega
    have e1 := X7_lastFirst hL hc hC hrc h1 hj8
    have es := hC.2.1 j hj8
    have hz := hC.1.2.2.2.1
    have hle := lastS_le A j
    have hzj := hz j
    have ecj : cutC nl A j = A.sz j - lastS A j := by
      unfold cutC
      rw [cutS_lt (by omega)]
    have hcs : (cutS nl A).sz j = lastS A j := cutS_lt (by omega)
    have hcl : ∀ l, cutC nl A l ≤ 120 := fun l => by
      have := hz l
      unfold cutC
      omega
    have hN := rpos_le hcl nl
    have hmo := rpos_mono (cutC nl A) k (j + 1)
    rw [show j + 1 + k = nl by omega] at hmo
    have hst : rpos (cutC nl A) (j + 1) = rpos (cutC nl A) j + 1 + cutC nl A j := rfl
    have hst2 : ∀ l, rpos (cutC nl A) (l + 1) = rpos (cutC nl A) l + 1 + cutC nl A l := fun l => rfl
    have esub : i32 (A.sz j : Int) - i32 (lastS A j : Nat) = i32 (cutC nl A j : Nat) := by
      rw [i32_sub, ecj, show (A.sz j : Int) - (lastS A j : Nat) = ((A.sz j - lastS A j : Nat) : Int) by omega]
    have g : Chg (fun a t => a = r ∧ rpos (cutC nl A) j ≤ t) M1 (sI M1 r (rpos (cutC nl A) j) (i32 (cutC nl A j : Nat))) := (Chg.rf _ M1).sI ⟨rfl, Nat.le_refl _⟩
    have hC2 : CC (sI M1 r (rpos (cutC nl A) j) (i32 (cutC nl A j : Nat))) 21 fu A := hC.q2 (fun a t q _ => mI_sI_ne (by omega))
    obtain ⟨M2, e2, g2, q2⟩ := tail85 (A := A) (fu := fu) (f_X7_tailRow_43 m) (r := r) (nl := nl) (l := j) (p := rpos (cutC nl A) j) (c := cutC nl A j) (lf := lastS A j) (N := rpos (cutC nl A) nl) hr hj8 (by omega) (by omega) (by omega) (cutC nl A j) 0 FUEL _ (by omega) (by unfold FUEL; omega) (hc.all g) hC2 hK hn
    obtain ⟨M3, e3, g3, q3⟩ := ih (j + 1) m M2 (by omega) (by omega) ((hL.all g).all g2) ((hc.all g).all g2) (hC2.q2 (fun a t q _ => g2.i (by omega))) (by rw [g2.i (by omega), mI_sI_ne (by omega)]; exact hrc) (by rw [g2.1]; exact hK) (by rw [g2.2.1]; exact hn)
    refine ⟨M3, ?_, g.tr ((g2.mono (fun a t q => ⟨q.1, by omega⟩)).tr (g3.mono (fun a t q => ⟨q.1, by omega⟩))), fun l h2 h3 => ?_⟩
    · rw [← e3, hst, ← e2]
      have ht := hL.tel
      have hca := hc.at21 hj8
      have nl' := nat_i (k := j) (by omega)
      have np := nat_i (k := rpos (cutC nl A) j) (by omega)
      have in8 : inB (i32 (j : Int)) 8 = true := by clear hca ht; simp (disch := omega) only [↓reduceIte, add_i0, cast_add1, cast_sub1, toNat120, i32_lit, i32_neg, i32_add, i32_sub, i32_mul, i32_nat, i32_le, i32_lt, i32_eq, inB_i, Int.toNat_natCast, mI_sI_eq, mI_sI_ne, mR_sR_eq, mR_sR_ne, mI_sR, mR_sI, mK_sI, mN_sI, mn_sI, mJ_sI, mK_sR, mN_sR, mn_sR, mJ_sR, mI_wI, mR_wI, mK_wI, mN_wI, mn_wI, mJ_wI, ↓bnd_of, ↓bndX_r, ↓bndX_l, ↓ap_nr, bnd_of, bndX_r, bndX_l, if_true, if_false, ite_true, ite_false, not_true_eq_false, not_false_eq_true, Nat.reduceAdd, Nat.reduceMul, Nat.reduceEqDiff, Int.reduceToNat, Int.reduceNeg, Ilt_t, Ilt_f, Ile_t, Ile_f, Ieq_t, Ieq_f, Nlt_t, Nlt_f, Nle_t, Nle_f, Neq_t, Neq_f, or_true, true_or, or_false, false_or, and_true, true_and, and_false, false_and, ne_eq, or_self, and_self, decide_true, decide_false, Bool.false_eq_true]
      have inr' : inB (i32 (rpos (cutC nl A) j : Nat)) (rpos (cutC nl A) nl) = true := by clear hca ht; simp (disch := omega) only [↓reduceIte, add_i0, cast_add1, cast_sub1, toNat120, i32_lit, i32_neg, i32_add, i32_sub, i32_mul, i32_nat, i32_le, i32_lt, i32_eq, inB_i, Int.toNat_natCast, mI_sI_eq, mI_sI_ne, mR_sR_eq, mR_sR_ne, mI_sR, mR_sI, mK_sI, mN_sI, mn_sI, mJ_sI, mK_sR, mN_sR, mn_sR, mJ_sR, mI_wI, mR_wI, mK_wI, mN_wI, mn_wI, mJ_wI, ↓bnd_of, ↓bndX_r, ↓bndX_l, ↓ap_nr, bnd_of, bndX_r, bndX_l, if_true, if_false, ite_true, ite_false, not_true_eq_false, not_false_eq_true, Nat.reduceAdd, Nat.reduceMul, Nat.reduceEqDiff, Int.reduceToNat, Int.reduceNeg, Ilt_t, Ilt_f, Ile_t, Ile_f, Ieq_t, Ieq_f, Nlt_t, Nlt_f, Nle_t, Nle_f, Neq_t, Neq_f, or_true, true_or, or_false, false_or, and_true, true_and, and_false, false_and, ne_eq, or_self, and_self, decide_true, decide_false, Bool.false_eq_true]
      have lt : ¬ (i32 (nl : Int) ≤ i32 (j : Int)) := by clear hca ht; simp (disch := omega) only [↓reduceIte, add_i0, cast_add1, cast_sub1, toNat120, i32_lit, i32_neg, i32_add, i32_sub, i32_mul, i32_nat, i32_le, i32_lt, i32_eq, inB_i, Int.toNat_natCast, mI_sI_eq, mI_sI_ne, mR_sR_eq, mR_sR_ne, mI_sR, mR_sI, mK_sI, mN_sI, mn_sI, mJ_sI, mK_sR, mN_sR, mn_sR, mJ_sR, mI_wI, mR_wI, mK_wI, mN_wI, mn_wI, mJ_wI, ↓bnd_of, ↓bndX_r, ↓bndX_l, ↓ap_nr, bnd_of, bndX_r, bndX_l, if_true, if_false, ite_true, ite_false, not_true_eq_false, not_false_eq_true, Nat.reduceAdd, Nat.reduceMul, Nat.reduceEqDiff, Int.reduceToNat, Int.reduceNeg, Ilt_t, Ilt_f, Ile_t, Ile_f, Ieq_t, Ieq_f, Nlt_t, Nlt_f, Nle_t, Nle_f, Neq_t, Neq_f, or_true, true_or, or_false, false_or, and_true, true_and, and_false, false_and, ne_eq, or_self, and_self, decide_true, decide_false, Bool.false_eq_true]
      conv => lhs; unfold f_X7_tailRow_43
      rw [if_neg lt, if_pos ht.o.2.2.2.2.1, ht.o.2.2.2.2.2.1, if_pos ht.o.2.2.2.2.2.2.1, ht.o.2.2.2.2.2.2.2, if_pos in8, bx e1, nl', hca.o.2.2.2.2.2.2.2.2.2.2, if_pos hca.o.1, if_pos hK, hn, if_pos inr', np, es, esub, ap_of, k_add1]
      rfl
    · by_cases c1 : l = j
      · subst c1
        refine ⟨?_, fun i hi => ?_⟩
        · rw [g3.i (by omega), g2.i (by omega), mI_sI_eq]
        · rw [g3.i (by omega), hcs]
          exact q2 i (by omega) hi
      · exact q3 l (by omega) h3
theorem tail4 {nl : Nat} (hnl : nl ≤ 8) (h1 : 1 ≤ A.rc) (hL : CLay M) (hc : ColLay M 21) (hC : CC M 21 fu A) (hrc : mI M 18 1 = i32 A.rc) (hm1 : 164 ≤ mn M) (hm2 : mn M + 1 < 900000) : ∀ (k j m : Nat), j + k = nl → k < m → f_X7_tailRow_4 m 18 (i32 nl) (i32 ((k + rpos (cutC nl A) j : Nat) : Int)) (i32 j) M = f_X7_tailRow_43 FUEL 18 (i32 nl) (mn M + 1) (0 : Int32) (0 : Int32) (mNew M 21 (rpos (cutC nl A) nl)) := by
  have hz := hC.1.2.2.2.1
  have hcl : ∀ l, cutC nl A l ≤ 120 := fun l => by
    have := hz l
    unfold cutC
    omega
  have hN := rpos_le hcl nl
  intro k
  induction k with
  | zero =>
    intro j m hj hm
    obtain ⟨m, rfl⟩ : ∃ q, m = q + 1 := ⟨m - 1, by omega⟩
    have : j = nl := by omega
    subst this
    have np := nat_i (k := rpos (cutC j A) j) (by omega)
    rw [Nat.zero_add]
    unfold f_X7_tailRow_4
    rw [if_pos (by simp (disch := omega) only [↓reduceIte, add_i0, cast_add1, cast_sub1, toNat120, i32_lit, i32_neg, i32_add, i32_sub, i32_mul, i32_nat, i32_le, i32_lt, i32_eq, inB_i, Int.toNat_natCast, mI_sI_eq, mI_sI_ne, mR_sR_eq, mR_sR_ne, mI_sR, mR_sI, mK_sI, mN_sI, mn_sI, mJ_sI, mK_sR, mN_sR, mn_sR, mJ_sR, mI_wI, mR_wI, mK_wI, mN_wI, mn_wI, mJ_wI, ↓bnd_of, ↓bndX_r, ↓bndX_l, ↓ap_nr, bnd_of, bndX_r, bndX_l, if_true, if_false, ite_true, ite_false, not_true_eq_false, not_false_eq_true, Nat.reduceAdd, Nat.reduceMul, Nat.reduceEqDiff, Int.reduceToNat, Int.reduceNeg, Ilt_t, Ilt_f, Ile_t, Ile_f, Ieq_t, Ieq_f, Nlt_t, Nlt_f, Nle_t, Nle_f, Neq_t, Neq_f, or_true, true_or, or_false, false_or, and_true, true_and, and_false, false_and, ne_eq, or_self, and_self, decide_true, decide_false, Bool.false_eq_true]), if_pos hm2, if_pos (okBn (fun r hr => by simp at hr; omega)), if_pos (by simp (disch := omega) only [↓reduceIte, add_i0, cast_add1, cast_sub1, toNat120, i32_lit, i32_neg, i32_add, i32_sub, i32_mul, i32_nat, i32_le, i32_lt, i32_eq, inB_i, Int.toNat_natCast, mI_sI_eq, mI_sI_ne, mR_sR_eq, mR_sR_ne, mI_sR, mR_sI, mK_sI, mN_sI, mn_sI, mJ_sI, mK_sR, mN_sR, mn_sR, mJ_sR, mI_wI, mR_wI, mK_wI, mN_wI, mn_wI, mJ_wI, ↓bnd_of, ↓bndX_r, ↓bndX_l, ↓ap_nr, bnd_of, bndX_r, bndX_l, if_true, if_false, ite_true, ite_false, not_true_eq_false, not_false_eq_true, Nat.reduceAdd, Nat.reduceMul, Nat.reduceEqDiff, Int.reduceToNat, Int.reduceNeg, Ilt_t, Ilt_f, Ile_t, Ile_f, Ieq_t, Ieq_f, Nlt_t, Nlt_f, Nle_t, Nle_f, Neq_t, Neq_f, or_true, true_or, or_false, false_or, and_true, true_and, and_false, false_and, ne_eq, or_self, and_self, decide_true, decide_false, Bool.false_eq_true]), np, if_pos (by omega), ap_of]
  | succ k ih =>
    intro j m hj hm
    obtain ⟨m, rfl⟩ : ∃ q, m = q + 1 := ⟨m - 1, by omega⟩
    have hj8 : j < 8 := by omega
    rw [← ih (j + 1) m (by omega) (by omega)]
    have e1 := X7_lastFirst hL hc hC hrc h1 hj8
    have es := hC.2.1 j hj8
    have hle := lastS_le A j
    have ecj : cutC nl A j = A.sz j - lastS A j := by
      unfold cutC
      rw [cutS_lt (by omega)]
    have hst : rpos (cutC nl A) (j + 1) = rpos (cutC nl A) j + 1 + cutC nl A j := rfl
    have esum : i32 ((k + 1 + rpos (cutC nl A) j : Nat) : Int) + (i32 (A.sz j : Int) - i32 (lastS A j : Nat)) = i32 ((k + rpos (cutC nl A) (j + 1) : Nat) : Int) := by
      rw [i32_sub, i32_add, hst, ecj, show ((k + 1 + rpos (cutC nl A) j : Nat) : Int) + ((A.sz j : Int) - (lastS A j : Nat)) = ((k + (rpos (cutC nl A) j + 1 + (A.sz j - lastS A j)) : Nat) : Int) by omega]
    have ht := hL.tel
    have hca := hc.at21 hj8
    have nl' := nat_i (k := j) (by omega)
    have in8 : inB (i32 (j : Int)) 8 = true := by clear hca ht; simp (disch := omega) only [↓reduceIte, add_i0, cast_add1, cast_sub1, toNat120, i32_lit, i32_neg, i32_add, i32_sub, i32_mul, i32_nat, i32_le, i32_lt, i32_eq, inB_i, Int.toNat_natCast, mI_sI_eq, mI_sI_ne, mR_sR_eq, mR_sR_ne, mI_sR, mR_sI, mK_sI, mN_sI, mn_sI, mJ_sI, mK_sR, mN_sR, mn_sR, mJ_sR, mI_wI, mR_wI, mK_wI, mN_wI, mn_wI, mJ_wI, ↓bnd_of, ↓bndX_r, ↓bndX_l, ↓ap_nr, bnd_of, bndX_r, bndX_l, if_true, if_false, ite_true, ite_false, not_true_eq_false, not_false_eq_true, Nat.reduceAdd, Nat.reduceMul, Nat.reduceEqDiff, Int.reduceToNat, Int.reduceNeg, Ilt_t, Ilt_f, Ile_t, Ile_f, Ieq_t, Ieq_f, Nlt_t, Nlt_f, Nle_t, Nle_f, Neq_t, Neq_f, or_true, true_or, or_false, false_or, and_true, true_and, and_false, false_and, ne_eq, or_self, and_self, decide_true, decide_false, Bool.false_eq_true]
    have lt : ¬ (i32 (nl : Int) ≤ i32 (j : Int)) := by clear hca ht; simp (disch := omega) only [↓reduceIte, add_i0, cast_add1, cast_sub1, toNat120, i32_lit, i32_neg, i32_add, i32_sub, i32_mul, i32_nat, i32_le, i32_lt, i32_eq, inB_i, Int.toNat_natCast, mI_sI_eq, mI_sI_ne, mR_sR_eq, mR_sR_ne, mI_sR, mR_sI, mK_sI, mN_sI, mn_sI, mJ_sI, mK_sR, mN_sR, mn_sR, mJ_sR, mI_wI, mR_wI, mK_wI, mN_wI, mn_wI, mJ_wI, ↓bnd_of, ↓bndX_r, ↓bndX_l, ↓ap_nr, bnd_of, bndX_r, bndX_l, if_true, if_false, ite_true, ite_false, not_true_eq_false, not_false_eq_true, Nat.reduceAdd, Nat.reduceMul, Nat.reduceEqDiff, Int.reduceToNat, Int.reduceNeg, Ilt_t, Ilt_f, Ile_t, Ile_f, Ieq_t, Ieq_f, Nlt_t, Nlt_f, Nle_t, Nle_f, Neq_t, Neq_f, or_true, true_or, or_false, false_or, and_true, true_and, and_false, false_and, ne_eq, or_self, and_self, decide_true, decide_false, Bool.false_eq_true]
    conv => lhs; unfold f_X7_tailRow_4
    rw [if_neg lt, if_pos ht.o.2.2.2.2.1, ht.o.2.2.2.2.2.1, if_pos ht.o.2.2.2.2.2.2.1, ht.o.2.2.2.2.2.2.2, if_pos in8, nl', hca.o.2.2.2.2.2.2.2.2.2.2, if_pos hca.o.1, bx e1, es, esum, k_add1]
theorem X7_tailRow {nl : Nat} (hnl : nl ≤ 8) (h1 : 1 ≤ A.rc) (hL : CLay M) (hc : ColLay M 21) (hC : CC M 21 fu A) (hrc : mI M 18 1 = i32 A.rc) (hm1 : 164 ≤ mn M) (hm2 : mn M + 1 < 900000) : ∃ M2, f_X7_tailRow 18 (i32 nl) M = some (mn M + 1, M2) ∧ Gw (fun _ _ => False) (fun _ _ => False) M M2 ∧ mn M2 = mn M + 1 ∧ RowOk M2 (mn M + 1) nl (cutS nl A) A := by
  have gn : Gw (fun _ _ => False) (fun _ _ => False) M (mNew M 21 (rpos (cutC nl A) nl)) := Gw.new hm1 _ _
  have e4 := tail4 (A := A) (fu := fu) hnl h1 hL hc hC hrc hm1 hm2 nl 0 FUEL (by omega) (by unfold FUEL; omega)
  have hK : mK (mNew M 21 (rpos (cutC nl A) nl)) (mn M + 1) = 21 := mK_new_eq
  have hN : mN (mNew M 21 (rpos (cutC nl A) nl)) (mn M + 1) = rpos (cutC nl A) nl := mN_new_eq
  have hn : mn (mNew M 21 (rpos (cutC nl A) nl)) = mn M + 1 := mn_new
  generalize mNew M 21 (rpos (cutC nl A) nl) = M1 at gn e4 hK hN hn
  have hr : 164 < mn M + 1 ∧ mn M < mn M + 1 := by omega
  generalize mn M + 1 = r at e4 hK hN hn hr ⊢
  obtain ⟨M2, e2, g2, q2⟩ := tail43 (A := A) (fu := fu) hr.1 hnl h1 nl 0 FUEL M1 (by omega) (by unfold FUEL; omega) (hL.gw gn (fun _ _ q => q.elim)) (ColLay.gw hc (Or.inl rfl) gn (fun _ _ q => q.elim)) (hC.q2 (fun a j q _ => gn.i q (fun w => w))) (by rw [gn.i (by omega) (fun w => w)]; exact hrc) hK hN
  refine ⟨M2, ?_, gn.st (fun a q => ⟨by rw [g2.1], by rw [g2.2.1]⟩) (fun a j q w => g2.i (by omega)) (fun a j q w => by rw [g2.r]) (fun b h1 h2 => ⟨by rw [g2.1], by rw [g2.2.1], fun j => g2.i (by omega), fun j => by rw [g2.r]⟩) (by rw [g2.2.2.1]; exact Nat.le_refl _), g2.2.2.1.trans hn, by rw [g2.1]; exact hK, by rw [g2.2.1]; exact hN, fun l hl => q2 l (by omega) hl⟩
  have e0 : f_X7_tailRow 18 (i32 nl) M = f_X7_tailRow_4 FUEL 18 (i32 nl) (i32 ((nl + rpos (cutC nl A) 0 : Nat) : Int)) (i32 ((0 : Nat) : Int)) M := rfl
  rw [e0, e4]
  exact e2
end
