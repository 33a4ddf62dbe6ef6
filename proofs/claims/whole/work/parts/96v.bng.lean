/-! undo in the class: a record is brought back, the loops -/
section
variable {M : Mem} {B' B : St} {fu : Nat → Int}
theorem bring37 (K : Nat → Nat → Int32 → Int32 → Int32 → Mem → Option (Unit × Mem)) {r nl nl0 j p c N : Nat} (hr : 164 < r) (hj : j < 8) (hB : B.ok) (hp : PreR nl0 B' B) (hz : ∀ l, B'.sz l ≤ 120) (hrc : B'.rc ≤ 30) (hc8 : B'.sz j + c = B.sz j) (hN : p + 1 + c ≤ N) (hN2 : N ≤ 1000) : ∀ (k i m : Nat) (M1 : Mem), i + k = c → k < m → ColLay M1 21 → CC M1 21 fu (brS B' B j i) → mK M1 r = 21 → mN M1 r = N → (∀ t, t < c → mI M1 r (p + 1 + t) = i32 (pkI B j (B'.sz j + t))) → ∃ M2, f_X7_bringBack_37 K m 18 r (i32 nl) (i32 ((p + 1 + i : Nat) : Int)) (i32 j) (21 + 4 * j) (i32 ((p + c : Nat) : Int)) M1 = f_X7_bringBack_89 K 18 r (i32 nl) (i32 ((p + 1 + c : Nat) : Int)) (i32 j) M2 ∧ Chg (fun a _ => 21 ≤ a ∧ a ≤ 52) M1 M2 ∧ CC M2 21 fu (brS B' B j c) := by
  intro k
  induction k with
  | zero =>
    intro i m M1 hi hm hc hC hK hn hv
    obtain ⟨m, rfl⟩ : ∃ q, m = q + 1 := ⟨m - 1, by omega⟩
    have ei : i = c := by omega
    subst ei
    refine ⟨M1, ?_, Chg.rf _ M1, hC⟩
    unfold f_X7_bringBack_37
    rw [if_pos (by simp (disch := omega) only [↓reduceIte, add_i0, cast_add1, cast_sub1, toNat120, i32_lit, i32_neg, i32_add, i32_sub, i32_mul, i32_nat, i32_le, i32_lt, i32_eq, inB_i, Int.toNat_natCast, mI_sI_eq, mI_sI_ne, mR_sR_eq, mR_sR_ne, mI_sR, mR_sI, mK_sI, mN_sI, mn_sI, mJ_sI, mK_sR, mN_sR, mn_sR, mJ_sR, mI_wI, mR_wI, mK_wI, mN_wI, mn_wI, mJ_wI, ↓bnd_of, ↓bndX_r, ↓bndX_l, ↓ap_nr, bnd_of, bndX_r, bndX_l, if_true, if_false, ite_true, ite_false, not_true_eq_false, not_false_eq_true, Nat.reduceAdd, Nat.reduceMul, Nat.reduceEqDiff, Int.reduceToNat, Int.reduceNeg, Ilt_t, Ilt_f, Ile_t, Ile_f, Ieq_t, Ieq_f, Nlt_t, Nlt_f, Nle_t, Nle_f, Neq_t, Neq_f, or_true, true_or, or_false, false_or, and_true, true_and, and_false, false_and, ne_eq, or_self, and_self, decide_true, decide_false, Bool.false_eq_true])]
  | succ k ih =>
    intro i m M1 hi hm hc hC hK hn hv
    obtain ⟨m, rfl⟩ : ∃ q, m = q + 1 := ⟨m - 1, by omega⟩
    have hz4 := hB.2.2.2.1 j
    have es : mI M1 (21 + 4 * j) 3 = i32 ((B'.sz j + i : Nat) : Int) := by
      have := hC.2.1 j hj
      rw [brS_eq] at this
      exact this
    have hca := hc.at21 hj
    have bv := St.b hB j (B'.sz j + i)
    have hv0 := hv i (by omega)
    have hent := CC.ent hB hp hC hz hrc hj (by omega)
    obtain ⟨v, ev⟩ : ∃ k : Nat, B.vl j (B'.sz j + i) = k := ⟨(B.vl j (B'.sz j + i)).toNat, by omega⟩
    obtain ⟨q, eq⟩ : ∃ k : Nat, B.rp j (B'.sz j + i) = k := ⟨(B.rp j (B'.sz j + i)).toNat, by omega⟩
    obtain ⟨d, ed⟩ : ∃ k : Nat, B.df j (B'.sz j + i) = k := ⟨(B.df j (B'.sz j + i)).toNat, by omega⟩
    have hpk : i32 (pkI B j (B'.sz j + i)) = i32 ((256 * v + 16 * q + d : Nat) : Int) := by
      unfold pkI
      rw [ev, eq, ed, show ((256 * v + 16 * q + d : Nat) : Int) = 256 * (v : Int) + 16 * (q : Int) + (d : Int) by omega]
    rw [ev, eq, ed] at hent
    have eu := X2_unpack hc hj (j := B'.sz j + i) (by omega) (v := v) (r := q) (d := d) (by omega) (by omega) (by omega)
    have g : Chg (fun a _ => 21 ≤ a ∧ a ≤ 52) M1 (sI (sI (sI (sI M1 (21 + 4 * j + 1) (B'.sz j + i) (i32 q)) (21 + 4 * j + 2) (B'.sz j + i) (i32 d)) (21 + 4 * j + 3) (B'.sz j + i) (i32 v)) (21 + 4 * j) 3 (i32 ((B'.sz j + (i + 1) : Nat) : Int))) := ((((Chg.rf _ M1).sI (by omega)).sI (by omega)).sI (by omega)).sI (by omega)
    obtain ⟨M2, e1, g1, q1⟩ := ih (i + 1) m _ (by omega) (by omega) (hc.all g) hent hK hn (fun t ht => by rw [g.i (by omega)]; exact hv t ht)
    refine ⟨M2, ?_, g.tr g1, q1⟩
    rw [← e1]
    have nt := nat_i (k := p + 1 + i) (by omega)
    have c1 : ¬ (i32 ((p + c : Nat) : Int) < i32 ((p + 1 + i : Nat) : Int)) := by clear hca; simp (disch := omega) only [↓reduceIte, add_i0, cast_add1, cast_sub1, toNat120, i32_lit, i32_neg, i32_add, i32_sub, i32_mul, i32_nat, i32_le, i32_lt, i32_eq, inB_i, Int.toNat_natCast, mI_sI_eq, mI_sI_ne, mR_sR_eq, mR_sR_ne, mI_sR, mR_sI, mK_sI, mN_sI, mn_sI, mJ_sI, mK_sR, mN_sR, mn_sR, mJ_sR, mI_wI, mR_wI, mK_wI, mN_wI, mn_wI, mJ_wI, ↓bnd_of, ↓bndX_r, ↓bndX_l, ↓ap_nr, bnd_of, bndX_r, bndX_l, if_true, if_false, ite_true, ite_false, not_true_eq_false, not_false_eq_true, Nat.reduceAdd, Nat.reduceMul, Nat.reduceEqDiff, Int.reduceToNat, Int.reduceNeg, Ilt_t, Ilt_f, Ile_t, Ile_f, Ieq_t, Ieq_f, Nlt_t, Nlt_f, Nle_t, Nle_f, Neq_t, Neq_f, or_true, true_or, or_false, false_or, and_true, true_and, and_false, false_and, ne_eq, or_self, and_self, decide_true, decide_false, Bool.false_eq_true]
    have c2 : ¬ (i32 (N : Int) ≤ i32 ((p + 1 + i : Nat) : Int)) := by clear hca; simp (disch := omega) only [↓reduceIte, add_i0, cast_add1, cast_sub1, toNat120, i32_lit, i32_neg, i32_add, i32_sub, i32_mul, i32_nat, i32_le, i32_lt, i32_eq, inB_i, Int.toNat_natCast, mI_sI_eq, mI_sI_ne, mR_sR_eq, mR_sR_ne, mI_sR, mR_sI, mK_sI, mN_sI, mn_sI, mJ_sI, mK_sR, mN_sR, mn_sR, mJ_sR, mI_wI, mR_wI, mK_wI, mN_wI, mn_wI, mJ_wI, ↓bnd_of, ↓bndX_r, ↓bndX_l, ↓ap_nr, bnd_of, bndX_r, bndX_l, if_true, if_false, ite_true, ite_false, not_true_eq_false, not_false_eq_true, Nat.reduceAdd, Nat.reduceMul, Nat.reduceEqDiff, Int.reduceToNat, Int.reduceNeg, Ilt_t, Ilt_f, Ile_t, Ile_f, Ieq_t, Ieq_f, Nlt_t, Nlt_f, Nle_t, Nle_f, Neq_t, Neq_f, or_true, true_or, or_false, false_or, and_true, true_and, and_false, false_and, ne_eq, or_self, and_self, decide_true, decide_false, Bool.false_eq_true]
    have c3 : ¬ ((120 : Int32) ≤ i32 ((B'.sz j + i : Nat) : Int)) := by clear hca; simp (disch := omega) only [↓reduceIte, add_i0, cast_add1, cast_sub1, toNat120, i32_lit, i32_neg, i32_add, i32_sub, i32_mul, i32_nat, i32_le, i32_lt, i32_eq, inB_i, Int.toNat_natCast, mI_sI_eq, mI_sI_ne, mR_sR_eq, mR_sR_ne, mI_sR, mR_sI, mK_sI, mN_sI, mn_sI, mJ_sI, mK_sR, mN_sR, mn_sR, mJ_sR, mI_wI, mR_wI, mK_wI, mN_wI, mn_wI, mJ_wI, ↓bnd_of, ↓bndX_r, ↓bndX_l, ↓ap_nr, bnd_of, bndX_r, bndX_l, if_true, if_false, ite_true, ite_false, not_true_eq_false, not_false_eq_true, Nat.reduceAdd, Nat.reduceMul, Nat.reduceEqDiff, Int.reduceToNat, Int.reduceNeg, Ilt_t, Ilt_f, Ile_t, Ile_f, Ieq_t, Ieq_f, Nlt_t, Nlt_f, Nle_t, Nle_f, Neq_t, Neq_f, or_true, true_or, or_false, false_or, and_true, true_and, and_false, false_and, ne_eq, or_self, and_self, decide_true, decide_false, Bool.false_eq_true]
    have c4 : inB (i32 ((p + 1 + i : Nat) : Int)) N = true := by clear hca; simp (disch := omega) only [↓reduceIte, add_i0, cast_add1, cast_sub1, toNat120, i32_lit, i32_neg, i32_add, i32_sub, i32_mul, i32_nat, i32_le, i32_lt, i32_eq, inB_i, Int.toNat_natCast, mI_sI_eq, mI_sI_ne, mR_sR_eq, mR_sR_ne, mI_sR, mR_sI, mK_sI, mN_sI, mn_sI, mJ_sI, mK_sR, mN_sR, mn_sR, mJ_sR, mI_wI, mR_wI, mK_wI, mN_wI, mn_wI, mJ_wI, ↓bnd_of, ↓bndX_r, ↓bndX_l, ↓ap_nr, bnd_of, bndX_r, bndX_l, if_true, if_false, ite_true, ite_false, not_true_eq_false, not_false_eq_true, Nat.reduceAdd, Nat.reduceMul, Nat.reduceEqDiff, Int.reduceToNat, Int.reduceNeg, Ilt_t, Ilt_f, Ile_t, Ile_f, Ieq_t, Ieq_f, Nlt_t, Nlt_f, Nle_t, Nle_f, Neq_t, Neq_f, or_true, true_or, or_false, false_or, and_true, true_and, and_false, false_and, ne_eq, or_self, and_self, decide_true, decide_false, Bool.false_eq_true]
    conv => lhs; unfold f_X7_bringBack_37
    rw [if_neg c1, if_pos hK, hn, i32_ofNat, if_neg c2, if_pos hca.o.1, es, if_neg c3, if_pos c4, nt, hv0, hpk, bx eu, mK_sI, mK_sI, mK_sI, if_pos hca.o.1, mI_sI_ne (by omega), mI_sI_ne (by omega), mI_sI_ne (by omega), es, k_add1, k_add1, ap_of, show p + 1 + i + 1 = p + 1 + (i + 1) by omega, show B'.sz j + i + 1 = B'.sz j + (i + 1) by omega]
theorem brS_next {nl j : Nat} (hp : PreR nl B' B) (hj : j < 8) (l : Nat) : (brS B' B j (B.sz j - B'.sz j)).sz l = (brS B' B (j + 1) 0).sz l := by
  have h := (hp.2.1 j hj).1
  by_cases c : l < j
  · rw [brS_lt c, brS_lt (by omega)]
  · by_cases d : l = j
    · subst d
      rw [brS_eq, brS_lt (by omega)]
      omega
    · rw [brS_gt (by omega)]
      by_cases e : l = j + 1
      · subst e
        rw [brS_eq]
        rfl
      · rw [brS_gt (by omega)]
theorem bring5 {r nl : Nat} (hr : 164 < r) (hnl : nl ≤ 8) (hB : B.ok) (hB' : B'.ok) (hp : PreR nl B' B) : ∀ (k j m : Nat) (M1 : Mem), j + k = nl → k < m → CLay M1 → ColLay M1 21 → CC M1 21 fu (brS B' B j 0) → mI M1 18 1 = i32 B'.rc → RowOk M1 r nl B' B → ∃ M2, f_X7_bringBack_5 m 18 r (i32 nl) (i32 (rpos (fun l => B.sz l - B'.sz l) j : Nat)) (i32 j) M1 = some ((), M2) ∧ Chg bnI M1 M2 ∧ CC M2 21 fu (brS B' B nl 0) ∧ mI M2 18 1 = i32 ((B'.rc + 1 : Nat) : Int) := by
  have hz := hB.2.2.2.1
  have hz' := hB'.2.2.2.1
  have hrc := hB'.2.2.2.2
  have hcl : ∀ l, (fun l => B.sz l - B'.sz l) l ≤ 120 := fun l => by
    have := hz l
    show B.sz l - B'.sz l ≤ 120
    omega
  have hN := rpos_le hcl nl
  intro k
  induction k with
  | zero =>
    intro j m M1 hj hm hL hc hC h1 hrow
    obtain ⟨m, rfl⟩ : ∃ q, m = q + 1 := ⟨m - 1, by omega⟩
    have : j = nl := by omega
    subst this
    have k18 := hL.tel.o.2.2.2.2.1
    refine ⟨sI M1 18 1 (i32 ((B'.rc + 1 : Nat) : Int)), ?_, (Chg.rf _ M1).sI (by unfold bnI; omega), CC.gw hC (by omega) (P := fun a t => a = 18 ∧ t = 1) (Q := fun _ _ => False) (((Gw.rf _ _ M1)).sI (Or.inl ⟨by omega, rfl, rfl⟩)) (fun a t q => by omega), mI_sI_eq⟩
    unfold f_X7_bringBack_5 f_X7_bringBack_95
    rw [if_pos (by simp (disch := omega) only [↓reduceIte, add_i0, cast_add1, cast_sub1, toNat120, i32_lit, i32_neg, i32_add, i32_sub, i32_mul, i32_nat, i32_le, i32_lt, i32_eq, inB_i, Int.toNat_natCast, mI_sI_eq, mI_sI_ne, mR_sR_eq, mR_sR_ne, mI_sR, mR_sI, mK_sI, mN_sI, mn_sI, mJ_sI, mK_sR, mN_sR, mn_sR, mJ_sR, mI_wI, mR_wI, mK_wI, mN_wI, mn_wI, mJ_wI, ↓bnd_of, ↓bndX_r, ↓bndX_l, ↓ap_nr, bnd_of, bndX_r, bndX_l, if_true, if_false, ite_true, ite_false, not_true_eq_false, not_false_eq_true, Nat.reduceAdd, Nat.reduceMul, Nat.reduceEqDiff, Int.reduceToNat, Int.reduceNeg, Ilt_t, Ilt_f, Ile_t, Ile_f, Ieq_t, Ieq_f, Nlt_t, Nlt_f, Nle_t, Nle_f, Neq_t, Neq_f, or_true, true_or, or_false, false_or, and_true, true_and, and_false, false_and, ne_eq, or_self, and_self, decide_true, decide_false, Bool.false_eq_true]), if_pos k18, h1, k_add1, ap_of]
  | succ k ih =>
    intro j m M1 hj hm hL hc hC h1 hrow
    obtain ⟨m, rfl⟩ : ∃ q, m = q + 1 := ⟨m - 1, by omega⟩
    have hj8 : j < 8 := by omega
    have hle := (hp.2.1 j hj8).1
    have hmo := rpos_mono (fun l => B.sz l - B'.sz l) k (j + 1)
    rw [show j + 1 + k = nl by omega] at hmo
    have hst : rpos (fun l => B.sz l - B'.sz l) (j + 1) = rpos (fun l => B.sz l - B'.sz l) j + 1 + (B.sz j - B'.sz j) := rfl
    obtain ⟨w1, w2, w3⟩ := hrow
    have w4 := w3 j (by omega)
    generalize hp0 : rpos (fun l => B.sz l - B'.sz l) j = p at hst w4 ⊢
    obtain ⟨M2, e2, g2, q2⟩ := bring37 (B' := B') (B := B) (fu := fu) (f_X7_bringBack_5 m) (r := r) (nl := nl) (nl0 := nl) (j := j) (p := p) (c := B.sz j - B'.sz j) (N := rpos (fun l => B.sz l - B'.sz l) nl) hr hj8 hB hp hz' hrc (by omega) (by omega) (by omega) (B.sz j - B'.sz j) 0 FUEL M1 (by omega) (by have := hz j; unfold FUEL; omega) hc hC w1 w2 (fun t ht => w4.2 t ht)
    have hC2 : CC M2 21 fu (brS B' B (j + 1) 0) := q2.eqv ⟨rfl, fun l _ => ⟨brS_next hp hj8 l, fun _ _ => ⟨rfl, rfl, rfl⟩⟩⟩ (brS_ok hB hp hz' (by have := hz' (j + 1); omega) hrc)
    obtain ⟨M3, e3, g3, q3, q4⟩ := ih (j + 1) m M2 (by omega) (by omega) (hL.all g2) (hc.all g2) hC2 (by rw [g2.i (by omega)]; exact h1) ⟨by rw [g2.1]; exact w1, by rw [g2.2.1]; exact w2, fun l hl => ⟨by rw [g2.i (by omega)]; exact (w3 l hl).1, fun i hi => by rw [g2.i (by omega)]; exact (w3 l hl).2 i hi⟩⟩
    refine ⟨M3, ?_, (g2.mono (fun a t q => Or.inr q)).tr g3, q3, q4⟩
    rw [← e3, hst]
    have ht := hL.tel
    have hca := hc.at21 hj8
    have nl' := nat_i (k := j) (by omega)
    have np := nat_i (k := p) (by omega)
    have in8 : inB (i32 (j : Int)) 8 = true := by clear hca ht; simp (disch := omega) only [↓reduceIte, add_i0, cast_add1, cast_sub1, toNat120, i32_lit, i32_neg, i32_add, i32_sub, i32_mul, i32_nat, i32_le, i32_lt, i32_eq, inB_i, Int.toNat_natCast, mI_sI_eq, mI_sI_ne, mR_sR_eq, mR_sR_ne, mI_sR, mR_sI, mK_sI, mN_sI, mn_sI, mJ_sI, mK_sR, mN_sR, mn_sR, mJ_sR, mI_wI, mR_wI, mK_wI, mN_wI, mn_wI, mJ_wI, ↓bnd_of, ↓bndX_r, ↓bndX_l, ↓ap_nr, bnd_of, bndX_r, bndX_l, if_true, if_false, ite_true, ite_false, not_true_eq_false, not_false_eq_true, Nat.reduceAdd, Nat.reduceMul, Nat.reduceEqDiff, Int.reduceToNat, Int.reduceNeg, Ilt_t, Ilt_f, Ile_t, Ile_f, Ieq_t, Ieq_f, Nlt_t, Nlt_f, Nle_t, Nle_f, Neq_t, Neq_f, or_true, true_or, or_false, false_or, and_true, true_and, and_false, false_and, ne_eq, or_self, and_self, decide_true, decide_false, Bool.false_eq_true]
    have inp : inB (i32 (p : Nat)) (rpos (fun l => B.sz l - B'.sz l) nl) = true := by clear hca ht; simp (disch := omega) only [↓reduceIte, add_i0, cast_add1, cast_sub1, toNat120, i32_lit, i32_neg, i32_add, i32_sub, i32_mul, i32_nat, i32_le, i32_lt, i32_eq, inB_i, Int.toNat_natCast, mI_sI_eq, mI_sI_ne, mR_sR_eq, mR_sR_ne, mI_sR, mR_sI, mK_sI, mN_sI, mn_sI, mJ_sI, mK_sR, mN_sR, mn_sR, mJ_sR, mI_wI, mR_wI, mK_wI, mN_wI, mn_wI, mJ_wI, ↓bnd_of, ↓bndX_r, ↓bndX_l, ↓ap_nr, bnd_of, bndX_r, bndX_l, if_true, if_false, ite_true, ite_false, not_true_eq_false, not_false_eq_true, Nat.reduceAdd, Nat.reduceMul, Nat.reduceEqDiff, Int.reduceToNat, Int.reduceNeg, Ilt_t, Ilt_f, Ile_t, Ile_f, Ieq_t, Ieq_f, Nlt_t, Nlt_f, Nle_t, Nle_f, Neq_t, Neq_f, or_true, true_or, or_false, false_or, and_true, true_and, and_false, false_and, ne_eq, or_self, and_self, decide_true, decide_false, Bool.false_eq_true]
    have lt : ¬ (i32 (nl : Int) ≤ i32 (j : Int)) := by clear hca ht; simp (disch := omega) only [↓reduceIte, add_i0, cast_add1, cast_sub1, toNat120, i32_lit, i32_neg, i32_add, i32_sub, i32_mul, i32_nat, i32_le, i32_lt, i32_eq, inB_i, Int.toNat_natCast, mI_sI_eq, mI_sI_ne, mR_sR_eq, mR_sR_ne, mI_sR, mR_sI, mK_sI, mN_sI, mn_sI, mJ_sI, mK_sR, mN_sR, mn_sR, mJ_sR, mI_wI, mR_wI, mK_wI, mN_wI, mn_wI, mJ_wI, ↓bnd_of, ↓bndX_r, ↓bndX_l, ↓ap_nr, bnd_of, bndX_r, bndX_l, if_true, if_false, ite_true, ite_false, not_true_eq_false, not_false_eq_true, Nat.reduceAdd, Nat.reduceMul, Nat.reduceEqDiff, Int.reduceToNat, Int.reduceNeg, Ilt_t, Ilt_f, Ile_t, Ile_f, Ieq_t, Ieq_f, Nlt_t, Nlt_f, Nle_t, Nle_f, Neq_t, Neq_f, or_true, true_or, or_false, false_or, and_true, true_and, and_false, false_and, ne_eq, or_self, and_self, decide_true, decide_false, Bool.false_eq_true]
    have lt2 : ¬ (i32 (rpos (fun l => B.sz l - B'.sz l) nl : Nat) ≤ i32 (p : Nat)) := by clear hca ht; simp (disch := omega) only [↓reduceIte, add_i0, cast_add1, cast_sub1, toNat120, i32_lit, i32_neg, i32_add, i32_sub, i32_mul, i32_nat, i32_le, i32_lt, i32_eq, inB_i, Int.toNat_natCast, mI_sI_eq, mI_sI_ne, mR_sR_eq, mR_sR_ne, mI_sR, mR_sI, mK_sI, mN_sI, mn_sI, mJ_sI, mK_sR, mN_sR, mn_sR, mJ_sR, mI_wI, mR_wI, mK_wI, mN_wI, mn_wI, mJ_wI, ↓bnd_of, ↓bndX_r, ↓bndX_l, ↓ap_nr, bnd_of, bndX_r, bndX_l, if_true, if_false, ite_true, ite_false, not_true_eq_false, not_false_eq_true, Nat.reduceAdd, Nat.reduceMul, Nat.reduceEqDiff, Int.reduceToNat, Int.reduceNeg, Ilt_t, Ilt_f, Ile_t, Ile_f, Ieq_t, Ieq_f, Nlt_t, Nlt_f, Nle_t, Nle_f, Neq_t, Neq_f, or_true, true_or, or_false, false_or, and_true, true_and, and_false, false_and, ne_eq, or_self, and_self, decide_true, decide_false, Bool.false_eq_true]
    have esum : i32 (p : Nat) + i32 ((B.sz j - B'.sz j : Nat) : Int) = i32 ((p + (B.sz j - B'.sz j) : Nat) : Int) := by
      rw [i32_add, show ((p : Nat) : Int) + ((B.sz j - B'.sz j : Nat) : Int) = ((p + (B.sz j - B'.sz j) : Nat) : Int) by omega]
    have eone : i32 (p : Nat) + (1 : Int32) = i32 ((p + 1 + 0 : Nat) : Int) := by rw [i32_lit, i32_add, show ((p : Nat) : Int) + 1 = ((p + 1 + 0 : Nat) : Int) by omega]
    conv => lhs; unfold f_X7_bringBack_5
    rw [if_neg lt, if_pos w1, w2, i32_ofNat, if_neg lt2, if_pos ht.o.2.2.2.2.1, ht.o.2.2.2.2.2.1, if_pos ht.o.2.2.2.2.2.2.1, ht.o.2.2.2.2.2.2.2, if_pos in8, if_pos inp, nl', np, hca.o.2.2.2.2.2.2.2.2.2.2, w4.1, esum, eone, e2]
    unfold f_X7_bringBack_89
    rw [k_add1]
end
