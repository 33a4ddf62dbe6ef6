/-! The class's Shape, the reference's rows of fields, and what both read of them -/
/-- how many fields stand in f -/
def Sc.kids (S : Sc) (f : Nat) : Int32 := lp (fun k s => if S.gr k = f then s + i32 1 else s) S.nf 0 (i32 0)
/-- the class's Shape at s -/
def CSh (M : Mem) (s : Nat) (S : Sc) : Prop := mI M s 0 = i32 S.nf ∧ mI M s 1 = i32 S.nl ∧ (∀ f, f < S.nf → mI M (s + 1) f = i32 (S.kd f)) ∧ (∀ f, f < S.nf → mI M (s + 2) f = i32 (S.gr f)) ∧ (∀ f, f < S.nf → mI M (s + 3) f = i32 (S.lf f)) ∧ (∀ f, f < S.nf → mI M (s + 4) f = i32 (S.sd f)) ∧ (∀ f, f < S.nf → mI M (s + 5) f = i32 (S.sr f)) ∧ (∀ f, f < S.nf → mI M (s + 6) f = i32 (S.ln f)) ∧ (∀ f i : Nat, f < S.nf → (i : Int) < S.ln f → mI M (s + 7) (4 * f + i) = i32 (S.nm (4 * f + i))) ∧ (∀ f, f < S.nf → mI M (s + 8) f = S.kids f) ∧ (∀ f i, f < S.nf → i < 32 → bt (mI M (s + 9) f) i = (decide (i < S.nl) && S.ins (S.fo i) f)) ∧ (∀ f, f < S.nf → mI M (s + 10) f = i32 (S.tw f)) ∧ (∀ l, l < S.nl → mI M (s + 11) l = i32 (S.fo l))
/-- the reference's fields of the schema -/
def RS0 (M : Mem) (S : Sc) : Prop := mI M 147 0 = i32 S.nf ∧ mI M 148 0 = i32 S.nl ∧ (∀ f, f < S.nf → mI M 139 f = i32 (S.kd f)) ∧ (∀ f, f < S.nf → mI M 140 f = i32 (S.gr f)) ∧ (∀ f, f < S.nf → mI M 141 f = i32 (S.lf f)) ∧ (∀ f, f < S.nf → mI M 142 f = i32 (S.sd f)) ∧ (∀ f, f < S.nf → mI M 143 f = i32 (S.sr f)) ∧ (∀ f, f < S.nf → mI M 144 f = i32 (S.ln f)) ∧ (∀ f i : Nat, f < S.nf → (i : Int) < S.ln f → mI M 146 (4 * f + i) = i32 (S.nm (4 * f + i))) ∧ (∀ f, f < S.nf → mI M 145 f = i32 (S.tw f)) ∧ (∀ l, l < S.nl → mI M 149 l = i32 (S.fo l))
/-- the reference's stripes -/
def RE (M : Mem) (A : St) : Prop := A.ok ∧ (∀ l, l < 8 → mI M 151 l = i32 (A.sz l)) ∧ (∀ l j, l < 8 → j < A.sz l → mI M 150 (120 * l + j) = i32 (10000 * A.rp l j + 1000 * A.df l j + A.vl l j)) ∧ mI M 134 30 = i32 A.rc
theorem Sc.fo_lt {S : Sc} (h : S.ok) {l : Nat} (hl : l < S.nl) : S.fo l < S.nf ∧ S.nf ≤ 16 ∧ S.nl ≤ 8 := ⟨(h.2.2.2.2.2.2.2.2.2.2 l hl).1, h.1, h.2.1⟩
theorem Sc.gr_lt {S : Sc} (h : S.ok) (f : Nat) : -1 ≤ S.gr f ∧ S.gr f < f := h.2.2.2.1 f
theorem Sc.sd_b {S : Sc} (h : S.ok) (f : Nat) : 0 ≤ S.sd f ∧ S.sd f ≤ 9 := h.2.2.2.2.2.1 f
theorem Sc.sr_b {S : Sc} (h : S.ok) (f : Nat) : 0 ≤ S.sr f ∧ S.sr f ≤ 9 := h.2.2.2.2.2.2.1 f
theorem Sc.kd_b {S : Sc} (h : S.ok) (f : Nat) : 0 ≤ S.kd f ∧ S.kd f ≤ 2 := h.2.2.1 f
theorem Sc.lf_b {S : Sc} (h : S.ok) (f : Nat) : -1 ≤ S.lf f ∧ S.lf f ≤ 7 := h.2.2.2.2.1 f
theorem Sc.up_b {S : Sc} (h : S.ok) (p : Nat → Bool) (k : Int) (h1 : -1 ≤ k) : -1 ≤ S.up p k ∧ S.up p k ≤ k ∧ (S.up p k ≠ -1 → p (S.up p k).toNat = true) := upF_ge S.gr p (S.gr_lt h) 17 k h1
section
variable {M : Mem} {s : Nat} {S : Sc} {A : St}
theorem X11_lowestBit (x : Int32) : f_X11_lowestBit x M = some (i32 (lowF (bt x) 32 0), M) := by
  have H : ∀ (k j n : Nat), j + k = 32 → k < n → f_X11_lowestBit_2 n x (i32 j) M = some (i32 (lowF (bt x) k j), M) := by
    intro k
    induction k with
    | zero =>
      intro j n hj hn
      obtain ⟨n, rfl⟩ : ∃ m, n = m + 1 := ⟨n - 1, by omega⟩
      simp (disch := omega) only [add_i0, cast_add1, cast_sub1, toNat120, i32_lit, i32_neg, i32_add, i32_sub, i32_mul, i32_nat, i32_le, i32_lt, i32_eq, inB_i, Int.toNat_natCast, mI_sI_eq, mI_sI_ne, mR_sR_eq, mR_sR_ne, mI_sR, mR_sI, mK_sI, mN_sI, mn_sI, mJ_sI, mK_sR, mN_sR, mn_sR, mJ_sR, mI_wI, mR_wI, mK_wI, mN_wI, mn_wI, mJ_wI, bnd_of, bndX_r, bndX_l, ap_of, if_true, if_false, if_pos, if_neg, ite_true, ite_false, not_true_eq_false, not_false_eq_true, Nat.reduceAdd, Nat.reduceMul, Nat.reduceEqDiff, Int.reduceToNat, Int.reduceNeg, f_X11_lowestBit_2, lowF]
    | succ k ih =>
      intro j n hj hn
      obtain ⟨n, rfl⟩ : ∃ m, n = m + 1 := ⟨n - 1, by omega⟩
      simp (disch := omega) only [add_i0, cast_add1, cast_sub1, toNat120, i32_lit, i32_neg, i32_add, i32_sub, i32_mul, i32_nat, i32_le, i32_lt, i32_eq, inB_i, Int.toNat_natCast, mI_sI_eq, mI_sI_ne, mR_sR_eq, mR_sR_ne, mI_sR, mR_sI, mK_sI, mN_sI, mn_sI, mJ_sI, mK_sR, mN_sR, mn_sR, mJ_sR, mI_wI, mR_wI, mK_wI, mN_wI, mn_wI, mJ_wI, bnd_of, bndX_r, bndX_l, ap_of, if_true, if_false, if_pos, if_neg, ite_true, ite_false, not_true_eq_false, not_false_eq_true, Nat.reduceAdd, Nat.reduceMul, Nat.reduceEqDiff, Int.reduceToNat, Int.reduceNeg, f_X11_lowestBit_2, lowF, ih, ubit, ite10]
      (first | done | with_reducible rfl | ((repeat' split) <;> (first | with_reducible rfl | (exfalso; omega) | grind)))
  have h := H 32 0 FUEL (by omega) (by unfold FUEL; omega)
  simp only [f_X11_lowestBit, i32_lit, i32_neg]
  exact h
theorem X12_isOf (x : Int32) {i : Nat} (hi : i < 32) : f_X12_isOf x (i32 i) M = some (if bt x i = true then i32 1 else i32 0, M) := by
  simp (disch := omega) only [add_i0, cast_add1, cast_sub1, toNat120, i32_lit, i32_neg, i32_add, i32_sub, i32_mul, i32_nat, i32_le, i32_lt, i32_eq, inB_i, Int.toNat_natCast, mI_sI_eq, mI_sI_ne, mR_sR_eq, mR_sR_ne, mI_sR, mR_sI, mK_sI, mN_sI, mn_sI, mJ_sI, mK_sR, mN_sR, mn_sR, mJ_sR, mI_wI, mR_wI, mK_wI, mN_wI, mn_wI, mJ_wI, bnd_of, bndX_r, bndX_l, ap_of, if_true, if_false, if_pos, if_neg, ite_true, ite_false, not_true_eq_false, not_false_eq_true, Nat.reduceAdd, Nat.reduceMul, Nat.reduceEqDiff, Int.reduceToNat, Int.reduceNeg, f_X12_isOf, sbit, ite10']
  (first | done | with_reducible rfl | ((repeat' split) <;> (first | with_reducible rfl | (exfalso; omega) | grind)))
theorem X5_manyAround (hL : ShLay M s) (hS : S.ok) (hC : CSh M s S) {l : Nat} (hl : l < S.nl) (x : Int) (hx : 0 ≤ x) (hx9 : x ≤ 9) : f_X5_manyAround s (i32 l) (i32 x) M = some (i32 (S.many l x), M) := by
  obtain ⟨c0, c1, ck, cg, cl, cd, cr, -, -, -, -, -, cf⟩ := hC
  have hfo := Sc.fo_lt hS hl
  have H : ∀ (c n : Nat) (k i : Int), k < c → c < n → -1 ≤ k → k < S.nf → 0 ≤ i → k + i ≤ 15 → f_X5_manyAround_10 n s (i32 x) (i32 k) (i32 i) M = some (i32 (upF S.gr (fun f => decide (S.kd f = 2 ∧ S.sr f = x)) c k), M) := by
    intro c
    induction c with
    | zero =>
      intro n k i q1 q2 q3 q4 q5 q6
      obtain ⟨n, rfl⟩ : ∃ m, n = m + 1 := ⟨n - 1, by omega⟩
      have : k = -1 := by omega
      subst this
      simp (disch := omega) only [add_i0, cast_add1, cast_sub1, toNat120, i32_lit, i32_neg, i32_add, i32_sub, i32_mul, i32_nat, i32_le, i32_lt, i32_eq, inB_i, Int.toNat_natCast, mI_sI_eq, mI_sI_ne, mR_sR_eq, mR_sR_ne, mI_sR, mR_sI, mK_sI, mN_sI, mn_sI, mJ_sI, mK_sR, mN_sR, mn_sR, mJ_sR, mI_wI, mR_wI, mK_wI, mN_wI, mn_wI, mJ_wI, bnd_of, bndX_r, bndX_l, ap_of, if_true, if_false, if_pos, if_neg, ite_true, ite_false, not_true_eq_false, not_false_eq_true, Nat.reduceAdd, Nat.reduceMul, Nat.reduceEqDiff, Int.reduceToNat, Int.reduceNeg, f_X5_manyAround_10, upF]
      (first | done | with_reducible rfl | ((repeat' split) <;> (first | with_reducible rfl | (exfalso; omega) | grind)))
    | succ c ih =>
      intro n k i q1 q2 q3 q4 q5 q6
      obtain ⟨n, rfl⟩ : ∃ m, n = m + 1 := ⟨n - 1, by omega⟩
      by_cases e : k = -1
      · subst e
        simp (disch := omega) only [add_i0, cast_add1, cast_sub1, toNat120, i32_lit, i32_neg, i32_add, i32_sub, i32_mul, i32_nat, i32_le, i32_lt, i32_eq, inB_i, Int.toNat_natCast, mI_sI_eq, mI_sI_ne, mR_sR_eq, mR_sR_ne, mI_sR, mR_sI, mK_sI, mN_sI, mn_sI, mJ_sI, mK_sR, mN_sR, mn_sR, mJ_sR, mI_wI, mR_wI, mK_wI, mN_wI, mn_wI, mJ_wI, bnd_of, bndX_r, bndX_l, ap_of, if_true, if_false, if_pos, if_neg, ite_true, ite_false, not_true_eq_false, not_false_eq_true, Nat.reduceAdd, Nat.reduceMul, Nat.reduceEqDiff, Int.reduceToNat, Int.reduceNeg, f_X5_manyAround_10, upF]
        (first | done | with_reducible rfl | ((repeat' split) <;> (first | with_reducible rfl | (exfalso; omega) | grind)))
      · have b1 := Sc.gr_lt hS k.toNat
        have b2 := Sc.kd_b hS k.toNat
        have b3 := Sc.sr_b hS k.toNat
        simp (disch := omega) only [add_i0, cast_add1, cast_sub1, toNat120, i32_lit, i32_neg, i32_add, i32_sub, i32_mul, i32_nat, i32_le, i32_lt, i32_eq, inB_i, Int.toNat_natCast, mI_sI_eq, mI_sI_ne, mR_sR_eq, mR_sR_ne, mI_sR, mR_sI, mK_sI, mN_sI, mn_sI, mJ_sI, mK_sR, mN_sR, mn_sR, mJ_sR, mI_wI, mR_wI, mK_wI, mN_wI, mn_wI, mJ_wI, bnd_of, bndX_r, bndX_l, ap_of, if_true, if_false, if_pos, if_neg, ite_true, ite_false, not_true_eq_false, not_false_eq_true, Nat.reduceAdd, Nat.reduceMul, Nat.reduceEqDiff, Int.reduceToNat, Int.reduceNeg, f_X5_manyAround_10, f_X5_manyAround_44, upF, hL.o, ck, cg, cr, ih, decide_eq_true_eq]
        (first | done | with_reducible rfl | ((repeat' split) <;> (first | with_reducible rfl | (exfalso; omega) | grind)))
  simp (disch := omega) only [add_i0, cast_add1, cast_sub1, toNat120, i32_lit, i32_neg, i32_add, i32_sub, i32_mul, i32_nat, i32_le, i32_lt, i32_eq, inB_i, Int.toNat_natCast, mI_sI_eq, mI_sI_ne, mR_sR_eq, mR_sR_ne, mI_sR, mR_sI, mK_sI, mN_sI, mn_sI, mJ_sI, mK_sR, mN_sR, mn_sR, mJ_sR, mI_wI, mR_wI, mK_wI, mN_wI, mn_wI, mJ_wI, bnd_of, bndX_r, bndX_l, ap_of, if_true, if_false, if_pos, if_neg, ite_true, ite_false, not_true_eq_false, not_false_eq_true, Nat.reduceAdd, Nat.reduceMul, Nat.reduceEqDiff, Int.reduceToNat, Int.reduceNeg, f_X5_manyAround, hL.o, cf]
  exact H 17 FUEL (S.fo l) 0 (by omega) (by unfold FUEL; omega) (by omega) (by omega) (by omega) (by omega)
theorem X5_innermostAround (hL : ShLay M s) (hS : S.ok) (hC : CSh M s S) {l o : Nat} (hl : l < S.nl) (ho : o < S.nl) : f_X5_innermostAround s (i32 l) (i32 o) M = some (i32 (S.both l o), M) := by
  obtain ⟨c0, c1, ck, cg, cl, cd, cr, -, -, -, cb, -, cf⟩ := hC
  have hfo := Sc.fo_lt hS hl
  have H : ∀ (c n : Nat) (k i : Int), k < c → c < n → -1 ≤ k → k < S.nf → 0 ≤ i → k + i ≤ 15 → f_X5_innermostAround_15 n s (i32 o) (i32 k) (i32 i) M = some (i32 (upF S.gr (fun g => S.ins (S.fo o) g) c k), M) := by
    intro c
    induction c with
    | zero =>
      intro n k i q1 q2 q3 q4 q5 q6
      obtain ⟨n, rfl⟩ : ∃ m, n = m + 1 := ⟨n - 1, by omega⟩
      have : k = -1 := by omega
      subst this
      simp (disch := omega) only [add_i0, cast_add1, cast_sub1, toNat120, i32_lit, i32_neg, i32_add, i32_sub, i32_mul, i32_nat, i32_le, i32_lt, i32_eq, inB_i, Int.toNat_natCast, mI_sI_eq, mI_sI_ne, mR_sR_eq, mR_sR_ne, mI_sR, mR_sI, mK_sI, mN_sI, mn_sI, mJ_sI, mK_sR, mN_sR, mn_sR, mJ_sR, mI_wI, mR_wI, mK_wI, mN_wI, mn_wI, mJ_wI, bnd_of, bndX_r, bndX_l, ap_of, if_true, if_false, if_pos, if_neg, ite_true, ite_false, not_true_eq_false, not_false_eq_true, Nat.reduceAdd, Nat.reduceMul, Nat.reduceEqDiff, Int.reduceToNat, Int.reduceNeg, f_X5_innermostAround_15, upF]
      (first | done | with_reducible rfl | ((repeat' split) <;> (first | with_reducible rfl | (exfalso; omega) | grind)))
    | succ c ih =>
      intro n k i q1 q2 q3 q4 q5 q6
      obtain ⟨n, rfl⟩ : ∃ m, n = m + 1 := ⟨n - 1, by omega⟩
      by_cases e : k = -1
      · subst e
        simp (disch := omega) only [add_i0, cast_add1, cast_sub1, toNat120, i32_lit, i32_neg, i32_add, i32_sub, i32_mul, i32_nat, i32_le, i32_lt, i32_eq, inB_i, Int.toNat_natCast, mI_sI_eq, mI_sI_ne, mR_sR_eq, mR_sR_ne, mI_sR, mR_sI, mK_sI, mN_sI, mn_sI, mJ_sI, mK_sR, mN_sR, mn_sR, mJ_sR, mI_wI, mR_wI, mK_wI, mN_wI, mn_wI, mJ_wI, bnd_of, bndX_r, bndX_l, ap_of, if_true, if_false, if_pos, if_neg, ite_true, ite_false, not_true_eq_false, not_false_eq_true, Nat.reduceAdd, Nat.reduceMul, Nat.reduceEqDiff, Int.reduceToNat, Int.reduceNeg, f_X5_innermostAround_15, upF]
        (first | done | with_reducible rfl | ((repeat' split) <;> (first | with_reducible rfl | (exfalso; omega) | grind)))
      · have b1 := Sc.gr_lt hS k.toNat
        have b2 := cb k.toNat o (by omega) (by omega)
        simp only [ho, decide_true, Bool.true_and] at b2
        simp (disch := omega) only [add_i0, cast_add1, cast_sub1, toNat120, i32_lit, i32_neg, i32_add, i32_sub, i32_mul, i32_nat, i32_le, i32_lt, i32_eq, inB_i, Int.toNat_natCast, mI_sI_eq, mI_sI_ne, mR_sR_eq, mR_sR_ne, mI_sR, mR_sI, mK_sI, mN_sI, mn_sI, mJ_sI, mK_sR, mN_sR, mn_sR, mJ_sR, mI_wI, mR_wI, mK_wI, mN_wI, mn_wI, mJ_wI, bnd_of, bndX_r, bndX_l, ap_of, if_true, if_false, if_pos, if_neg, ite_true, ite_false, not_true_eq_false, not_false_eq_true, Nat.reduceAdd, Nat.reduceMul, Nat.reduceEqDiff, Int.reduceToNat, Int.reduceNeg, f_X5_innermostAround_15, upF, hL.o, cg, ubit, ite10, b2, ih]
        (first | done | with_reducible rfl | ((repeat' split) <;> (first | with_reducible rfl | (exfalso; omega) | grind)))
  have b1 := Sc.gr_lt hS (S.fo l)
  simp (disch := omega) only [add_i0, cast_add1, cast_sub1, toNat120, i32_lit, i32_neg, i32_add, i32_sub, i32_mul, i32_nat, i32_le, i32_lt, i32_eq, inB_i, Int.toNat_natCast, mI_sI_eq, mI_sI_ne, mR_sR_eq, mR_sR_ne, mI_sR, mR_sI, mK_sI, mN_sI, mn_sI, mJ_sI, mK_sR, mN_sR, mn_sR, mJ_sR, mI_wI, mR_wI, mK_wI, mN_wI, mn_wI, mJ_wI, bnd_of, bndX_r, bndX_l, ap_of, if_true, if_false, if_pos, if_neg, ite_true, ite_false, not_true_eq_false, not_false_eq_true, Nat.reduceAdd, Nat.reduceMul, Nat.reduceEqDiff, Int.reduceToNat, Int.reduceNeg, f_X5_innermostAround, hL.o, cf, cg]
  exact H 17 FUEL (S.gr (S.fo l)) 0 (by omega) (by unfold FUEL; omega) (by omega) (by omega) (by omega) (by omega)
/-- the level of two leaves; down to which def they must agree -/
def Sc.lev (S : Sc) (a b : Nat) : Int := if S.both a b = -1 then 0 else S.sr (S.both a b).toNat
def Sc.deep (S : Sc) (a b : Nat) : Int := if S.both a b = -1 then 0 else S.sd (S.both a b).toNat
theorem Sc.both_b (hS : S.ok) (a b : Nat) : -1 ≤ S.both a b ∧ S.both a b < S.fo a ∧ (S.both a b ≠ -1 → S.ins (S.fo b) (S.both a b).toNat = true) := by
  have b1 := Sc.gr_lt hS (S.fo a)
  have := Sc.up_b hS (fun g => S.ins (S.fo b) g) (S.gr (S.fo a)) b1.1
  exact ⟨this.1, by unfold Sc.both; omega, this.2.2⟩
theorem Sc.many_b (hS : S.ok) (l : Nat) (x : Int) : -1 ≤ S.many l x ∧ S.many l x ≤ S.fo l ∧ (S.many l x ≠ -1 → S.kd (S.many l x).toNat = 2 ∧ S.sr (S.many l x).toNat = x) := by
  have := Sc.up_b hS (fun f => decide (S.kd f = 2 ∧ S.sr f = x)) (S.fo l) (by omega)
  exact ⟨this.1, this.2.1, fun h => of_decide_eq_true (this.2.2 h)⟩
theorem Sc.lev_b (hS : S.ok) (a b : Nat) : 0 ≤ S.lev a b ∧ S.lev a b ≤ 9 := by
  unfold Sc.lev
  have := Sc.sr_b hS (S.both a b).toNat
  split <;> omega
theorem Sc.deep_b (hS : S.ok) (a b : Nat) : 0 ≤ S.deep a b ∧ S.deep a b ≤ 9 := by
  unfold Sc.deep
  have := Sc.sd_b hS (S.both a b).toNat
  split <;> omega
theorem X5_levelOf (hL : ShLay M s) (hS : S.ok) (hC : CSh M s S) {l o : Nat} (hl : l < S.nl) (ho : o < S.nl) : f_X5_levelOf s (i32 l) (i32 o) M = some (i32 (S.lev l o), M) := by
  have h := X5_innermostAround hL hS hC hl ho
  have hb := Sc.both_b hS l o
  have hfo := Sc.fo_lt hS hl
  obtain ⟨c0, c1, ck, cg, cl, cd, cr, -⟩ := hC
  simp (disch := omega) only [add_i0, cast_add1, cast_sub1, toNat120, i32_lit, i32_neg, i32_add, i32_sub, i32_mul, i32_nat, i32_le, i32_lt, i32_eq, inB_i, Int.toNat_natCast, mI_sI_eq, mI_sI_ne, mR_sR_eq, mR_sR_ne, mI_sR, mR_sI, mK_sI, mN_sI, mn_sI, mJ_sI, mK_sR, mN_sR, mn_sR, mJ_sR, mI_wI, mR_wI, mK_wI, mN_wI, mn_wI, mJ_wI, bnd_of, bndX_r, bndX_l, ap_of, if_true, if_false, if_pos, if_neg, ite_true, ite_false, not_true_eq_false, not_false_eq_true, Nat.reduceAdd, Nat.reduceMul, Nat.reduceEqDiff, Int.reduceToNat, Int.reduceNeg, f_X5_levelOf, hL.o, h, Sc.lev]
  by_cases e : S.both l o = -1
  · simp only [e, if_true]
  · simp (disch := omega) only [add_i0, cast_add1, cast_sub1, toNat120, i32_lit, i32_neg, i32_add, i32_sub, i32_mul, i32_nat, i32_le, i32_lt, i32_eq, inB_i, Int.toNat_natCast, mI_sI_eq, mI_sI_ne, mR_sR_eq, mR_sR_ne, mI_sR, mR_sI, mK_sI, mN_sI, mn_sI, mJ_sI, mK_sR, mN_sR, mn_sR, mJ_sR, mI_wI, mR_wI, mK_wI, mN_wI, mn_wI, mJ_wI, bnd_of, bndX_r, bndX_l, ap_of, if_true, if_false, if_pos, if_neg, ite_true, ite_false, not_true_eq_false, not_false_eq_true, Nat.reduceAdd, Nat.reduceMul, Nat.reduceEqDiff, Int.reduceToNat, Int.reduceNeg, e, hL.o, cr]
theorem X12_isInside (hL : RLay M) (hS : S.ok) (hR : RS0 M S) (k : Int) (g : Nat) (h1 : -1 ≤ k) (h2 : k < S.nf) (hg : g < 100) : f_X12_isInside 134 (i32 k) (i32 g) M = some (if S.ins k g = true then i32 1 else i32 0, M) := by
  obtain ⟨c0, c1, ck, cg, -⟩ := hR
  have hn := hS.1
  have H : ∀ (c n : Nat) (k : Int), k < c → c < n → -1 ≤ k → k < S.nf → f_X12_isInside_2 n 134 (i32 g) (i32 k) M = some (if upF S.gr (fun f => decide (f = g)) c k ≠ -1 then i32 1 else i32 0, M) := by
    intro c
    induction c with
    | zero =>
      intro n k q1 q2 q3 q4
      obtain ⟨n, rfl⟩ : ∃ m, n = m + 1 := ⟨n - 1, by omega⟩
      have : k = -1 := by omega
      subst this
      simp (disch := omega) only [add_i0, cast_add1, cast_sub1, toNat120, i32_lit, i32_neg, i32_add, i32_sub, i32_mul, i32_nat, i32_le, i32_lt, i32_eq, inB_i, Int.toNat_natCast, mI_sI_eq, mI_sI_ne, mR_sR_eq, mR_sR_ne, mI_sR, mR_sI, mK_sI, mN_sI, mn_sI, mJ_sI, mK_sR, mN_sR, mn_sR, mJ_sR, mI_wI, mR_wI, mK_wI, mN_wI, mn_wI, mJ_wI, bnd_of, bndX_r, bndX_l, ap_of, if_true, if_false, if_pos, if_neg, ite_true, ite_false, not_true_eq_false, not_false_eq_true, Nat.reduceAdd, Nat.reduceMul, Nat.reduceEqDiff, Int.reduceToNat, Int.reduceNeg, f_X12_isInside_2, f_X12_isInside_22, upF]
      (first | done | with_reducible rfl | ((repeat' split) <;> (first | with_reducible rfl | (exfalso; omega) | grind)))
    | succ c ih =>
      intro n k q1 q2 q3 q4
      obtain ⟨n, rfl⟩ : ∃ m, n = m + 1 := ⟨n - 1, by omega⟩
      by_cases e : k = -1
      · subst e
        simp (disch := omega) only [add_i0, cast_add1, cast_sub1, toNat120, i32_lit, i32_neg, i32_add, i32_sub, i32_mul, i32_nat, i32_le, i32_lt, i32_eq, inB_i, Int.toNat_natCast, mI_sI_eq, mI_sI_ne, mR_sR_eq, mR_sR_ne, mI_sR, mR_sI, mK_sI, mN_sI, mn_sI, mJ_sI, mK_sR, mN_sR, mn_sR, mJ_sR, mI_wI, mR_wI, mK_wI, mN_wI, mn_wI, mJ_wI, bnd_of, bndX_r, bndX_l, ap_of, if_true, if_false, if_pos, if_neg, ite_true, ite_false, not_true_eq_false, not_false_eq_true, Nat.reduceAdd, Nat.reduceMul, Nat.reduceEqDiff, Int.reduceToNat, Int.reduceNeg, f_X12_isInside_2, f_X12_isInside_22, upF]
        (first | done | with_reducible rfl | ((repeat' split) <;> (first | with_reducible rfl | (exfalso; omega) | grind)))
      · have b1 := Sc.gr_lt hS k.toNat
        simp (disch := omega) only [add_i0, cast_add1, cast_sub1, toNat120, i32_lit, i32_neg, i32_add, i32_sub, i32_mul, i32_nat, i32_le, i32_lt, i32_eq, inB_i, Int.toNat_natCast, mI_sI_eq, mI_sI_ne, mR_sR_eq, mR_sR_ne, mI_sR, mR_sI, mK_sI, mN_sI, mn_sI, mJ_sI, mK_sR, mN_sR, mn_sR, mJ_sR, mI_wI, mR_wI, mK_wI, mN_wI, mn_wI, mJ_wI, bnd_of, bndX_r, bndX_l, ap_of, if_true, if_false, if_pos, if_neg, ite_true, ite_false, not_true_eq_false, not_false_eq_true, Nat.reduceAdd, Nat.reduceMul, Nat.reduceEqDiff, Int.reduceToNat, Int.reduceNeg, f_X12_isInside_2, f_X12_isInside_22, upF, hL.o, cg, ih, decide_eq_true_eq]
        (first | done | with_reducible rfl | ((repeat' split) <;> (first | with_reducible rfl | (exfalso; omega) | grind)))
  have := H 17 FUEL k (by omega) (by unfold FUEL; omega) (by omega) (by omega)
  unfold f_X12_isInside Sc.ins
  simp only [decide_eq_true_eq]
  exact this
theorem X12_both (hL : RLay M) (hS : S.ok) (hR : RS0 M S) {l o : Nat} (hl : l < S.nl) (ho : o < S.nl) : f_X12_both 134 (i32 l) (i32 o) M = some (i32 (S.both l o), M) := by
  have hi := fun k g => X12_isInside hL hS hR k g
  obtain ⟨c0, c1, ck, cg, cl, cd, cr, -, -, -, cf⟩ := hR
  have hfo := Sc.fo_lt hS hl
  have hfo2 := Sc.fo_lt hS ho
  have H : ∀ (c n : Nat) (k : Int), k < c → c < n → -1 ≤ k → k < S.nf → f_X12_both_12 n 134 (i32 o) (i32 k) M = some (i32 (upF S.gr (fun g => S.ins (S.fo o) g) c k), M) := by
    intro c
    induction c with
    | zero =>
      intro n k q1 q2 q3 q4
      obtain ⟨n, rfl⟩ : ∃ m, n = m + 1 := ⟨n - 1, by omega⟩
      have : k = -1 := by omega
      subst this
      simp (disch := omega) only [add_i0, cast_add1, cast_sub1, toNat120, i32_lit, i32_neg, i32_add, i32_sub, i32_mul, i32_nat, i32_le, i32_lt, i32_eq, inB_i, Int.toNat_natCast, mI_sI_eq, mI_sI_ne, mR_sR_eq, mR_sR_ne, mI_sR, mR_sI, mK_sI, mN_sI, mn_sI, mJ_sI, mK_sR, mN_sR, mn_sR, mJ_sR, mI_wI, mR_wI, mK_wI, mN_wI, mn_wI, mJ_wI, bnd_of, bndX_r, bndX_l, ap_of, if_true, if_false, if_pos, if_neg, ite_true, ite_false, not_true_eq_false, not_false_eq_true, Nat.reduceAdd, Nat.reduceMul, Nat.reduceEqDiff, Int.reduceToNat, Int.reduceNeg, f_X12_both_12, upF]
      (first | done | with_reducible rfl | ((repeat' split) <;> (first | with_reducible rfl | (exfalso; omega) | grind)))
    | succ c ih =>
      intro n k q1 q2 q3 q4
      obtain ⟨n, rfl⟩ : ∃ m, n = m + 1 := ⟨n - 1, by omega⟩
      by_cases e : k = -1
      · subst e
        simp (disch := omega) only [add_i0, cast_add1, cast_sub1, toNat120, i32_lit, i32_neg, i32_add, i32_sub, i32_mul, i32_nat, i32_le, i32_lt, i32_eq, inB_i, Int.toNat_natCast, mI_sI_eq, mI_sI_ne, mR_sR_eq, mR_sR_ne, mI_sR, mR_sI, mK_sI, mN_sI, mn_sI, mJ_sI, mK_sR, mN_sR, mn_sR, mJ_sR, mI_wI, mR_wI, mK_wI, mN_wI, mn_wI, mJ_wI, bnd_of, bndX_r, bndX_l, ap_of, if_true, if_false, if_pos, if_neg, ite_true, ite_false, not_true_eq_false, not_false_eq_true, Nat.reduceAdd, Nat.reduceMul, Nat.reduceEqDiff, Int.reduceToNat, Int.reduceNeg, f_X12_both_12, upF]
        (first | done | with_reducible rfl | ((repeat' split) <;> (first | with_reducible rfl | (exfalso; omega) | grind)))
      · have b1 := Sc.gr_lt hS k.toNat
        obtain ⟨g, rfl⟩ : ∃ g : Nat, k = g := ⟨k.toNat, by omega⟩
        simp (disch := omega) only [add_i0, cast_add1, cast_sub1, toNat120, i32_lit, i32_neg, i32_add, i32_sub, i32_mul, i32_nat, i32_le, i32_lt, i32_eq, inB_i, Int.toNat_natCast, mI_sI_eq, mI_sI_ne, mR_sR_eq, mR_sR_ne, mI_sR, mR_sI, mK_sI, mN_sI, mn_sI, mJ_sI, mK_sR, mN_sR, mn_sR, mJ_sR, mI_wI, mR_wI, mK_wI, mN_wI, mn_wI, mJ_wI, bnd_of, bndX_r, bndX_l, ap_of, if_true, if_false, if_pos, if_neg, ite_true, ite_false, not_true_eq_false, not_false_eq_true, Nat.reduceAdd, Nat.reduceMul, Nat.reduceEqDiff, Int.reduceToNat, Int.reduceNeg, f_X12_both_12, upF, hL.o, cg, cf, hi, ite10, ih]
        (first | done | with_reducible rfl | ((repeat' split) <;> (first | with_reducible rfl | (exfalso; omega) | grind)))
  have b1 := Sc.gr_lt hS (S.fo l)
  simp (disch := omega) only [add_i0, cast_add1, cast_sub1, toNat120, i32_lit, i32_neg, i32_add, i32_sub, i32_mul, i32_nat, i32_le, i32_lt, i32_eq, inB_i, Int.toNat_natCast, mI_sI_eq, mI_sI_ne, mR_sR_eq, mR_sR_ne, mI_sR, mR_sI, mK_sI, mN_sI, mn_sI, mJ_sI, mK_sR, mN_sR, mn_sR, mJ_sR, mI_wI, mR_wI, mK_wI, mN_wI, mn_wI, mJ_wI, bnd_of, bndX_r, bndX_l, ap_of, if_true, if_false, if_pos, if_neg, ite_true, ite_false, not_true_eq_false, not_false_eq_true, Nat.reduceAdd, Nat.reduceMul, Nat.reduceEqDiff, Int.reduceToNat, Int.reduceNeg, f_X12_both, hL.o, cf, cg]
  exact H 17 FUEL (S.gr (S.fo l)) (by omega) (by unfold FUEL; omega) (by omega) (by omega)
theorem X12_oftenAround (hL : RLay M) (hS : S.ok) (hR : RS0 M S) {l : Nat} (hl : l < S.nl) (x : Int) (hx : 0 ≤ x) (hx9 : x ≤ 9) (hm : S.many l x ≠ -1) : f_X12_oftenAround 134 (i32 l) (i32 x) M = some (i32 (S.many l x), M) := by
  obtain ⟨c0, c1, ck, cg, cl, cd, cr, -, -, -, cf⟩ := hR
  have hfo := Sc.fo_lt hS hl
  have H : ∀ (c n : Nat) (k : Int), k < c → c < n → -1 ≤ k → k < S.nf → upF S.gr (fun f => decide (S.kd f = 2 ∧ S.sr f = x)) c k ≠ -1 → f_X12_oftenAround_7 n 134 (i32 x) (i32 k) M = some (i32 (upF S.gr (fun f => decide (S.kd f = 2 ∧ S.sr f = x)) c k), M) := by
    intro c
    induction c with
    | zero =>
      intro n k q1 q2 q3 q4 q5
      exact absurd rfl q5
    | succ c ih =>
      intro n k q1 q2 q3 q4 q5
      obtain ⟨n, rfl⟩ : ∃ m, n = m + 1 := ⟨n - 1, by omega⟩
      by_cases e : k = -1
      · subst e
        exact absurd rfl q5
      · have b1 := Sc.gr_lt hS k.toNat
        have b2 := Sc.kd_b hS k.toNat
        have b3 := Sc.sr_b hS k.toNat
        have ih2 := ih n (S.gr k.toNat) (by omega) (by omega) (by omega) (by omega)
        unfold upF at q5 ⊢
        rw [if_neg e] at q5 ⊢
        by_cases c1 : S.kd k.toNat = 2 ∧ S.sr k.toNat = x
        · simp (disch := omega) only [add_i0, cast_add1, cast_sub1, toNat120, i32_lit, i32_neg, i32_add, i32_sub, i32_mul, i32_nat, i32_le, i32_lt, i32_eq, inB_i, Int.toNat_natCast, mI_sI_eq, mI_sI_ne, mR_sR_eq, mR_sR_ne, mI_sR, mR_sI, mK_sI, mN_sI, mn_sI, mJ_sI, mK_sR, mN_sR, mn_sR, mJ_sR, mI_wI, mR_wI, mK_wI, mN_wI, mn_wI, mJ_wI, bnd_of, bndX_r, bndX_l, ap_of, if_true, if_false, if_pos, if_neg, ite_true, ite_false, not_true_eq_false, not_false_eq_true, Nat.reduceAdd, Nat.reduceMul, Nat.reduceEqDiff, Int.reduceToNat, Int.reduceNeg, f_X12_oftenAround_7, hL.o, ck, cg, cr, c1, and_self, decide_true]
        · rw [if_neg (by simpa using c1)] at q5 ⊢
          rw [← ih2 q5]
          simp (disch := omega) only [add_i0, cast_add1, cast_sub1, toNat120, i32_lit, i32_neg, i32_add, i32_sub, i32_mul, i32_nat, i32_le, i32_lt, i32_eq, inB_i, Int.toNat_natCast, mI_sI_eq, mI_sI_ne, mR_sR_eq, mR_sR_ne, mI_sR, mR_sI, mK_sI, mN_sI, mn_sI, mJ_sI, mK_sR, mN_sR, mn_sR, mJ_sR, mI_wI, mR_wI, mK_wI, mN_wI, mn_wI, mJ_wI, bnd_of, bndX_r, bndX_l, ap_of, if_true, if_false, if_pos, if_neg, ite_true, ite_false, not_true_eq_false, not_false_eq_true, Nat.reduceAdd, Nat.reduceMul, Nat.reduceEqDiff, Int.reduceToNat, Int.reduceNeg, f_X12_oftenAround_7, f_X12_oftenAround_27, hL.o, ck, cg, cr]
          (first | done | with_reducible rfl | ((repeat' split) <;> (first | with_reducible rfl | (exfalso; omega) | grind)))
  simp (disch := omega) only [add_i0, cast_add1, cast_sub1, toNat120, i32_lit, i32_neg, i32_add, i32_sub, i32_mul, i32_nat, i32_le, i32_lt, i32_eq, inB_i, Int.toNat_natCast, mI_sI_eq, mI_sI_ne, mR_sR_eq, mR_sR_ne, mI_sR, mR_sI, mK_sI, mN_sI, mn_sI, mJ_sI, mK_sR, mN_sR, mn_sR, mJ_sR, mI_wI, mR_wI, mK_wI, mN_wI, mn_wI, mJ_wI, bnd_of, bndX_r, bndX_l, ap_of, if_true, if_false, if_pos, if_neg, ite_true, ite_false, not_true_eq_false, not_false_eq_true, Nat.reduceAdd, Nat.reduceMul, Nat.reduceEqDiff, Int.reduceToNat, Int.reduceNeg, f_X12_oftenAround, hL.o, cf]
  exact H 17 FUEL (S.fo l) (by omega) (by unfold FUEL; omega) (by omega) (by omega) hm
end
