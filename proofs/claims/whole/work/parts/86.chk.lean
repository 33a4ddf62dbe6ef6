/-! CHECK: one mathematics for both -/
/-- how many of k from j on -/
def cnt (p : Nat → Bool) : Nat → Nat → Nat
  | 0, _ => 0
  | k + 1, j => (if p j = true then 1 else 0) + cnt p k (j + 1)
theorem lp_cnt (p : Nat → Bool) : ∀ (k j : Nat) (a : Int), lp (fun j s => if p j = true then s + i32 1 else s) k j (i32 a) = i32 (a + cnt p k j) := by
  intro k
  induction k with
  | zero => intro j a; simp [lp, cnt]
  | succ k ih =>
    intro j a
    unfold lp cnt
    by_cases c : p j = true
    · simp only [c, if_true, i32_add]
      rw [ih]
      congr 1
      omega
    · simp only [c, if_false, Bool.false_eq_true, Nat.zero_add]
      rw [ih]
theorem cnt_le (p : Nat → Bool) : ∀ (k j : Nat), cnt p k j ≤ k := by
  intro k
  induction k with
  | zero => intro j; simp [cnt]
  | succ k ih =>
    intro j
    unfold cnt
    have := ih (j + 1)
    split <;> omega
def St.zs (A : St) (l : Nat) : Nat := cnt (fun j => decide (A.rp l j = 0)) (A.sz l) 0
theorem lp_zs (A : St) (l : Nat) : lp (fun j s => if A.rp l j = 0 then s + i32 1 else s) (A.sz l) 0 (i32 0) = i32 (A.zs l) := by
  have := lp_cnt (fun j => decide (A.rp l j = 0)) (A.sz l) 0 0
  simp only [decide_eq_true_eq, Int.zero_add] at this
  exact this
def needS (S : Sc) (l : Nat) (x : Int) : Int := if 0 < x ∧ S.many l x ≠ -1 then S.sd (S.many l x).toNat else 0
def wrongS (S : Sc) (A : St) (l j : Nat) : Int := if S.sr (S.fo l) < A.rp l j ∨ (j = 0 ∧ A.rp l j ≠ 0) then 1 else if S.sd (S.fo l) < A.df l j then 2 else if A.df l j < needS S l (A.rp l j) ∨ (0 < j ∧ A.df l (j - 1) < needS S l (A.rp l j)) then 3 else 0
theorem needS_b {S : Sc} (hS : S.ok) (l : Nat) (x : Int) : 0 ≤ needS S l x ∧ needS S l x ≤ 9 := by
  unfold needS
  have := Sc.sd_b hS (S.many l x).toNat
  split <;> omega
/-- the first that is not 0 -/
def colW (w : Nat → Int) : Nat → Nat → Int × Int
  | 0, _ => (0, -1)
  | k + 1, j => if w j = 0 then colW w k (j + 1) else (w j, (j : Int))
/-- mine from j on, k more; the fellow fe in the leaf ahead -/
def ulC (S : Sc) (A : St) (l : Nat) : Nat → Nat → Nat → Int
  | 0, j, fe => if fe < A.sz (l - 1) then (j : Int) else -1
  | k + 1, j, fe => if A.rp l j ≤ S.lev l (l - 1) then (if A.sz (l - 1) ≤ fe ∨ A.rp l j ≠ A.rp (l - 1) fe ∨ min (A.df l j) (S.deep l (l - 1)) ≠ min (A.df (l - 1) fe) (S.deep l (l - 1)) then (j : Int) else ulC S A l k (j + 1) (behF (A.rp (l - 1)) (S.lev l (l - 1)) (A.sz (l - 1) - (fe + 1)) (fe + 1))) else ulC S A l k (j + 1) fe
def unlS (S : Sc) (A : St) (l : Nat) : Int := ulC S A l (A.sz l) 0 (behF (A.rp (l - 1)) (S.lev l (l - 1)) (A.sz (l - 1)) 0)
def chkL (S : Sc) (A : St) (l : Nat) : Int × Int := if (colW (wrongS S A l) (A.sz l) 0).1 ≠ 0 then colW (wrongS S A l) (A.sz l) 0 else if A.zs l ≠ A.rc then (4, A.sz l) else if l = 0 ∨ unlS S A l = -1 then (0, -1) else (5, unlS S A l)
def chkF (S : Sc) (A : St) : Nat → Nat → Int × Int × Int
  | 0, _ => (0, -1, -1)
  | k + 1, l => if (chkL S A l).1 = 0 then chkF S A k (l + 1) else ((chkL S A l).1, (l : Int), (chkL S A l).2)
def chk (S : Sc) (A : St) : Int × Int × Int := chkF S A S.nl 0
theorem imin1 (a b : Int) : (if a < b then i32 a else i32 b) = i32 (min b a) := by
  split
  · congr 1; omega
  · congr 1; omega
theorem wrongS_b (S : Sc) (A : St) (l j : Nat) : 0 ≤ wrongS S A l j ∧ wrongS S A l j ≤ 3 := by
  unfold wrongS
  repeat' split
  all_goals omega
theorem colW_b (w : Nat → Int) (hw : ∀ j, 0 ≤ w j ∧ w j ≤ 3) : ∀ (k j : Nat), 0 ≤ (colW w k j).1 ∧ (colW w k j).1 ≤ 3 ∧ -1 ≤ (colW w k j).2 ∧ (colW w k j).2 < j + k := by
  intro k
  induction k with
  | zero => intro j; simp [colW]; omega
  | succ k ih =>
    intro j
    have h1 := ih (j + 1)
    have h2 := hw j
    unfold colW
    split
    · omega
    · simp only []; omega
theorem ulC_b (S : Sc) (A : St) (l : Nat) : ∀ (k j fe : Nat), -1 ≤ ulC S A l k j fe ∧ ulC S A l k j fe ≤ j + k := by
  intro k
  induction k with
  | zero => intro j fe; unfold ulC; split <;> omega
  | succ k ih =>
    intro j fe
    have h1 := ih (j + 1)
    unfold ulC
    repeat' split
    · omega
    · have := h1 (behF (A.rp (l - 1)) (S.lev l (l - 1)) (A.sz (l - 1) - (fe + 1)) (fe + 1)); omega
    · have := h1 fe; omega
/-- the class's Check at 7 stands over the schema at s and the state 18 -/
abbrev ChkAt (M : Mem) (s : Nat) : Prop := mR M 7 5 = s ∧ mR M 7 6 = 18
def noteM (M : Mem) (w l e : Int) : Mem := sI (sI (sI M 7 0 (i32 w)) 7 1 (i32 l)) 7 2 (i32 e)
section
variable {M : Mem} {s : Nat} {S : Sc} {A : St}
theorem X1_needOf (hL : CLay M) (hs : ShLay M s) (hS : S.ok) (hC : CSh M s S) (hK : ChkAt M s) {l : Nat} (hl : l < S.nl) (x : Int) (hx : 0 ≤ x) (hx9 : x ≤ 9) : f_X1_needOf 7 (i32 l) (i32 x) M = some (i32 (needS S l x), M) := by
  have h := X5_manyAround hs hS hC hl x hx hx9
  have hb := Sc.many_b hS l x
  have hfo := Sc.fo_lt hS hl
  obtain ⟨c0, c1, ck, cg, cl, cd, cr, -⟩ := hC
  unfold needS
  by_cases c : 0 < x
  · by_cases e : S.many l x = -1
    · simp (disch := omega) only [add_i0, cast_add1, cast_sub1, toNat120, i32_lit, i32_neg, i32_add, i32_sub, i32_mul, i32_nat, i32_le, i32_lt, i32_eq, inB_i, Int.toNat_natCast, mI_sI_eq, mI_sI_ne, mR_sR_eq, mR_sR_ne, mI_sR, mR_sI, mK_sI, mN_sI, mn_sI, mJ_sI, mK_sR, mN_sR, mn_sR, mJ_sR, mI_wI, mR_wI, mK_wI, mN_wI, mn_wI, mJ_wI, bnd_of, bndX_r, bndX_l, ap_of, if_true, if_false, if_pos, if_neg, ite_true, ite_false, not_true_eq_false, not_false_eq_true, Nat.reduceAdd, Nat.reduceMul, Nat.reduceEqDiff, Int.reduceToNat, Int.reduceNeg, f_X1_needOf, f_X1_needOf_17, hL.o, hK, hs.o, h, e]
    · simp (disch := omega) only [add_i0, cast_add1, cast_sub1, toNat120, i32_lit, i32_neg, i32_add, i32_sub, i32_mul, i32_nat, i32_le, i32_lt, i32_eq, inB_i, Int.toNat_natCast, mI_sI_eq, mI_sI_ne, mR_sR_eq, mR_sR_ne, mI_sR, mR_sI, mK_sI, mN_sI, mn_sI, mJ_sI, mK_sR, mN_sR, mn_sR, mJ_sR, mI_wI, mR_wI, mK_wI, mN_wI, mn_wI, mJ_wI, bnd_of, bndX_r, bndX_l, ap_of, if_true, if_false, if_pos, if_neg, ite_true, ite_false, not_true_eq_false, not_false_eq_true, Nat.reduceAdd, Nat.reduceMul, Nat.reduceEqDiff, Int.reduceToNat, Int.reduceNeg, f_X1_needOf, f_X1_needOf_17, hL.o, hK, hs.o, h, cd]
  · simp (disch := omega) only [add_i0, cast_add1, cast_sub1, toNat120, i32_lit, i32_neg, i32_add, i32_sub, i32_mul, i32_nat, i32_le, i32_lt, i32_eq, inB_i, Int.toNat_natCast, mI_sI_eq, mI_sI_ne, mR_sR_eq, mR_sR_ne, mI_sR, mR_sI, mK_sI, mN_sI, mn_sI, mJ_sI, mK_sR, mN_sR, mn_sR, mJ_sR, mI_wI, mR_wI, mK_wI, mN_wI, mn_wI, mJ_wI, bnd_of, bndX_r, bndX_l, ap_of, if_true, if_false, if_pos, if_neg, ite_true, ite_false, not_true_eq_false, not_false_eq_true, Nat.reduceAdd, Nat.reduceMul, Nat.reduceEqDiff, Int.reduceToNat, Int.reduceNeg, f_X1_needOf, f_X1_needOf_17, hL.o, hK, hs.o]
theorem X1_wrongAt (hL : CLay M) (hc : ColLay M 21) (hs : ShLay M s) (hS : S.ok) (hC : CSh M s S) (hK : ChkAt M s) (hA : CC M 21 S.fu A) {l j : Nat} (hl : l < S.nl) (hj : j < A.sz l) : f_X1_wrongAt 7 (i32 l) (i32 j) M = some (i32 (wrongS S A l j), M) := by
  have hfo := Sc.fo_lt hS hl
  have b := St.b hA.1 l j
  have b2 := St.b hA.1 l (j - 1)
  have hn := X1_needOf hL hs hS hC hK hl (A.rp l j) (by omega) (by omega)
  have hnb := needS_b hS l (A.rp l j)
  have b3 := Sc.sr_b hS (S.fo l)
  have b4 := Sc.sd_b hS (S.fo l)
  obtain ⟨c0, c1, ck, cg, cl, cd, cr, -, -, -, -, -, cf⟩ := hC
  obtain ⟨hok, a1, a2, a3, a4, -⟩ := hA
  have hcol := hc.2.2.2.2.2.2.2.2.2.2
  simp only [Nat.reduceSub] at hcol
  unfold wrongS
  by_cases c : j = 0
  · subst c
    simp (disch := omega) only [add_i0, cast_add1, cast_sub1, toNat120, i32_lit, i32_neg, i32_add, i32_sub, i32_mul, i32_nat, i32_le, i32_lt, i32_eq, inB_i, Int.toNat_natCast, mI_sI_eq, mI_sI_ne, mR_sR_eq, mR_sR_ne, mI_sR, mR_sI, mK_sI, mN_sI, mn_sI, mJ_sI, mK_sR, mN_sR, mn_sR, mJ_sR, mI_wI, mR_wI, mK_wI, mN_wI, mn_wI, mJ_wI, bnd_of, bndX_r, bndX_l, ap_of, if_true, if_false, if_pos, if_neg, ite_true, ite_false, not_true_eq_false, not_false_eq_true, Nat.reduceAdd, Nat.reduceMul, Nat.reduceEqDiff, Int.reduceToNat, Int.reduceNeg, f_X1_wrongAt, f_X1_wrongAt_55, f_X1_wrongAt_113, hL.o, hK, hs.o, hcol, hc, cf, cr, cd, a2, a3, hn]
    (first | done | with_reducible rfl | ((repeat' split) <;> (first | with_reducible rfl | (exfalso; omega) | grind)))
  · simp (disch := omega) only [add_i0, cast_add1, cast_sub1, toNat120, i32_lit, i32_neg, i32_add, i32_sub, i32_mul, i32_nat, i32_le, i32_lt, i32_eq, inB_i, Int.toNat_natCast, mI_sI_eq, mI_sI_ne, mR_sR_eq, mR_sR_ne, mI_sR, mR_sI, mK_sI, mN_sI, mn_sI, mJ_sI, mK_sR, mN_sR, mn_sR, mJ_sR, mI_wI, mR_wI, mK_wI, mN_wI, mn_wI, mJ_wI, bnd_of, bndX_r, bndX_l, ap_of, if_true, if_false, if_pos, if_neg, ite_true, ite_false, not_true_eq_false, not_false_eq_true, Nat.reduceAdd, Nat.reduceMul, Nat.reduceEqDiff, Int.reduceToNat, Int.reduceNeg, f_X1_wrongAt, f_X1_wrongAt_55, f_X1_wrongAt_113, hL.o, hK, hs.o, hcol, hc, cf, cr, cd, a2, a3, hn]
    (first | done | with_reducible rfl | ((repeat' split) <;> (first | with_reducible rfl | (exfalso; omega) | grind)))
theorem X1_note (hL : CLay M) (w l e : Int) : f_X1_note 7 (i32 w) (i32 l) (i32 e) M = some ((), noteM M w l e) := by
  simp (disch := omega) only [add_i0, cast_add1, cast_sub1, toNat120, i32_lit, i32_neg, i32_add, i32_sub, i32_mul, i32_nat, i32_le, i32_lt, i32_eq, inB_i, Int.toNat_natCast, mI_sI_eq, mI_sI_ne, mR_sR_eq, mR_sR_ne, mI_sR, mR_sI, mK_sI, mN_sI, mn_sI, mJ_sI, mK_sR, mN_sR, mn_sR, mJ_sR, mI_wI, mR_wI, mK_wI, mN_wI, mn_wI, mJ_wI, bnd_of, bndX_r, bndX_l, ap_of, if_true, if_false, if_pos, if_neg, ite_true, ite_false, not_true_eq_false, not_false_eq_true, Nat.reduceAdd, Nat.reduceMul, Nat.reduceEqDiff, Int.reduceToNat, Int.reduceNeg, f_X1_note, hL.o]
  rfl
theorem X1_checkColumn (hL : CLay M) (hc : ColLay M 21) (hs : ShLay M s) (hS : S.ok) (hC : CSh M s S) (hK : ChkAt M s) (hA : CC M 21 S.fu A) (hrc : mI M 18 1 = i32 A.rc) {l : Nat} (hl : l < S.nl) : f_X1_checkColumn 7 (i32 l) M = some ((), if (colW (wrongS S A l) (A.sz l) 0).1 ≠ 0 then noteM M (colW (wrongS S A l) (A.sz l) 0).1 l (colW (wrongS S A l) (A.sz l) 0).2 else if A.zs l ≠ A.rc then noteM M 4 l (A.sz l) else M) := by
  have hfo := Sc.fo_lt hS hl
  have hw := fun j => @X1_wrongAt M s S A hL hc hs hS hC hK hA l j hl
  have hfs := X2_firsts hc hA (l := l) (by omega)
  rw [lp_zs] at hfs
  have hz := hA.1.2.2.2.1 l
  have hz2 := cnt_le (fun j => decide (A.rp l j = 0)) (A.sz l) 0
  have hzs : A.zs l ≤ A.sz l := hz2
  have hr30 := hA.1.2.2.2.2
  obtain ⟨hok, a1, a2, a3, a4, -⟩ := hA
  have hcol := hc.2.2.2.2.2.2.2.2.2.2
  simp only [Nat.reduceSub] at hcol
  have hnt := fun w l e => @X1_note M hL w l e
  have H : ∀ (k j n : Nat) , j + k = A.sz l → k < n → 
      f_X1_checkColumn_12 n 7 (i32 l) (21 + 4 * l) (i32 j) M = some ((), if (colW (wrongS S A l) k j).1 ≠ 0 then noteM M (colW (wrongS S A l) k j).1 l (colW (wrongS S A l) k j).2 else if A.zs l ≠ A.rc then noteM M 4 l (A.sz l) else M) := by
    intro k
    induction k with
    | zero =>
      intro j n  hj hn 
      obtain ⟨n, rfl⟩ : ∃ m, n = m + 1 := ⟨n - 1, by omega⟩
      have b := wrongS_b S A l j
      simp (disch := omega) only [add_i0, cast_add1, cast_sub1, toNat120, i32_lit, i32_neg, i32_add, i32_sub, i32_mul, i32_nat, i32_le, i32_lt, i32_eq, inB_i, Int.toNat_natCast, mI_sI_eq, mI_sI_ne, mR_sR_eq, mR_sR_ne, mI_sR, mR_sI, mK_sI, mN_sI, mn_sI, mJ_sI, mK_sR, mN_sR, mn_sR, mJ_sR, mI_wI, mR_wI, mK_wI, mN_wI, mn_wI, mJ_wI, bnd_of, bndX_r, bndX_l, ap_of, if_true, if_false, if_pos, if_neg, ite_true, ite_false, not_true_eq_false, not_false_eq_true, Nat.reduceAdd, Nat.reduceMul, Nat.reduceEqDiff, Int.reduceToNat, Int.reduceNeg, f_X1_checkColumn_12, colW, hL.o, hK, hc, a1, hrc, hfs, hw, hnt]
      by_cases c : A.zs l = A.rc
      · simp [c]
      · simp [c, show ¬ ((A.zs l : Int) = A.rc) by omega]
    | succ k ih =>
      intro j n  hj hn 
      obtain ⟨n, rfl⟩ : ∃ m, n = m + 1 := ⟨n - 1, by omega⟩
      have b := wrongS_b S A l j
      by_cases c : wrongS S A l j = 0
      · simp (disch := omega) only [add_i0, cast_add1, cast_sub1, toNat120, i32_lit, i32_neg, i32_add, i32_sub, i32_mul, i32_nat, i32_le, i32_lt, i32_eq, inB_i, Int.toNat_natCast, mI_sI_eq, mI_sI_ne, mR_sR_eq, mR_sR_ne, mI_sR, mR_sI, mK_sI, mN_sI, mn_sI, mJ_sI, mK_sR, mN_sR, mn_sR, mJ_sR, mI_wI, mR_wI, mK_wI, mN_wI, mn_wI, mJ_wI, bnd_of, bndX_r, bndX_l, ap_of, if_true, if_false, if_pos, if_neg, ite_true, ite_false, not_true_eq_false, not_false_eq_true, Nat.reduceAdd, Nat.reduceMul, Nat.reduceEqDiff, Int.reduceToNat, Int.reduceNeg, f_X1_checkColumn_12, colW, hL.o, hK, hc, a1, hrc, hw, hnt, c, ih]
      · simp (disch := omega) only [add_i0, cast_add1, cast_sub1, toNat120, i32_lit, i32_neg, i32_add, i32_sub, i32_mul, i32_nat, i32_le, i32_lt, i32_eq, inB_i, Int.toNat_natCast, mI_sI_eq, mI_sI_ne, mR_sR_eq, mR_sR_ne, mI_sR, mR_sI, mK_sI, mN_sI, mn_sI, mJ_sI, mK_sR, mN_sR, mn_sR, mJ_sR, mI_wI, mR_wI, mK_wI, mN_wI, mn_wI, mJ_wI, bnd_of, bndX_r, bndX_l, ap_of, if_true, if_false, if_pos, if_neg, ite_true, ite_false, not_true_eq_false, not_false_eq_true, Nat.reduceAdd, Nat.reduceMul, Nat.reduceEqDiff, Int.reduceToNat, Int.reduceNeg, f_X1_checkColumn_12, colW, hL.o, hK, hc, a1, hrc, hw, hnt, c, ne_eq]
  have h := H (A.sz l) 0 FUEL (by omega) (by unfold FUEL; omega)
  simp (disch := omega) only [add_i0, cast_add1, cast_sub1, toNat120, i32_lit, i32_neg, i32_add, i32_sub, i32_mul, i32_nat, i32_le, i32_lt, i32_eq, inB_i, Int.toNat_natCast, mI_sI_eq, mI_sI_ne, mR_sR_eq, mR_sR_ne, mI_sR, mR_sI, mK_sI, mN_sI, mn_sI, mJ_sI, mK_sR, mN_sR, mn_sR, mJ_sR, mI_wI, mR_wI, mK_wI, mN_wI, mn_wI, mJ_wI, bnd_of, bndX_r, bndX_l, ap_of, if_true, if_false, if_pos, if_neg, ite_true, ite_false, not_true_eq_false, not_false_eq_true, Nat.reduceAdd, Nat.reduceMul, Nat.reduceEqDiff, Int.reduceToNat, Int.reduceNeg, f_X1_checkColumn, hL.o, hK, hcol]
  exact h
theorem X1_mostShared (hL : CLay M) (hs : ShLay M s) (hS : S.ok) (hC : CSh M s S) (hK : ChkAt M s) {l o : Nat} (hl : l < S.nl) (ho : o < S.nl) : f_X1_mostShared 7 (i32 l) (i32 o) M = some (i32 (S.deep l o), M) := by
  have h := X5_innermostAround hs hS hC hl ho
  have hb := Sc.both_b hS l o
  have hfo := Sc.fo_lt hS hl
  obtain ⟨c0, c1, ck, cg, cl, cd, cr, -⟩ := hC
  unfold Sc.deep
  by_cases e : S.both l o = -1
  · simp (disch := omega) only [add_i0, cast_add1, cast_sub1, toNat120, i32_lit, i32_neg, i32_add, i32_sub, i32_mul, i32_nat, i32_le, i32_lt, i32_eq, inB_i, Int.toNat_natCast, mI_sI_eq, mI_sI_ne, mR_sR_eq, mR_sR_ne, mI_sR, mR_sI, mK_sI, mN_sI, mn_sI, mJ_sI, mK_sR, mN_sR, mn_sR, mJ_sR, mI_wI, mR_wI, mK_wI, mN_wI, mn_wI, mJ_wI, bnd_of, bndX_r, bndX_l, ap_of, if_true, if_false, if_pos, if_neg, ite_true, ite_false, not_true_eq_false, not_false_eq_true, Nat.reduceAdd, Nat.reduceMul, Nat.reduceEqDiff, Int.reduceToNat, Int.reduceNeg, f_X1_mostShared, hL.o, hK, hs.o, h, e]
  · simp (disch := omega) only [add_i0, cast_add1, cast_sub1, toNat120, i32_lit, i32_neg, i32_add, i32_sub, i32_mul, i32_nat, i32_le, i32_lt, i32_eq, inB_i, Int.toNat_natCast, mI_sI_eq, mI_sI_ne, mR_sR_eq, mR_sR_ne, mI_sR, mR_sI, mK_sI, mN_sI, mn_sI, mJ_sI, mK_sR, mN_sR, mn_sR, mJ_sR, mI_wI, mR_wI, mK_wI, mN_wI, mn_wI, mJ_wI, bnd_of, bndX_r, bndX_l, ap_of, if_true, if_false, if_pos, if_neg, ite_true, ite_false, not_true_eq_false, not_false_eq_true, Nat.reduceAdd, Nat.reduceMul, Nat.reduceEqDiff, Int.reduceToNat, Int.reduceNeg, f_X1_mostShared, hL.o, hK, hs.o, h, cd]
theorem X1_checkWithAhead (hL : CLay M) (hc : ColLay M 21) (hs : ShLay M s) (hS : S.ok) (hC : CSh M s S) (hK : ChkAt M s) (hA : CC M 21 S.fu A) {l : Nat} (hl : l < S.nl) (hl1 : 1 ≤ l) : f_X1_checkWithAhead 7 (i32 l) M = some ((), if unlS S A l = -1 then M else noteM M 5 l (unlS S A l)) := by
  have hfo := Sc.fo_lt hS hl
  have e1 := X5_levelOf hs hS hC hl (show l - 1 < S.nl by omega)
  have e2 := X1_mostShared hL hs hS hC hK hl (show l - 1 < S.nl by omega)
  have bl := Sc.lev_b hS l (l - 1)
  have bd := Sc.deep_b hS l (l - 1)
  have hbe := fun e => @X2_behind M 21 (l - 1) S.fu A hc hA (by omega) e (S.lev l (l - 1))
  have hz := hA.1.2.2.2.1 l
  have hz1 := hA.1.2.2.2.1 (l - 1)
  obtain ⟨hok, a1, a2, a3, a4, -⟩ := hA
  have hcol := hc.2.2.2.2.2.2.2.2.2.2
  simp only [Nat.reduceSub] at hcol
  have hnt := fun w l e => @X1_note M hL w l e
  have H : ∀ (k j n : Nat) (fe : Nat), j + k = A.sz l → k < n → fe ≤ A.sz (l - 1) → 
      f_X1_checkWithAhead_57 n 7 (i32 l) (21 + 4 * l) (21 + 4 * (l - 1)) (i32 (S.lev l (l - 1))) (i32 (S.deep l (l - 1))) (i32 fe) (i32 j) M = some ((), if ulC S A l k j fe = -1 then M else noteM M 5 l (ulC S A l k j fe)) := by
    intro k
    induction k with
    | zero =>
      intro j n fe hj hn q0
      obtain ⟨n, rfl⟩ : ∃ m, n = m + 1 := ⟨n - 1, by omega⟩
      have b := St.b hok l j
      have b2 := St.b hok (l - 1) fe
      by_cases c : fe < A.sz (l - 1)
      · simp (disch := omega) only [add_i0, cast_add1, cast_sub1, toNat120, i32_lit, i32_neg, i32_add, i32_sub, i32_mul, i32_nat, i32_le, i32_lt, i32_eq, inB_i, Int.toNat_natCast, mI_sI_eq, mI_sI_ne, mR_sR_eq, mR_sR_ne, mI_sR, mR_sI, mK_sI, mN_sI, mn_sI, mJ_sI, mK_sR, mN_sR, mn_sR, mJ_sR, mI_wI, mR_wI, mK_wI, mN_wI, mn_wI, mJ_wI, bnd_of, bndX_r, bndX_l, ap_of, if_true, if_false, if_pos, if_neg, ite_true, ite_false, not_true_eq_false, not_false_eq_true, Nat.reduceAdd, Nat.reduceMul, Nat.reduceEqDiff, Int.reduceToNat, Int.reduceNeg, f_X1_checkWithAhead_57, ulC, hL.o, hc, a1, hnt]
        (first | done | with_reducible rfl | ((repeat' split) <;> (first | with_reducible rfl | (exfalso; omega) | grind)))
      · simp (disch := omega) only [add_i0, cast_add1, cast_sub1, toNat120, i32_lit, i32_neg, i32_add, i32_sub, i32_mul, i32_nat, i32_le, i32_lt, i32_eq, inB_i, Int.toNat_natCast, mI_sI_eq, mI_sI_ne, mR_sR_eq, mR_sR_ne, mI_sR, mR_sI, mK_sI, mN_sI, mn_sI, mJ_sI, mK_sR, mN_sR, mn_sR, mJ_sR, mI_wI, mR_wI, mK_wI, mN_wI, mn_wI, mJ_wI, bnd_of, bndX_r, bndX_l, ap_of, if_true, if_false, if_pos, if_neg, ite_true, ite_false, not_true_eq_false, not_false_eq_true, Nat.reduceAdd, Nat.reduceMul, Nat.reduceEqDiff, Int.reduceToNat, Int.reduceNeg, f_X1_checkWithAhead_57, ulC, hL.o, hc, a1, hnt]
    | succ k ih =>
      intro j n fe hj hn q0
      obtain ⟨n, rfl⟩ : ∃ m, n = m + 1 := ⟨n - 1, by omega⟩
      have b := St.b hok l j
      have b2 := St.b hok (l - 1) fe
      by_cases c1 : A.rp l j ≤ S.lev l (l - 1)
      · by_cases c2 : fe < A.sz (l - 1)
        · have hb1 := hbe fe (by omega) (by omega) (by omega) (by omega)
          rw [show ((fe : Int) + 1).toNat = fe + 1 by omega] at hb1
          have hbl := behF_le (A.rp (l - 1)) (S.lev l (l - 1)) (A.sz (l - 1) - (fe + 1)) (fe + 1)
          by_cases c3 : A.rp l j = A.rp (l - 1) fe
          · by_cases c4 : min (A.df l j) (S.deep l (l - 1)) = min (A.df (l - 1) fe) (S.deep l (l - 1))
            · simp (disch := omega) only [add_i0, cast_add1, cast_sub1, toNat120, i32_lit, i32_neg, i32_add, i32_sub, i32_mul, i32_nat, i32_le, i32_lt, i32_eq, inB_i, Int.toNat_natCast, mI_sI_eq, mI_sI_ne, mR_sR_eq, mR_sR_ne, mI_sR, mR_sI, mK_sI, mN_sI, mn_sI, mJ_sI, mK_sR, mN_sR, mn_sR, mJ_sR, mI_wI, mR_wI, mK_wI, mN_wI, mn_wI, mJ_wI, bnd_of, bndX_r, bndX_l, ap_of, if_true, if_false, if_pos, if_neg, ite_true, ite_false, not_true_eq_false, not_false_eq_true, Nat.reduceAdd, Nat.reduceMul, Nat.reduceEqDiff, Int.reduceToNat, Int.reduceNeg, f_X1_checkWithAhead_57, f_X1_checkWithAhead_131, f_X1_checkWithAhead_150, ulC, hL.o, hc, a1, a2, a3, imin1, hb1, ih]
            · simp (disch := omega) only [add_i0, cast_add1, cast_sub1, toNat120, i32_lit, i32_neg, i32_add, i32_sub, i32_mul, i32_nat, i32_le, i32_lt, i32_eq, inB_i, Int.toNat_natCast, mI_sI_eq, mI_sI_ne, mR_sR_eq, mR_sR_ne, mI_sR, mR_sI, mK_sI, mN_sI, mn_sI, mJ_sI, mK_sR, mN_sR, mn_sR, mJ_sR, mI_wI, mR_wI, mK_wI, mN_wI, mn_wI, mJ_wI, bnd_of, bndX_r, bndX_l, ap_of, if_true, if_false, if_pos, if_neg, ite_true, ite_false, not_true_eq_false, not_false_eq_true, Nat.reduceAdd, Nat.reduceMul, Nat.reduceEqDiff, Int.reduceToNat, Int.reduceNeg, f_X1_checkWithAhead_57, f_X1_checkWithAhead_131, f_X1_checkWithAhead_150, ulC, hL.o, hc, a1, a2, a3, imin1, hnt]
          · simp (disch := omega) only [add_i0, cast_add1, cast_sub1, toNat120, i32_lit, i32_neg, i32_add, i32_sub, i32_mul, i32_nat, i32_le, i32_lt, i32_eq, inB_i, Int.toNat_natCast, mI_sI_eq, mI_sI_ne, mR_sR_eq, mR_sR_ne, mI_sR, mR_sI, mK_sI, mN_sI, mn_sI, mJ_sI, mK_sR, mN_sR, mn_sR, mJ_sR, mI_wI, mR_wI, mK_wI, mN_wI, mn_wI, mJ_wI, bnd_of, bndX_r, bndX_l, ap_of, if_true, if_false, if_pos, if_neg, ite_true, ite_false, not_true_eq_false, not_false_eq_true, Nat.reduceAdd, Nat.reduceMul, Nat.reduceEqDiff, Int.reduceToNat, Int.reduceNeg, f_X1_checkWithAhead_57, f_X1_checkWithAhead_131, f_X1_checkWithAhead_150, ulC, hL.o, hc, a1, a2, a3, imin1, hnt]
        · simp (disch := omega) only [add_i0, cast_add1, cast_sub1, toNat120, i32_lit, i32_neg, i32_add, i32_sub, i32_mul, i32_nat, i32_le, i32_lt, i32_eq, inB_i, Int.toNat_natCast, mI_sI_eq, mI_sI_ne, mR_sR_eq, mR_sR_ne, mI_sR, mR_sI, mK_sI, mN_sI, mn_sI, mJ_sI, mK_sR, mN_sR, mn_sR, mJ_sR, mI_wI, mR_wI, mK_wI, mN_wI, mn_wI, mJ_wI, bnd_of, bndX_r, bndX_l, ap_of, if_true, if_false, if_pos, if_neg, ite_true, ite_false, not_true_eq_false, not_false_eq_true, Nat.reduceAdd, Nat.reduceMul, Nat.reduceEqDiff, Int.reduceToNat, Int.reduceNeg, f_X1_checkWithAhead_57, f_X1_checkWithAhead_131, f_X1_checkWithAhead_150, ulC, hL.o, hc, a1, a2, a3, hnt]
      · simp (disch := omega) only [add_i0, cast_add1, cast_sub1, toNat120, i32_lit, i32_neg, i32_add, i32_sub, i32_mul, i32_nat, i32_le, i32_lt, i32_eq, inB_i, Int.toNat_natCast, mI_sI_eq, mI_sI_ne, mR_sR_eq, mR_sR_ne, mI_sR, mR_sI, mK_sI, mN_sI, mn_sI, mJ_sI, mK_sR, mN_sR, mn_sR, mJ_sR, mI_wI, mR_wI, mK_wI, mN_wI, mn_wI, mJ_wI, bnd_of, bndX_r, bndX_l, ap_of, if_true, if_false, if_pos, if_neg, ite_true, ite_false, not_true_eq_false, not_false_eq_true, Nat.reduceAdd, Nat.reduceMul, Nat.reduceEqDiff, Int.reduceToNat, Int.reduceNeg, f_X1_checkWithAhead_57, f_X1_checkWithAhead_131, f_X1_checkWithAhead_150, ulC, hL.o, hc, a1, a2, a3, ih]
  have hb0 : f_X2_behind (21 + 4 * (l - 1)) (i32 (-1)) (i32 (S.lev l (l - 1))) M = some (i32 (behF (A.rp (l - 1)) (S.lev l (l - 1)) (A.sz (l - 1)) 0), M) := by
    by_cases c : 0 < A.sz (l - 1)
    · exact hbe (-1) (by omega) (by omega) (by omega) (by omega)
    · exact hbe (-1) (by omega) (by omega) (by omega) (by omega)
  have hbl := behF_le (A.rp (l - 1)) (S.lev l (l - 1)) (A.sz (l - 1)) 0
  have h := H (A.sz l) 0 FUEL (behF (A.rp (l - 1)) (S.lev l (l - 1)) (A.sz (l - 1)) 0) (by omega) (by unfold FUEL; omega) (by omega)
  simp (disch := omega) only [add_i0, cast_add1, cast_sub1, toNat120, i32_lit, i32_neg, i32_add, i32_sub, i32_mul, i32_nat, i32_le, i32_lt, i32_eq, inB_i, Int.toNat_natCast, mI_sI_eq, mI_sI_ne, mR_sR_eq, mR_sR_ne, mI_sR, mR_sI, mK_sI, mN_sI, mn_sI, mJ_sI, mK_sR, mN_sR, mn_sR, mJ_sR, mI_wI, mR_wI, mK_wI, mN_wI, mn_wI, mJ_wI, bnd_of, bndX_r, bndX_l, ap_of, if_true, if_false, if_pos, if_neg, ite_true, ite_false, not_true_eq_false, not_false_eq_true, Nat.reduceAdd, Nat.reduceMul, Nat.reduceEqDiff, Int.reduceToNat, Int.reduceNeg, f_X1_checkWithAhead, hL.o, hK, hs.o, hc, hcol, e1, e2, hb0]
  exact h
end
