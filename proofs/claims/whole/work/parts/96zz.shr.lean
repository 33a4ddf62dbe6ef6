/-! schema, view in the reference: a name -/
def shR (a j : Nat) : Prop := rdR a j ∨ (139 ≤ a ∧ a ≤ 145 ∧ 32 ≤ j) ∨ (a = 146 ∧ 128 ≤ j) ∨ ((a = 147 ∨ a = 148) ∧ j = 2)
def SRL (M : Mem) (S : Sc) (vw : Bool) (tb : Nat → Int) (n : Nat) : Prop := RLay M ∧ TXr M tb n ∧ mI M 134 26 = i32 (if vw = true then 1 else 0) ∧ (vw = true → RS0 M S ∧ S.ok)
/-- a field just opened has no name yet -/
def RTo (M : Mem) (T : Sc) (vw : Bool) (g : Nat) : Prop := mI M 147 2 = i32 T.nf ∧ mI M 148 2 = i32 T.nl ∧ (∀ f, f < T.nf → mI M 139 (32 + f) = i32 (T.kd f)) ∧ (∀ f, f < T.nf → mI M 140 (32 + f) = i32 (T.gr f)) ∧ (∀ f, f < T.nf → mI M 141 (32 + f) = i32 (T.lf f)) ∧ (∀ f, f < T.nf → mI M 142 (32 + f) = i32 (T.sd f)) ∧ (∀ f, f < T.nf → mI M 143 (32 + f) = i32 (T.sr f)) ∧ (∀ f, f < g → mI M 144 (32 + f) = i32 (T.ln f)) ∧ (∀ f i : Nat, f < g → (i : Int) < T.ln f → mI M 146 (4 * (32 + f) + i) = i32 (T.nm (4 * f + i))) ∧ (∀ f, f < T.nf → mI M 145 (32 + f) = i32 (if vw = true then T.tw f else -1))
section
variable {M M' : Mem} {S T : Sc} {f : Nat} {vw : Bool} {tb : Nat → Int} {n : Nat} {g : Int}
theorem RS0.shr (h : RS0 M S) (hS : S.ok) (g : Chg shR M M') : RS0 M' S := by
  have hnf := hS.1
  have hln := hS.2.2.2.2.2.2.2.1
  obtain ⟨c0, c1, c2, c3, c4, c5, c6, c7, c8, c9, c10⟩ := h
  refine ⟨by rw [g.i (by unfold shR rdR; omega)]; exact c0, by rw [g.i (by unfold shR rdR; omega)]; exact c1, fun f h => by rw [g.i (by unfold shR rdR; omega)]; exact c2 f h, fun f h => by rw [g.i (by unfold shR rdR; omega)]; exact c3 f h, fun f h => by rw [g.i (by unfold shR rdR; omega)]; exact c4 f h, fun f h => by rw [g.i (by unfold shR rdR; omega)]; exact c5 f h, fun f h => by rw [g.i (by unfold shR rdR; omega)]; exact c6 f h, fun f h => by rw [g.i (by unfold shR rdR; omega)]; exact c7 f h, fun f i h hi => by have := hln f; rw [g.i (by unfold shR rdR; omega)]; exact c8 f i h hi, fun f h => by rw [g.i (by unfold shR rdR; omega)]; exact c9 f h, fun l h => by rw [g.i (by unfold shR rdR; omega)]; exact c10 l h⟩
theorem SRL.chg (h : SRL M S vw tb n) (g : Chg shR M M') : SRL M' S vw tb n := ⟨h.1.all g, h.2.1.chg g (by unfold shR rdR; omega) (fun i => by unfold shR rdR; omega), by rw [g.i (by unfold shR rdR; omega)]; exact h.2.2.1, fun w => ⟨(h.2.2.2 w).1.shr (h.2.2.2 w).2 g, (h.2.2.2 w).2⟩⟩
theorem RTr.rd (h : RTr M T vw) (g : Chg rdR M M') : RTr M' T vw := by
  obtain ⟨c0, c1, c2, c3, c4, c5, c6, c7, c8, c9⟩ := h
  have e : ∀ a j, 139 ≤ a → mI M' a j = mI M a j := fun a j h => g.i (by unfold rdR; omega)
  exact ⟨by rw [e _ _ (by omega)]; exact c0, by rw [e _ _ (by omega)]; exact c1, fun f h => by rw [e _ _ (by omega)]; exact c2 f h, fun f h => by rw [e _ _ (by omega)]; exact c3 f h, fun f h => by rw [e _ _ (by omega)]; exact c4 f h, fun f h => by rw [e _ _ (by omega)]; exact c5 f h, fun f h => by rw [e _ _ (by omega)]; exact c6 f h, fun f h => by rw [e _ _ (by omega)]; exact c7 f h, fun f i h hi => by rw [e _ _ (by omega)]; exact c8 f i h hi, fun f h => by rw [e _ _ (by omega)]; exact c9 f h⟩
theorem tk_shr (a j : Nat) (h : tkR a j) : shR a j := Or.inl (tkR_rd a j h)
theorem rd_shr (a j : Nat) (h : rdR a j) : shR a j := Or.inl h
theorem RTk.cg {e : Nat} (h : RTk M tb n e) (q : ∀ j, mI M' 134 j = mI M 134 j) : RTk M' tb n e := ⟨by rw [q]; exact h.1, by rw [q]; exact h.2.1, by rw [q]; exact h.2.2.1, by rw [q]; exact h.2.2.2.1, fun w => by rw [q]; exact h.2.2.2.2 w⟩
theorem RTr.twf {v : Int} (h : RTr M T false) : RTr M (T.twi f v) false := h
theorem X12_name142b {x : Int} {y : Nat} (hL : RLay M) (h : RBad M x y) : f_X12_readName_142 134 M = some ((), M) := by
  unfold f_X12_readName_142
  rw [if_pos hL.k, if_neg (by exact h.nz)]
theorem X12_name112 (hL : RLay M) (hR : RTr M T vw) (hT : T.ok) (hf : f + 1 = T.nf) (hgr : T.gr f = g) : f_X12_readName_112 134 (i32 ((32 + f : Nat) : Int)) M = (if fnF T T g f f 0 = -1 then f_X12_readName_142 134 M else bnd (f_X12_wrong 134 (4 : Int32) M) fun _ M10 => f_X12_readName_142 134 M10) := by
  have hnT := hT.1
  have gb := hT.2.2.2.1 f
  rw [hgr] at gb
  have c2 : (2 : Int32).toNatClampNeg = 2 := by decide
  have r23 : mR M 134 23 = 147 := by simp only [hL.o]
  have k147 : mK M 147 = 21 := by simp only [hL.o]
  have n147 : mN M 147 = 3 := by simp only [hL.o]
  have r16 : mR M 134 16 = 140 := by simp only [hL.o]
  have k140 : mK M 140 = 21 := by simp only [hL.o]
  have n140 : mN M 140 = 48 := by simp only [hL.o]
  have inf : inB (i32 ((32 + f : Nat) : Int)) 48 = true := by simp (disch := omega) only [↓reduceIte, add_i0, cast_add1, cast_sub1, toNat120, i32_lit, i32_neg, i32_add, i32_sub, i32_mul, i32_nat, i32_le, i32_lt, i32_eq, inB_i, Int.toNat_natCast, mI_sI_eq, mI_sI_ne, mR_sR_eq, mR_sR_ne, mI_sR, mR_sI, mK_sI, mN_sI, mn_sI, mJ_sI, mK_sR, mN_sR, mn_sR, mJ_sR, mI_wI, mR_wI, mK_wI, mN_wI, mn_wI, mJ_wI, ↓bnd_of, ↓bndX_r, ↓bndX_l, ↓ap_nr, bnd_of, bndX_r, bndX_l, if_true, if_false, ite_true, ite_false, not_true_eq_false, not_false_eq_true, Nat.reduceAdd, Nat.reduceMul, Nat.reduceEqDiff, Int.reduceToNat, Int.reduceNeg, Ilt_t, Ilt_f, Ile_t, Ile_f, Ieq_t, Ieq_f, Nlt_t, Nlt_f, Nle_t, Nle_f, Neq_t, Neq_f, or_true, true_or, or_false, false_or, and_true, true_and, and_false, false_and, ne_eq, or_self, and_self, decide_true, decide_false, Bool.false_eq_true]
  have eg := hR.2.2.2.1 f (by omega)
  rw [hgr] at eg
  have em : i32 ((f + 1 : Nat) : Int) - (1 : Int32) = i32 (f : Int) := by
    rw [show (1 : Int32) = i32 1 from rfl, i32_sub]
    congr 1
    omega
  have en := X12_fieldNamedAs hL (a := g) (by omega) (by omega) (NmR.of2 hR hT) (NmR.of2 hR hT) hT hT (f := f) (by omega) (N := f) (by omega) (by omega)
  have en : f_X12_fieldNamedAs 134 (32 : Int32) (i32 (f : Int)) (i32 g) (i32 ((32 + f : Nat) : Int)) M = _ := en
  have fb := fnF_b T T g f f 0
  unfold f_X12_readName_112
  rw [if_pos hL.k, r23, if_pos k147, n147, if_pos (by decide), r16, if_pos k140, n140, if_pos inf, c2, hR.1, ← hf, em, nat_i (k := 32 + f) (by omega), eg, bx en]
  by_cases c : fnF T T g f f 0 = -1
  · rw [if_pos c, if_pos (by rw [c]; rfl)]
  · have nc : ¬ (i32 (fnF T T g f f 0) = i32 (-1)) := i32_ne (by omega) (by omega) (by omega) (by omega) c
    rw [if_neg c, if_neg (by exact nc), if_pos hL.k]
theorem X12_name55 {e L : Nat} (hT : T.ok) (hf : f < T.nf) (hL4 : L ≤ 4) (he : e ≤ n) (hw : tkE tb n e - tkB tb n e = L) : ∀ (k j m : Nat) (M1 : Mem), j + k = L → k < m → SRL M1 S vw tb n → RTk M1 tb n e → mI M1 144 (32 + f) = i32 L → (∀ i, i < j → mI M1 146 (4 * (32 + f) + i) = i32 (tb (tkB tb n e + i))) → ∃ M', f_X12_readName_55 m 134 (i32 ((32 + f : Nat) : Int)) (i32 j) M1 = (if vw = true then (bnd (f_X12_mayBeSeen 134 (i32 ((32 + f : Nat) : Int)) M') fun r7 M6 => if r7 = 0 then if mK M6 134 = 13 then (bnd (f_X12_wrong 134 (3 : Int32) M6) fun _ M10 => f_X12_readName_112 134 (i32 ((32 + f : Nat) : Int)) M10) else none else f_X12_readName_112 134 (i32 ((32 + f : Nat) : Int)) M6) else f_X12_readName_112 134 (i32 ((32 + f : Nat) : Int)) M') ∧ Chg (fun a i => a = 146 ∧ 4 * (32 + f) ≤ i ∧ i < 4 * (32 + f) + 4) M1 M' ∧ ∀ i, i < L → mI M' 146 (4 * (32 + f) + i) = i32 (tb (tkB tb n e + i)) := by
  have hnT := hT.1
  intro k
  induction k with
  | zero =>
    intro j m M1 hj hm hR hk hl h
    obtain ⟨m, rfl⟩ : ∃ q, m = q + 1 := ⟨m - 1, by omega⟩
    have hL := hR.1
    have r20 : mR M1 134 20 = 144 := by simp only [hL.o]
    have k144 : mK M1 144 = 21 := by simp only [hL.o]
    have n144 : mN M1 144 = 48 := by simp only [hL.o]
    have inf : inB (i32 ((32 + f : Nat) : Int)) 48 = true := by simp (disch := omega) only [↓reduceIte, add_i0, cast_add1, cast_sub1, toNat120, i32_lit, i32_neg, i32_add, i32_sub, i32_mul, i32_nat, i32_le, i32_lt, i32_eq, inB_i, Int.toNat_natCast, mI_sI_eq, mI_sI_ne, mR_sR_eq, mR_sR_ne, mI_sR, mR_sI, mK_sI, mN_sI, mn_sI, mJ_sI, mK_sR, mN_sR, mn_sR, mJ_sR, mI_wI, mR_wI, mK_wI, mN_wI, mn_wI, mJ_wI, ↓bnd_of, ↓bndX_r, ↓bndX_l, ↓ap_nr, bnd_of, bndX_r, bndX_l, if_true, if_false, ite_true, ite_false, not_true_eq_false, not_false_eq_true, Nat.reduceAdd, Nat.reduceMul, Nat.reduceEqDiff, Int.reduceToNat, Int.reduceNeg, Ilt_t, Ilt_f, Ile_t, Ile_f, Ieq_t, Ieq_f, Nlt_t, Nlt_f, Nle_t, Nle_f, Neq_t, Neq_f, or_true, true_or, or_false, false_or, and_true, true_and, and_false, false_and, ne_eq, or_self, and_self, decide_true, decide_false, Bool.false_eq_true]
    refine ⟨M1, ?_, Chg.rf _ M1, fun i hi => h i (by omega)⟩
    unfold f_X12_readName_55
    rw [if_pos hL.k, r20, if_pos k144, n144, if_pos inf, nat_i (k := 32 + f) (by omega), hl, if_pos (by simp (disch := omega) only [↓reduceIte, add_i0, cast_add1, cast_sub1, toNat120, i32_lit, i32_neg, i32_add, i32_sub, i32_mul, i32_nat, i32_le, i32_lt, i32_eq, inB_i, Int.toNat_natCast, mI_sI_eq, mI_sI_ne, mR_sR_eq, mR_sR_ne, mI_sR, mR_sI, mK_sI, mN_sI, mn_sI, mJ_sI, mK_sR, mN_sR, mn_sR, mJ_sR, mI_wI, mR_wI, mK_wI, mN_wI, mn_wI, mJ_wI, ↓bnd_of, ↓bndX_r, ↓bndX_l, ↓ap_nr, bnd_of, bndX_r, bndX_l, if_true, if_false, ite_true, ite_false, not_true_eq_false, not_false_eq_true, Nat.reduceAdd, Nat.reduceMul, Nat.reduceEqDiff, Int.reduceToNat, Int.reduceNeg, Ilt_t, Ilt_f, Ile_t, Ile_f, Ieq_t, Ieq_f, Nlt_t, Nlt_f, Nle_t, Nle_f, Neq_t, Neq_f, or_true, true_or, or_false, false_or, and_true, true_and, and_false, false_and, ne_eq, or_self, and_self, decide_true, decide_false, Bool.false_eq_true])]
    cases vw
    · have e26 : mI M1 134 26 = i32 0 := hR.2.2.1
      rw [e26, if_pos (by rfl), if_neg (show ¬ (false = true) by decide)]
    · have nz : ¬ (i32 1 = i32 0) := i32_ne (by omega) (by omega) (by omega) (by omega) (by omega)
      have e26 : mI M1 134 26 = i32 1 := hR.2.2.1
      rw [e26, if_neg (by exact nz), if_pos (show true = true from rfl)]
  | succ k ih =>
    intro j m M1 hj hm hR hk hl h
    obtain ⟨m, rfl⟩ : ∃ q, m = q + 1 := ⟨m - 1, by omega⟩
    obtain ⟨hL, hTX, h26, hv⟩ := id hR
    have t := tk_b tb he
    have hn := hTX.2.2.1
    have r20 : mR M1 134 20 = 144 := by simp only [hL.o]
    have k144 : mK M1 144 = 21 := by simp only [hL.o]
    have n144 : mN M1 144 = 48 := by simp only [hL.o]
    have r3 : mR M1 134 3 = 137 := by simp only [hL.o]
    have k137 : mK M1 137 = 21 := by simp only [hL.o]
    have n137 : mN M1 137 = 700 := by simp only [hL.o]
    have r22 : mR M1 134 22 = 146 := by simp only [hL.o]
    have k146 : mK M1 146 = 21 := by simp only [hL.o]
    have n146 : mN M1 146 = 192 := by simp only [hL.o]
    have inf : inB (i32 ((32 + f : Nat) : Int)) 48 = true := by simp (disch := omega) only [↓reduceIte, add_i0, cast_add1, cast_sub1, toNat120, i32_lit, i32_neg, i32_add, i32_sub, i32_mul, i32_nat, i32_le, i32_lt, i32_eq, inB_i, Int.toNat_natCast, mI_sI_eq, mI_sI_ne, mR_sR_eq, mR_sR_ne, mI_sR, mR_sI, mK_sI, mN_sI, mn_sI, mJ_sI, mK_sR, mN_sR, mn_sR, mJ_sR, mI_wI, mR_wI, mK_wI, mN_wI, mn_wI, mJ_wI, ↓bnd_of, ↓bndX_r, ↓bndX_l, ↓ap_nr, bnd_of, bndX_r, bndX_l, if_true, if_false, ite_true, ite_false, not_true_eq_false, not_false_eq_true, Nat.reduceAdd, Nat.reduceMul, Nat.reduceEqDiff, Int.reduceToNat, Int.reduceNeg, Ilt_t, Ilt_f, Ile_t, Ile_f, Ieq_t, Ieq_f, Nlt_t, Nlt_f, Nle_t, Nle_f, Neq_t, Neq_f, or_true, true_or, or_false, false_or, and_true, true_and, and_false, false_and, ne_eq, or_self, and_self, decide_true, decide_false, Bool.false_eq_true]
    have lt : ¬ (i32 (L : Int) ≤ i32 (j : Int)) := by simp (disch := omega) only [↓reduceIte, add_i0, cast_add1, cast_sub1, toNat120, i32_lit, i32_neg, i32_add, i32_sub, i32_mul, i32_nat, i32_le, i32_lt, i32_eq, inB_i, Int.toNat_natCast, mI_sI_eq, mI_sI_ne, mR_sR_eq, mR_sR_ne, mI_sR, mR_sI, mK_sI, mN_sI, mn_sI, mJ_sI, mK_sR, mN_sR, mn_sR, mJ_sR, mI_wI, mR_wI, mK_wI, mN_wI, mn_wI, mJ_wI, ↓bnd_of, ↓bndX_r, ↓bndX_l, ↓ap_nr, bnd_of, bndX_r, bndX_l, if_true, if_false, ite_true, ite_false, not_true_eq_false, not_false_eq_true, Nat.reduceAdd, Nat.reduceMul, Nat.reduceEqDiff, Int.reduceToNat, Int.reduceNeg, Ilt_t, Ilt_f, Ile_t, Ile_f, Ieq_t, Ieq_f, Nlt_t, Nlt_f, Nle_t, Nle_f, Neq_t, Neq_f, or_true, true_or, or_false, false_or, and_true, true_and, and_false, false_and, ne_eq, or_self, and_self, decide_true, decide_false, Bool.false_eq_true]
    have e10 : mI M1 134 10 + i32 (j : Int) = i32 ((tkB tb n e + j : Nat) : Int) := by
      rw [hk.2.1, i32_add]
      rfl
    have in3 : inB (i32 ((tkB tb n e + j : Nat) : Int)) 700 = true := by simp (disch := omega) only [↓reduceIte, add_i0, cast_add1, cast_sub1, toNat120, i32_lit, i32_neg, i32_add, i32_sub, i32_mul, i32_nat, i32_le, i32_lt, i32_eq, inB_i, Int.toNat_natCast, mI_sI_eq, mI_sI_ne, mR_sR_eq, mR_sR_ne, mI_sR, mR_sI, mK_sI, mN_sI, mn_sI, mJ_sI, mK_sR, mN_sR, mn_sR, mJ_sR, mI_wI, mR_wI, mK_wI, mN_wI, mn_wI, mJ_wI, ↓bnd_of, ↓bndX_r, ↓bndX_l, ↓ap_nr, bnd_of, bndX_r, bndX_l, if_true, if_false, ite_true, ite_false, not_true_eq_false, not_false_eq_true, Nat.reduceAdd, Nat.reduceMul, Nat.reduceEqDiff, Int.reduceToNat, Int.reduceNeg, Ilt_t, Ilt_f, Ile_t, Ile_f, Ieq_t, Ieq_f, Nlt_t, Nlt_f, Nle_t, Nle_f, Neq_t, Neq_f, or_true, true_or, or_false, false_or, and_true, true_and, and_false, false_and, ne_eq, or_self, and_self, decide_true, decide_false, Bool.false_eq_true]
    have e4 : (4 : Int32) * i32 ((32 + f : Nat) : Int) + i32 (j : Int) = i32 ((4 * (32 + f) + j : Nat) : Int) := by
      rw [show (4 : Int32) = i32 4 from rfl, i32_mul, i32_add]
      congr 1
    have in4 : inB (i32 ((4 * (32 + f) + j : Nat) : Int)) 192 = true := by simp (disch := omega) only [↓reduceIte, add_i0, cast_add1, cast_sub1, toNat120, i32_lit, i32_neg, i32_add, i32_sub, i32_mul, i32_nat, i32_le, i32_lt, i32_eq, inB_i, Int.toNat_natCast, mI_sI_eq, mI_sI_ne, mR_sR_eq, mR_sR_ne, mI_sR, mR_sI, mK_sI, mN_sI, mn_sI, mJ_sI, mK_sR, mN_sR, mn_sR, mJ_sR, mI_wI, mR_wI, mK_wI, mN_wI, mn_wI, mJ_wI, ↓bnd_of, ↓bndX_r, ↓bndX_l, ↓ap_nr, bnd_of, bndX_r, bndX_l, if_true, if_false, ite_true, ite_false, not_true_eq_false, not_false_eq_true, Nat.reduceAdd, Nat.reduceMul, Nat.reduceEqDiff, Int.reduceToNat, Int.reduceNeg, Ilt_t, Ilt_f, Ile_t, Ile_f, Ieq_t, Ieq_f, Nlt_t, Nlt_f, Nle_t, Nle_f, Neq_t, Neq_f, or_true, true_or, or_false, false_or, and_true, true_and, and_false, false_and, ne_eq, or_self, and_self, decide_true, decide_false, Bool.false_eq_true]
    have ev : mI M1 137 (tkB tb n e + j) = i32 (tb (tkB tb n e + j)) := hTX.2.1 _ (by omega)
    obtain ⟨M2, em⟩ : ∃ M2, sI M1 146 (4 * (32 + f) + j) (i32 (tb (tkB tb n e + j))) = M2 := ⟨_, rfl⟩
    have g2 : Chg (fun a i => a = 146 ∧ 4 * (32 + f) ≤ i ∧ i < 4 * (32 + f) + 4) M1 M2 := by rw [← em]; exact (Chg.rf _ M1).sI (by omega)
    obtain ⟨M3, e3, g3, w3⟩ := ih (j + 1) m M2 (by omega) (by omega) (hR.chg (g2.mono (fun a i h => by unfold shR; omega))) (hk.cg (fun i => g2.i (by omega))) (by rw [g2.i (by omega)]; exact hl) (fun i hi => by
      by_cases c : i = j
      · subst c
        rw [← em, mI_sI_eq]
      · rw [← em, mI_sI_ne (by omega)]
        exact h i (by omega))
    refine ⟨M3, ?_, g2.tr g3, w3⟩
    rw [← e3]
    conv => lhs; unfold f_X12_readName_55
    rw [if_pos hL.k, r20, if_pos k144, n144, if_pos inf, nat_i (k := 32 + f) (by omega), hl, if_neg lt, r3, if_pos k137, e10, n137, if_pos in3, r22, if_pos k146, e4, n146, if_pos in4, nat_i (k := 4 * (32 + f) + j) (by omega), nat_i (k := tkB tb n e + j) (by omega), ev, ap_of, em, k_add1]
theorem X12_readName {e : Nat} (hR : SRL M S vw tb n) (hTr : RTo M T vw f) (hT : T.ok) (hf : f + 1 = T.nf) (hgr : T.gr f = g) (htw : T.tw f = -1) (hb : mI M 134 12 = i32 0) (he : e ≤ n) (hk : RTk M tb n e) : ∃ M', f_X12_readName 134 (i32 ((32 + f : Nat) : Int)) M = some ((), M') ∧ Chg shR M M' ∧ (if tkK tb n e = 1 then (if tkE tb n e - tkB tb n e ≤ 4 then (if vw = true ∧ ¬ seeO S (shT1 tb n T f e) g (twV vw S (shT1 tb n T f e) g f) (T.kd f) then RBad M' 3 (tkB tb n e) else if fnF (shT2 vw S tb n T g f e) (shT2 vw S tb n T g f e) g f f 0 ≠ -1 then RBad M' 4 (tkB tb n e) else (RTk M' tb n (tkE tb n e) ∧ mI M' 134 12 = i32 0 ∧ RTr M' (shT2 vw S tb n T g f e) vw ∧ (shT2 vw S tb n T g f e).ok)) else RBad M' 2 (tkB tb n e)) else RBad M' 1 (tkB tb n e)) := by
  obtain ⟨hL, hTX, h26, hv⟩ := id hR
  have hnT := hT.1
  have hbt := hTX.2.2.2
  have tkb := tkK_b tb hbt n e
  have t := tk_b tb he
  have hn := hTX.2.2.1
  have r20 : mR M 134 20 = 144 := by simp only [hL.o]
  have k144 : mK M 144 = 21 := by simp only [hL.o]
  have n144 : mN M 144 = 48 := by simp only [hL.o]
  have inf : inB (i32 ((32 + f : Nat) : Int)) 48 = true := by simp (disch := omega) only [↓reduceIte, add_i0, cast_add1, cast_sub1, toNat120, i32_lit, i32_neg, i32_add, i32_sub, i32_mul, i32_nat, i32_le, i32_lt, i32_eq, inB_i, Int.toNat_natCast, mI_sI_eq, mI_sI_ne, mR_sR_eq, mR_sR_ne, mI_sR, mR_sI, mK_sI, mN_sI, mn_sI, mJ_sI, mK_sR, mN_sR, mn_sR, mJ_sR, mI_wI, mR_wI, mK_wI, mN_wI, mn_wI, mJ_wI, ↓bnd_of, ↓bndX_r, ↓bndX_l, ↓ap_nr, bnd_of, bndX_r, bndX_l, if_true, if_false, ite_true, ite_false, not_true_eq_false, not_false_eq_true, Nat.reduceAdd, Nat.reduceMul, Nat.reduceEqDiff, Int.reduceToNat, Int.reduceNeg, Ilt_t, Ilt_f, Ile_t, Ile_f, Ieq_t, Ieq_f, Nlt_t, Nlt_f, Nle_t, Nle_f, Neq_t, Neq_f, or_true, true_or, or_false, false_or, and_true, true_and, and_false, false_and, ne_eq, or_self, and_self, decide_true, decide_false, Bool.false_eq_true]
  have nf := nat_i (k := 32 + f) (by omega)
  by_cases c1 : tkK tb n e = 1
  · simp only [if_pos c1]
    have r1 : rkK tb n e = 1 := tkb.2.2.2.2.2.2.1.mp c1
    have ew : mI M 134 11 - mI M 134 10 = i32 ((tkE tb n e - tkB tb n e : Nat) : Int) := by
      rw [hk.2.1, hk.2.2.1, i32_sub]
      congr 1
      omega
    obtain ⟨M1, em⟩ : ∃ M1, sI M 144 (32 + f) (i32 ((tkE tb n e - tkB tb n e : Nat) : Int)) = M1 := ⟨_, rfl⟩
    have g1 : Chg (fun a i => a = 144 ∧ i = 32 + f) M M1 := by rw [← em]; exact (Chg.rf _ M).sI ⟨rfl, rfl⟩
    have gs1 : Chg shR M M1 := g1.mono (fun a j h => by unfold shR; omega)
    have hR1 := hR.chg gs1
    have hL1 := hR1.1
    have q134 : ∀ j, mI M1 134 j = mI M 134 j := fun j => g1.i (by omega)
    have hk1 : RTk M1 tb n e := hk.cg q134
    have hb1 : mI M1 134 12 = i32 0 := by rw [q134]; exact hb
    have st : f_X12_readName 134 (i32 ((32 + f : Nat) : Int)) M = (if i32 ((tkE tb n e - tkB tb n e : Nat) : Int) ≤ (4 : Int32) then f_X12_readName_55 FUEL 134 (i32 ((32 + f : Nat) : Int)) (0 : Int32) M1 else (bnd (f_X12_wrong 134 (2 : Int32) M1) fun _ M11 => some ((), M11))) := by
      have e144 : mI M1 144 (32 + f) = i32 ((tkE tb n e - tkB tb n e : Nat) : Int) := by rw [← em, mI_sI_eq]
      have r201 : mR M1 134 20 = 144 := by simp only [hL1.o]
      have k1441 : mK M1 144 = 21 := by simp only [hL1.o]
      have n1441 : mN M1 144 = 48 := by simp only [hL1.o]
      unfold f_X12_readName
      rw [if_pos hL.k, hb, if_pos (by rfl), hk.1, r1, if_pos (by rfl), r20, if_pos k144, n144, if_pos inf, nf, ew, ap_of, em, if_pos hL1.k, r201, if_pos k1441, n1441, if_pos inf, e144]
    rw [st]
    by_cases c2 : tkE tb n e - tkB tb n e ≤ 4
    · simp only [if_pos c2]
      rw [if_pos (by simp (disch := omega) only [↓reduceIte, add_i0, cast_add1, cast_sub1, toNat120, i32_lit, i32_neg, i32_add, i32_sub, i32_mul, i32_nat, i32_le, i32_lt, i32_eq, inB_i, Int.toNat_natCast, mI_sI_eq, mI_sI_ne, mR_sR_eq, mR_sR_ne, mI_sR, mR_sI, mK_sI, mN_sI, mn_sI, mJ_sI, mK_sR, mN_sR, mn_sR, mJ_sR, mI_wI, mR_wI, mK_wI, mN_wI, mn_wI, mJ_wI, ↓bnd_of, ↓bndX_r, ↓bndX_l, ↓ap_nr, bnd_of, bndX_r, bndX_l, if_true, if_false, ite_true, ite_false, not_true_eq_false, not_false_eq_true, Nat.reduceAdd, Nat.reduceMul, Nat.reduceEqDiff, Int.reduceToNat, Int.reduceNeg, Ilt_t, Ilt_f, Ile_t, Ile_f, Ieq_t, Ieq_f, Nlt_t, Nlt_f, Nle_t, Nle_f, Neq_t, Neq_f, or_true, true_or, or_false, false_or, and_true, true_and, and_false, false_and, ne_eq, or_self, and_self, decide_true, decide_false, Bool.false_eq_true])]
      obtain ⟨M2, e2, g2, w2⟩ := X12_name55 (S := S) (vw := vw) (tb := tb) (n := n) hT (f := f) (by omega) c2 he rfl (tkE tb n e - tkB tb n e) 0 FUEL M1 (by omega) (by unfold FUEL; omega) hR1 hk1 (by rw [← em, mI_sI_eq]) (fun i hi => by omega)
      have e2 : f_X12_readName_55 FUEL 134 (i32 ((32 + f : Nat) : Int)) (0 : Int32) M1 = _ := e2
      rw [e2]
      have gs2 : Chg shR M1 M2 := g2.mono (fun a j h => by unfold shR; omega)
      have hR2 := hR1.chg gs2
      have hL2 := hR2.1
      have q2 : ∀ j, mI M2 134 j = mI M 134 j := fun j => by rw [g2.i (by omega), q134]
      have hk2 : RTk M2 tb n e := hk.cg q2
      have hb2 : mI M2 134 12 = i32 0 := by rw [q2]; exact hb
      have hT1 : (shT1 tb n T f e).ok := nam_ok hT c2 hbt
      have tr1 : RTr M2 (shT1 tb n T f e) vw := by
        obtain ⟨d0, d1, d2, d3, d4, d5, d6, d7, d8, d9⟩ := hTr
        have q : ∀ a j, a ≠ 144 → a ≠ 146 → mI M2 a j = mI M a j := fun a j h1 h2 => by rw [g2.i (by omega), g1.i (by omega)]
        refine ⟨by rw [q _ _ (by omega) (by omega)]; exact d0, by rw [q _ _ (by omega) (by omega)]; exact d1, fun f' h => by rw [q _ _ (by omega) (by omega)]; exact d2 f' h, fun f' h => by rw [q _ _ (by omega) (by omega)]; exact d3 f' h, fun f' h => by rw [q _ _ (by omega) (by omega)]; exact d4 f' h, fun f' h => by rw [q _ _ (by omega) (by omega)]; exact d5 f' h, fun f' h => by rw [q _ _ (by omega) (by omega)]; exact d6 f' h, fun f' h => ?_, fun f' i h hi => ?_, fun f' h => by rw [q _ _ (by omega) (by omega)]; exact d9 f' h⟩
        · show _ = i32 (upf T.ln f ((tkE tb n e - tkB tb n e : Nat) : Int) f')
          rw [g2.i (by omega)]
          by_cases c : f' = f
          · rw [c, upf_eq, ← em, mI_sI_eq]
          · have h : f' < T.nf := h
            rw [upf_ne _ _ c, g1.i (by omega)]; exact d7 f' (by omega)
        · have hi : (i : Int) < upf T.ln f ((tkE tb n e - tkB tb n e : Nat) : Int) f' := hi
          show _ = i32 (if 4 * f ≤ 4 * f' + i ∧ 4 * f' + i < 4 * f + (tkE tb n e - tkB tb n e) then tb (tkB tb n e + (4 * f' + i - 4 * f)) else T.nm (4 * f' + i))
          by_cases c : f' = f
          · subst c
            rw [upf_eq] at hi
            rw [if_pos (by omega), show 4 * f' + i - 4 * f' = i by omega]
            exact w2 i (by omega)
          · rw [upf_ne _ _ c] at hi
            have := hT.2.2.2.2.2.2.2.1 f'
            rw [if_neg (by omega), g2.i (by omega), g1.i (by omega)]
            have h : f' < T.nf := h
            exact d8 f' i (by omega) hi
      have hsb : SB S vw := fun w => (hv w).2
      have tv := twV_b (T := shT1 tb n T f e) (g := g) hsb (f := f) (by omega)
      have hT2 : (shT2 vw S tb n T g f e).ok := twi_ok hT1 tv.1 tv.2.1
      have kd1 : (shT1 tb n T f e).kd f = T.kd f := rfl
      -- after the twin: the other names
      have last : ∀ M3, Chg shR M M3 → SRL M3 S vw tb n → RTr M3 (shT2 vw S tb n T g f e) vw → RTk M3 tb n e → mI M3 134 12 = i32 0 → ∃ M', f_X12_readName_112 134 (i32 ((32 + f : Nat) : Int)) M3 = some ((), M') ∧ Chg shR M M' ∧ (if fnF (shT2 vw S tb n T g f e) (shT2 vw S tb n T g f e) g f f 0 ≠ -1 then RBad M' 4 (tkB tb n e) else (RTk M' tb n (tkE tb n e) ∧ mI M' 134 12 = i32 0 ∧ RTr M' (shT2 vw S tb n T g f e) vw ∧ (shT2 vw S tb n T g f e).ok)) := fun M3 g3 hR3 tr3 hk3 hb3 => by
        have e3 := X12_name112 (T := shT2 vw S tb n T g f e) (f := f) (g := g) hR3.1 tr3 hT2 hf hgr
        rw [e3]
        by_cases c : fnF (shT2 vw S tb n T g f e) (shT2 vw S tb n T g f e) g f f 0 = -1
        · rw [if_pos c]
          simp only [if_neg (show ¬ (fnF (shT2 vw S tb n T g f e) (shT2 vw S tb n T g f e) g f f 0 ≠ -1) from fun u => u c)]
          obtain ⟨M4, e4, g4, k4⟩ := X12_stepOn hR3.1 hR3.2.1 hk3.2.2.2.1 t.2.2.2.1
          refine ⟨M4, ?_, g3.tr (g4.mono tk_shr), k4, bad.tk hb3 g4, tr3.rd (g4.mono tkR_rd), hT2⟩
          unfold f_X12_readName_142
          rw [if_pos hR3.1.k, hb3, if_pos (by rfl), bx e4]
        · rw [if_neg c]
          simp only [if_pos (show fnF (shT2 vw S tb n T g f e) (shT2 vw S tb n T g f e) g f f 0 ≠ -1 from c)]
          obtain ⟨M4, e4, g4, b4⟩ := X12_wrong hR3.1 hb3 hk3.2.1 4 (by omega) (by omega)
          have e4 : f_X12_wrong 134 (4 : Int32) M3 = _ := e4
          refine ⟨M4, ?_, g3.tr (g4.mono rd_shr), b4⟩
          rw [bx e4, X12_name142b (hR3.chg (g4.mono rd_shr)).1 b4]
      cases vw
      · rw [if_neg (show ¬ (false = true) by decide)]
        obtain ⟨M', p1, p2, p3⟩ := last M2 (gs1.tr gs2) hR2 (RTr.twf tr1) hk2 hb2
        refine ⟨M', p1, p2, ?_⟩
        rw [if_neg (fun u => absurd u.1 (by decide))]
        exact p3
      · rw [if_pos rfl]
        obtain ⟨hR0, hSo⟩ := hR2.2.2.2 rfl
        obtain ⟨M3, e3, g3, tr3⟩ := X12_mayBeSeen (T := shT1 tb n T f e) (f := f) (g := g) hL2 hR0 tr1 hSo hT1 (by show f < T.nf; omega) hgr
        rw [kd1] at e3
        have gs3 : Chg shR M2 M3 := g3.mono (fun a j h => by unfold shR; omega)
        have hR3 := hR2.chg gs3
        have q3 : ∀ j, mI M3 134 j = mI M2 134 j := fun j => g3.i (by omega)
        have hk3 : RTk M3 tb n e := hk2.cg q3
        have hb3 : mI M3 134 12 = i32 0 := by rw [q3]; exact hb2
        rw [bx e3]
        by_cases c3 : seeO S (shT1 tb n T f e) g (twV true S (shT1 tb n T f e) g f) (T.kd f)
        · have nz : ¬ (i32 1 = i32 0) := i32_ne (by omega) (by omega) (by omega) (by omega) (by omega)
          rw [if_neg (show ¬ ¬ seeO S (shT1 tb n T f e) g (twV true S (shT1 tb n T f e) g f) (T.kd f) from fun u => u c3), if_neg (by exact nz)]
          obtain ⟨M', p1, p2, p3⟩ := last M3 (gs1.tr (gs2.tr gs3)) hR3 tr3 hk3 hb3
          refine ⟨M', p1, p2, ?_⟩
          rw [if_neg (fun u => u.2 c3)]
          exact p3
        · rw [if_pos c3, if_pos (by rfl), if_pos hR3.1.k]
          obtain ⟨M4, e4, g4, b4⟩ := X12_wrong hR3.1 hb3 hk3.2.1 3 (by omega) (by omega)
          have e4 : f_X12_wrong 134 (3 : Int32) M3 = _ := e4
          have hR4 := hR3.chg (g4.mono rd_shr)
          have e5 := X12_name112 (T := shT2 true S tb n T g f e) (f := f) (g := g) hR4.1 (tr3.rd g4) hT2 hf hgr
          refine ⟨M4, ?_, (gs1.tr (gs2.tr gs3)).tr (g4.mono rd_shr), ?_⟩
          · rw [bx e4, e5]
            by_cases c : fnF (shT2 true S tb n T g f e) (shT2 true S tb n T g f e) g f f 0 = -1
            · rw [if_pos c, X12_name142b hR4.1 b4]
            · rw [if_neg c, bx (X12_wrongN hR4.1 b4 (4 : Int32)), X12_name142b hR4.1 b4]
          · rw [if_pos ⟨rfl, c3⟩]
            exact b4
    · simp only [if_neg c2]
      rw [if_neg (by simp (disch := omega) only [↓reduceIte, add_i0, cast_add1, cast_sub1, toNat120, i32_lit, i32_neg, i32_add, i32_sub, i32_mul, i32_nat, i32_le, i32_lt, i32_eq, inB_i, Int.toNat_natCast, mI_sI_eq, mI_sI_ne, mR_sR_eq, mR_sR_ne, mI_sR, mR_sI, mK_sI, mN_sI, mn_sI, mJ_sI, mK_sR, mN_sR, mn_sR, mJ_sR, mI_wI, mR_wI, mK_wI, mN_wI, mn_wI, mJ_wI, ↓bnd_of, ↓bndX_r, ↓bndX_l, ↓ap_nr, bnd_of, bndX_r, bndX_l, if_true, if_false, ite_true, ite_false, not_true_eq_false, not_false_eq_true, Nat.reduceAdd, Nat.reduceMul, Nat.reduceEqDiff, Int.reduceToNat, Int.reduceNeg, Ilt_t, Ilt_f, Ile_t, Ile_f, Ieq_t, Ieq_f, Nlt_t, Nlt_f, Nle_t, Nle_f, Neq_t, Neq_f, or_true, true_or, or_false, false_or, and_true, true_and, and_false, false_and, ne_eq, or_self, and_self, decide_true, decide_false, Bool.false_eq_true])]
      obtain ⟨M2, e2, g2, b2⟩ := X12_wrong hL1 hb1 hk1.2.1 2 (by omega) (by omega)
      have e2 : f_X12_wrong 134 (2 : Int32) M1 = _ := e2
      refine ⟨M2, ?_, gs1.tr (g2.mono rd_shr), b2⟩
      rw [bx e2]
  · simp only [if_neg c1]
    have r1 : rkK tb n e ≠ 1 := fun u => c1 (tkb.2.2.2.2.2.2.1.mpr u)
    have nr : ¬ (i32 (rkK tb n e) = i32 1) := i32_ne (by omega) (by omega) (by omega) (by omega) r1
    obtain ⟨M1, e1, g1, b1⟩ := X12_wrong hL hb hk.2.1 1 (by omega) (by omega)
    have e1 : f_X12_wrong 134 (1 : Int32) M = _ := e1
    refine ⟨M1, ?_, g1.mono rd_shr, b1⟩
    unfold f_X12_readName
    rw [if_pos hL.k, hb, if_pos (by rfl), hk.1, if_neg (by exact nr), bx e1]
end
