/-! CHECK in the reference -/
theorem Ilt_t {a b : Int} (h : a < b) : (a < b) = True := eq_true h
theorem Ilt_f {a b : Int} (h : b ≤ a) : (a < b) = False := eq_false (by omega)
theorem Ile_t {a b : Int} (h : a ≤ b) : (a ≤ b) = True := eq_true h
theorem Ile_f {a b : Int} (h : b < a) : (a ≤ b) = False := eq_false (by omega)
theorem Ieq_t {a b : Int} (h : a = b) : (a = b) = True := eq_true h
theorem Ieq_f {a b : Int} (h : a ≠ b) : (a = b) = False := eq_false h
theorem Nlt_t {a b : Nat} (h : a < b) : (a < b) = True := eq_true h
theorem Nlt_f {a b : Nat} (h : b ≤ a) : (a < b) = False := eq_false (by omega)
theorem Nle_t {a b : Nat} (h : a ≤ b) : (a ≤ b) = True := eq_true h
theorem Nle_f {a b : Nat} (h : b < a) : (a ≤ b) = False := eq_false (by omega)
theorem Neq_t {a b : Nat} (h : a = b) : (a = b) = True := eq_true h
theorem Neq_f {a b : Nat} (h : a ≠ b) : (a = b) = False := eq_false h
/-- a call whose answer is known, and what follows -/
theorem bx {α β : Type} {x : Option (α × Mem)} {r : α} {M : Mem} (h : x = some (r, M)) (f : α → Mem → Option β) : bnd x f = f r M := by rw [h]; rfl
theorem bxX {α β : Type} {x : Option ((Nat ⊕ α) × Mem)} {r : α} {M : Mem} (h : x = some (.inr r, M)) (f : α → Mem → Option ((Nat ⊕ β) × Mem)) : bndX x f = f r M := by rw [h]; rfl
theorem bxL {α β : Type} {x : Option ((Nat ⊕ α) × Mem)} {e : Nat} {M : Mem} (h : x = some (.inl e, M)) (f : α → Mem → Option ((Nat ⊕ β) × Mem)) : bndX x f = some (.inl e, M) := by rw [h]; rfl
theorem k_sub1 {l : Nat} (h : 1 ≤ l) : i32 (l : Int) - (1 : Int32) = i32 ((l - 1 : Nat) : Int) := by
  rw [← cast_sub1 h, ← i32_sub]; rfl
theorem k_add1 (l : Nat) : i32 (l : Int) + (1 : Int32) = i32 ((l + 1 : Nat) : Int) := i32_add l 1
def wrM (M : Mem) (l e : Int) : Mem := sI (sI M 134 34 (i32 l)) 134 35 (i32 e)
theorem wrM_scr (M : Mem) (l e : Int) : Scr M (wrM M l e) := ((Scr.rf M).sI (by unfold ScI; omega)).sI (by unfold ScI; omega)
theorem imin2 (a b : Int) : (if a < b then i32 a else i32 b) = i32 (min a b) := by
  split
  · congr 1; omega
  · congr 1; omega
section
variable {M : Mem} {S : Sc} {A : St}
/-- the reference's view of schema and stripes -/
def RV (M : Mem) (S : Sc) (A : St) : Prop := RLay M ∧ RS0 M S ∧ RE M A
theorem RV.scr {M M' : Mem} (h : RV M S A) (hS : S.ok) (g : Scr M M') : RV M' S A := ⟨h.1.scr g, h.2.1.scr hS g, h.2.2.scr g⟩
theorem X12_wrongAt (hW : S.wf) (hV : RV M S A) {l j : Nat} (hl : l < S.nl) (hj : j < A.sz l) : f_X12_wrongAt 134 (i32 l) (i32 j) M = some (i32 (wrongS S A l j), M) := by
  have hS := hW.1
  obtain ⟨hL, hR, hE⟩ := hV
  have hfo := Sc.fo_lt hS hl
  have b := St.b hE.1 l j
  have b2 := St.b hE.1 l (j - 1)
  have er := X12_repAt hL hE (l := l) (j := j) (by omega) hj
  have ed := X12_defAt hL hE (l := l) (j := j) (by omega) hj
  have b3 := Sc.sr_b hS (S.fo l)
  have b4 := Sc.sd_b hS (S.fo l)
  have hnb := needS_b hS l (A.rp l j)
  have hR0 := hR
  obtain ⟨c0, c1, ck, cg, cl, cd, cr, -, -, -, cf⟩ := hR
  by_cases d0 : A.rp l j = 0
  · have hn0 : needS S l (A.rp l j) = 0 := by
      unfold needS
      rw [if_neg (by omega)]
    unfold wrongS
    simp (disch := omega) only [add_i0, cast_add1, cast_sub1, toNat120, i32_lit, i32_neg, i32_add, i32_sub, i32_mul, i32_nat, i32_le, i32_lt, i32_eq, inB_i, Int.toNat_natCast, mI_sI_eq, mI_sI_ne, mR_sR_eq, mR_sR_ne, mI_sR, mR_sI, mK_sI, mN_sI, mn_sI, mJ_sI, mK_sR, mN_sR, mn_sR, mJ_sR, mI_wI, mR_wI, mK_wI, mN_wI, mn_wI, mJ_wI, ↓bnd_of, ↓bndX_r, ↓bndX_l, ↓ap_of, if_true, if_false, ite_true, ite_false, not_true_eq_false, not_false_eq_true, Nat.reduceAdd, Nat.reduceMul, Nat.reduceEqDiff, Int.reduceToNat, Int.reduceNeg, Ilt_t, Ilt_f, Ile_t, Ile_f, Ieq_t, Ieq_f, Nlt_t, Nlt_f, Nle_t, Nle_f, Neq_t, Neq_f, or_true, true_or, or_false, false_or, and_true, true_and, and_false, false_and, ne_eq, or_self, and_self, decide_true, decide_false, Bool.false_eq_true, f_X12_wrongAt, f_X12_wrongAt_32, hL.o, cf, cr, cd, ↓bx er, ↓bx ed, d0, hn0]
    (first | done | with_reducible rfl | ((repeat' split) <;> (first | with_reducible rfl | (exfalso; omega) | grind)))
  · by_cases d1 : S.sr (S.fo l) < A.rp l j
    · unfold wrongS
      simp (disch := omega) only [add_i0, cast_add1, cast_sub1, toNat120, i32_lit, i32_neg, i32_add, i32_sub, i32_mul, i32_nat, i32_le, i32_lt, i32_eq, inB_i, Int.toNat_natCast, mI_sI_eq, mI_sI_ne, mR_sR_eq, mR_sR_ne, mI_sR, mR_sI, mK_sI, mN_sI, mn_sI, mJ_sI, mK_sR, mN_sR, mn_sR, mJ_sR, mI_wI, mR_wI, mK_wI, mN_wI, mn_wI, mJ_wI, ↓bnd_of, ↓bndX_r, ↓bndX_l, ↓ap_of, if_true, if_false, ite_true, ite_false, not_true_eq_false, not_false_eq_true, Nat.reduceAdd, Nat.reduceMul, Nat.reduceEqDiff, Int.reduceToNat, Int.reduceNeg, Ilt_t, Ilt_f, Ile_t, Ile_f, Ieq_t, Ieq_f, Nlt_t, Nlt_f, Nle_t, Nle_f, Neq_t, Neq_f, or_true, true_or, or_false, false_or, and_true, true_and, and_false, false_and, ne_eq, or_self, and_self, decide_true, decide_false, Bool.false_eq_true, f_X12_wrongAt, f_X12_wrongAt_32, hL.o, cf, cr, cd, ↓bx er, ↓bx ed]
    · by_cases d2 : j = 0
      · subst d2
        unfold wrongS
        simp (disch := omega) only [add_i0, cast_add1, cast_sub1, toNat120, i32_lit, i32_neg, i32_add, i32_sub, i32_mul, i32_nat, i32_le, i32_lt, i32_eq, inB_i, Int.toNat_natCast, mI_sI_eq, mI_sI_ne, mR_sR_eq, mR_sR_ne, mI_sR, mR_sI, mK_sI, mN_sI, mn_sI, mJ_sI, mK_sR, mN_sR, mn_sR, mJ_sR, mI_wI, mR_wI, mK_wI, mN_wI, mn_wI, mJ_wI, ↓bnd_of, ↓bndX_r, ↓bndX_l, ↓ap_of, if_true, if_false, ite_true, ite_false, not_true_eq_false, not_false_eq_true, Nat.reduceAdd, Nat.reduceMul, Nat.reduceEqDiff, Int.reduceToNat, Int.reduceNeg, Ilt_t, Ilt_f, Ile_t, Ile_f, Ieq_t, Ieq_f, Nlt_t, Nlt_f, Nle_t, Nle_f, Neq_t, Neq_f, or_true, true_or, or_false, false_or, and_true, true_and, and_false, false_and, ne_eq, or_self, and_self, decide_true, decide_false, Bool.false_eq_true, f_X12_wrongAt, f_X12_wrongAt_32, hL.o, cf, cr, cd, ↓bx er, ↓bx ed]
      · have hm := Sc.many_ok hW hl (x := A.rp l j) (by omega) (by omega)
        have hmb := Sc.many_b hS l (A.rp l j)
        have eo := X12_oftenAround hL hS hR0 hl (A.rp l j) (by omega) (by omega) hm
        have ed1 := X12_defAt hL hE (l := l) (j := j - 1) (by omega) (by omega)
        have hn : S.sd (S.many l (A.rp l j)).toNat = needS S l (A.rp l j) := by
          unfold needS
          rw [if_pos ⟨by omega, hm⟩]
        unfold wrongS
        unfold f_X12_wrongAt f_X12_wrongAt_32 f_X12_wrongAt_97
        simp only [k_sub1 (show 1 ≤ j by omega)]
        simp (disch := omega) only [add_i0, cast_add1, cast_sub1, toNat120, i32_lit, i32_neg, i32_add, i32_sub, i32_mul, i32_nat, i32_le, i32_lt, i32_eq, inB_i, Int.toNat_natCast, mI_sI_eq, mI_sI_ne, mR_sR_eq, mR_sR_ne, mI_sR, mR_sI, mK_sI, mN_sI, mn_sI, mJ_sI, mK_sR, mN_sR, mn_sR, mJ_sR, mI_wI, mR_wI, mK_wI, mN_wI, mn_wI, mJ_wI, ↓bnd_of, ↓bndX_r, ↓bndX_l, ↓ap_of, if_true, if_false, ite_true, ite_false, not_true_eq_false, not_false_eq_true, Nat.reduceAdd, Nat.reduceMul, Nat.reduceEqDiff, Int.reduceToNat, Int.reduceNeg, Ilt_t, Ilt_f, Ile_t, Ile_f, Ieq_t, Ieq_f, Nlt_t, Nlt_f, Nle_t, Nle_f, Neq_t, Neq_f, or_true, true_or, or_false, false_or, and_true, true_and, and_false, false_and, ne_eq, or_self, and_self, decide_true, decide_false, Bool.false_eq_true, hL.o, cf, cr, cd, ↓bx er, ↓bx ed, ↓bx eo, ↓bx ed1, hn]
        (first | done | with_reducible rfl | ((repeat' split) <;> (first | with_reducible rfl | (exfalso; omega) | skip)))
theorem X12_wrongIs (hL : RLay M) (l e w : Int) : f_X12_wrongIs 134 (i32 l) (i32 e) (i32 w) M = some (i32 w, wrM M l e) := by
  simp (disch := omega) only [add_i0, cast_add1, cast_sub1, toNat120, i32_lit, i32_neg, i32_add, i32_sub, i32_mul, i32_nat, i32_le, i32_lt, i32_eq, inB_i, Int.toNat_natCast, mI_sI_eq, mI_sI_ne, mR_sR_eq, mR_sR_ne, mI_sR, mR_sI, mK_sI, mN_sI, mn_sI, mJ_sI, mK_sR, mN_sR, mn_sR, mJ_sR, mI_wI, mR_wI, mK_wI, mN_wI, mn_wI, mJ_wI, ↓bnd_of, ↓bndX_r, ↓bndX_l, ↓ap_of, if_true, if_false, ite_true, ite_false, not_true_eq_false, not_false_eq_true, Nat.reduceAdd, Nat.reduceMul, Nat.reduceEqDiff, Int.reduceToNat, Int.reduceNeg, Ilt_t, Ilt_f, Ile_t, Ile_f, Ieq_t, Ieq_f, Nlt_t, Nlt_f, Nle_t, Nle_f, Neq_t, Neq_f, or_true, true_or, or_false, false_or, and_true, true_and, and_false, false_and, ne_eq, or_self, and_self, decide_true, decide_false, Bool.false_eq_true, f_X12_wrongIs, hL.o]
  rfl
end
