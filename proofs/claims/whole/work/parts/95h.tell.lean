/-! length, sign, seen, seenSign -/
def lenI : List Int32 → Int32 → Int32
  | [], t => t
  | _ :: L, t => lenI L (t + i32 1)
theorem outS_fst (w : Int32) : ∀ (L : List Int32) (p : Int32 × Int32), (outS w L p).1 = lenI L p.1 := by
  intro L
  induction L with
  | nil => intro p; rfl
  | cons c L ih => intro p; exact ih _
theorem lenI_eq : ∀ (L : List Int32) (t : Nat), lenI L (i32 t) = i32 ((t + L.length : Nat) : Int) := by
  intro L
  induction L with
  | nil => intro t; rfl
  | cons c L ih =>
    intro t
    unfold lenI
    rw [i32_add, cast_add1, ih (t + 1)]
    congr 2
    simp only [List.length_cons]
    omega
theorem outS_ind (w : Int32) : ∀ (L : List Int32) (t : Nat) (f f' : Int32), (∃ k, k < L.length ∧ i32 ((t + k : Nat) : Int) = w) → (outS w L (i32 t, f)).2 = (outS w L (i32 t, f')).2 := by
  intro L
  induction L with
  | nil => intro t f f' h; obtain ⟨k, h1, -⟩ := h; simp at h1
  | cons c L ih =>
    intro t f f' h
    simp only [outS]
    by_cases d : i32 (t : Int) = w
    · rw [if_pos d, if_pos d]
    · rw [if_neg d, if_neg d, i32_add, cast_add1]
      apply ih (t + 1) f f'
      obtain ⟨k, h1, h2⟩ := h
      cases k with
      | zero => exact absurd h2 d
      | succ k => exact ⟨k, by simp only [List.length_cons] at h1; omega, by rw [← h2]; congr 2; omega⟩
theorem hit_of {i : Int} (h0 : 0 ≤ i) (h1 : i ≤ 2147483647) {L : List Int32} (h : i32 i < lenI L (i32 0)) : ∃ k, k < L.length ∧ i32 ((0 + k : Nat) : Int) = i32 i := by
  have e := lenI_eq L 0
  rw [show i32 ((0 : Nat) : Int) = i32 0 from rfl] at e
  rw [e] at h
  refine ⟨i.toNat, ?_, by congr 1; omega⟩
  by_cases c : i.toNat < L.length
  · exact c
  · exfalso
    rw [i32_lt (by omega) (by omega) (by omega) (by omega)] at h
    omega
def tells (S : Sc) (A : St) (T : Sc) (tl : Nat → Bool) (r : Int) : List Int32 := tellT S A T tl 6 (-1) (fst0 A r) ++ [i32 59]
/-- the cells of the class's Shape t that telling reads -/
def CT (M : Mem) (t : Nat) (T : Sc) : Prop := mI M t 0 = i32 T.nf ∧ (∀ f, f < T.nf → mI M (t + 1) f = i32 (T.kd f)) ∧ (∀ f, f < T.nf → mI M (t + 2) f = i32 (T.gr f)) ∧ (∀ f, f < T.nf → mI M (t + 10) f = i32 (T.tw f))
section
variable {M : Mem} {b t s : Nat} {S T : Sc} {A : St} {tl : Nat → Bool} {w st : Int32} {dp : Nat → Nat}
theorem X8_tell (hW : S.wf) (hVT : VT S T dp) (hk : chkOk S A) {r : Int} (r0 : 0 ≤ r) (r1 : r < A.rc) (hV : CV M s S A) (hst : ShLay M t) (t1 : 88 ≤ t) (t2 : t ≤ 112) (hCT : CT M t T) (htl : ∀ f, f < T.nf → ((mI M (t + 9) f &&& st = i32 0) ↔ tl f = false)) : ∃ M', f_X8_tell 8 t s 18 (i32 r) st w M = some (lenI (tells S A T tl r) (i32 0), M') ∧ Scr M M' ∧ mI M' 8 0 = (outS w (tells S A T tl r) (i32 0, i32 (-1))).2 := by
  have hS := hW.1
  have h30 := hV.2.2.2.2.1.1.2.2.2.2
  have g : Scr M (sI (sI (sI (sI (sR (sR (sR M 8 4 t) 8 5 s) 8 6 18) 8 3 st) 8 1 w) 8 2 (0 : Int32)) 8 0 (-1 : Int32)) := ((((((((Scr.rf M).sR (by unfold ScR; omega)).sR (by unfold ScR; omega)).sR (by unfold ScR; omega)).sI (sc_8 3)).sI (sc_8 1)).sI (sc_8 2)).sI (sc_8 0))
  have hV0 := hV.scr g
  have x1 : mR (sI (sI (sI (sI (sR (sR (sR M 8 4 t) 8 5 s) 8 6 18) 8 3 st) 8 1 w) 8 2 (0 : Int32)) 8 0 (-1 : Int32)) 8 4 = t := by simp (disch := omega) only [↓reduceIte, add_i0, cast_add1, cast_sub1, toNat120, i32_lit, i32_neg, i32_add, i32_sub, i32_mul, i32_nat, i32_le, i32_lt, i32_eq, inB_i, Int.toNat_natCast, mI_sI_eq, mI_sI_ne, mR_sR_eq, mR_sR_ne, mI_sR, mR_sI, mK_sI, mN_sI, mn_sI, mJ_sI, mK_sR, mN_sR, mn_sR, mJ_sR, mI_wI, mR_wI, mK_wI, mN_wI, mn_wI, mJ_wI, ↓bnd_of, ↓bndX_r, ↓bndX_l, ↓ap_nr, bnd_of, bndX_r, bndX_l, if_true, if_false, ite_true, ite_false, not_true_eq_false, not_false_eq_true, Nat.reduceAdd, Nat.reduceMul, Nat.reduceEqDiff, Int.reduceToNat, Int.reduceNeg, Ilt_t, Ilt_f, Ile_t, Ile_f, Ieq_t, Ieq_f, Nlt_t, Nlt_f, Nle_t, Nle_f, Neq_t, Neq_f, or_true, true_or, or_false, false_or, and_true, true_and, and_false, false_and, ne_eq, or_self, and_self, decide_true, decide_false, Bool.false_eq_true]
  have x2 : mR (sI (sI (sI (sI (sR (sR (sR M 8 4 t) 8 5 s) 8 6 18) 8 3 st) 8 1 w) 8 2 (0 : Int32)) 8 0 (-1 : Int32)) 8 5 = s := by simp (disch := omega) only [↓reduceIte, add_i0, cast_add1, cast_sub1, toNat120, i32_lit, i32_neg, i32_add, i32_sub, i32_mul, i32_nat, i32_le, i32_lt, i32_eq, inB_i, Int.toNat_natCast, mI_sI_eq, mI_sI_ne, mR_sR_eq, mR_sR_ne, mI_sR, mR_sI, mK_sI, mN_sI, mn_sI, mJ_sI, mK_sR, mN_sR, mn_sR, mJ_sR, mI_wI, mR_wI, mK_wI, mN_wI, mn_wI, mJ_wI, ↓bnd_of, ↓bndX_r, ↓bndX_l, ↓ap_nr, bnd_of, bndX_r, bndX_l, if_true, if_false, ite_true, ite_false, not_true_eq_false, not_false_eq_true, Nat.reduceAdd, Nat.reduceMul, Nat.reduceEqDiff, Int.reduceToNat, Int.reduceNeg, Ilt_t, Ilt_f, Ile_t, Ile_f, Ieq_t, Ieq_f, Nlt_t, Nlt_f, Nle_t, Nle_f, Neq_t, Neq_f, or_true, true_or, or_false, false_or, and_true, true_and, and_false, false_and, ne_eq, or_self, and_self, decide_true, decide_false, Bool.false_eq_true]
  have x3 : mR (sI (sI (sI (sI (sR (sR (sR M 8 4 t) 8 5 s) 8 6 18) 8 3 st) 8 1 w) 8 2 (0 : Int32)) 8 0 (-1 : Int32)) 8 6 = 18 := by simp (disch := omega) only [↓reduceIte, add_i0, cast_add1, cast_sub1, toNat120, i32_lit, i32_neg, i32_add, i32_sub, i32_mul, i32_nat, i32_le, i32_lt, i32_eq, inB_i, Int.toNat_natCast, mI_sI_eq, mI_sI_ne, mR_sR_eq, mR_sR_ne, mI_sR, mR_sI, mK_sI, mN_sI, mn_sI, mJ_sI, mK_sR, mN_sR, mn_sR, mJ_sR, mI_wI, mR_wI, mK_wI, mN_wI, mn_wI, mJ_wI, ↓bnd_of, ↓bndX_r, ↓bndX_l, ↓ap_nr, bnd_of, bndX_r, bndX_l, if_true, if_false, ite_true, ite_false, not_true_eq_false, not_false_eq_true, Nat.reduceAdd, Nat.reduceMul, Nat.reduceEqDiff, Int.reduceToNat, Int.reduceNeg, Ilt_t, Ilt_f, Ile_t, Ile_f, Ieq_t, Ieq_f, Nlt_t, Nlt_f, Nle_t, Nle_f, Neq_t, Neq_f, or_true, true_or, or_false, false_or, and_true, true_and, and_false, false_and, ne_eq, or_self, and_self, decide_true, decide_false, Bool.false_eq_true]
  have x4 : mI (sI (sI (sI (sI (sR (sR (sR M 8 4 t) 8 5 s) 8 6 18) 8 3 st) 8 1 w) 8 2 (0 : Int32)) 8 0 (-1 : Int32)) 8 3 = st := by simp (disch := omega) only [↓reduceIte, add_i0, cast_add1, cast_sub1, toNat120, i32_lit, i32_neg, i32_add, i32_sub, i32_mul, i32_nat, i32_le, i32_lt, i32_eq, inB_i, Int.toNat_natCast, mI_sI_eq, mI_sI_ne, mR_sR_eq, mR_sR_ne, mI_sR, mR_sI, mK_sI, mN_sI, mn_sI, mJ_sI, mK_sR, mN_sR, mn_sR, mJ_sR, mI_wI, mR_wI, mK_wI, mN_wI, mn_wI, mJ_wI, ↓bnd_of, ↓bndX_r, ↓bndX_l, ↓ap_nr, bnd_of, bndX_r, bndX_l, if_true, if_false, ite_true, ite_false, not_true_eq_false, not_false_eq_true, Nat.reduceAdd, Nat.reduceMul, Nat.reduceEqDiff, Int.reduceToNat, Int.reduceNeg, Ilt_t, Ilt_f, Ile_t, Ile_f, Ieq_t, Ieq_f, Nlt_t, Nlt_f, Nle_t, Nle_f, Neq_t, Neq_f, or_true, true_or, or_false, false_or, and_true, true_and, and_false, false_and, ne_eq, or_self, and_self, decide_true, decide_false, Bool.false_eq_true]
  have hT0 : TS (sI (sI (sI (sI (sR (sR (sR M 8 4 t) 8 5 s) 8 6 18) 8 3 st) 8 1 w) 8 2 (0 : Int32)) 8 0 (-1 : Int32)) w (i32 0, i32 (-1)) := ⟨by simp (disch := omega) only [↓reduceIte, add_i0, cast_add1, cast_sub1, toNat120, i32_lit, i32_neg, i32_add, i32_sub, i32_mul, i32_nat, i32_le, i32_lt, i32_eq, inB_i, Int.toNat_natCast, mI_sI_eq, mI_sI_ne, mR_sR_eq, mR_sR_ne, mI_sR, mR_sI, mK_sI, mN_sI, mn_sI, mJ_sI, mK_sR, mN_sR, mn_sR, mJ_sR, mI_wI, mR_wI, mK_wI, mN_wI, mn_wI, mJ_wI, ↓bnd_of, ↓bndX_r, ↓bndX_l, ↓ap_nr, bnd_of, bndX_r, bndX_l, if_true, if_false, ite_true, ite_false, not_true_eq_false, not_false_eq_true, Nat.reduceAdd, Nat.reduceMul, Nat.reduceEqDiff, Int.reduceToNat, Int.reduceNeg, Ilt_t, Ilt_f, Ile_t, Ile_f, Ieq_t, Ieq_f, Nlt_t, Nlt_f, Nle_t, Nle_f, Neq_t, Neq_f, or_true, true_or, or_false, false_or, and_true, true_and, and_false, false_and, ne_eq, or_self, and_self, decide_true, decide_false, Bool.false_eq_true], by simp (disch := omega) only [↓reduceIte, add_i0, cast_add1, cast_sub1, toNat120, i32_lit, i32_neg, i32_add, i32_sub, i32_mul, i32_nat, i32_le, i32_lt, i32_eq, inB_i, Int.toNat_natCast, mI_sI_eq, mI_sI_ne, mR_sR_eq, mR_sR_ne, mI_sR, mR_sI, mK_sI, mN_sI, mn_sI, mJ_sI, mK_sR, mN_sR, mn_sR, mJ_sR, mI_wI, mR_wI, mK_wI, mN_wI, mn_wI, mJ_wI, ↓bnd_of, ↓bndX_r, ↓bndX_l, ↓ap_nr, bnd_of, bndX_r, bndX_l, if_true, if_false, ite_true, ite_false, not_true_eq_false, not_false_eq_true, Nat.reduceAdd, Nat.reduceMul, Nat.reduceEqDiff, Int.reduceToNat, Int.reduceNeg, Ilt_t, Ilt_f, Ile_t, Ile_f, Ieq_t, Ieq_f, Nlt_t, Nlt_f, Nle_t, Nle_f, Neq_t, Neq_f, or_true, true_or, or_false, false_or, and_true, true_and, and_false, false_and, ne_eq, or_self, and_self, decide_true, decide_false, Bool.false_eq_true], by simp (disch := omega) only [↓reduceIte, add_i0, cast_add1, cast_sub1, toNat120, i32_lit, i32_neg, i32_add, i32_sub, i32_mul, i32_nat, i32_le, i32_lt, i32_eq, inB_i, Int.toNat_natCast, mI_sI_eq, mI_sI_ne, mR_sR_eq, mR_sR_ne, mI_sR, mR_sI, mK_sI, mN_sI, mn_sI, mJ_sI, mK_sR, mN_sR, mn_sR, mJ_sR, mI_wI, mR_wI, mK_wI, mN_wI, mn_wI, mJ_wI, ↓bnd_of, ↓bndX_r, ↓bndX_l, ↓ap_nr, bnd_of, bndX_r, bndX_l, if_true, if_false, ite_true, ite_false, not_true_eq_false, not_false_eq_true, Nat.reduceAdd, Nat.reduceMul, Nat.reduceEqDiff, Int.reduceToNat, Int.reduceNeg, Ilt_t, Ilt_f, Ile_t, Ile_f, Ieq_t, Ieq_f, Nlt_t, Nlt_f, Nle_t, Nle_f, Neq_t, Neq_f, or_true, true_or, or_false, false_or, and_true, true_and, and_false, false_and, ne_eq, or_self, and_self, decide_true, decide_false, Bool.false_eq_true]⟩
  have hm0 : ∀ (a j : Nat), 88 ≤ a → mI (sI (sI (sI (sI (sR (sR (sR M 8 4 t) 8 5 s) 8 6 18) 8 3 st) 8 1 w) 8 2 (0 : Int32)) 8 0 (-1 : Int32)) a j = mI M a j := fun a j q => by simp (disch := omega) only [↓reduceIte, add_i0, cast_add1, cast_sub1, toNat120, i32_lit, i32_neg, i32_add, i32_sub, i32_mul, i32_nat, i32_le, i32_lt, i32_eq, inB_i, Int.toNat_natCast, mI_sI_eq, mI_sI_ne, mR_sR_eq, mR_sR_ne, mI_sR, mR_sI, mK_sI, mN_sI, mn_sI, mJ_sI, mK_sR, mN_sR, mn_sR, mJ_sR, mI_wI, mR_wI, mK_wI, mN_wI, mn_wI, mJ_wI, ↓bnd_of, ↓bndX_r, ↓bndX_l, ↓ap_nr, bnd_of, bndX_r, bndX_l, if_true, if_false, ite_true, ite_false, not_true_eq_false, not_false_eq_true, Nat.reduceAdd, Nat.reduceMul, Nat.reduceEqDiff, Int.reduceToNat, Int.reduceNeg, Ilt_t, Ilt_f, Ile_t, Ile_f, Ieq_t, Ieq_f, Nlt_t, Nlt_f, Nle_t, Nle_f, Neq_t, Neq_f, or_true, true_or, or_false, false_or, and_true, true_and, and_false, false_and, ne_eq, or_self, and_self, decide_true, decide_false, Bool.false_eq_true]
  have hTV : TV (sI (sI (sI (sI (sR (sR (sR M 8 4 t) 8 5 s) 8 6 18) 8 3 st) 8 1 w) 8 2 (0 : Int32)) 8 0 (-1 : Int32)) t s S T A tl := ⟨hV0, ShLay.scr hst t1 g, t1, t2, by rw [hm0 _ _ t1]; exact hCT.1, fun f q => by rw [hm0 _ _ (by omega)]; exact hCT.2.1 f q, fun f q => by rw [hm0 _ _ (by omega)]; exact hCT.2.2.1 f q, fun f q => by rw [hm0 _ _ (by omega)]; exact hCT.2.2.2 f q, fun f q => by rw [hm0 _ _ (by omega), x4]; exact htl f q, x1, x2, x3⟩
  obtain ⟨M1, e1, g1, q1⟩ := X8_goTo hS r r0 (by omega) hV0 x2 x3
  have g1' : ∀ d : Nat, mI M1 8 d = mI (sI (sI (sI (sI (sR (sR (sR M 8 4 t) 8 5 s) 8 6 18) 8 3 st) 8 1 w) 8 2 (0 : Int32)) 8 0 (-1 : Int32)) 8 d := fun d => g1.i (by omega)
  have g1s := g1.scr (fun a j q => sc_mid (by omega))
  have hTV1 : TV M1 t s S T A tl := by
    obtain ⟨a1, a2, a3, a4, a5, a6, a7, a8, a9, a10, a11, a12⟩ := hTV
    refine ⟨a1.scr g1s, ShLay.scr a2 t1 g1s, t1, t2, by rw [g1.i (by omega)]; exact a5, fun f q => by rw [g1.i (by omega)]; exact a6 f q, fun f q => by rw [g1.i (by omega)]; exact a7 f q, fun f q => by rw [g1.i (by omega)]; exact a8 f q, fun f q => by rw [g1.i (by omega), g1' 3]; exact a9 f q, by rw [g1.r]; exact a10, by rw [g1.r]; exact a11, by rw [g1.r]; exact a12⟩
  have hT1 : TS M1 w (i32 0, i32 (-1)) := ⟨by rw [g1']; exact hT0.1, by rw [g1']; exact hT0.2.1, by rw [g1']; exact hT0.2.2⟩
  obtain ⟨M2, e2, g2, q2⟩ := X8_tellTop hW hVT (Al_start hW hk r0 r1) hTV1 hT1 (fun l hl => by rw [q1 l hl, (fst0_b hk r0 r1 hl).1])
  have hTV2 := hTV1.chg g2
  obtain ⟨M3, e3, g3, q3⟩ := X8_put hTV2.1.1 q2 (i32 59)
  have hL := hV.1
  have hL3 := hTV2.1.1.chg g3
  rw [← outS_app] at q3
  refine ⟨M3, ?_, g.tr (g1s.tr ((g2.scr TC_scr).tr (g3.scr TC_scr))), q3.2.2⟩
  have hmn := hV.2.2.2.2.2.2.2.2
  have hs1 := hV.2.2.2.2.2.2.2.1
  have k1 := hTV1.1.1.k8
  have k2 := hTV2.1.1.k8
  have k3 := hL3.k8
  have q4 : mI M3 8 2 = lenI (tells S A T tl r) (i32 0) := by rw [q3.2.1, outS_fst]; rfl
  have k0 := hL.k8
  have e2 : f_X8_tellFields 6 8 (-1 : Int32) (0 : Int32) M1 = some ((), M2) := e2
  have e3 : f_X8_put 8 (59 : Int32) M2 = some ((), M3) := e3
  unfold f_X8_tell
  rw [if_pos k0, if_pos (by rw [okB1 (by omega)]; trivial), ap_of, if_pos (by exact k0), if_pos (by rw [okrB_sR, okB1 (by omega)]; trivial), ap_of, if_pos (by exact k0), if_pos (by rw [okrB_sR, okrB_sR, okB1 (by omega)]; trivial), ap_of, if_pos (by exact k0), ap_of, if_pos (by exact k0), ap_of, if_pos (by exact k0), ap_of, if_pos (by exact k0), ap_of, if_pos (by exact k0), bx e1, if_pos k1, bx e2, if_pos k2, bx e3, if_pos k3, q4]
theorem X12_tell14 (hW : S.wf) (hk : chkOk S A) {r : Int} (r0 : 0 ≤ r) (r1 : r < A.rc) : ∀ (k j n : Nat) (M : Mem), j + k = S.nl → k < n → RV M S A → (∀ l, l < j → mI M 156 l = i32 (fst0 A r l) ∧ mI M 157 l = i32 (A.nx l 0 (fst0 A r l))) → ∃ M', f_X12_tell_14 n 134 (i32 b) (i32 r) st (i32 j) M = f_X12_tell_14 (n - k) 134 (i32 b) (i32 r) st (i32 S.nl) M' ∧ Chg (fun a _ => a = 156 ∨ a = 157) M M' ∧ ∀ l, l < S.nl → mI M' 156 l = i32 (fst0 A r l) ∧ mI M' 157 l = i32 (A.nx l 0 (fst0 A r l)) := by
  have hS := hW.1
  have hnl := hS.2.1
  intro k
  induction k with
  | zero =>
    intro j n M hj hn hV hp
    refine ⟨M, ?_, Chg.rf _ M, fun l hl => hp l (by omega)⟩
    rw [show j = S.nl by omega]
    rfl
  | succ k ih =>
    intro j n M hj hn hV hp
    obtain ⟨n, rfl⟩ : ∃ m, n = m + 1 := ⟨n - 1, by omega⟩
    have hL := hV.1
    have c1 := hV.2.1.2.1
    have h30 := hV.2.2.1.2.2.2.2
    have e1 := X12_firstOf hL hV.2.2 (l := j) (by omega) r r0 (by omega)
    rw [firstR_eq hk r0 r1 (show j < S.nl by omega)] at e1
    have fb := fst0_b hk r0 r1 (show j < S.nl by omega)
    have g : Chg (fun a _ => a = 156 ∨ a = 157) M (sI M 156 j (i32 (fst0 A r j))) := (Chg.rf _ M).sI (Or.inl rfl)
    have gs := g.scr (fun a j q => sc_153 (by omega))
    have hV1 := hV.scr hS gs
    have e2 := X12_behindOf hV1.1 hV1.2.2 (l := j) (by omega) (fst0 A r j) fb.2.1
    have e2 : f_X12_behindOf 134 (i32 j) (i32 (fst0 A r j)) (sI M 156 j (i32 (fst0 A r j))) = some (i32 (A.nx j 0 (fst0 A r j)), sI M 156 j (i32 (fst0 A r j))) := e2
    have g2 : Chg (fun a _ => a = 156 ∨ a = 157) M (sI (sI M 156 j (i32 (fst0 A r j))) 157 j (i32 (A.nx j 0 (fst0 A r j)))) := g.sI (Or.inr rfl)
    have gs2 := g2.scr (fun a j q => sc_153 (by omega))
    obtain ⟨M', q1, q2, q3⟩ := ih (j + 1) n _ (by omega) (by omega) (hV.scr hS gs2) (fun l hl => by
      by_cases e : l = j
      · subst e
        refine ⟨?_, ?_⟩
        · simp (disch := omega) only [↓reduceIte, add_i0, cast_add1, cast_sub1, toNat120, i32_lit, i32_neg, i32_add, i32_sub, i32_mul, i32_nat, i32_le, i32_lt, i32_eq, inB_i, Int.toNat_natCast, mI_sI_eq, mI_sI_ne, mR_sR_eq, mR_sR_ne, mI_sR, mR_sI, mK_sI, mN_sI, mn_sI, mJ_sI, mK_sR, mN_sR, mn_sR, mJ_sR, mI_wI, mR_wI, mK_wI, mN_wI, mn_wI, mJ_wI, ↓bnd_of, ↓bndX_r, ↓bndX_l, ↓ap_nr, bnd_of, bndX_r, bndX_l, if_true, if_false, ite_true, ite_false, not_true_eq_false, not_false_eq_true, Nat.reduceAdd, Nat.reduceMul, Nat.reduceEqDiff, Int.reduceToNat, Int.reduceNeg, Ilt_t, Ilt_f, Ile_t, Ile_f, Ieq_t, Ieq_f, Nlt_t, Nlt_f, Nle_t, Nle_f, Neq_t, Neq_f, or_true, true_or, or_false, false_or, and_true, true_and, and_false, false_and, ne_eq, or_self, and_self, decide_true, decide_false, Bool.false_eq_true]
        · simp (disch := omega) only [↓reduceIte, add_i0, cast_add1, cast_sub1, toNat120, i32_lit, i32_neg, i32_add, i32_sub, i32_mul, i32_nat, i32_le, i32_lt, i32_eq, inB_i, Int.toNat_natCast, mI_sI_eq, mI_sI_ne, mR_sR_eq, mR_sR_ne, mI_sR, mR_sI, mK_sI, mN_sI, mn_sI, mJ_sI, mK_sR, mN_sR, mn_sR, mJ_sR, mI_wI, mR_wI, mK_wI, mN_wI, mn_wI, mJ_wI, ↓bnd_of, ↓bndX_r, ↓bndX_l, ↓ap_nr, bnd_of, bndX_r, bndX_l, if_true, if_false, ite_true, ite_false, not_true_eq_false, not_false_eq_true, Nat.reduceAdd, Nat.reduceMul, Nat.reduceEqDiff, Int.reduceToNat, Int.reduceNeg, Ilt_t, Ilt_f, Ile_t, Ile_f, Ieq_t, Ieq_f, Nlt_t, Nlt_f, Nle_t, Nle_f, Neq_t, Neq_f, or_true, true_or, or_false, false_or, and_true, true_and, and_false, false_and, ne_eq, or_self, and_self, decide_true, decide_false, Bool.false_eq_true]
      · have := hp l (by omega)
        refine ⟨?_, ?_⟩
        · simp (disch := omega) only [↓reduceIte, add_i0, cast_add1, cast_sub1, toNat120, i32_lit, i32_neg, i32_add, i32_sub, i32_mul, i32_nat, i32_le, i32_lt, i32_eq, inB_i, Int.toNat_natCast, mI_sI_eq, mI_sI_ne, mR_sR_eq, mR_sR_ne, mI_sR, mR_sI, mK_sI, mN_sI, mn_sI, mJ_sI, mK_sR, mN_sR, mn_sR, mJ_sR, mI_wI, mR_wI, mK_wI, mN_wI, mn_wI, mJ_wI, ↓bnd_of, ↓bndX_r, ↓bndX_l, ↓ap_nr, bnd_of, bndX_r, bndX_l, if_true, if_false, ite_true, ite_false, not_true_eq_false, not_false_eq_true, Nat.reduceAdd, Nat.reduceMul, Nat.reduceEqDiff, Int.reduceToNat, Int.reduceNeg, Ilt_t, Ilt_f, Ile_t, Ile_f, Ieq_t, Ieq_f, Nlt_t, Nlt_f, Nle_t, Nle_f, Neq_t, Neq_f, or_true, true_or, or_false, false_or, and_true, true_and, and_false, false_and, ne_eq, or_self, and_self, decide_true, decide_false, Bool.false_eq_true, e, this]
        · simp (disch := omega) only [↓reduceIte, add_i0, cast_add1, cast_sub1, toNat120, i32_lit, i32_neg, i32_add, i32_sub, i32_mul, i32_nat, i32_le, i32_lt, i32_eq, inB_i, Int.toNat_natCast, mI_sI_eq, mI_sI_ne, mR_sR_eq, mR_sR_ne, mI_sR, mR_sI, mK_sI, mN_sI, mn_sI, mJ_sI, mK_sR, mN_sR, mn_sR, mJ_sR, mI_wI, mR_wI, mK_wI, mN_wI, mn_wI, mJ_wI, ↓bnd_of, ↓bndX_r, ↓bndX_l, ↓ap_nr, bnd_of, bndX_r, bndX_l, if_true, if_false, ite_true, ite_false, not_true_eq_false, not_false_eq_true, Nat.reduceAdd, Nat.reduceMul, Nat.reduceEqDiff, Int.reduceToNat, Int.reduceNeg, Ilt_t, Ilt_f, Ile_t, Ile_f, Ieq_t, Ieq_f, Nlt_t, Nlt_f, Nle_t, Nle_f, Neq_t, Neq_f, or_true, true_or, or_false, false_or, and_true, true_and, and_false, false_and, ne_eq, or_self, and_self, decide_true, decide_false, Bool.false_eq_true, e, this])
    refine ⟨M', ?_, g2.tr q2, q3⟩
    rw [show n + 1 - (k + 1) = n - k by omega, ← q1]
    simp (disch := omega) only [↓reduceIte, add_i0, cast_add1, cast_sub1, toNat120, i32_lit, i32_neg, i32_add, i32_sub, i32_mul, i32_nat, i32_le, i32_lt, i32_eq, inB_i, Int.toNat_natCast, mI_sI_eq, mI_sI_ne, mR_sR_eq, mR_sR_ne, mI_sR, mR_sI, mK_sI, mN_sI, mn_sI, mJ_sI, mK_sR, mN_sR, mn_sR, mJ_sR, mI_wI, mR_wI, mK_wI, mN_wI, mn_wI, mJ_wI, ↓bnd_of, ↓bndX_r, ↓bndX_l, ↓ap_nr, bnd_of, bndX_r, bndX_l, if_true, if_false, ite_true, ite_false, not_true_eq_false, not_false_eq_true, Nat.reduceAdd, Nat.reduceMul, Nat.reduceEqDiff, Int.reduceToNat, Int.reduceNeg, Ilt_t, Ilt_f, Ile_t, Ile_f, Ieq_t, Ieq_f, Nlt_t, Nlt_f, Nle_t, Nle_f, Neq_t, Neq_f, or_true, true_or, or_false, false_or, and_true, true_and, and_false, false_and, ne_eq, or_self, and_self, decide_true, decide_false, Bool.false_eq_true, f_X12_tell_14, hL.o, c1, ↓bx e1, ↓bx e2]
theorem X12_tell (hW : S.wf) (hVT : VT S T dp) (hk : chkOk S A) (hb : b = 0 ∨ b = 16) (htold : ∀ (M : Mem) (f : Nat), RV M S A → f < T.nf → f_X12_isTold 134 (i32 b) (i32 f) st M = some (if tl f = true then i32 1 else i32 0, M)) {r : Int} (r0 : 0 ≤ r) (r1 : r < A.rc) (hV : RTV M b S T A) : ∃ M', f_X12_tell 134 (i32 b) (i32 r) st w M = some (lenI (tells S A T tl r) (i32 0), M') ∧ Scr M M' ∧ mI M' 134 2 = mI M 134 2 ∧ mI M' 134 43 = (outS w (tells S A T tl r) (i32 0, mI M 134 43)).2 := by
  have hS := hW.1
  have hnl := hS.2.1
  have g : Chg (fun a j => a = 134 ∧ (j = 41 ∨ j = 42)) M (sI (sI M 134 41 (0 : Int32)) 134 42 w) := ((Chg.rf _ M).sI (by omega)).sI (by omega)
  have gs := g.scr (fun a j q => by rw [q.1]; exact sc_134 (by omega))
  have hRV0 := hV.1.scr hS gs
  obtain ⟨M1, e1, g1, q1⟩ := X12_tell14 (b := b) (st := st) hW hk r0 r1 S.nl 0 FUEL _ (by omega) (by unfold FUEL; omega) hRV0 (fun l hl => by omega)
  have g1s := g1.scr (fun a j q => sc_153 (by omega))
  have hRV1 := hRV0.scr hS g1s
  have hTV1 : RTV M1 b S T A := by
    obtain ⟨a1, a2, a3, a4, a5⟩ := hV
    refine ⟨hRV1, by rw [g1.i (by omega), g.i (by omega)]; exact a2, fun f q => by rw [g1.i (by omega), g.i (by omega)]; exact a3 f q, fun f q => by rw [g1.i (by omega), g.i (by omega)]; exact a4 f q, fun f q => by rw [g1.i (by omega), g.i (by omega)]; exact a5 f q⟩
  have hT1 : RT M1 w (i32 0, mI M 134 43) := ⟨by rw [g1.i (by omega)]; simp (disch := omega) only [↓reduceIte, add_i0, cast_add1, cast_sub1, toNat120, i32_lit, i32_neg, i32_add, i32_sub, i32_mul, i32_nat, i32_le, i32_lt, i32_eq, inB_i, Int.toNat_natCast, mI_sI_eq, mI_sI_ne, mR_sR_eq, mR_sR_ne, mI_sR, mR_sI, mK_sI, mN_sI, mn_sI, mJ_sI, mK_sR, mN_sR, mn_sR, mJ_sR, mI_wI, mR_wI, mK_wI, mN_wI, mn_wI, mJ_wI, ↓bnd_of, ↓bndX_r, ↓bndX_l, ↓ap_nr, bnd_of, bndX_r, bndX_l, if_true, if_false, ite_true, ite_false, not_true_eq_false, not_false_eq_true, Nat.reduceAdd, Nat.reduceMul, Nat.reduceEqDiff, Int.reduceToNat, Int.reduceNeg, Ilt_t, Ilt_f, Ile_t, Ile_f, Ieq_t, Ieq_f, Nlt_t, Nlt_f, Nle_t, Nle_f, Neq_t, Neq_f, or_true, true_or, or_false, false_or, and_true, true_and, and_false, false_and, ne_eq, or_self, and_self, decide_true, decide_false, Bool.false_eq_true], by rw [g1.i (by omega)]; simp (disch := omega) only [↓reduceIte, add_i0, cast_add1, cast_sub1, toNat120, i32_lit, i32_neg, i32_add, i32_sub, i32_mul, i32_nat, i32_le, i32_lt, i32_eq, inB_i, Int.toNat_natCast, mI_sI_eq, mI_sI_ne, mR_sR_eq, mR_sR_ne, mI_sR, mR_sI, mK_sI, mN_sI, mn_sI, mJ_sI, mK_sR, mN_sR, mn_sR, mJ_sR, mI_wI, mR_wI, mK_wI, mN_wI, mn_wI, mJ_wI, ↓bnd_of, ↓bndX_r, ↓bndX_l, ↓ap_nr, bnd_of, bndX_r, bndX_l, if_true, if_false, ite_true, ite_false, not_true_eq_false, not_false_eq_true, Nat.reduceAdd, Nat.reduceMul, Nat.reduceEqDiff, Int.reduceToNat, Int.reduceNeg, Ilt_t, Ilt_f, Ile_t, Ile_f, Ieq_t, Ieq_f, Nlt_t, Nlt_f, Nle_t, Nle_f, Neq_t, Neq_f, or_true, true_or, or_false, false_or, and_true, true_and, and_false, false_and, ne_eq, or_self, and_self, decide_true, decide_false, Bool.false_eq_true], by rw [g1.i (by omega)]; simp (disch := omega) only [↓reduceIte, add_i0, cast_add1, cast_sub1, toNat120, i32_lit, i32_neg, i32_add, i32_sub, i32_mul, i32_nat, i32_le, i32_lt, i32_eq, inB_i, Int.toNat_natCast, mI_sI_eq, mI_sI_ne, mR_sR_eq, mR_sR_ne, mI_sR, mR_sI, mK_sI, mN_sI, mn_sI, mJ_sI, mK_sR, mN_sR, mn_sR, mJ_sR, mI_wI, mR_wI, mK_wI, mN_wI, mn_wI, mJ_wI, ↓bnd_of, ↓bndX_r, ↓bndX_l, ↓ap_nr, bnd_of, bndX_r, bndX_l, if_true, if_false, ite_true, ite_false, not_true_eq_false, not_false_eq_true, Nat.reduceAdd, Nat.reduceMul, Nat.reduceEqDiff, Int.reduceToNat, Int.reduceNeg, Ilt_t, Ilt_f, Ile_t, Ile_f, Ieq_t, Ieq_f, Nlt_t, Nlt_f, Nle_t, Nle_f, Neq_t, Neq_f, or_true, true_or, or_false, false_or, and_true, true_and, and_false, false_and, ne_eq, or_self, and_self, decide_true, decide_false, Bool.false_eq_true]⟩
  obtain ⟨M2, e2, g2, q2⟩ := X12_tellTop hW hVT hb htold (Al_start hW hk r0 r1) hTV1 hT1 (fun l hl _ => by
    have := q1 l hl
    rw [show 8 * 0 + l = l by omega]
    exact this)
  have hTV2 := hTV1.chg hS g2
  obtain ⟨M3, e3, g3, q3⟩ := X12_say hTV2.1.1 q2 (i32 59)
  rw [← outS_app] at q3
  refine ⟨M3, ?_, gs.tr (g1s.tr ((g2.scr RC_scr).tr (g3.scr RC_scr))), ?_, q3.2.2⟩
  · obtain ⟨fu, hfu⟩ : ∃ fu, FUEL - S.nl = fu + 1 := ⟨FUEL - S.nl - 1, by unfold FUEL; omega⟩
    have q4 : mI M3 134 41 = lenI (tells S A T tl r) (i32 0) := by rw [q3.2.1, outS_fst]; rfl
    have k0 := hV.1.1.k
    have hL1 := hTV1.1.1
    have c1 := hTV1.1.2.1.2.1
    have k2 := hTV2.1.1.k
    have k3 := (hTV2.1.1.chg g3).k
    have e0 : f_X12_tell 134 (i32 b) (i32 r) st w M = f_X12_tell_14 FUEL 134 (i32 b) (i32 r) st (i32 ((0 : Nat) : Int)) (sI (sI M 134 41 (0 : Int32)) 134 42 w) := by
      unfold f_X12_tell
      rw [if_pos k0, ap_of, if_pos (by exact k0), ap_of]
      rfl
    rw [e0, e1, hfu]
    simp (disch := omega) only [↓reduceIte, add_i0, cast_add1, cast_sub1, toNat120, i32_lit, i32_neg, i32_add, i32_sub, i32_mul, i32_nat, i32_le, i32_lt, i32_eq, inB_i, Int.toNat_natCast, mI_sI_eq, mI_sI_ne, mR_sR_eq, mR_sR_ne, mI_sR, mR_sI, mK_sI, mN_sI, mn_sI, mJ_sI, mK_sR, mN_sR, mn_sR, mJ_sR, mI_wI, mR_wI, mK_wI, mN_wI, mn_wI, mJ_wI, ↓bnd_of, ↓bndX_r, ↓bndX_l, ↓ap_nr, bnd_of, bndX_r, bndX_l, if_true, if_false, ite_true, ite_false, not_true_eq_false, not_false_eq_true, Nat.reduceAdd, Nat.reduceMul, Nat.reduceEqDiff, Int.reduceToNat, Int.reduceNeg, Ilt_t, Ilt_f, Ile_t, Ile_f, Ieq_t, Ieq_f, Nlt_t, Nlt_f, Nle_t, Nle_f, Neq_t, Neq_f, or_true, true_or, or_false, false_or, and_true, true_and, and_false, false_and, ne_eq, or_self, and_self, decide_true, decide_false, Bool.false_eq_true, f_X12_tell_14, hL1.o, c1, ↓bx e2, k2, ↓bx e3, k3, q4]
  · rw [g3.i (by unfold RC; omega), g2.i (by unfold RC; omega), g1.i (by omega), g.i (by omega)]
theorem told_c (hS : S.ok) (hC : CSh M s S) {set : Int} (hset : isSetP S set) {f : Nat} (hf : f < S.nf) : (mI M (s + 9) f &&& i32 set = i32 0) ↔ S.hasL f set.toNat = false := by
  have cb := fun i hi => hC.2.2.2.2.2.2.2.2.2.2.1 f i hf hi
  have hnl := hS.2.1
  have h0 := hset.1
  rw [and_zero]
  unfold Sc.hasL
  constructor
  · intro h
    by_cases c : anyB (fun l => set.toNat.testBit l && S.ins (S.fo l) f) S.nl 0 = true
    · obtain ⟨i, h1, h2, h3⟩ := (anyB_iff _ _ _).mp c
      have := h i (by omega)
      rw [cb i (by omega), bt_nat (by omega) (by omega)] at this
      simp only [Bool.and_eq_true] at h3
      rw [h3.1, h3.2] at this
      simp at this
      omega
    · simpa using c
  · intro h i hi
    rw [cb i hi, bt_nat (by omega) hi]
    by_cases c : i < S.nl
    · have : ¬ (set.toNat.testBit i && S.ins (S.fo i) f) = true := fun q => by
        have := (anyB_iff (fun l => set.toNat.testBit l && S.ins (S.fo l) f) S.nl 0).mpr ⟨i, by omega, by omega, q⟩
        rw [h] at this
        cases this
      simp only [c, decide_true, Bool.true_and]
      rw [Bool.and_comm]
      simpa using this
    · simp [c]
theorem told_r (hW : S.wf) {set : Int} (z1 : 0 < set) (z2 : set ≤ 2147483647) : ∀ (M : Mem) (f : Nat), RV M S A → f < S.nf → f_X12_isTold 134 (i32 ((0 : Nat) : Int)) (i32 f) (i32 set) M = some (if S.hasL f set.toNat = true then i32 1 else i32 0, M) := by
  intro M f hV hf
  have e := X12_hasLeafOf hW hV hf (k := set.toNat) (by omega)
  rw [show ((set.toNat : Nat) : Int) = set by omega] at e
  have hL := hV.1
  by_cases c : S.hasL f set.toNat = true
  · rw [if_pos c] at e ⊢
    simp (disch := omega) only [↓reduceIte, add_i0, cast_add1, cast_sub1, toNat120, i32_lit, i32_neg, i32_add, i32_sub, i32_mul, i32_nat, i32_le, i32_lt, i32_eq, inB_i, Int.toNat_natCast, mI_sI_eq, mI_sI_ne, mR_sR_eq, mR_sR_ne, mI_sR, mR_sI, mK_sI, mN_sI, mn_sI, mJ_sI, mK_sR, mN_sR, mn_sR, mJ_sR, mI_wI, mR_wI, mK_wI, mN_wI, mn_wI, mJ_wI, ↓bnd_of, ↓bndX_r, ↓bndX_l, ↓ap_nr, bnd_of, bndX_r, bndX_l, if_true, if_false, ite_true, ite_false, not_true_eq_false, not_false_eq_true, Nat.reduceAdd, Nat.reduceMul, Nat.reduceEqDiff, Int.reduceToNat, Int.reduceNeg, Ilt_t, Ilt_f, Ile_t, Ile_f, Ieq_t, Ieq_f, Nlt_t, Nlt_f, Nle_t, Nle_f, Neq_t, Neq_f, or_true, true_or, or_false, false_or, and_true, true_and, and_false, false_and, ne_eq, or_self, and_self, decide_true, decide_false, Bool.false_eq_true, f_X12_isTold, f_X12_isTold_13, hL.o, ↓bx e]
  · rw [if_neg c] at e ⊢
    simp (disch := omega) only [↓reduceIte, add_i0, cast_add1, cast_sub1, toNat120, i32_lit, i32_neg, i32_add, i32_sub, i32_mul, i32_nat, i32_le, i32_lt, i32_eq, inB_i, Int.toNat_natCast, mI_sI_eq, mI_sI_ne, mR_sR_eq, mR_sR_ne, mI_sR, mR_sI, mK_sI, mN_sI, mn_sI, mJ_sI, mK_sR, mN_sR, mn_sR, mJ_sR, mI_wI, mR_wI, mK_wI, mN_wI, mn_wI, mJ_wI, ↓bnd_of, ↓bndX_r, ↓bndX_l, ↓ap_nr, bnd_of, bndX_r, bndX_l, if_true, if_false, ite_true, ite_false, not_true_eq_false, not_false_eq_true, Nat.reduceAdd, Nat.reduceMul, Nat.reduceEqDiff, Int.reduceToNat, Int.reduceNeg, Ilt_t, Ilt_f, Ile_t, Ile_f, Ieq_t, Ieq_f, Nlt_t, Nlt_f, Nle_t, Nle_f, Neq_t, Neq_f, or_true, true_or, or_false, false_or, and_true, true_and, and_false, false_and, ne_eq, or_self, and_self, decide_true, decide_false, Bool.false_eq_true, f_X12_isTold, hL.o, ↓bx e]
theorem told_v (T : Sc) (x : Int32) : ∀ (M : Mem) (f : Nat), RV M S A → f < T.nf → f_X12_isTold 134 (i32 ((16 : Nat) : Int)) (i32 f) x M = some (if (fun _ : Nat => true) f = true then i32 1 else i32 0, M) := by
  intro M f hV hf
  simp (disch := omega) only [↓reduceIte, add_i0, cast_add1, cast_sub1, toNat120, i32_lit, i32_neg, i32_add, i32_sub, i32_mul, i32_nat, i32_le, i32_lt, i32_eq, inB_i, Int.toNat_natCast, mI_sI_eq, mI_sI_ne, mR_sR_eq, mR_sR_ne, mI_sR, mR_sI, mK_sI, mN_sI, mn_sI, mJ_sI, mK_sR, mN_sR, mn_sR, mJ_sR, mI_wI, mR_wI, mK_wI, mN_wI, mn_wI, mJ_wI, ↓bnd_of, ↓bndX_r, ↓bndX_l, ↓ap_nr, bnd_of, bndX_r, bndX_l, if_true, if_false, ite_true, ite_false, not_true_eq_false, not_false_eq_true, Nat.reduceAdd, Nat.reduceMul, Nat.reduceEqDiff, Int.reduceToNat, Int.reduceNeg, Ilt_t, Ilt_f, Ile_t, Ile_f, Ieq_t, Ieq_f, Nlt_t, Nlt_f, Nle_t, Nle_f, Neq_t, Neq_f, or_true, true_or, or_false, false_or, and_true, true_and, and_false, false_and, ne_eq, or_self, and_self, decide_true, decide_false, Bool.false_eq_true, f_X12_isTold, f_X12_isTold_13]
end
