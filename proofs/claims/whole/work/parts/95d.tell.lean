/-! scratch cells, told one by one (omega is slow on the long disjunction) -/
set_option maxHeartbeats 600000 in
theorem sc_mid {a j : Nat} (h : 10 ≤ a ∧ a ≤ 17) : ScI a j := Or.inr (Or.inr (Or.inr (Or.inr (Or.inr (Or.inl h)))))
set_option maxHeartbeats 600000 in
theorem sc_8 (j : Nat) : ScI 8 j := Or.inr (Or.inr (Or.inr (Or.inr (Or.inl rfl))))
set_option maxHeartbeats 600000 in
theorem sc_4 (j : Nat) : ScI 4 j := Or.inl rfl
set_option maxHeartbeats 600000 in
theorem sc_5 (j : Nat) : ScI 5 j := Or.inr (Or.inl rfl)
set_option maxHeartbeats 600000 in
theorem sc_6 (j : Nat) : ScI 6 j := Or.inr (Or.inr (Or.inl rfl))
set_option maxHeartbeats 600000 in
theorem sc_7 (j : Nat) : ScI 7 j := Or.inr (Or.inr (Or.inr (Or.inl rfl)))
set_option maxHeartbeats 600000 in
theorem sc_2 {j : Nat} (h : 2 ≤ j) : ScI 2 j := Or.inr (Or.inr (Or.inr (Or.inr (Or.inr (Or.inr (Or.inl ⟨rfl, h⟩))))))
set_option maxHeartbeats 600000 in
theorem sc_134 {j : Nat} (h : j = 2 ∨ (6 ≤ j ∧ j ≤ 13) ∨ j = 26 ∨ (34 ≤ j ∧ j ≤ 37) ∨ (41 ≤ j ∧ j ≤ 43) ∨ j = 48 ∨ j = 49) : ScI 134 j := Or.inr (Or.inr (Or.inr (Or.inr (Or.inr (Or.inr (Or.inr (Or.inr (Or.inr (Or.inr (Or.inr (Or.inr (Or.inl ⟨rfl, h⟩))))))))))))
set_option maxHeartbeats 600000 in
theorem sc_153 {a j : Nat} (h : 153 ≤ a ∧ a ≤ 157) : ScI a j := Or.inr (Or.inr (Or.inr (Or.inr (Or.inr (Or.inr (Or.inr (Or.inr (Or.inr (Or.inr (Or.inr (Or.inr (Or.inr (Or.inl h)))))))))))))
set_option maxHeartbeats 600000 in
theorem sc_160 (j : Nat) : ScI 160 j := Or.inr (Or.inr (Or.inr (Or.inr (Or.inr (Or.inr (Or.inr (Or.inr (Or.inr (Or.inr (Or.inr (Or.inr (Or.inr (Or.inr (Or.inl rfl))))))))))))))
set_option maxHeartbeats 600000 in
theorem sc_139 {a j : Nat} (h : 139 ≤ a ∧ a ≤ 145) (h2 : 32 ≤ j) : ScI a j := Or.inr (Or.inr (Or.inr (Or.inr (Or.inr (Or.inr (Or.inr (Or.inr (Or.inr (Or.inr (Or.inr (Or.inr (Or.inr (Or.inr (Or.inr (Or.inl ⟨h, h2⟩)))))))))))))))
set_option maxHeartbeats 600000 in
theorem sc_146 {j : Nat} (h2 : 128 ≤ j) : ScI 146 j := Or.inr (Or.inr (Or.inr (Or.inr (Or.inr (Or.inr (Or.inr (Or.inr (Or.inr (Or.inr (Or.inr (Or.inr (Or.inr (Or.inr (Or.inr (Or.inr (Or.inl ⟨rfl, h2⟩))))))))))))))))
set_option maxHeartbeats 600000 in
theorem sc_147 {a : Nat} (h : a = 147 ∨ a = 148) : ScI a 2 := Or.inr (Or.inr (Or.inr (Or.inr (Or.inr (Or.inr (Or.inr (Or.inr (Or.inr (Or.inr (Or.inr (Or.inr (Or.inr (Or.inr (Or.inr (Or.inr (Or.inr (Or.inl ⟨h, rfl⟩)))))))))))))))))
set_option maxHeartbeats 600000 in
theorem sc_158 {a j : Nat} (h : a = 158 ∨ a = 159) (h2 : 8 ≤ j) : ScI a j := Or.inr (Or.inr (Or.inr (Or.inr (Or.inr (Or.inr (Or.inr (Or.inr (Or.inr (Or.inr (Or.inr (Or.inr (Or.inr (Or.inr (Or.inr (Or.inr (Or.inr (Or.inr ⟨h, h2⟩)))))))))))))))))
/-! What is told: the words, and the class -/
def outS (w : Int32) : List Int32 → Int32 × Int32 → Int32 × Int32
  | [], p => p
  | c :: L, p => outS w L (p.1 + i32 1, if p.1 = w then c else p.2)
set_option maxHeartbeats 600000 in
theorem outS_app (w : Int32) : ∀ (L1 L2 : List Int32) (p : Int32 × Int32), outS w (L1 ++ L2) p = outS w L2 (outS w L1 p) := by
  intro L1
  induction L1 with
  | nil => intro L2 p; rfl
  | cons c L1 ih => intro L2 p; exact ih L2 _
set_option maxHeartbeats 600000 in
theorem outS_cons (w c : Int32) (L : List Int32) (p : Int32 × Int32) : outS w (c :: L) p = outS w L (outS w [c] p) := rfl
def leadS (S : Sc) (f : Nat) : Nat := (lowF (fun l => S.ins (S.fo l) f) S.nl 0).toNat
set_option maxHeartbeats 600000 in
theorem leadS_b {S : Sc} (hW : S.wf) {f : Nat} (hf : f < S.nf) : lowF (fun l => S.ins (S.fo l) f) S.nl 0 = (leadS S f : Int) ∧ leadS S f < S.nl ∧ S.ins (S.fo (leadS S f)) f = true ∧ ∀ i, i < leadS S f → S.ins (S.fo i) f = false := by
  obtain ⟨l, h1, h2⟩ := Sc.has_leaf hW S.nf f (by omega) hf
  have := lowF_some (p := fun l => S.ins (S.fo l) f) (k := S.nl) (j := 0) ⟨l, by omega, by omega, h2⟩
  unfold leadS
  exact ⟨by omega, by omega, this.2.2.1, fun i hi => this.2.2.2 i (by omega) (by omega)⟩
def numL (v : Int) : List Int32 := (if v < 100 then [] else [i32 (48 + v / 100)]) ++ ((if v < 10 then [] else [i32 (48 + (v / 10 - v / 10 / 10 * 10))]) ++ [i32 (48 + (v - v / 10 * 10))])
def itemT (S : Sc) (A : St) (T : Sc) (sub : Nat → (Nat → Nat) → List Int32) (i : Nat) (pos : Nat → Nat) : List Int32 := if S.lf (T.tw i).toNat = -1 then i32 40 :: (sub i pos ++ [i32 41]) else numL (A.vl (S.lf (T.tw i).toNat).toNat (pos (S.lf (T.tw i).toNat).toNat))
def itemsT (S : Sc) (A : St) (T : Sc) (sub : Nat → (Nat → Nat) → List Int32) (i : Nat) : Nat → (Nat → Nat) → List Int32
  | 0, _ => []
  | k + 1, pos => if nextP S A (T.tw i).toNat pos (leadS S (T.tw i).toNat) < A.sz (leadS S (T.tw i).toNat) ∧ A.rp (leadS S (T.tw i).toNat) (nextP S A (T.tw i).toNat pos (leadS S (T.tw i).toNat)) = S.sr (T.tw i).toNat then i32 32 :: (itemT S A T sub i (nextP S A (T.tw i).toNat pos) ++ itemsT S A T sub i k (nextP S A (T.tw i).toNat pos)) else []
def thereT (S : Sc) (A : St) (T : Sc) (i : Nat) (pos : Nat → Nat) : Bool := decide (T.tw i ≠ -1 ∧ S.sd (T.tw i).toNat ≤ A.df (leadS S (T.tw i).toNat) (pos (leadS S (T.tw i).toNat)))
def fieldT (S : Sc) (A : St) (T : Sc) (sub : Nat → (Nat → Nat) → List Int32) (i : Nat) (pos : Nat → Nat) : List Int32 := if T.kd i = 2 then i32 91 :: ((if thereT S A T i pos = true then itemT S A T sub i pos ++ itemsT S A T sub i 120 pos else []) ++ [i32 93]) else if thereT S A T i pos = true then itemT S A T sub i pos else [i32 45]
def fieldsT (S : Sc) (A : St) (T : Sc) (tl : Nat → Bool) (sub : Nat → (Nat → Nat) → List Int32) (around : Int) : Nat → Nat → Bool → (Nat → Nat) → List Int32
  | 0, _, _, _ => []
  | k + 1, j, first, pos => if T.gr j = around ∧ tl j = true then (if first = true then [] else [i32 32]) ++ (fieldT S A T sub j pos ++ fieldsT S A T tl sub around k (j + 1) false pos) else fieldsT S A T tl sub around k (j + 1) first pos
def tellT (S : Sc) (A : St) (T : Sc) (tl : Nat → Bool) : Nat → Int → (Nat → Nat) → List Int32
  | 0, _, _ => []
  | n + 1, around, pos => fieldsT S A T tl (fun i p => tellT S A T tl n i p) around T.nf 0 true pos
/-- T is a view of S (S itself is one); dp: how deep its fields stand -/
def VT (S T : Sc) (dp : Nat → Nat) : Prop := T.nf ≤ 16 ∧ (∀ f : Nat, f < T.nf → -1 ≤ T.gr f ∧ T.gr f < f) ∧ (∀ f, f < T.nf → 0 ≤ T.kd f ∧ T.kd f ≤ 2) ∧ (∀ f, f < T.nf → -1 ≤ T.tw f ∧ T.tw f < S.nf) ∧ (∀ f, f < T.nf → T.tw f ≠ -1 → (S.kd (T.tw f).toNat = 2 ↔ T.kd f = 2)) ∧ (∀ f, f < T.nf → T.tw f ≠ -1 → S.gr (T.tw f).toNat = if T.gr f = -1 then -1 else T.tw (T.gr f).toNat) ∧ (∀ f, f < T.nf → dp f = if T.gr f = -1 then 0 else dp (T.gr f).toNat + 1) ∧ (∀ f, f < T.nf → dp f ≤ 3)
def ctxT (T : Sc) (around : Int) : Int := if around = -1 then -1 else T.tw around.toNat
def TS (M : Mem) (w : Int32) (p : Int32 × Int32) : Prop := mI M 8 1 = w ∧ mI M 8 2 = p.1 ∧ mI M 8 0 = p.2
/-- what telling at a depth writes -/
def TC (d : Nat) (a j : Nat) : Prop := (a = 8 ∧ (j = 0 ∨ j = 2)) ∨ (10 + d < a ∧ a ≤ 14)
def TV (M : Mem) (t s : Nat) (S T : Sc) (A : St) (tl : Nat → Bool) : Prop := CV M s S A ∧ ShLay M t ∧ 88 ≤ t ∧ t ≤ 112 ∧ mI M t 0 = i32 T.nf ∧ (∀ f, f < T.nf → mI M (t + 1) f = i32 (T.kd f)) ∧ (∀ f, f < T.nf → mI M (t + 2) f = i32 (T.gr f)) ∧ (∀ f, f < T.nf → mI M (t + 10) f = i32 (T.tw f)) ∧ (∀ f, f < T.nf → ((mI M (t + 9) f &&& mI M 8 3 = i32 0) ↔ tl f = false)) ∧ mR M 8 4 = t ∧ mR M 8 5 = s ∧ mR M 8 6 = 18
section
variable {M : Mem} {t s : Nat} {S T : Sc} {A : St} {tl : Nat → Bool} {w : Int32} {p : Int32 × Int32}
set_option maxHeartbeats 600000 in
theorem TC_scr {d : Nat} : ∀ a j, TC d a j → ScI a j := fun a j q => by
  rcases q with ⟨h, -⟩ | ⟨h1, h2⟩
  · subst h; exact sc_8 j
  · exact sc_mid ⟨by omega, by omega⟩
set_option maxHeartbeats 600000 in
theorem TC_mono {d e : Nat} (h : d ≤ e) : ∀ a j, TC e a j → TC d a j := fun a j q => by unfold TC at q ⊢; omega
set_option maxHeartbeats 600000 in
theorem TV.chg {M M' : Mem} {d : Nat} (h : TV M t s S T A tl) (g : Chg (TC d) M M') : TV M' t s S T A tl := by
  have gs := g.scr TC_scr
  obtain ⟨h1, h2, h3, h4, h5, h6, h7, h8, h9, h10, h11, h12⟩ := h
  have q : ∀ a j, 88 ≤ a → mI M' a j = mI M a j := fun a j q => g.i (by unfold TC; omega)
  refine ⟨h1.scr gs, ShLay.scr h2 h3 gs, h3, h4, ?_, fun f hf => ?_, fun f hf => ?_, fun f hf => ?_, fun f hf => ?_, ?_, ?_, ?_⟩
  · rw [q _ _ h3]; exact h5
  · rw [q _ _ (by omega)]; exact h6 f hf
  · rw [q _ _ (by omega)]; exact h7 f hf
  · rw [q _ _ (by omega)]; exact h8 f hf
  · rw [q _ _ (by omega), g.i (a := 8) (j := 3) (by unfold TC; omega)]; exact h9 f hf
  · rw [g.r]; exact h10
  · rw [g.r]; exact h11
  · rw [g.r]; exact h12
set_option maxHeartbeats 600000 in
theorem CLay.row (hL : CLay M) : (∀ d, d < 5 → mR M 9 d = 10 + d) ∧ (∀ d, d < 5 → mK M (10 + d) = 21) ∧ (∀ d, d < 5 → mN M (10 + d) = 8) := by
  have h := hL.o
  refine ⟨fun d hd => ?_, fun d hd => ?_, fun d hd => ?_⟩ <;>
    (have hc : d = 0 ∨ d = 1 ∨ d = 2 ∨ d = 3 ∨ d = 4 := by omega
     rcases hc with rfl | rfl | rfl | rfl | rfl <;> simp only [h, Nat.reduceAdd, Nat.add_zero])
set_option maxHeartbeats 600000 in
theorem CLay.k8 (hL : CLay M) : mK M 8 = 9 := by simp only [hL.o]
set_option maxHeartbeats 600000 in
theorem X8_put (hL : CLay M) (h : TS M w p) (c : Int32) : ∃ M', f_X8_put 8 c M = some ((), M') ∧ Chg (TC 4) M M' ∧ TS M' w (outS w [c] p) := by
  obtain ⟨h1, h2, h3⟩ := h
  by_cases d : p.1 = w
  · refine ⟨sI (sI M 8 0 c) 8 2 (p.1 + i32 1), ?_, ((Chg.rf _ M).sI (by unfold TC; omega)).sI (by unfold TC; omega), ?_, ?_, ?_⟩
    · simp (disch := omega) only [↓reduceIte, add_i0, cast_add1, cast_sub1, toNat120, i32_lit, i32_neg, i32_add, i32_sub, i32_mul, i32_nat, i32_le, i32_lt, i32_eq, inB_i, Int.toNat_natCast, mI_sI_eq, mI_sI_ne, mR_sR_eq, mR_sR_ne, mI_sR, mR_sI, mK_sI, mN_sI, mn_sI, mJ_sI, mK_sR, mN_sR, mn_sR, mJ_sR, mI_wI, mR_wI, mK_wI, mN_wI, mn_wI, mJ_wI, ↓bnd_of, ↓bndX_r, ↓bndX_l, ↓ap_nr, bnd_of, bndX_r, bndX_l, if_true, if_false, ite_true, ite_false, not_true_eq_false, not_false_eq_true, Nat.reduceAdd, Nat.reduceMul, Nat.reduceEqDiff, Int.reduceToNat, Int.reduceNeg, Ilt_t, Ilt_f, Ile_t, Ile_f, Ieq_t, Ieq_f, Nlt_t, Nlt_f, Nle_t, Nle_f, Neq_t, Neq_f, or_true, true_or, or_false, false_or, and_true, true_and, and_false, false_and, ne_eq, or_self, and_self, decide_true, decide_false, Bool.false_eq_true, f_X8_put, f_X8_put_16, hL.o, h1, h2, d]
    · simp (disch := omega) only [↓reduceIte, add_i0, cast_add1, cast_sub1, toNat120, i32_lit, i32_neg, i32_add, i32_sub, i32_mul, i32_nat, i32_le, i32_lt, i32_eq, inB_i, Int.toNat_natCast, mI_sI_eq, mI_sI_ne, mR_sR_eq, mR_sR_ne, mI_sR, mR_sI, mK_sI, mN_sI, mn_sI, mJ_sI, mK_sR, mN_sR, mn_sR, mJ_sR, mI_wI, mR_wI, mK_wI, mN_wI, mn_wI, mJ_wI, ↓bnd_of, ↓bndX_r, ↓bndX_l, ↓ap_nr, bnd_of, bndX_r, bndX_l, if_true, if_false, ite_true, ite_false, not_true_eq_false, not_false_eq_true, Nat.reduceAdd, Nat.reduceMul, Nat.reduceEqDiff, Int.reduceToNat, Int.reduceNeg, Ilt_t, Ilt_f, Ile_t, Ile_f, Ieq_t, Ieq_f, Nlt_t, Nlt_f, Nle_t, Nle_f, Neq_t, Neq_f, or_true, true_or, or_false, false_or, and_true, true_and, and_false, false_and, ne_eq, or_self, and_self, decide_true, decide_false, Bool.false_eq_true, h1]
    · simp (disch := omega) only [↓reduceIte, add_i0, cast_add1, cast_sub1, toNat120, i32_lit, i32_neg, i32_add, i32_sub, i32_mul, i32_nat, i32_le, i32_lt, i32_eq, inB_i, Int.toNat_natCast, mI_sI_eq, mI_sI_ne, mR_sR_eq, mR_sR_ne, mI_sR, mR_sI, mK_sI, mN_sI, mn_sI, mJ_sI, mK_sR, mN_sR, mn_sR, mJ_sR, mI_wI, mR_wI, mK_wI, mN_wI, mn_wI, mJ_wI, ↓bnd_of, ↓bndX_r, ↓bndX_l, ↓ap_nr, bnd_of, bndX_r, bndX_l, if_true, if_false, ite_true, ite_false, not_true_eq_false, not_false_eq_true, Nat.reduceAdd, Nat.reduceMul, Nat.reduceEqDiff, Int.reduceToNat, Int.reduceNeg, Ilt_t, Ilt_f, Ile_t, Ile_f, Ieq_t, Ieq_f, Nlt_t, Nlt_f, Nle_t, Nle_f, Neq_t, Neq_f, or_true, true_or, or_false, false_or, and_true, true_and, and_false, false_and, ne_eq, or_self, and_self, decide_true, decide_false, Bool.false_eq_true, outS]
    · simp (disch := omega) only [↓reduceIte, add_i0, cast_add1, cast_sub1, toNat120, i32_lit, i32_neg, i32_add, i32_sub, i32_mul, i32_nat, i32_le, i32_lt, i32_eq, inB_i, Int.toNat_natCast, mI_sI_eq, mI_sI_ne, mR_sR_eq, mR_sR_ne, mI_sR, mR_sI, mK_sI, mN_sI, mn_sI, mJ_sI, mK_sR, mN_sR, mn_sR, mJ_sR, mI_wI, mR_wI, mK_wI, mN_wI, mn_wI, mJ_wI, ↓bnd_of, ↓bndX_r, ↓bndX_l, ↓ap_nr, bnd_of, bndX_r, bndX_l, if_true, if_false, ite_true, ite_false, not_true_eq_false, not_false_eq_true, Nat.reduceAdd, Nat.reduceMul, Nat.reduceEqDiff, Int.reduceToNat, Int.reduceNeg, Ilt_t, Ilt_f, Ile_t, Ile_f, Ieq_t, Ieq_f, Nlt_t, Nlt_f, Nle_t, Nle_f, Neq_t, Neq_f, or_true, true_or, or_false, false_or, and_true, true_and, and_false, false_and, ne_eq, or_self, and_self, decide_true, decide_false, Bool.false_eq_true, outS, d]
  · refine ⟨sI M 8 2 (p.1 + i32 1), ?_, (Chg.rf _ M).sI (by unfold TC; omega), ?_, ?_, ?_⟩
    · simp (disch := omega) only [↓reduceIte, add_i0, cast_add1, cast_sub1, toNat120, i32_lit, i32_neg, i32_add, i32_sub, i32_mul, i32_nat, i32_le, i32_lt, i32_eq, inB_i, Int.toNat_natCast, mI_sI_eq, mI_sI_ne, mR_sR_eq, mR_sR_ne, mI_sR, mR_sI, mK_sI, mN_sI, mn_sI, mJ_sI, mK_sR, mN_sR, mn_sR, mJ_sR, mI_wI, mR_wI, mK_wI, mN_wI, mn_wI, mJ_wI, ↓bnd_of, ↓bndX_r, ↓bndX_l, ↓ap_nr, bnd_of, bndX_r, bndX_l, if_true, if_false, ite_true, ite_false, not_true_eq_false, not_false_eq_true, Nat.reduceAdd, Nat.reduceMul, Nat.reduceEqDiff, Int.reduceToNat, Int.reduceNeg, Ilt_t, Ilt_f, Ile_t, Ile_f, Ieq_t, Ieq_f, Nlt_t, Nlt_f, Nle_t, Nle_f, Neq_t, Neq_f, or_true, true_or, or_false, false_or, and_true, true_and, and_false, false_and, ne_eq, or_self, and_self, decide_true, decide_false, Bool.false_eq_true, f_X8_put, f_X8_put_16, hL.o, h1, h2, d]
    · simp (disch := omega) only [↓reduceIte, add_i0, cast_add1, cast_sub1, toNat120, i32_lit, i32_neg, i32_add, i32_sub, i32_mul, i32_nat, i32_le, i32_lt, i32_eq, inB_i, Int.toNat_natCast, mI_sI_eq, mI_sI_ne, mR_sR_eq, mR_sR_ne, mI_sR, mR_sI, mK_sI, mN_sI, mn_sI, mJ_sI, mK_sR, mN_sR, mn_sR, mJ_sR, mI_wI, mR_wI, mK_wI, mN_wI, mn_wI, mJ_wI, ↓bnd_of, ↓bndX_r, ↓bndX_l, ↓ap_nr, bnd_of, bndX_r, bndX_l, if_true, if_false, ite_true, ite_false, not_true_eq_false, not_false_eq_true, Nat.reduceAdd, Nat.reduceMul, Nat.reduceEqDiff, Int.reduceToNat, Int.reduceNeg, Ilt_t, Ilt_f, Ile_t, Ile_f, Ieq_t, Ieq_f, Nlt_t, Nlt_f, Nle_t, Nle_f, Neq_t, Neq_f, or_true, true_or, or_false, false_or, and_true, true_and, and_false, false_and, ne_eq, or_self, and_self, decide_true, decide_false, Bool.false_eq_true, h1]
    · simp (disch := omega) only [↓reduceIte, add_i0, cast_add1, cast_sub1, toNat120, i32_lit, i32_neg, i32_add, i32_sub, i32_mul, i32_nat, i32_le, i32_lt, i32_eq, inB_i, Int.toNat_natCast, mI_sI_eq, mI_sI_ne, mR_sR_eq, mR_sR_ne, mI_sR, mR_sI, mK_sI, mN_sI, mn_sI, mJ_sI, mK_sR, mN_sR, mn_sR, mJ_sR, mI_wI, mR_wI, mK_wI, mN_wI, mn_wI, mJ_wI, ↓bnd_of, ↓bndX_r, ↓bndX_l, ↓ap_nr, bnd_of, bndX_r, bndX_l, if_true, if_false, ite_true, ite_false, not_true_eq_false, not_false_eq_true, Nat.reduceAdd, Nat.reduceMul, Nat.reduceEqDiff, Int.reduceToNat, Int.reduceNeg, Ilt_t, Ilt_f, Ile_t, Ile_f, Ieq_t, Ieq_f, Nlt_t, Nlt_f, Nle_t, Nle_f, Neq_t, Neq_f, or_true, true_or, or_false, false_or, and_true, true_and, and_false, false_and, ne_eq, or_self, and_self, decide_true, decide_false, Bool.false_eq_true, outS]
    · simp (disch := omega) only [↓reduceIte, add_i0, cast_add1, cast_sub1, toNat120, i32_lit, i32_neg, i32_add, i32_sub, i32_mul, i32_nat, i32_le, i32_lt, i32_eq, inB_i, Int.toNat_natCast, mI_sI_eq, mI_sI_ne, mR_sR_eq, mR_sR_ne, mI_sR, mR_sI, mK_sI, mN_sI, mn_sI, mJ_sI, mK_sR, mN_sR, mn_sR, mJ_sR, mI_wI, mR_wI, mK_wI, mN_wI, mn_wI, mJ_wI, ↓bnd_of, ↓bndX_r, ↓bndX_l, ↓ap_nr, bnd_of, bndX_r, bndX_l, if_true, if_false, ite_true, ite_false, not_true_eq_false, not_false_eq_true, Nat.reduceAdd, Nat.reduceMul, Nat.reduceEqDiff, Int.reduceToNat, Int.reduceNeg, Ilt_t, Ilt_f, Ile_t, Ile_f, Ieq_t, Ieq_f, Nlt_t, Nlt_f, Nle_t, Nle_f, Neq_t, Neq_f, or_true, true_or, or_false, false_or, and_true, true_and, and_false, false_and, ne_eq, or_self, and_self, decide_true, decide_false, Bool.false_eq_true, outS, d, h3]
set_option maxHeartbeats 600000 in
theorem CLay.chg {M M' : Mem} {d : Nat} (h : CLay M) (g : Chg (TC d) M M') : CLay M' := h.scr (g.scr TC_scr)
set_option maxHeartbeats 600000 in
theorem X8_putNumber (hL : CLay M) (h : TS M w p) (v : Int) (v0 : 0 ≤ v) (v1 : v ≤ 999) : ∃ M', f_X8_putNumber 8 (i32 v) M = some ((), M') ∧ Chg (TC 4) M M' ∧ TS M' w (outS w (numL v) p) := by
  have last : ∀ (M : Mem) (p : Int32 × Int32), CLay M → TS M w p → ∃ M', f_X8_putNumber_37 8 (i32 v) M = some ((), M') ∧ Chg (TC 4) M M' ∧ TS M' w (outS w [i32 (48 + (v - v / 10 * 10))] p) := by
    intro M p hL h
    obtain ⟨M', e, g, q⟩ := X8_put hL h (i32 (48 + (v - v / 10 * 10)))
    refine ⟨M', ?_, g, q⟩
    simp (disch := omega) only [↓reduceIte, add_i0, cast_add1, cast_sub1, toNat120, i32_lit, i32_neg, i32_add, i32_sub, i32_mul, i32_nat, i32_le, i32_lt, i32_eq, inB_i, Int.toNat_natCast, mI_sI_eq, mI_sI_ne, mR_sR_eq, mR_sR_ne, mI_sR, mR_sI, mK_sI, mN_sI, mn_sI, mJ_sI, mK_sR, mN_sR, mn_sR, mJ_sR, mI_wI, mR_wI, mK_wI, mN_wI, mn_wI, mJ_wI, ↓bnd_of, ↓bndX_r, ↓bndX_l, ↓ap_nr, bnd_of, bndX_r, bndX_l, if_true, if_false, ite_true, ite_false, not_true_eq_false, not_false_eq_true, Nat.reduceAdd, Nat.reduceMul, Nat.reduceEqDiff, Int.reduceToNat, Int.reduceNeg, Ilt_t, Ilt_f, Ile_t, Ile_f, Ieq_t, Ieq_f, Nlt_t, Nlt_f, Nle_t, Nle_f, Neq_t, Neq_f, or_true, true_or, or_false, false_or, and_true, true_and, and_false, false_and, ne_eq, or_self, and_self, decide_true, decide_false, Bool.false_eq_true, f_X8_putNumber_37, hL.o, i32_div, e]
  have mid : ∀ (M : Mem) (p : Int32 × Int32), CLay M → TS M w p → ∃ M', f_X8_putNumber_17 8 (i32 v) M = some ((), M') ∧ Chg (TC 4) M M' ∧ TS M' w (outS w ((if v < 10 then [] else [i32 (48 + (v / 10 - v / 10 / 10 * 10))]) ++ [i32 (48 + (v - v / 10 * 10))]) p) := by
    intro M p hL h
    by_cases d : v < 10
    · obtain ⟨M', e, g, q⟩ := last M p hL h
      refine ⟨M', ?_, g, ?_⟩
      · rw [← e]; simp (disch := omega) only [↓reduceIte, add_i0, cast_add1, cast_sub1, toNat120, i32_lit, i32_neg, i32_add, i32_sub, i32_mul, i32_nat, i32_le, i32_lt, i32_eq, inB_i, Int.toNat_natCast, mI_sI_eq, mI_sI_ne, mR_sR_eq, mR_sR_ne, mI_sR, mR_sI, mK_sI, mN_sI, mn_sI, mJ_sI, mK_sR, mN_sR, mn_sR, mJ_sR, mI_wI, mR_wI, mK_wI, mN_wI, mn_wI, mJ_wI, ↓bnd_of, ↓bndX_r, ↓bndX_l, ↓ap_nr, bnd_of, bndX_r, bndX_l, if_true, if_false, ite_true, ite_false, not_true_eq_false, not_false_eq_true, Nat.reduceAdd, Nat.reduceMul, Nat.reduceEqDiff, Int.reduceToNat, Int.reduceNeg, Ilt_t, Ilt_f, Ile_t, Ile_f, Ieq_t, Ieq_f, Nlt_t, Nlt_f, Nle_t, Nle_f, Neq_t, Neq_f, or_true, true_or, or_false, false_or, and_true, true_and, and_false, false_and, ne_eq, or_self, and_self, decide_true, decide_false, Bool.false_eq_true, f_X8_putNumber_17]
      · rw [if_pos d]; exact q
    · obtain ⟨M1, e1, g1, q1⟩ := X8_put hL h (i32 (48 + (v / 10 - v / 10 / 10 * 10)))
      obtain ⟨M', e, g, q⟩ := last M1 _ (hL.chg g1) q1
      refine ⟨M', ?_, g1.tr g, ?_⟩
      · rw [← e]
        unfold f_X8_putNumber_17
        rw [if_neg (by simp (disch := omega) only [↓reduceIte, add_i0, cast_add1, cast_sub1, toNat120, i32_lit, i32_neg, i32_add, i32_sub, i32_mul, i32_nat, i32_le, i32_lt, i32_eq, inB_i, Int.toNat_natCast, mI_sI_eq, mI_sI_ne, mR_sR_eq, mR_sR_ne, mI_sR, mR_sI, mK_sI, mN_sI, mn_sI, mJ_sI, mK_sR, mN_sR, mn_sR, mJ_sR, mI_wI, mR_wI, mK_wI, mN_wI, mn_wI, mJ_wI, ↓bnd_of, ↓bndX_r, ↓bndX_l, ↓ap_nr, bnd_of, bndX_r, bndX_l, if_true, if_false, ite_true, ite_false, not_true_eq_false, not_false_eq_true, Nat.reduceAdd, Nat.reduceMul, Nat.reduceEqDiff, Int.reduceToNat, Int.reduceNeg, Ilt_t, Ilt_f, Ile_t, Ile_f, Ieq_t, Ieq_f, Nlt_t, Nlt_f, Nle_t, Nle_f, Neq_t, Neq_f, or_true, true_or, or_false, false_or, and_true, true_and, and_false, false_and, ne_eq, or_self, and_self, decide_true, decide_false, Bool.false_eq_true]), if_pos hL.k8]
        have e2 : (48 : Int32) + ((i32 v / (10 : Int32)) - (i32 v / (10 : Int32)) / (10 : Int32) * (10 : Int32)) = i32 (48 + (v / 10 - v / 10 / 10 * 10)) := by simp (disch := omega) only [↓reduceIte, add_i0, cast_add1, cast_sub1, toNat120, i32_lit, i32_neg, i32_add, i32_sub, i32_mul, i32_nat, i32_le, i32_lt, i32_eq, inB_i, Int.toNat_natCast, mI_sI_eq, mI_sI_ne, mR_sR_eq, mR_sR_ne, mI_sR, mR_sI, mK_sI, mN_sI, mn_sI, mJ_sI, mK_sR, mN_sR, mn_sR, mJ_sR, mI_wI, mR_wI, mK_wI, mN_wI, mn_wI, mJ_wI, ↓bnd_of, ↓bndX_r, ↓bndX_l, ↓ap_nr, bnd_of, bndX_r, bndX_l, if_true, if_false, ite_true, ite_false, not_true_eq_false, not_false_eq_true, Nat.reduceAdd, Nat.reduceMul, Nat.reduceEqDiff, Int.reduceToNat, Int.reduceNeg, Ilt_t, Ilt_f, Ile_t, Ile_f, Ieq_t, Ieq_f, Nlt_t, Nlt_f, Nle_t, Nle_f, Neq_t, Neq_f, or_true, true_or, or_false, false_or, and_true, true_and, and_false, false_and, ne_eq, or_self, and_self, decide_true, decide_false, Bool.false_eq_true, i32_div]
        rw [e2, bx e1]
      · rw [if_neg d, outS_app]; exact q
  by_cases d : v < 100
  · obtain ⟨M', e, g, q⟩ := mid M p hL h
    refine ⟨M', ?_, g, ?_⟩
    · rw [← e]; simp (disch := omega) only [↓reduceIte, add_i0, cast_add1, cast_sub1, toNat120, i32_lit, i32_neg, i32_add, i32_sub, i32_mul, i32_nat, i32_le, i32_lt, i32_eq, inB_i, Int.toNat_natCast, mI_sI_eq, mI_sI_ne, mR_sR_eq, mR_sR_ne, mI_sR, mR_sI, mK_sI, mN_sI, mn_sI, mJ_sI, mK_sR, mN_sR, mn_sR, mJ_sR, mI_wI, mR_wI, mK_wI, mN_wI, mn_wI, mJ_wI, ↓bnd_of, ↓bndX_r, ↓bndX_l, ↓ap_nr, bnd_of, bndX_r, bndX_l, if_true, if_false, ite_true, ite_false, not_true_eq_false, not_false_eq_true, Nat.reduceAdd, Nat.reduceMul, Nat.reduceEqDiff, Int.reduceToNat, Int.reduceNeg, Ilt_t, Ilt_f, Ile_t, Ile_f, Ieq_t, Ieq_f, Nlt_t, Nlt_f, Nle_t, Nle_f, Neq_t, Neq_f, or_true, true_or, or_false, false_or, and_true, true_and, and_false, false_and, ne_eq, or_self, and_self, decide_true, decide_false, Bool.false_eq_true, f_X8_putNumber]
    · unfold numL; rw [if_pos d]; exact q
  · obtain ⟨M1, e1, g1, q1⟩ := X8_put hL h (i32 (48 + v / 100))
    obtain ⟨M', e, g, q⟩ := mid M1 _ (hL.chg g1) q1
    refine ⟨M', ?_, g1.tr g, ?_⟩
    · rw [← e]
      unfold f_X8_putNumber
      have e2 : (48 : Int32) + (i32 v / (100 : Int32)) = i32 (48 + v / 100) := by simp (disch := omega) only [↓reduceIte, add_i0, cast_add1, cast_sub1, toNat120, i32_lit, i32_neg, i32_add, i32_sub, i32_mul, i32_nat, i32_le, i32_lt, i32_eq, inB_i, Int.toNat_natCast, mI_sI_eq, mI_sI_ne, mR_sR_eq, mR_sR_ne, mI_sR, mR_sI, mK_sI, mN_sI, mn_sI, mJ_sI, mK_sR, mN_sR, mn_sR, mJ_sR, mI_wI, mR_wI, mK_wI, mN_wI, mn_wI, mJ_wI, ↓bnd_of, ↓bndX_r, ↓bndX_l, ↓ap_nr, bnd_of, bndX_r, bndX_l, if_true, if_false, ite_true, ite_false, not_true_eq_false, not_false_eq_true, Nat.reduceAdd, Nat.reduceMul, Nat.reduceEqDiff, Int.reduceToNat, Int.reduceNeg, Ilt_t, Ilt_f, Ile_t, Ile_f, Ieq_t, Ieq_f, Nlt_t, Nlt_f, Nle_t, Nle_f, Neq_t, Neq_f, or_true, true_or, or_false, false_or, and_true, true_and, and_false, false_and, ne_eq, or_self, and_self, decide_true, decide_false, Bool.false_eq_true, i32_div]
      rw [if_neg (by simp (disch := omega) only [↓reduceIte, add_i0, cast_add1, cast_sub1, toNat120, i32_lit, i32_neg, i32_add, i32_sub, i32_mul, i32_nat, i32_le, i32_lt, i32_eq, inB_i, Int.toNat_natCast, mI_sI_eq, mI_sI_ne, mR_sR_eq, mR_sR_ne, mI_sR, mR_sI, mK_sI, mN_sI, mn_sI, mJ_sI, mK_sR, mN_sR, mn_sR, mJ_sR, mI_wI, mR_wI, mK_wI, mN_wI, mn_wI, mJ_wI, ↓bnd_of, ↓bndX_r, ↓bndX_l, ↓ap_nr, bnd_of, bndX_r, bndX_l, if_true, if_false, ite_true, ite_false, not_true_eq_false, not_false_eq_true, Nat.reduceAdd, Nat.reduceMul, Nat.reduceEqDiff, Int.reduceToNat, Int.reduceNeg, Ilt_t, Ilt_f, Ile_t, Ile_f, Ieq_t, Ieq_f, Nlt_t, Nlt_f, Nle_t, Nle_f, Neq_t, Neq_f, or_true, true_or, or_false, false_or, and_true, true_and, and_false, false_and, ne_eq, or_self, and_self, decide_true, decide_false, Bool.false_eq_true]), if_pos hL.k8, e2, bx e1]
    · unfold numL; rw [if_neg d, outS_app]; exact q
def ColAt (M : Mem) (l : Nat) : Prop := mK M (21 + 4 * l) = 3 ∧ mR M (21 + 4 * l) 0 = 21 + 4 * l + 1 ∧ mR M (21 + 4 * l) 1 = 21 + 4 * l + 2 ∧ mR M (21 + 4 * l) 2 = 21 + 4 * l + 3 ∧ mK M (21 + 4 * l + 1) = 21 ∧ mK M (21 + 4 * l + 2) = 21 ∧ mK M (21 + 4 * l + 3) = 21 ∧ mN M (21 + 4 * l + 1) = 120 ∧ mN M (21 + 4 * l + 2) = 120 ∧ mN M (21 + 4 * l + 3) = 120 ∧ mR M 19 l = 21 + 4 * l
set_option maxHeartbeats 600000 in
theorem ColAt.o {l : Nat} (h : ColAt M l) : mK M (21 + 4 * l) = 3 ∧ mR M (21 + 4 * l) 0 = 21 + 4 * l + 1 ∧ mR M (21 + 4 * l) 1 = 21 + 4 * l + 2 ∧ mR M (21 + 4 * l) 2 = 21 + 4 * l + 3 ∧ mK M (21 + 4 * l + 1) = 21 ∧ mK M (21 + 4 * l + 2) = 21 ∧ mK M (21 + 4 * l + 3) = 21 ∧ mN M (21 + 4 * l + 1) = 120 ∧ mN M (21 + 4 * l + 2) = 120 ∧ mN M (21 + 4 * l + 3) = 120 ∧ mR M 19 l = 21 + 4 * l := h
set_option maxHeartbeats 600000 in
theorem ColLay.at21 (hc : ColLay M 21) {l : Nat} (hl : l < 8) : ColAt M l := by
  obtain ⟨h1, h2, h3, h4, h5, h6, h7, h8, h9, h10, h11⟩ := hc
  exact ⟨h1 l hl, h2 l hl, h3 l hl, h4 l hl, h5 l hl, h6 l hl, h7 l hl, h8 l hl, h9 l hl, h10 l hl, h11 l hl⟩
def RowAt (M : Mem) (d : Nat) : Prop := mR M 9 d = 10 + d ∧ mK M (10 + d) = 21 ∧ mN M (10 + d) = 8
set_option maxHeartbeats 600000 in
theorem RowAt.o {d : Nat} (h : RowAt M d) : mR M 9 d = 10 + d ∧ mK M (10 + d) = 21 ∧ mN M (10 + d) = 8 := h
set_option maxHeartbeats 600000 in
theorem CLay.rowat (hL : CLay M) {d : Nat} (hd : d < 5) : RowAt M d := ⟨hL.row.1 d hd, hL.row.2.1 d hd, hL.row.2.2 d hd⟩
def TelL (M : Mem) : Prop := mK M 8 = 9 ∧ mR M 8 7 = 9 ∧ mK M 9 = 25 ∧ mN M 9 = 5 ∧ mK M 18 = 8 ∧ mR M 18 0 = 19 ∧ mK M 19 = 23 ∧ mN M 19 = 8
set_option maxHeartbeats 600000 in
theorem TelL.o (h : TelL M) : mK M 8 = 9 ∧ mR M 8 7 = 9 ∧ mK M 9 = 25 ∧ mN M 9 = 5 ∧ mK M 18 = 8 ∧ mR M 18 0 = 19 ∧ mK M 19 = 23 ∧ mN M 19 = 8 := h
set_option maxHeartbeats 600000 in
theorem CLay.tel (hL : CLay M) : TelL M := by
  have h := hL.o
  unfold TelL
  simp only [h, and_self]
def ShT (M : Mem) (s : Nat) : Prop := mK M s = 6 ∧ mR M s 10 = s + 9 ∧ mK M (s + 9) = 21 ∧ mN M (s + 9) = 16 ∧ mR M s 6 = s + 5 ∧ mK M (s + 5) = 21 ∧ mN M (s + 5) = 16
set_option maxHeartbeats 600000 in
theorem ShT.o {s : Nat} (h : ShT M s) : mK M s = 6 ∧ mR M s 10 = s + 9 ∧ mK M (s + 9) = 21 ∧ mN M (s + 9) = 16 ∧ mR M s 6 = s + 5 ∧ mK M (s + 5) = 21 ∧ mN M (s + 5) = 16 := h
set_option maxHeartbeats 600000 in
theorem ShLay.tel {s : Nat} (hs : ShLay M s) : ShT M s := by
  have h := hs.o
  unfold ShT
  simp only [h, and_self]
set_option maxHeartbeats 600000 in
theorem X8_bgS1 {o d j nl : Nat} (hL : CLay M) (h5 : mR M 8 5 = s) (hs : ShLay M s) (c1 : mI M s 1 = i32 nl) (hj : j < nl) (hnl : nl ≤ 8) (ho : o < 16) (hd : d ≤ 3) (hb : bt (mI M (s + 9) o) j = true) (n : Nat) : f_X8_beginAt_2 (n + 1) 8 (i32 o) (i32 d) (i32 j) M = f_X8_beginAt_2 n 8 (i32 o) (i32 d) (i32 ((j + 1 : Nat) : Int)) (sI M (10 + (d + 1)) j (mI M (10 + d) j)) := by
  have wa := hL.rowat (d := d) (by omega)
  have wb := hL.rowat (d := d + 1) (by omega)
  have ht := hL.tel
  have hst := hs.tel
  have eu := ubit (mI M (s + 9) o) (i := j) (by omega)
  rw [if_pos hb] at eu
  simp (disch := omega) only [↓reduceIte, add_i0, cast_add1, cast_sub1, toNat120, i32_lit, i32_neg, i32_add, i32_sub, i32_mul, i32_nat, i32_le, i32_lt, i32_eq, inB_i, Int.toNat_natCast, mI_sI_eq, mI_sI_ne, mR_sR_eq, mR_sR_ne, mI_sR, mR_sI, mK_sI, mN_sI, mn_sI, mJ_sI, mK_sR, mN_sR, mn_sR, mJ_sR, mI_wI, mR_wI, mK_wI, mN_wI, mn_wI, mJ_wI, ↓bnd_of, ↓bndX_r, ↓bndX_l, ↓ap_nr, bnd_of, bndX_r, bndX_l, if_true, if_false, ite_true, ite_false, not_true_eq_false, not_false_eq_true, Nat.reduceAdd, Nat.reduceMul, Nat.reduceEqDiff, Int.reduceToNat, Int.reduceNeg, Ilt_t, Ilt_f, Ile_t, Ile_f, Ieq_t, Ieq_f, Nlt_t, Nlt_f, Nle_t, Nle_f, Neq_t, Neq_f, or_true, true_or, or_false, false_or, and_true, true_and, and_false, false_and, ne_eq, or_self, and_self, decide_true, decide_false, Bool.false_eq_true, f_X8_beginAt_2, f_X8_beginAt_47, ht.o, h5, hst.o, c1, eu, wa.o, wb.o]
set_option maxHeartbeats 600000 in
theorem X8_bgS0 {o d j nl : Nat} (hL : CLay M) (h5 : mR M 8 5 = s) (hs : ShLay M s) (c1 : mI M s 1 = i32 nl) (hj : j < nl) (hnl : nl ≤ 8) (ho : o < 16) (hb : ¬ bt (mI M (s + 9) o) j = true) (n : Nat) : f_X8_beginAt_2 (n + 1) 8 (i32 o) (i32 d) (i32 j) M = f_X8_beginAt_2 n 8 (i32 o) (i32 d) (i32 ((j + 1 : Nat) : Int)) M := by
  have ht := hL.tel
  have hst := hs.tel
  have eu := ubit (mI M (s + 9) o) (i := j) (by omega)
  rw [if_neg hb] at eu
  simp (disch := omega) only [↓reduceIte, add_i0, cast_add1, cast_sub1, toNat120, i32_lit, i32_neg, i32_add, i32_sub, i32_mul, i32_nat, i32_le, i32_lt, i32_eq, inB_i, Int.toNat_natCast, mI_sI_eq, mI_sI_ne, mR_sR_eq, mR_sR_ne, mI_sR, mR_sI, mK_sI, mN_sI, mn_sI, mJ_sI, mK_sR, mN_sR, mn_sR, mJ_sR, mI_wI, mR_wI, mK_wI, mN_wI, mn_wI, mJ_wI, ↓bnd_of, ↓bndX_r, ↓bndX_l, ↓ap_nr, bnd_of, bndX_r, bndX_l, if_true, if_false, ite_true, ite_false, not_true_eq_false, not_false_eq_true, Nat.reduceAdd, Nat.reduceMul, Nat.reduceEqDiff, Int.reduceToNat, Int.reduceNeg, Ilt_t, Ilt_f, Ile_t, Ile_f, Ieq_t, Ieq_f, Nlt_t, Nlt_f, Nle_t, Nle_f, Neq_t, Neq_f, or_true, true_or, or_false, false_or, and_true, true_and, and_false, false_and, ne_eq, or_self, and_self, decide_true, decide_false, Bool.false_eq_true, f_X8_beginAt_2, f_X8_beginAt_47, ht.o, h5, hst.o, c1, eu]
set_option maxHeartbeats 600000 in
theorem X8_goS1 {o d j nl p q : Nat} {x : Int} {ld : Int32} (hL : CLay M) (h5 : mR M 8 5 = s) (h6 : mR M 8 6 = 18) (hs : ShLay M s) (hc : ColLay M 21) (c1 : mI M s 1 = i32 nl) (hj : j < nl) (hnl : nl ≤ 8) (ho : o < 16) (hd : d < 5) (hb : bt (mI M (s + 9) o) j = true) (hp1 : mI M (10 + d) j = i32 p) (eb : f_X2_behind (21 + 4 * j) (i32 p) (i32 x) M = some (i32 q, M)) (n : Nat) : f_X8_goOn_14 (n + 1) 8 (i32 o) ld (i32 d) (i32 x) (i32 j) M = f_X8_goOn_14 n 8 (i32 o) ld (i32 d) (i32 x) (i32 ((j + 1 : Nat) : Int)) (sI M (10 + d) j (i32 q)) := by
  have wa := hL.rowat hd
  have ht := hL.tel
  have hst := hs.tel
  have hca := hc.at21 (l := j) (by omega)
  have eu := ubit (mI M (s + 9) o) (i := j) (by omega)
  rw [if_pos hb] at eu
  simp (disch := omega) only [↓reduceIte, add_i0, cast_add1, cast_sub1, toNat120, i32_lit, i32_neg, i32_add, i32_sub, i32_mul, i32_nat, i32_le, i32_lt, i32_eq, inB_i, Int.toNat_natCast, mI_sI_eq, mI_sI_ne, mR_sR_eq, mR_sR_ne, mI_sR, mR_sI, mK_sI, mN_sI, mn_sI, mJ_sI, mK_sR, mN_sR, mn_sR, mJ_sR, mI_wI, mR_wI, mK_wI, mN_wI, mn_wI, mJ_wI, ↓bnd_of, ↓bndX_r, ↓bndX_l, ↓ap_nr, bnd_of, bndX_r, bndX_l, if_true, if_false, ite_true, ite_false, not_true_eq_false, not_false_eq_true, Nat.reduceAdd, Nat.reduceMul, Nat.reduceEqDiff, Int.reduceToNat, Int.reduceNeg, Ilt_t, Ilt_f, Ile_t, Ile_f, Ieq_t, Ieq_f, Nlt_t, Nlt_f, Nle_t, Nle_f, Neq_t, Neq_f, or_true, true_or, or_false, false_or, and_true, true_and, and_false, false_and, ne_eq, or_self, and_self, decide_true, decide_false, Bool.false_eq_true, f_X8_goOn_14, f_X8_goOn_76, ht.o, h5, h6, hst.o, c1, eu, wa.o, hca.o, hp1, ↓bx eb]
set_option maxHeartbeats 600000 in
theorem X8_goS0 {o d j nl : Nat} {x : Int} {ld : Int32} (hL : CLay M) (h5 : mR M 8 5 = s) (hs : ShLay M s) (c1 : mI M s 1 = i32 nl) (hj : j < nl) (hnl : nl ≤ 8) (ho : o < 16) (hb : ¬ bt (mI M (s + 9) o) j = true) (n : Nat) : f_X8_goOn_14 (n + 1) 8 (i32 o) ld (i32 d) (i32 x) (i32 j) M = f_X8_goOn_14 n 8 (i32 o) ld (i32 d) (i32 x) (i32 ((j + 1 : Nat) : Int)) M := by
  have ht := hL.tel
  have hst := hs.tel
  have eu := ubit (mI M (s + 9) o) (i := j) (by omega)
  rw [if_neg hb] at eu
  simp (disch := omega) only [↓reduceIte, add_i0, cast_add1, cast_sub1, toNat120, i32_lit, i32_neg, i32_add, i32_sub, i32_mul, i32_nat, i32_le, i32_lt, i32_eq, inB_i, Int.toNat_natCast, mI_sI_eq, mI_sI_ne, mR_sR_eq, mR_sR_ne, mI_sR, mR_sI, mK_sI, mN_sI, mn_sI, mJ_sI, mK_sR, mN_sR, mn_sR, mJ_sR, mI_wI, mR_wI, mK_wI, mN_wI, mn_wI, mJ_wI, ↓bnd_of, ↓bndX_r, ↓bndX_l, ↓ap_nr, bnd_of, bndX_r, bndX_l, if_true, if_false, ite_true, ite_false, not_true_eq_false, not_false_eq_true, Nat.reduceAdd, Nat.reduceMul, Nat.reduceEqDiff, Int.reduceToNat, Int.reduceNeg, Ilt_t, Ilt_f, Ile_t, Ile_f, Ieq_t, Ieq_f, Nlt_t, Nlt_f, Nle_t, Nle_f, Neq_t, Neq_f, or_true, true_or, or_false, false_or, and_true, true_and, and_false, false_and, ne_eq, or_self, and_self, decide_true, decide_false, Bool.false_eq_true, f_X8_goOn_14, f_X8_goOn_76, ht.o, h5, hst.o, c1, eu]
set_option maxHeartbeats 600000 in
theorem X8_goE0 {o d nl q ld : Nat} {x : Int32} (hL : CLay M) (h5 : mR M 8 5 = s) (hs : ShLay M s) (c1 : mI M s 1 = i32 nl) (hnl : nl ≤ 8) (hl : ld < 8) (hd : d < 5) (hp1 : mI M (10 + d) ld = i32 q) (eh : f_X8_has 8 (i32 ld) (i32 q) M = some (i32 0, M)) (n : Nat) : f_X8_goOn_14 (n + 1) 8 (i32 o) (i32 ld) (i32 d) x (i32 nl) M = some (i32 0, M) := by
  have wa := hL.rowat hd
  have ht := hL.tel
  have hst := hs.tel
  simp (disch := omega) only [↓reduceIte, add_i0, cast_add1, cast_sub1, toNat120, i32_lit, i32_neg, i32_add, i32_sub, i32_mul, i32_nat, i32_le, i32_lt, i32_eq, inB_i, Int.toNat_natCast, mI_sI_eq, mI_sI_ne, mR_sR_eq, mR_sR_ne, mI_sR, mR_sI, mK_sI, mN_sI, mn_sI, mJ_sI, mK_sR, mN_sR, mn_sR, mJ_sR, mI_wI, mR_wI, mK_wI, mN_wI, mn_wI, mJ_wI, ↓bnd_of, ↓bndX_r, ↓bndX_l, ↓ap_nr, bnd_of, bndX_r, bndX_l, if_true, if_false, ite_true, ite_false, not_true_eq_false, not_false_eq_true, Nat.reduceAdd, Nat.reduceMul, Nat.reduceEqDiff, Int.reduceToNat, Int.reduceNeg, Ilt_t, Ilt_f, Ile_t, Ile_f, Ieq_t, Ieq_f, Nlt_t, Nlt_f, Nle_t, Nle_f, Neq_t, Neq_f, or_true, true_or, or_false, false_or, and_true, true_and, and_false, false_and, ne_eq, or_self, and_self, decide_true, decide_false, Bool.false_eq_true, f_X8_goOn_14, ht.o, h5, hst.o, c1, wa.o, hp1, ↓bx eh]
set_option maxHeartbeats 600000 in
theorem X8_goE1 {o d nl q ld : Nat} {x r : Int32} (hL : CLay M) (h5 : mR M 8 5 = s) (h6 : mR M 8 6 = 18) (hs : ShLay M s) (hc : ColLay M 21) (c1 : mI M s 1 = i32 nl) (hnl : nl ≤ 8) (hl : ld < 8) (hd : d < 5) (hq : q < 120) (hp1 : mI M (10 + d) ld = i32 q) (hr : mI M (21 + 4 * ld + 1) q = r) (eh : f_X8_has 8 (i32 ld) (i32 q) M = some (i32 1, M)) (n : Nat) : f_X8_goOn_14 (n + 1) 8 (i32 o) (i32 ld) (i32 d) x (i32 nl) M = if r = x then some (i32 1, M) else some (i32 0, M) := by
  have wa := hL.rowat hd
  have ht := hL.tel
  have hst := hs.tel
  have hca := hc.at21 hl
  simp (disch := omega) only [↓reduceIte, add_i0, cast_add1, cast_sub1, toNat120, i32_lit, i32_neg, i32_add, i32_sub, i32_mul, i32_nat, i32_le, i32_lt, i32_eq, inB_i, Int.toNat_natCast, mI_sI_eq, mI_sI_ne, mR_sR_eq, mR_sR_ne, mI_sR, mR_sI, mK_sI, mN_sI, mn_sI, mJ_sI, mK_sR, mN_sR, mn_sR, mJ_sR, mI_wI, mR_wI, mK_wI, mN_wI, mn_wI, mJ_wI, ↓bnd_of, ↓bndX_r, ↓bndX_l, ↓ap_nr, bnd_of, bndX_r, bndX_l, if_true, if_false, ite_true, ite_false, not_true_eq_false, not_false_eq_true, Nat.reduceAdd, Nat.reduceMul, Nat.reduceEqDiff, Int.reduceToNat, Int.reduceNeg, Ilt_t, Ilt_f, Ile_t, Ile_f, Ieq_t, Ieq_f, Nlt_t, Nlt_f, Nle_t, Nle_f, Neq_t, Neq_f, or_true, true_or, or_false, false_or, and_true, true_and, and_false, false_and, ne_eq, or_self, and_self, decide_true, decide_false, Bool.false_eq_true, f_X8_goOn_14, ht.o, h5, h6, hst.o, c1, wa.o, hca.o, hp1, ↓bx eh, hr]
set_option maxHeartbeats 600000 in
theorem X8_begin2 (hS : S.ok) {o d : Nat} (ho : o < S.nf) (hd : d ≤ 3) : ∀ (k j n : Nat) (M : Mem), j + k = S.nl → k < n → CV M s S A → mR M 8 5 = s → ∃ M', f_X8_beginAt_2 n 8 (i32 o) (i32 d) (i32 j) M = some ((), M') ∧ Chg (fun a i => a = 10 + (d + 1) ∧ j ≤ i) M M' ∧ ∀ l, j ≤ l → l < S.nl → S.ins (S.fo l) o = true → mI M' (10 + (d + 1)) l = mI M (10 + d) l := by
  have hnl := hS.2.1
  have hnf := hS.1
  intro k
  induction k with
  | zero =>
    intro j n M hj hn hV h5
    obtain ⟨n, rfl⟩ : ∃ m, n = m + 1 := ⟨n - 1, by omega⟩
    obtain ⟨hL, hc, hs, hC, hA, hr, -⟩ := hV
    have c1 := hC.2.1
    refine ⟨M, ?_, Chg.rf _ M, fun l h1 h2 => by omega⟩
    simp (disch := omega) only [↓reduceIte, add_i0, cast_add1, cast_sub1, toNat120, i32_lit, i32_neg, i32_add, i32_sub, i32_mul, i32_nat, i32_le, i32_lt, i32_eq, inB_i, Int.toNat_natCast, mI_sI_eq, mI_sI_ne, mR_sR_eq, mR_sR_ne, mI_sR, mR_sI, mK_sI, mN_sI, mn_sI, mJ_sI, mK_sR, mN_sR, mn_sR, mJ_sR, mI_wI, mR_wI, mK_wI, mN_wI, mn_wI, mJ_wI, ↓bnd_of, ↓bndX_r, ↓bndX_l, ↓ap_nr, bnd_of, bndX_r, bndX_l, if_true, if_false, ite_true, ite_false, not_true_eq_false, not_false_eq_true, Nat.reduceAdd, Nat.reduceMul, Nat.reduceEqDiff, Int.reduceToNat, Int.reduceNeg, Ilt_t, Ilt_f, Ile_t, Ile_f, Ieq_t, Ieq_f, Nlt_t, Nlt_f, Nle_t, Nle_f, Neq_t, Neq_f, or_true, true_or, or_false, false_or, and_true, true_and, and_false, false_and, ne_eq, or_self, and_self, decide_true, decide_false, Bool.false_eq_true, f_X8_beginAt_2, hL.o, h5, hs.o, c1]
  | succ k ih =>
    intro j n M hj hn hV h5
    obtain ⟨n, rfl⟩ : ∃ m, n = m + 1 := ⟨n - 1, by omega⟩
    have hV0 := hV
    obtain ⟨hL, hc, hs, hC, hA, hr, -⟩ := hV
    have c1 := hC.2.1
    have cb := hC.2.2.2.2.2.2.2.2.2.2.1 o j ho (by omega)
    simp only [show j < S.nl by omega, decide_true, Bool.true_and] at cb
    obtain ⟨w1, w2, w3⟩ := hL.row
    by_cases c : S.ins (S.fo j) o = true
    · have g : Chg (fun a i => a = 10 + (d + 1) ∧ j ≤ i) M (sI M (10 + (d + 1)) j (mI M (10 + d) j)) := (Chg.rf _ M).sI ⟨rfl, Nat.le_refl _⟩
      have gs := g.scr (fun a i q => sc_mid (by omega))
      obtain ⟨M', q1, q2, q3⟩ := ih (j + 1) n _ (by omega) (by omega) (hV0.scr gs) h5
      refine ⟨M', ?_, g.tr (q2.mono (fun a i q => by omega)), fun l h1 h2 h3 => ?_⟩
      · rw [← q1]
        exact X8_bgS1 hL h5 hs c1 (by omega) hnl (by omega) hd (by rw [cb]; exact c) n
      · by_cases e : l = j
        · subst e
          rw [q2.i (by omega)]
          exact mI_sI_eq
        · rw [q3 l (by omega) h2 h3]
          simp (disch := omega) only [↓reduceIte, add_i0, cast_add1, cast_sub1, toNat120, i32_lit, i32_neg, i32_add, i32_sub, i32_mul, i32_nat, i32_le, i32_lt, i32_eq, inB_i, Int.toNat_natCast, mI_sI_eq, mI_sI_ne, mR_sR_eq, mR_sR_ne, mI_sR, mR_sI, mK_sI, mN_sI, mn_sI, mJ_sI, mK_sR, mN_sR, mn_sR, mJ_sR, mI_wI, mR_wI, mK_wI, mN_wI, mn_wI, mJ_wI, ↓bnd_of, ↓bndX_r, ↓bndX_l, ↓ap_nr, bnd_of, bndX_r, bndX_l, if_true, if_false, ite_true, ite_false, not_true_eq_false, not_false_eq_true, Nat.reduceAdd, Nat.reduceMul, Nat.reduceEqDiff, Int.reduceToNat, Int.reduceNeg, Ilt_t, Ilt_f, Ile_t, Ile_f, Ieq_t, Ieq_f, Nlt_t, Nlt_f, Nle_t, Nle_f, Neq_t, Neq_f, or_true, true_or, or_false, false_or, and_true, true_and, and_false, false_and, ne_eq, or_self, and_self, decide_true, decide_false, Bool.false_eq_true, e]
    · obtain ⟨M', q1, q2, q3⟩ := ih (j + 1) n M (by omega) (by omega) hV0 h5
      refine ⟨M', ?_, q2.mono (fun a i q => by omega), fun l h1 h2 h3 => ?_⟩
      · rw [← q1]
        exact X8_bgS0 hL h5 hs c1 (by omega) hnl (by omega) (by rw [cb]; exact c) n
      · by_cases e : l = j
        · subst e; exact absurd h3 c
        · exact q3 l (by omega) h2 h3
set_option maxHeartbeats 600000 in
theorem X8_beginAt (hS : S.ok) {o d : Nat} (ho : o < S.nf) (hd : d ≤ 3) (hV : CV M s S A) (h5 : mR M 8 5 = s) : ∃ M', f_X8_beginAt 8 (i32 o) (i32 d) M = some ((), M') ∧ Chg (TC d) M M' ∧ (∀ j, mI M' 8 j = mI M 8 j) ∧ ∀ l, l < S.nl → S.ins (S.fo l) o = true → mI M' (10 + (d + 1)) l = mI M (10 + d) l := by
  have hnl := hS.2.1
  obtain ⟨M', q1, q2, q3⟩ := X8_begin2 hS ho hd S.nl 0 FUEL M (by omega) (by unfold FUEL; omega) hV h5
  exact ⟨M', q1, q2.mono (fun a i q => by unfold TC; omega), fun j => q2.i (by omega), fun l h1 h2 => q3 l (by omega) h1 h2⟩
set_option maxHeartbeats 600000 in
theorem X8_goOn14 (hW : S.wf) {o d : Nat} (ho : o < S.nf) (hd : d < 5) {pos : Nat → Nat} (hal : Al S A o pos) : ∀ (k j n : Nat) (M : Mem), j + k = S.nl → k < n → CV M s S A → mR M 8 5 = s → mR M 8 6 = 18 → (∀ l, j ≤ l → l < S.nl → S.ins (S.fo l) o = true → mI M (10 + d) l = i32 (pos l)) → (∀ l, l < j → l < S.nl → S.ins (S.fo l) o = true → mI M (10 + d) l = i32 (nextP S A o pos l)) → ∃ M', f_X8_goOn_14 n 8 (i32 o) (i32 (leadS S o)) (i32 d) (i32 (S.sr o)) (i32 j) M = some (if nextP S A o pos (leadS S o) < A.sz (leadS S o) ∧ A.rp (leadS S o) (nextP S A o pos (leadS S o)) = S.sr o then i32 1 else i32 0, M') ∧ Chg (fun a _ => a = 10 + d) M M' ∧ ∀ l, l < S.nl → S.ins (S.fo l) o = true → mI M' (10 + d) l = i32 (nextP S A o pos l) := by
  have hS := hW.1
  have hnl := hS.2.1
  have hnf := hS.1
  have hld := leadS_b hW ho
  have hnx : ∀ l, l < S.nl → S.ins (S.fo l) o = true → nextP S A o pos l = A.nx l (S.sr o) (pos l) := fun l h1 h2 => by unfold nextP; rw [if_pos ⟨h1, h2⟩]
  intro k
  induction k with
  | zero =>
    intro j n M hj hn hV h5 h6 hp hq
    obtain ⟨n, rfl⟩ : ∃ m, n = m + 1 := ⟨n - 1, by omega⟩
    have eh := X8_has hV h6 (l := leadS S o) (by omega) (nextP S A o pos (leadS S o)) (by omega) (by
      have := hV.2.2.2.2.1.1.2.2.2.1 (leadS S o)
      have q := A.nx_le (S.sr o) (hal.1 _ hld.2.1 (Or.inr (by rw [Int.toNat_natCast]; exact hld.2.2.1))).1
      rw [hnx _ hld.2.1 hld.2.2.1]
      omega)
    have hz := hV.2.2.2.2.1.1.2.2.2.1 (leadS S o)
    have br := St.b hV.2.2.2.2.1.1 (leadS S o) (nextP S A o pos (leadS S o))
    have bo := Sc.sr_b hS o
    obtain ⟨hL, hc, hs, hC, hA, hr, -⟩ := hV
    have c1 := hC.2.1
    have hcol := hc.2.2.2.2.2.2.2.2.2.2
    simp only [Nat.reduceSub] at hcol
    have a2 := hA.2.2.1
    obtain ⟨w1, w2, w3⟩ := hL.row
    have hq1 := hq (leadS S o) (by omega) hld.2.1 hld.2.2.1
    refine ⟨M, ?_, Chg.rf _ M, fun l h1 h2 => hq l (by omega) h1 h2⟩
    have hq120 : nextP S A o pos (leadS S o) ≤ 120 := by
      have q := A.nx_le (S.sr o) (hal.1 _ hld.2.1 (Or.inr (by rw [Int.toNat_natCast]; exact hld.2.2.1))).1
      rw [hnx _ hld.2.1 hld.2.2.1]
      omega
    rw [show j = S.nl by omega]
    by_cases c : nextP S A o pos (leadS S o) < A.sz (leadS S o)
    · rw [if_pos (by omega)] at eh
      rw [X8_goE1 (o := o) hL h5 h6 hs hc c1 hnl (show leadS S o < 8 by omega) hd (by omega) hq1 (a2 (leadS S o) _ (by omega) c) eh n]
      by_cases c2 : A.rp (leadS S o) (nextP S A o pos (leadS S o)) = S.sr o
      · rw [if_pos (congrArg i32 c2), if_pos ⟨c, c2⟩]
      · rw [if_neg (i32_ne (by omega) (by omega) (by omega) (by omega) c2), if_neg (fun w => c2 w.2)]
    · rw [if_neg (by omega)] at eh
      rw [X8_goE0 (o := o) hL h5 hs c1 hnl (show leadS S o < 8 by omega) hd hq1 eh n, if_neg (fun w => c w.1)]
  | succ k ih =>
    intro j n M hj hn hV h5 h6 hp hq
    obtain ⟨n, rfl⟩ : ∃ m, n = m + 1 := ⟨n - 1, by omega⟩
    have hV0 := hV
    obtain ⟨hL, hc, hs, hC, hA, hr, -⟩ := hV
    have c1 := hC.2.1
    have cb := hC.2.2.2.2.2.2.2.2.2.2.1 o j ho (by omega)
    simp only [show j < S.nl by omega, decide_true, Bool.true_and] at cb
    obtain ⟨w1, w2, w3⟩ := hL.row
    have hcol := hc.2.2.2.2.2.2.2.2.2.2
    simp only [Nat.reduceSub] at hcol
    have bo := Sc.sr_b hS o
    by_cases c : S.ins (S.fo j) o = true
    · have hp1 := hp j (Nat.le_refl _) (by omega) c
      have hps := hal.1 j (by omega) (Or.inr (by rw [Int.toNat_natCast]; exact c))
      have eb := X2_behind hc hA (l := j) (by omega) (pos j : Int) (S.sr o) (by omega) (by omega) bo.1 bo.2
      rw [show ((pos j : Int) + 1).toNat = pos j + 1 by omega] at eb
      have eb : f_X2_behind (21 + 4 * j) (i32 (pos j)) (i32 (S.sr o)) M = some (i32 (nextP S A o pos j), M) := by
        rw [hnx j (by omega) c]; exact eb
      have g : Chg (fun a _ => a = 10 + d) M (sI M (10 + d) j (i32 (nextP S A o pos j))) := (Chg.rf _ M).sI rfl
      have gs := g.scr (fun a i q => sc_mid (by omega))
      obtain ⟨M', q1, q2, q3⟩ := ih (j + 1) n _ (by omega) (by omega) (hV0.scr gs) h5 h6 (fun l h1 h2 h3 => by
        have := hp l (by omega) h2 h3
        simp (disch := omega) only [↓reduceIte, add_i0, cast_add1, cast_sub1, toNat120, i32_lit, i32_neg, i32_add, i32_sub, i32_mul, i32_nat, i32_le, i32_lt, i32_eq, inB_i, Int.toNat_natCast, mI_sI_eq, mI_sI_ne, mR_sR_eq, mR_sR_ne, mI_sR, mR_sI, mK_sI, mN_sI, mn_sI, mJ_sI, mK_sR, mN_sR, mn_sR, mJ_sR, mI_wI, mR_wI, mK_wI, mN_wI, mn_wI, mJ_wI, ↓bnd_of, ↓bndX_r, ↓bndX_l, ↓ap_nr, bnd_of, bndX_r, bndX_l, if_true, if_false, ite_true, ite_false, not_true_eq_false, not_false_eq_true, Nat.reduceAdd, Nat.reduceMul, Nat.reduceEqDiff, Int.reduceToNat, Int.reduceNeg, Ilt_t, Ilt_f, Ile_t, Ile_f, Ieq_t, Ieq_f, Nlt_t, Nlt_f, Nle_t, Nle_f, Neq_t, Neq_f, or_true, true_or, or_false, false_or, and_true, true_and, and_false, false_and, ne_eq, or_self, and_self, decide_true, decide_false, Bool.false_eq_true, this]) (fun l h1 h2 h3 => by
        by_cases e : l = j
        · subst e; exact mI_sI_eq
        · have := hq l (by omega) h2 h3
          simp (disch := omega) only [↓reduceIte, add_i0, cast_add1, cast_sub1, toNat120, i32_lit, i32_neg, i32_add, i32_sub, i32_mul, i32_nat, i32_le, i32_lt, i32_eq, inB_i, Int.toNat_natCast, mI_sI_eq, mI_sI_ne, mR_sR_eq, mR_sR_ne, mI_sR, mR_sI, mK_sI, mN_sI, mn_sI, mJ_sI, mK_sR, mN_sR, mn_sR, mJ_sR, mI_wI, mR_wI, mK_wI, mN_wI, mn_wI, mJ_wI, ↓bnd_of, ↓bndX_r, ↓bndX_l, ↓ap_nr, bnd_of, bndX_r, bndX_l, if_true, if_false, ite_true, ite_false, not_true_eq_false, not_false_eq_true, Nat.reduceAdd, Nat.reduceMul, Nat.reduceEqDiff, Int.reduceToNat, Int.reduceNeg, Ilt_t, Ilt_f, Ile_t, Ile_f, Ieq_t, Ieq_f, Nlt_t, Nlt_f, Nle_t, Nle_f, Neq_t, Neq_f, or_true, true_or, or_false, false_or, and_true, true_and, and_false, false_and, ne_eq, or_self, and_self, decide_true, decide_false, Bool.false_eq_true, e, this])
      refine ⟨M', ?_, g.tr q2, q3⟩
      rw [← q1]
      exact X8_goS1 hL h5 h6 hs hc c1 (by omega) hnl (by omega) hd (by rw [cb]; exact c) hp1 eb n
    · obtain ⟨M', q1, q2, q3⟩ := ih (j + 1) n M (by omega) (by omega) hV0 h5 h6 (fun l h1 h2 h3 => hp l (by omega) h2 h3) (fun l h1 h2 h3 => by
        by_cases e : l = j
        · subst e; exact absurd h3 c
        · exact hq l (by omega) h2 h3)
      refine ⟨M', ?_, q2, q3⟩
      rw [← q1]
      exact X8_goS0 hL h5 hs c1 (by omega) hnl (by omega) (by rw [cb]; exact c) n
set_option maxHeartbeats 600000 in
theorem X8_goOn (hW : S.wf) {o d : Nat} (ho : o < S.nf) (hd : d < 5) {pos : Nat → Nat} (hal : Al S A o pos) (hV : CV M s S A) (h5 : mR M 8 5 = s) (h6 : mR M 8 6 = 18) (hp : ∀ l, l < S.nl → S.ins (S.fo l) o = true → mI M (10 + d) l = i32 (pos l)) : ∃ M', f_X8_goOn 8 (i32 o) (i32 (leadS S o)) (i32 d) M = some (if nextP S A o pos (leadS S o) < A.sz (leadS S o) ∧ A.rp (leadS S o) (nextP S A o pos (leadS S o)) = S.sr o then i32 1 else i32 0, M') ∧ Chg (fun a _ => a = 10 + d) M M' ∧ ∀ l, l < S.nl → S.ins (S.fo l) o = true → mI M' (10 + d) l = i32 (nextP S A o pos l) := by
  have hnl := hW.1.2.1
  have hnf := hW.1.1
  obtain ⟨M', q1, q2, q3⟩ := X8_goOn14 hW ho hd hal S.nl 0 FUEL M (by omega) (by unfold FUEL; omega) hV h5 h6 (fun l h1 h2 h3 => hp l h2 h3) (fun l h1 => by omega)
  refine ⟨M', ?_, q2, q3⟩
  rw [← q1]
  obtain ⟨hL, hc, hs, hC, hA, hr, -⟩ := hV
  have cr := hC.2.2.2.2.2.2.1
  simp (disch := omega) only [↓reduceIte, add_i0, cast_add1, cast_sub1, toNat120, i32_lit, i32_neg, i32_add, i32_sub, i32_mul, i32_nat, i32_le, i32_lt, i32_eq, inB_i, Int.toNat_natCast, mI_sI_eq, mI_sI_ne, mR_sR_eq, mR_sR_ne, mI_sR, mR_sI, mK_sI, mN_sI, mn_sI, mJ_sI, mK_sR, mN_sR, mn_sR, mJ_sR, mI_wI, mR_wI, mK_wI, mN_wI, mn_wI, mJ_wI, ↓bnd_of, ↓bndX_r, ↓bndX_l, ↓ap_nr, bnd_of, bndX_r, bndX_l, if_true, if_false, ite_true, ite_false, not_true_eq_false, not_false_eq_true, Nat.reduceAdd, Nat.reduceMul, Nat.reduceEqDiff, Int.reduceToNat, Int.reduceNeg, Ilt_t, Ilt_f, Ile_t, Ile_f, Ieq_t, Ieq_f, Nlt_t, Nlt_f, Nle_t, Nle_f, Neq_t, Neq_f, or_true, true_or, or_false, false_or, and_true, true_and, and_false, false_and, ne_eq, or_self, and_self, decide_true, decide_false, Bool.false_eq_true, f_X8_goOn, hL.o, h5, hs.o, cr]
  rfl
end
