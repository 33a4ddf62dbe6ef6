/-! Entries told one after the other: leaf, rep, def, value -/
abbrev En : Type := Nat × Int × Int × Int
def St.app (A : St) (x : En) : St := (fun l j => if l = x.1 ∧ j = A.sz l then x.2.1 else A.rp l j, fun l j => if l = x.1 ∧ j = A.sz l then x.2.2.1 else A.df l j, fun l j => if l = x.1 ∧ j = A.sz l then x.2.2.2 else A.vl l j, fun l => if l = x.1 then A.sz l + 1 else A.sz l, A.rc)
def St.apL (A : St) (E : List En) : St := E.foldl St.app A
def cnE (l : Nat) : List En → Nat
  | [] => 0
  | x :: E => (if x.1 = l then 1 else 0) + cnE l E
def smE : List En → Int
  | [] => 0
  | x :: E => x.2.2.2 + smE E
def St.lvo (A : St) : Prop := (∀ l j, 0 ≤ A.rp l j ∧ A.rp l j ≤ 9) ∧ (∀ l j, 0 ≤ A.df l j ∧ A.df l j ≤ 9) ∧ ∀ l j, 0 ≤ A.vl l j ∧ A.vl l j ≤ 999
theorem St.ok.lvo {A : St} (h : A.ok) : A.lvo := ⟨h.1, h.2.1, h.2.2.1⟩
theorem St.lvo.ok {A : St} (h : A.lvo) (h1 : ∀ l, A.sz l ≤ 120) (h2 : A.rc ≤ 30) : A.ok := ⟨h.1, h.2.1, h.2.2, h1, h2⟩
def En.ok (nl : Nat) (x : En) : Prop := x.1 < nl ∧ (0 ≤ x.2.1 ∧ x.2.1 ≤ 9) ∧ (0 ≤ x.2.2.1 ∧ x.2.2.1 ≤ 9) ∧ (0 ≤ x.2.2.2 ∧ x.2.2.2 ≤ 999)
section
variable {A : St} {E F : List En} {l : Nat}
theorem apL_app : A.apL (E ++ F) = (A.apL E).apL F := List.foldl_append
theorem cnE_app : cnE l (E ++ F) = cnE l E + cnE l F := by
  induction E with
  | nil => exact (Nat.zero_add _).symm
  | cons x E ih =>
    show (if x.1 = l then 1 else 0) + cnE l (E ++ F) = (if x.1 = l then 1 else 0) + cnE l E + cnE l F
    rw [ih, Nat.add_assoc]
theorem smE_app : smE (E ++ F) = smE E + smE F := by
  induction E with
  | nil => exact (Int.zero_add _).symm
  | cons x E ih =>
    show x.2.2.2 + smE (E ++ F) = x.2.2.2 + smE E + smE F
    rw [ih, Int.add_assoc]
theorem cnE_le : ∀ E : List En, cnE l E ≤ E.length
  | [] => Nat.le_refl _
  | x :: E => by
    have := cnE_le E
    show (if x.1 = l then 1 else 0) + cnE l E ≤ E.length + 1
    split <;> omega
theorem app_sz (A : St) (x : En) (l : Nat) : (A.app x).sz l = A.sz l + (if x.1 = l then 1 else 0) := by
  show (if l = x.1 then A.sz l + 1 else A.sz l) = _
  by_cases c : l = x.1
  · rw [if_pos c, if_pos c.symm]
  · rw [if_neg c, if_neg (fun h => c h.symm)]; rfl
theorem apL_sz : ∀ (E : List En) (A : St), (A.apL E).sz l = A.sz l + cnE l E
  | [], _ => rfl
  | x :: E, A => by
    show ((A.app x).apL E).sz l = A.sz l + ((if x.1 = l then 1 else 0) + cnE l E)
    rw [apL_sz E, app_sz, Nat.add_assoc]
theorem apL_rc : ∀ (E : List En) (A : St), (A.apL E).rc = A.rc
  | [], _ => rfl
  | x :: E, A => apL_rc E (A.app x)
theorem app_lvo {nl : Nat} {x : En} (h : A.lvo) (hx : En.ok nl x) : (A.app x).lvo := by
  obtain ⟨h1, h2, h3⟩ := h
  obtain ⟨-, x1, x2, x3⟩ := hx
  refine ⟨fun l j => ?_, fun l j => ?_, fun l j => ?_⟩
  · show 0 ≤ (if l = x.1 ∧ j = A.sz l then x.2.1 else A.rp l j) ∧ (if l = x.1 ∧ j = A.sz l then x.2.1 else A.rp l j) ≤ 9
    split
    · exact x1
    · exact h1 l j
  · show 0 ≤ (if l = x.1 ∧ j = A.sz l then x.2.2.1 else A.df l j) ∧ (if l = x.1 ∧ j = A.sz l then x.2.2.1 else A.df l j) ≤ 9
    split
    · exact x2
    · exact h2 l j
  · show 0 ≤ (if l = x.1 ∧ j = A.sz l then x.2.2.2 else A.vl l j) ∧ (if l = x.1 ∧ j = A.sz l then x.2.2.2 else A.vl l j) ≤ 999
    split
    · exact x3
    · exact h3 l j
theorem apL_lvo {nl : Nat} : ∀ (E : List En) (A : St), A.lvo → (∀ x, x ∈ E → En.ok nl x) → (A.apL E).lvo
  | [], _, h, _ => h
  | x :: E, A, h, hx => apL_lvo E (A.app x) (app_lvo h (hx x (List.mem_cons_self ..))) (fun y hy => hx y (List.mem_cons_of_mem _ hy))
/-- what stood before stands -/
theorem app_old (A : St) (x : En) {l j : Nat} (hj : j < A.sz l) : (A.app x).rp l j = A.rp l j ∧ (A.app x).df l j = A.df l j ∧ (A.app x).vl l j = A.vl l j := by
  have c : ¬ (l = x.1 ∧ j = A.sz l) := by omega
  exact ⟨if_neg c, if_neg c, if_neg c⟩
theorem apL_old : ∀ (E : List En) (A : St) {l j : Nat}, j < A.sz l → (A.apL E).rp l j = A.rp l j ∧ (A.apL E).df l j = A.df l j ∧ (A.apL E).vl l j = A.vl l j
  | [], _, _, _, _ => ⟨rfl, rfl, rfl⟩
  | x :: E, A, l, j, h => by
    have a := apL_old E (A.app x) (l := l) (j := j) (by rw [app_sz]; omega)
    have b := app_old A x h
    exact ⟨a.1.trans b.1, a.2.1.trans b.2.1, a.2.2.trans b.2.2⟩
end
/-- the entries of a field that isn't there -/
def lackE (S : Sc) (f : Nat) (r d : Int) : Nat → Nat → List En
  | 0, _ => []
  | k + 1, l => if S.ins (S.fo l) f = true then (l, r, d, 0) :: lackE S f r d k (l + 1) else lackE S f r d k (l + 1)
theorem lackE_mem {S : Sc} {f : Nat} {r d : Int} : ∀ (k l : Nat) (x : En), x ∈ lackE S f r d k l → x.1 < l + k ∧ x.2 = (r, d, 0)
  | 0, _, _, h => by cases h
  | k + 1, l, x, h => by
    unfold lackE at h
    split at h
    · rcases List.mem_cons.mp h with h | h
      · subst h
        exact ⟨by show l < _; omega, rfl⟩
      · have := lackE_mem k (l + 1) x h
        exact ⟨by omega, this.2⟩
    · have := lackE_mem k (l + 1) x h
      exact ⟨by omega, this.2⟩
theorem lackE_len {S : Sc} {f : Nat} {r d : Int} : ∀ (k l : Nat), (lackE S f r d k l).length ≤ k
  | 0, _ => Nat.le_refl _
  | k + 1, l => by
    have := lackE_len (S := S) (f := f) (r := r) (d := d) k (l + 1)
    unfold lackE
    split
    · show _ + 1 ≤ k + 1
      omega
    · omega
/-- the reference's stripes, told so far; rows may be too long -/
def RX (M : Mem) (A : St) : Prop := A.lvo ∧ (∀ l, l < 8 → mI M 151 l = i32 (A.sz l)) ∧ (∀ l j, l < 8 → j < A.sz l → j < 120 → mI M 150 (120 * l + j) = i32 (10000 * A.rp l j + 1000 * A.df l j + A.vl l j))
def apC (a j : Nat) : Prop := (a = 150 ∧ j < 960) ∨ (a = 151 ∧ j < 8)
section
variable {M M' : Mem} {A : St} {S : Sc}
theorem RX.of (h : RE M A) : RX M A := ⟨h.1.lvo, h.2.1, fun l j hl hj _ => h.2.2.1 l j hl hj⟩
theorem RX.re (h : RX M A) (h1 : ∀ l, A.sz l ≤ 120) (h2 : A.rc ≤ 30) (h3 : mI M 134 30 = i32 A.rc) : RE M A := ⟨h.1.ok h1 h2, h.2.1, fun l j hl hj => h.2.2 l j hl hj (by have := h1 l; omega), h3⟩
theorem RX.cg (h : RX M A) (h1 : ∀ j, mI M' 151 j = mI M 151 j) (h2 : ∀ j, mI M' 150 j = mI M 150 j) : RX M' A := ⟨h.1, fun l q => by rw [h1]; exact h.2.1 l q, fun l j q1 q2 q3 => by rw [h2]; exact h.2.2 l j q1 q2 q3⟩
theorem RS0.chg {P : Nat → Nat → Prop} (h : RS0 M S) (g : Chg P M M') (hP : ∀ a j, P a j → a < 139 ∨ 149 < a) : RS0 M' S := by
  have e : ∀ a j, 139 ≤ a → a ≤ 149 → mI M' a j = mI M a j := fun a j q1 q2 => g.i (fun x => by have := hP a j x; omega)
  unfold RS0 at h ⊢
  simp (disch := omega) only [e]
  exact h
theorem X12_append26 (hL : RLay M) {l : Nat} (hl : l < 8) : f_X12_append_26 134 (i32 l) M = some ((), sI M 151 l (mI M 151 l + (1 : Int32))) := by
  have r28 : mR M 134 28 = 151 := by simp only [hL.o]
  have k151 : mK M 151 = 21 := by simp only [hL.o]
  have n151 : mN M 151 = 8 := by simp only [hL.o]
  have inl : inB (i32 (l : Int)) 8 = true := by simp (disch := omega) only [↓reduceIte, add_i0, cast_add1, cast_sub1, toNat120, i32_lit, i32_neg, i32_add, i32_sub, i32_mul, i32_nat, i32_le, i32_lt, i32_eq, inB_i, Int.toNat_natCast, mI_sI_eq, mI_sI_ne, mR_sR_eq, mR_sR_ne, mI_sR, mR_sI, mK_sI, mN_sI, mn_sI, mJ_sI, mK_sR, mN_sR, mn_sR, mJ_sR, mI_wI, mR_wI, mK_wI, mN_wI, mn_wI, mJ_wI, ↓bnd_of, ↓bndX_r, ↓bndX_l, ↓ap_nr, bnd_of, bndX_r, bndX_l, if_true, if_false, ite_true, ite_false, not_true_eq_false, not_false_eq_true, Nat.reduceAdd, Nat.reduceMul, Nat.reduceEqDiff, Int.reduceToNat, Int.reduceNeg, Ilt_t, Ilt_f, Ile_t, Ile_f, Ieq_t, Ieq_f, Nlt_t, Nlt_f, Nle_t, Nle_f, Neq_t, Neq_f, or_true, true_or, or_false, false_or, and_true, true_and, and_false, false_and, ne_eq, or_self, and_self, decide_true, decide_false, Bool.false_eq_true]
  unfold f_X12_append_26
  rw [if_pos hL.k, r28, if_pos k151, n151, if_pos inl, nat_i (by omega), ap_of]
theorem X12_append (hL : RLay M) (hX : RX M A) {nl l : Nat} (h8 : nl ≤ 8) {r d v : Int} (hx : En.ok nl (l, r, d, v)) (hs : A.sz l ≤ 2000000000) : ∃ M', f_X12_append 134 (i32 l) (i32 r) (i32 d) (i32 v) M = some ((), M') ∧ Chg apC M M' ∧ RX M' (A.app (l, r, d, v)) := by
  have hlv := app_lvo hX.1 hx
  obtain ⟨x0, x1, x2, x3⟩ := hx
  have x0 : l < nl := x0
  have x1 : 0 ≤ r ∧ r ≤ 9 := x1
  have x2 : 0 ≤ d ∧ d ≤ 9 := x2
  have x3 : 0 ≤ v ∧ v ≤ 999 := x3
  have r28 : mR M 134 28 = 151 := by simp only [hL.o]
  have k151 : mK M 151 = 21 := by simp only [hL.o]
  have n151 : mN M 151 = 8 := by simp only [hL.o]
  have inl : inB (i32 (l : Int)) 8 = true := by simp (disch := omega) only [↓reduceIte, add_i0, cast_add1, cast_sub1, toNat120, i32_lit, i32_neg, i32_add, i32_sub, i32_mul, i32_nat, i32_le, i32_lt, i32_eq, inB_i, Int.toNat_natCast, mI_sI_eq, mI_sI_ne, mR_sR_eq, mR_sR_ne, mI_sR, mR_sI, mK_sI, mN_sI, mn_sI, mJ_sI, mK_sR, mN_sR, mn_sR, mJ_sR, mI_wI, mR_wI, mK_wI, mN_wI, mn_wI, mJ_wI, ↓bnd_of, ↓bndX_r, ↓bndX_l, ↓ap_nr, bnd_of, bndX_r, bndX_l, if_true, if_false, ite_true, ite_false, not_true_eq_false, not_false_eq_true, Nat.reduceAdd, Nat.reduceMul, Nat.reduceEqDiff, Int.reduceToNat, Int.reduceNeg, Ilt_t, Ilt_f, Ile_t, Ile_f, Ieq_t, Ieq_f, Nlt_t, Nlt_f, Nle_t, Nle_f, Neq_t, Neq_f, or_true, true_or, or_false, false_or, and_true, true_and, and_false, false_and, ne_eq, or_self, and_self, decide_true, decide_false, Bool.false_eq_true]
  have el := hX.2.1 l (by omega)
  have hz : ∀ M1, mI M1 151 l = i32 (A.sz l) → mI M1 151 l + (1 : Int32) = i32 ((A.sz l + 1 : Nat) : Int) := fun M1 h => by rw [h, k_add1]
  by_cases c : A.sz l < 120
  · have e1 := X12_put hL (l := l) (j := A.sz l) (by omega) c r d v x1.1 x1.2 x2.1 x2.2 x3.1 x3.2
    obtain ⟨M1, e0⟩ : ∃ M1, sI M 150 (120 * l + A.sz l) (i32 (10000 * r + 1000 * d + v)) = M1 := ⟨_, rfl⟩
    have g1 : Chg apC M M1 := by rw [← e0]; exact (Chg.rf _ M).sI (by unfold apC; omega)
    rw [e0] at e1
    have hL1 := hL.all g1
    have el1 : mI M1 151 l = i32 (A.sz l) := by rw [← e0, mI_sI_ne (by omega)]; exact el
    have e2 := X12_append26 hL1 (l := l) (by omega)
    rw [hz M1 el1] at e2
    refine ⟨sI M1 151 l (i32 ((A.sz l + 1 : Nat) : Int)), ?_, g1.sI (by unfold apC; omega), hlv, fun k hk => ?_, fun k j hk hj h120 => ?_⟩
    · unfold f_X12_append
      rw [if_pos hL.k, r28, if_pos k151, n151, if_pos inl, nat_i (by omega), el, if_neg (by simp (disch := omega) only [↓reduceIte, add_i0, cast_add1, cast_sub1, toNat120, i32_lit, i32_neg, i32_add, i32_sub, i32_mul, i32_nat, i32_le, i32_lt, i32_eq, inB_i, Int.toNat_natCast, mI_sI_eq, mI_sI_ne, mR_sR_eq, mR_sR_ne, mI_sR, mR_sI, mK_sI, mN_sI, mn_sI, mJ_sI, mK_sR, mN_sR, mn_sR, mJ_sR, mI_wI, mR_wI, mK_wI, mN_wI, mn_wI, mJ_wI, ↓bnd_of, ↓bndX_r, ↓bndX_l, ↓ap_nr, bnd_of, bndX_r, bndX_l, if_true, if_false, ite_true, ite_false, not_true_eq_false, not_false_eq_true, Nat.reduceAdd, Nat.reduceMul, Nat.reduceEqDiff, Int.reduceToNat, Int.reduceNeg, Ilt_t, Ilt_f, Ile_t, Ile_f, Ieq_t, Ieq_f, Nlt_t, Nlt_f, Nle_t, Nle_f, Neq_t, Neq_f, or_true, true_or, or_false, false_or, and_true, true_and, and_false, false_and, ne_eq, or_self, and_self, decide_true, decide_false, Bool.false_eq_true]), bx e1]
      exact e2
    · rw [app_sz]
      by_cases q : l = k
      · subst q
        rw [mI_sI_eq, if_pos rfl]
      · rw [mI_sI_ne (by omega), if_neg q, ← e0, mI_sI_ne (by omega)]
        exact hX.2.1 k hk
    · rw [app_sz] at hj
      rw [mI_sI_ne (by omega), ← e0]
      by_cases q : k = l ∧ j = A.sz k
      · have a1 : (A.app (l, r, d, v)).rp k j = r := if_pos q
        have a2 : (A.app (l, r, d, v)).df k j = d := if_pos q
        have a3 : (A.app (l, r, d, v)).vl k j = v := if_pos q
        rw [a1, a2, a3]
        obtain ⟨q1, q2⟩ := q
        subst q1; subst q2
        exact mI_sI_eq
      · have hj2 : j < A.sz k := by
          by_cases w : l = k
          · rw [if_pos w] at hj; omega
          · rw [if_neg w] at hj; omega
        have o := app_old A (l, r, d, v) hj2
        have ne : (150 : Nat) ≠ 150 ∨ 120 * k + j ≠ 120 * l + A.sz l := by
          by_cases w : k = l
          · subst w; omega
          · omega
        rw [o.1, o.2.1, o.2.2, mI_sI_ne ne]
        exact hX.2.2 k j hk hj2 h120
  · have e2 := X12_append26 hL (l := l) (by omega)
    rw [hz M el] at e2
    refine ⟨sI M 151 l (i32 ((A.sz l + 1 : Nat) : Int)), ?_, (Chg.rf _ M).sI (by unfold apC; omega), hlv, fun k hk => ?_, fun k j hk hj h120 => ?_⟩
    · unfold f_X12_append
      rw [if_pos hL.k, r28, if_pos k151, n151, if_pos inl, nat_i (by omega), el, if_pos (by simp (disch := omega) only [↓reduceIte, add_i0, cast_add1, cast_sub1, toNat120, i32_lit, i32_neg, i32_add, i32_sub, i32_mul, i32_nat, i32_le, i32_lt, i32_eq, inB_i, Int.toNat_natCast, mI_sI_eq, mI_sI_ne, mR_sR_eq, mR_sR_ne, mI_sR, mR_sI, mK_sI, mN_sI, mn_sI, mJ_sI, mK_sR, mN_sR, mn_sR, mJ_sR, mI_wI, mR_wI, mK_wI, mN_wI, mn_wI, mJ_wI, ↓bnd_of, ↓bndX_r, ↓bndX_l, ↓ap_nr, bnd_of, bndX_r, bndX_l, if_true, if_false, ite_true, ite_false, not_true_eq_false, not_false_eq_true, Nat.reduceAdd, Nat.reduceMul, Nat.reduceEqDiff, Int.reduceToNat, Int.reduceNeg, Ilt_t, Ilt_f, Ile_t, Ile_f, Ieq_t, Ieq_f, Nlt_t, Nlt_f, Nle_t, Nle_f, Neq_t, Neq_f, or_true, true_or, or_false, false_or, and_true, true_and, and_false, false_and, ne_eq, or_self, and_self, decide_true, decide_false, Bool.false_eq_true])]
      exact e2
    · rw [app_sz]
      by_cases q : l = k
      · subst q
        rw [mI_sI_eq, if_pos rfl]
      · rw [mI_sI_ne (by omega), if_neg q]
        exact hX.2.1 k hk
    · rw [app_sz] at hj
      have hj2 : j < A.sz k := by
        by_cases w : l = k
        · rw [if_pos w] at hj
          subst w
          omega
        · rw [if_neg w] at hj; omega
      have o := app_old A (l, r, d, v) hj2
      rw [o.1, o.2.1, o.2.2, mI_sI_ne (by omega)]
      exact hX.2.2 k j hk hj2 h120
theorem X12_lackIn3 (hS : S.ok) {f : Nat} (hf : f < 100) {r d : Int} (r0 : 0 ≤ r) (r9 : r ≤ 9) (d0 : 0 ≤ d) (d9 : d ≤ 9) : ∀ (k j m : Nat) (M : Mem) (A : St), j + k = S.nl → k < m → RLay M → RS0 M S → RX M A → (∀ l, A.sz l + k ≤ 2000000000) → ∃ M', f_X12_lackIn_3 m 134 (i32 f) (i32 r) (i32 d) (i32 j) M = some ((), M') ∧ Chg apC M M' ∧ RX M' (A.apL (lackE S f r d k j)) := by
  have hnl := hS.2.1
  intro k
  induction k with
  | zero =>
    intro j m M A hj hm hL hR hX hb
    obtain ⟨m, rfl⟩ : ∃ q, m = q + 1 := ⟨m - 1, by omega⟩
    have r24 : mR M 134 24 = 148 := by simp only [hL.o]
    have k148 : mK M 148 = 21 := by simp only [hL.o]
    have n148 : mN M 148 = 3 := by simp only [hL.o]
    have c0 : (0 : Int32).toNatClampNeg = 0 := by decide
    refine ⟨M, ?_, Chg.rf _ M, hX⟩
    unfold f_X12_lackIn_3
    rw [if_pos hL.k, r24, if_pos k148, n148, if_pos (by decide), c0, hR.2.1, if_pos (by simp (disch := omega) only [↓reduceIte, add_i0, cast_add1, cast_sub1, toNat120, i32_lit, i32_neg, i32_add, i32_sub, i32_mul, i32_nat, i32_le, i32_lt, i32_eq, inB_i, Int.toNat_natCast, mI_sI_eq, mI_sI_ne, mR_sR_eq, mR_sR_ne, mI_sR, mR_sI, mK_sI, mN_sI, mn_sI, mJ_sI, mK_sR, mN_sR, mn_sR, mJ_sR, mI_wI, mR_wI, mK_wI, mN_wI, mn_wI, mJ_wI, ↓bnd_of, ↓bndX_r, ↓bndX_l, ↓ap_nr, bnd_of, bndX_r, bndX_l, if_true, if_false, ite_true, ite_false, not_true_eq_false, not_false_eq_true, Nat.reduceAdd, Nat.reduceMul, Nat.reduceEqDiff, Int.reduceToNat, Int.reduceNeg, Ilt_t, Ilt_f, Ile_t, Ile_f, Ieq_t, Ieq_f, Nlt_t, Nlt_f, Nle_t, Nle_f, Neq_t, Neq_f, or_true, true_or, or_false, false_or, and_true, true_and, and_false, false_and, ne_eq, or_self, and_self, decide_true, decide_false, Bool.false_eq_true])]
  | succ k ih =>
    intro j m M A hj hm hL hR hX hb
    obtain ⟨m, rfl⟩ : ∃ q, m = q + 1 := ⟨m - 1, by omega⟩
    have r24 : mR M 134 24 = 148 := by simp only [hL.o]
    have k148 : mK M 148 = 21 := by simp only [hL.o]
    have n148 : mN M 148 = 3 := by simp only [hL.o]
    have r25 : mR M 134 25 = 149 := by simp only [hL.o]
    have k149 : mK M 149 = 21 := by simp only [hL.o]
    have n149 : mN M 149 = 8 := by simp only [hL.o]
    have c0 : (0 : Int32).toNatClampNeg = 0 := by decide
    have hjl : j < S.nl := by omega
    have lt : ¬ (i32 (S.nl : Int) ≤ i32 (j : Int)) := by simp (disch := omega) only [↓reduceIte, add_i0, cast_add1, cast_sub1, toNat120, i32_lit, i32_neg, i32_add, i32_sub, i32_mul, i32_nat, i32_le, i32_lt, i32_eq, inB_i, Int.toNat_natCast, mI_sI_eq, mI_sI_ne, mR_sR_eq, mR_sR_ne, mI_sR, mR_sI, mK_sI, mN_sI, mn_sI, mJ_sI, mK_sR, mN_sR, mn_sR, mJ_sR, mI_wI, mR_wI, mK_wI, mN_wI, mn_wI, mJ_wI, ↓bnd_of, ↓bndX_r, ↓bndX_l, ↓ap_nr, bnd_of, bndX_r, bndX_l, if_true, if_false, ite_true, ite_false, not_true_eq_false, not_false_eq_true, Nat.reduceAdd, Nat.reduceMul, Nat.reduceEqDiff, Int.reduceToNat, Int.reduceNeg, Ilt_t, Ilt_f, Ile_t, Ile_f, Ieq_t, Ieq_f, Nlt_t, Nlt_f, Nle_t, Nle_f, Neq_t, Neq_f, or_true, true_or, or_false, false_or, and_true, true_and, and_false, false_and, ne_eq, or_self, and_self, decide_true, decide_false, Bool.false_eq_true]
    have inj : inB (i32 (j : Int)) 8 = true := by simp (disch := omega) only [↓reduceIte, add_i0, cast_add1, cast_sub1, toNat120, i32_lit, i32_neg, i32_add, i32_sub, i32_mul, i32_nat, i32_le, i32_lt, i32_eq, inB_i, Int.toNat_natCast, mI_sI_eq, mI_sI_ne, mR_sR_eq, mR_sR_ne, mI_sR, mR_sI, mK_sI, mN_sI, mn_sI, mJ_sI, mK_sR, mN_sR, mn_sR, mJ_sR, mI_wI, mR_wI, mK_wI, mN_wI, mn_wI, mJ_wI, ↓bnd_of, ↓bndX_r, ↓bndX_l, ↓ap_nr, bnd_of, bndX_r, bndX_l, if_true, if_false, ite_true, ite_false, not_true_eq_false, not_false_eq_true, Nat.reduceAdd, Nat.reduceMul, Nat.reduceEqDiff, Int.reduceToNat, Int.reduceNeg, Ilt_t, Ilt_f, Ile_t, Ile_f, Ieq_t, Ieq_f, Nlt_t, Nlt_f, Nle_t, Nle_f, Neq_t, Neq_f, or_true, true_or, or_false, false_or, and_true, true_and, and_false, false_and, ne_eq, or_self, and_self, decide_true, decide_false, Bool.false_eq_true]
    have hfo := hR.2.2.2.2.2.2.2.2.2.2 j hjl
    have hfn := (hS.2.2.2.2.2.2.2.2.2.2 j hjl).1
    have ei := X12_isInside hL hS hR (S.fo j : Int) f (by omega) (by omega) hf
    by_cases c : S.ins (S.fo j) f = true
    · rw [if_pos c] at ei
      obtain ⟨M1, e1, g1, x1⟩ := X12_append (nl := S.nl) (l := j) (r := r) (d := d) (v := 0) hL hX hnl ⟨hjl, ⟨r0, r9⟩, ⟨d0, d9⟩, by show (0 : Int) ≤ 0 ∧ (0 : Int) ≤ 999; omega⟩ (by have := hb j; omega)
      obtain ⟨M2, e2, g2, x2⟩ := ih (j + 1) m M1 (A.app (j, r, d, 0)) (by omega) (by omega) (hL.all g1) (hR.chg g1 (fun a j q => by unfold apC at q; omega)) x1 (fun l => by
        have := hb l
        rw [app_sz]
        split <;> omega)
      refine ⟨M2, ?_, g1.tr g2, ?_⟩
      · rw [← e2]
        have e1 : f_X12_append 134 (i32 (j : Int)) (i32 r) (i32 d) (0 : Int32) M = _ := e1
        have nz : ¬ (i32 1 = i32 0) := i32_ne (by omega) (by omega) (by omega) (by omega) (by omega)
        conv => lhs; unfold f_X12_lackIn_3
        rw [if_pos hL.k, r24, if_pos k148, n148, if_pos (by decide), c0, hR.2.1, if_neg lt, r25, if_pos k149, n149, if_pos inj, nat_i (by omega), hfo, bx ei, if_neg (by exact nz), if_pos hL.k, bx e1, f_X12_lackIn_38, k_add1]
      · have : lackE S f r d (k + 1) j = (j, r, d, 0) :: lackE S f r d k (j + 1) := by
          conv => lhs; unfold lackE
          rw [if_pos c]
        rw [this]
        exact x2
    · rw [if_neg c] at ei
      obtain ⟨M2, e2, g2, x2⟩ := ih (j + 1) m M A (by omega) (by omega) hL hR hX (fun l => by have := hb l; omega)
      refine ⟨M2, ?_, g2, ?_⟩
      · rw [← e2]
        conv => lhs; unfold f_X12_lackIn_3
        rw [if_pos hL.k, r24, if_pos k148, n148, if_pos (by decide), c0, hR.2.1, if_neg lt, r25, if_pos k149, n149, if_pos inj, nat_i (by omega), hfo, bx ei, if_pos (by rfl), f_X12_lackIn_38, k_add1]
      · have : lackE S f r d (k + 1) j = lackE S f r d k (j + 1) := by
          conv => lhs; unfold lackE
          rw [if_neg c]
        rw [this]
        exact x2
theorem X12_lackIn (hS : S.ok) {f : Nat} (hf : f < 100) {r d : Int} (r0 : 0 ≤ r) (r9 : r ≤ 9) (d0 : 0 ≤ d) (d9 : d ≤ 9) (hL : RLay M) (hR : RS0 M S) (hX : RX M A) (hb : ∀ l, A.sz l + 8 ≤ 2000000000) : ∃ M', f_X12_lackIn 134 (i32 f) (i32 r) (i32 d) M = some ((), M') ∧ Chg apC M M' ∧ RX M' (A.apL (lackE S f r d S.nl 0)) := X12_lackIn3 hS hf r0 r9 d0 d9 S.nl 0 FUEL M A (by omega) (by have := hS.2.1; unfold FUEL; omega) hL hR hX (fun l => by have := hb l; have := hS.2.1; omega)
/-- too much: more than 30 records, or a row too long -/
theorem X12_tooMuch1 (hS : S.ok) (hL : RLay M) (hR : RS0 M S) : ∀ (k j m : Nat), j + k = S.nl → k < m → f_X12_isTooMuch_17 m 134 (i32 1) (i32 j) M = some (i32 1, M) := by
  have hnl := hS.2.1
  have r24 : mR M 134 24 = 148 := by simp only [hL.o]
  have k148 : mK M 148 = 21 := by simp only [hL.o]
  have n148 : mN M 148 = 3 := by simp only [hL.o]
  have c0 : (0 : Int32).toNatClampNeg = 0 := by decide
  intro k
  induction k with
  | zero =>
    intro j m hj hm
    obtain ⟨m, rfl⟩ : ∃ q, m = q + 1 := ⟨m - 1, by omega⟩
    unfold f_X12_isTooMuch_17
    rw [if_pos hL.k, r24, if_pos k148, n148, if_pos (by decide), c0, hR.2.1, if_pos (by simp (disch := omega) only [↓reduceIte, add_i0, cast_add1, cast_sub1, toNat120, i32_lit, i32_neg, i32_add, i32_sub, i32_mul, i32_nat, i32_le, i32_lt, i32_eq, inB_i, Int.toNat_natCast, mI_sI_eq, mI_sI_ne, mR_sR_eq, mR_sR_ne, mI_sR, mR_sI, mK_sI, mN_sI, mn_sI, mJ_sI, mK_sR, mN_sR, mn_sR, mJ_sR, mI_wI, mR_wI, mK_wI, mN_wI, mn_wI, mJ_wI, ↓bnd_of, ↓bndX_r, ↓bndX_l, ↓ap_nr, bnd_of, bndX_r, bndX_l, if_true, if_false, ite_true, ite_false, not_true_eq_false, not_false_eq_true, Nat.reduceAdd, Nat.reduceMul, Nat.reduceEqDiff, Int.reduceToNat, Int.reduceNeg, Ilt_t, Ilt_f, Ile_t, Ile_f, Ieq_t, Ieq_f, Nlt_t, Nlt_f, Nle_t, Nle_f, Neq_t, Neq_f, or_true, true_or, or_false, false_or, and_true, true_and, and_false, false_and, ne_eq, or_self, and_self, decide_true, decide_false, Bool.false_eq_true]), if_pos (by decide)]
  | succ k ih =>
    intro j m hj hm
    obtain ⟨m, rfl⟩ : ∃ q, m = q + 1 := ⟨m - 1, by omega⟩
    rw [← ih (j + 1) m (by omega) (by omega)]
    have lt : ¬ (i32 (S.nl : Int) ≤ i32 (j : Int)) := by simp (disch := omega) only [↓reduceIte, add_i0, cast_add1, cast_sub1, toNat120, i32_lit, i32_neg, i32_add, i32_sub, i32_mul, i32_nat, i32_le, i32_lt, i32_eq, inB_i, Int.toNat_natCast, mI_sI_eq, mI_sI_ne, mR_sR_eq, mR_sR_ne, mI_sR, mR_sI, mK_sI, mN_sI, mn_sI, mJ_sI, mK_sR, mN_sR, mn_sR, mJ_sR, mI_wI, mR_wI, mK_wI, mN_wI, mn_wI, mJ_wI, ↓bnd_of, ↓bndX_r, ↓bndX_l, ↓ap_nr, bnd_of, bndX_r, bndX_l, if_true, if_false, ite_true, ite_false, not_true_eq_false, not_false_eq_true, Nat.reduceAdd, Nat.reduceMul, Nat.reduceEqDiff, Int.reduceToNat, Int.reduceNeg, Ilt_t, Ilt_f, Ile_t, Ile_f, Ieq_t, Ieq_f, Nlt_t, Nlt_f, Nle_t, Nle_f, Neq_t, Neq_f, or_true, true_or, or_false, false_or, and_true, true_and, and_false, false_and, ne_eq, or_self, and_self, decide_true, decide_false, Bool.false_eq_true]
    have nz : ¬ (i32 1 = i32 0) := i32_ne (by omega) (by omega) (by omega) (by omega) (by omega)
    conv => lhs; unfold f_X12_isTooMuch_17
    rw [if_pos hL.k, r24, if_pos k148, n148, if_pos (by decide), c0, hR.2.1, if_neg lt, if_neg (by exact nz), f_X12_isTooMuch_42, f_X12_isTooMuch_47, k_add1]
    rfl
theorem X12_tooMuch0 (hS : S.ok) (hL : RLay M) (hR : RS0 M S) (hX : RX M A) (hb : ∀ l, A.sz l ≤ 2000000000) : ∀ (k j m : Nat), j + k = S.nl → k < m → ((∀ l, j ≤ l → l < S.nl → A.sz l ≤ 120) → f_X12_isTooMuch_17 m 134 (i32 0) (i32 j) M = some (i32 0, M)) ∧ ((¬ ∀ l, j ≤ l → l < S.nl → A.sz l ≤ 120) → f_X12_isTooMuch_17 m 134 (i32 0) (i32 j) M = some (i32 1, M)) := by
  have hnl := hS.2.1
  have r24 : mR M 134 24 = 148 := by simp only [hL.o]
  have k148 : mK M 148 = 21 := by simp only [hL.o]
  have n148 : mN M 148 = 3 := by simp only [hL.o]
  have r28 : mR M 134 28 = 151 := by simp only [hL.o]
  have k151 : mK M 151 = 21 := by simp only [hL.o]
  have n151 : mN M 151 = 8 := by simp only [hL.o]
  have c0 : (0 : Int32).toNatClampNeg = 0 := by decide
  intro k
  induction k with
  | zero =>
    intro j m hj hm
    obtain ⟨m, rfl⟩ : ∃ q, m = q + 1 := ⟨m - 1, by omega⟩
    refine ⟨fun _ => ?_, fun h => absurd (fun l h1 h2 => by omega) h⟩
    unfold f_X12_isTooMuch_17
    rw [if_pos hL.k, r24, if_pos k148, n148, if_pos (by decide), c0, hR.2.1, if_pos (by simp (disch := omega) only [↓reduceIte, add_i0, cast_add1, cast_sub1, toNat120, i32_lit, i32_neg, i32_add, i32_sub, i32_mul, i32_nat, i32_le, i32_lt, i32_eq, inB_i, Int.toNat_natCast, mI_sI_eq, mI_sI_ne, mR_sR_eq, mR_sR_ne, mI_sR, mR_sI, mK_sI, mN_sI, mn_sI, mJ_sI, mK_sR, mN_sR, mn_sR, mJ_sR, mI_wI, mR_wI, mK_wI, mN_wI, mn_wI, mJ_wI, ↓bnd_of, ↓bndX_r, ↓bndX_l, ↓ap_nr, bnd_of, bndX_r, bndX_l, if_true, if_false, ite_true, ite_false, not_true_eq_false, not_false_eq_true, Nat.reduceAdd, Nat.reduceMul, Nat.reduceEqDiff, Int.reduceToNat, Int.reduceNeg, Ilt_t, Ilt_f, Ile_t, Ile_f, Ieq_t, Ieq_f, Nlt_t, Nlt_f, Nle_t, Nle_f, Neq_t, Neq_f, or_true, true_or, or_false, false_or, and_true, true_and, and_false, false_and, ne_eq, or_self, and_self, decide_true, decide_false, Bool.false_eq_true]), if_pos (by decide)]
  | succ k ih =>
    intro j m hj hm
    obtain ⟨m, rfl⟩ : ∃ q, m = q + 1 := ⟨m - 1, by omega⟩
    have ih' := ih (j + 1) m (by omega) (by omega)
    have lt : ¬ (i32 (S.nl : Int) ≤ i32 (j : Int)) := by simp (disch := omega) only [↓reduceIte, add_i0, cast_add1, cast_sub1, toNat120, i32_lit, i32_neg, i32_add, i32_sub, i32_mul, i32_nat, i32_le, i32_lt, i32_eq, inB_i, Int.toNat_natCast, mI_sI_eq, mI_sI_ne, mR_sR_eq, mR_sR_ne, mI_sR, mR_sI, mK_sI, mN_sI, mn_sI, mJ_sI, mK_sR, mN_sR, mn_sR, mJ_sR, mI_wI, mR_wI, mK_wI, mN_wI, mn_wI, mJ_wI, ↓bnd_of, ↓bndX_r, ↓bndX_l, ↓ap_nr, bnd_of, bndX_r, bndX_l, if_true, if_false, ite_true, ite_false, not_true_eq_false, not_false_eq_true, Nat.reduceAdd, Nat.reduceMul, Nat.reduceEqDiff, Int.reduceToNat, Int.reduceNeg, Ilt_t, Ilt_f, Ile_t, Ile_f, Ieq_t, Ieq_f, Nlt_t, Nlt_f, Nle_t, Nle_f, Neq_t, Neq_f, or_true, true_or, or_false, false_or, and_true, true_and, and_false, false_and, ne_eq, or_self, and_self, decide_true, decide_false, Bool.false_eq_true]
    have inj : inB (i32 (j : Int)) 8 = true := by simp (disch := omega) only [↓reduceIte, add_i0, cast_add1, cast_sub1, toNat120, i32_lit, i32_neg, i32_add, i32_sub, i32_mul, i32_nat, i32_le, i32_lt, i32_eq, inB_i, Int.toNat_natCast, mI_sI_eq, mI_sI_ne, mR_sR_eq, mR_sR_ne, mI_sR, mR_sI, mK_sI, mN_sI, mn_sI, mJ_sI, mK_sR, mN_sR, mn_sR, mJ_sR, mI_wI, mR_wI, mK_wI, mN_wI, mn_wI, mJ_wI, ↓bnd_of, ↓bndX_r, ↓bndX_l, ↓ap_nr, bnd_of, bndX_r, bndX_l, if_true, if_false, ite_true, ite_false, not_true_eq_false, not_false_eq_true, Nat.reduceAdd, Nat.reduceMul, Nat.reduceEqDiff, Int.reduceToNat, Int.reduceNeg, Ilt_t, Ilt_f, Ile_t, Ile_f, Ieq_t, Ieq_f, Nlt_t, Nlt_f, Nle_t, Nle_f, Neq_t, Neq_f, or_true, true_or, or_false, false_or, and_true, true_and, and_false, false_and, ne_eq, or_self, and_self, decide_true, decide_false, Bool.false_eq_true]
    have ej := hX.2.1 j (by omega)
    have hbj := hb j
    by_cases c : A.sz j ≤ 120
    · have st : f_X12_isTooMuch_17 (m + 1) 134 (i32 0) (i32 (j : Int)) M = f_X12_isTooMuch_17 m 134 (i32 0) (i32 ((j + 1 : Nat) : Int)) M := by
        conv => lhs; unfold f_X12_isTooMuch_17
        rw [if_pos hL.k, r24, if_pos k148, n148, if_pos (by decide), c0, hR.2.1, if_neg lt, if_pos (by rfl), r28, if_pos k151, n151, if_pos inj, nat_i (by omega), ej, if_pos (by simp (disch := omega) only [↓reduceIte, add_i0, cast_add1, cast_sub1, toNat120, i32_lit, i32_neg, i32_add, i32_sub, i32_mul, i32_nat, i32_le, i32_lt, i32_eq, inB_i, Int.toNat_natCast, mI_sI_eq, mI_sI_ne, mR_sR_eq, mR_sR_ne, mI_sR, mR_sI, mK_sI, mN_sI, mn_sI, mJ_sI, mK_sR, mN_sR, mn_sR, mJ_sR, mI_wI, mR_wI, mK_wI, mN_wI, mn_wI, mJ_wI, ↓bnd_of, ↓bndX_r, ↓bndX_l, ↓ap_nr, bnd_of, bndX_r, bndX_l, if_true, if_false, ite_true, ite_false, not_true_eq_false, not_false_eq_true, Nat.reduceAdd, Nat.reduceMul, Nat.reduceEqDiff, Int.reduceToNat, Int.reduceNeg, Ilt_t, Ilt_f, Ile_t, Ile_f, Ieq_t, Ieq_f, Nlt_t, Nlt_f, Nle_t, Nle_f, Neq_t, Neq_f, or_true, true_or, or_false, false_or, and_true, true_and, and_false, false_and, ne_eq, or_self, and_self, decide_true, decide_false, Bool.false_eq_true]), f_X12_isTooMuch_47, k_add1]
        rfl
      rw [st]
      refine ⟨fun h => ih'.1 (fun l h1 h2 => h l (by omega) h2), fun h => ih'.2 (fun q => h (fun l h1 h2 => ?_))⟩
      by_cases w : l = j
      · subst w; exact c
      · exact q l (by omega) h2
    · refine ⟨fun h => absurd (h j (by omega) (by omega)) c, fun _ => ?_⟩
      have t := X12_tooMuch1 hS hL hR k (j + 1) m (by omega) (by omega)
      rw [← t]
      conv => lhs; unfold f_X12_isTooMuch_17
      rw [if_pos hL.k, r24, if_pos k148, n148, if_pos (by decide), c0, hR.2.1, if_neg lt, if_pos (by rfl), r28, if_pos k151, n151, if_pos inj, nat_i (by omega), ej, if_neg (by simp (disch := omega) only [↓reduceIte, add_i0, cast_add1, cast_sub1, toNat120, i32_lit, i32_neg, i32_add, i32_sub, i32_mul, i32_nat, i32_le, i32_lt, i32_eq, inB_i, Int.toNat_natCast, mI_sI_eq, mI_sI_ne, mR_sR_eq, mR_sR_ne, mI_sR, mR_sI, mK_sI, mN_sI, mn_sI, mJ_sI, mK_sR, mN_sR, mn_sR, mJ_sR, mI_wI, mR_wI, mK_wI, mN_wI, mn_wI, mJ_wI, ↓bnd_of, ↓bndX_r, ↓bndX_l, ↓ap_nr, bnd_of, bndX_r, bndX_l, if_true, if_false, ite_true, ite_false, not_true_eq_false, not_false_eq_true, Nat.reduceAdd, Nat.reduceMul, Nat.reduceEqDiff, Int.reduceToNat, Int.reduceNeg, Ilt_t, Ilt_f, Ile_t, Ile_f, Ieq_t, Ieq_f, Nlt_t, Nlt_f, Nle_t, Nle_f, Neq_t, Neq_f, or_true, true_or, or_false, false_or, and_true, true_and, and_false, false_and, ne_eq, or_self, and_self, decide_true, decide_false, Bool.false_eq_true]), f_X12_isTooMuch_42, f_X12_isTooMuch_47, k_add1]
      rfl
theorem X12_isTooMuch (hS : S.ok) (hL : RLay M) (hR : RS0 M S) (hX : RX M A) (hb : ∀ l, A.sz l ≤ 2000000000) {rc : Nat} (hrc : rc ≤ 1000) (h30 : mI M 134 30 = i32 rc) : ((rc ≤ 30 ∧ ∀ l, l < S.nl → A.sz l ≤ 120) → f_X12_isTooMuch 134 M = some (i32 0, M)) ∧ ((¬ (rc ≤ 30 ∧ ∀ l, l < S.nl → A.sz l ≤ 120)) → f_X12_isTooMuch 134 M = some (i32 1, M)) := by
  have hnl := hS.2.1
  have t0 := X12_tooMuch0 hS hL hR hX hb S.nl 0 FUEL (by omega) (by unfold FUEL; omega)
  have t1 := X12_tooMuch1 hS hL hR S.nl 0 FUEL (by omega) (by unfold FUEL; omega)
  by_cases c : rc ≤ 30
  · have st : f_X12_isTooMuch 134 M = f_X12_isTooMuch_17 FUEL 134 (i32 0) (i32 ((0 : Nat) : Int)) M := by
      unfold f_X12_isTooMuch
      rw [if_pos hL.k, h30, if_pos (by simp (disch := omega) only [↓reduceIte, add_i0, cast_add1, cast_sub1, toNat120, i32_lit, i32_neg, i32_add, i32_sub, i32_mul, i32_nat, i32_le, i32_lt, i32_eq, inB_i, Int.toNat_natCast, mI_sI_eq, mI_sI_ne, mR_sR_eq, mR_sR_ne, mI_sR, mR_sI, mK_sI, mN_sI, mn_sI, mJ_sI, mK_sR, mN_sR, mn_sR, mJ_sR, mI_wI, mR_wI, mK_wI, mN_wI, mn_wI, mJ_wI, ↓bnd_of, ↓bndX_r, ↓bndX_l, ↓ap_nr, bnd_of, bndX_r, bndX_l, if_true, if_false, ite_true, ite_false, not_true_eq_false, not_false_eq_true, Nat.reduceAdd, Nat.reduceMul, Nat.reduceEqDiff, Int.reduceToNat, Int.reduceNeg, Ilt_t, Ilt_f, Ile_t, Ile_f, Ieq_t, Ieq_f, Nlt_t, Nlt_f, Nle_t, Nle_f, Neq_t, Neq_f, or_true, true_or, or_false, false_or, and_true, true_and, and_false, false_and, ne_eq, or_self, and_self, decide_true, decide_false, Bool.false_eq_true]), f_X12_isTooMuch_14]
      rfl
    rw [st]
    exact ⟨fun h => t0.1 (fun l _ h2 => h.2 l h2), fun h => t0.2 (fun q => h ⟨c, fun l h2 => q l (by omega) h2⟩)⟩
  · have st : f_X12_isTooMuch 134 M = f_X12_isTooMuch_17 FUEL 134 (i32 1) (i32 ((0 : Nat) : Int)) M := by
      unfold f_X12_isTooMuch
      rw [if_pos hL.k, h30, if_neg (by simp (disch := omega) only [↓reduceIte, add_i0, cast_add1, cast_sub1, toNat120, i32_lit, i32_neg, i32_add, i32_sub, i32_mul, i32_nat, i32_le, i32_lt, i32_eq, inB_i, Int.toNat_natCast, mI_sI_eq, mI_sI_ne, mR_sR_eq, mR_sR_ne, mI_sR, mR_sI, mK_sI, mN_sI, mn_sI, mJ_sI, mK_sR, mN_sR, mn_sR, mJ_sR, mI_wI, mR_wI, mK_wI, mN_wI, mn_wI, mJ_wI, ↓bnd_of, ↓bndX_r, ↓bndX_l, ↓ap_nr, bnd_of, bndX_r, bndX_l, if_true, if_false, ite_true, ite_false, not_true_eq_false, not_false_eq_true, Nat.reduceAdd, Nat.reduceMul, Nat.reduceEqDiff, Int.reduceToNat, Int.reduceNeg, Ilt_t, Ilt_f, Ile_t, Ile_f, Ieq_t, Ieq_f, Nlt_t, Nlt_f, Nle_t, Nle_f, Neq_t, Neq_f, or_true, true_or, or_false, false_or, and_true, true_and, and_false, false_and, ne_eq, or_self, and_self, decide_true, decide_false, Bool.false_eq_true]), f_X12_isTooMuch_14]
      rfl
    rw [st]
    exact ⟨fun h => absurd h.1 c, fun _ => t1⟩
end
