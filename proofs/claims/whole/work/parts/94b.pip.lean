/-! piped -/
/-- not by rfl: the kernel must not unfold what stands behind it -/
theorem ap_nr {α β : Type} {x : α} {f : α → β} : ap x f = f x := by
  unfold ap
  exact id rfl
def Pp : Type := Nat × (Nat → Int) × (Nat → Int)
def Pp.n (P : Pp) : Nat := P.1
def Pp.kd (P : Pp) : Nat → Int := P.2.1
def Pp.nu (P : Pp) : Nat → Int := P.2.2
def Pp.ok (P : Pp) : Prop := P.n ≤ 8 ∧ ∀ k, k < P.n → 0 ≤ P.kd k ∧ P.kd k ≤ 6 ∧ 0 ≤ P.nu k ∧ P.nu k ≤ 999 ∧ (P.kd k = 2 → 1 ≤ P.nu k)
/-- the class's pipe at p -/
def CP (M : Mem) (p : Nat) (P : Pp) : Prop := mI M p 0 = i32 P.n ∧ (∀ k, k < P.n → mI M (p + 2) k = i32 (P.kd k)) ∧ (∀ k, k < P.n → mI M (p + 3) k = i32 (P.nu k))
/-- the reference's -/
def RP (M : Mem) (P : Pp) : Prop := mI M 134 47 = i32 P.n ∧ (∀ k, k < P.n → mI M 158 k = i32 (P.kd k)) ∧ (∀ k, k < P.n → mI M 159 k = i32 (P.nu k))
theorem sc_p {p : Nat} (hp : p = 124 ∨ p = 129) (j : Nat) : ScI (p + 1) j ∧ ScI p 2 ∧ ScI (p + 4) j := by
  unfold ScI
  rcases hp with rfl | rfl
  · exact ⟨by omega, by omega, by omega⟩
  · exact ⟨by omega, by omega, by omega⟩
theorem sc_pn {p : Nat} (hp : p = 124 ∨ p = 129) (j : Nat) : ¬ ScI p 0 ∧ ¬ ScI (p + 2) j ∧ ¬ ScI (p + 3) j := by
  unfold ScI
  rcases hp with rfl | rfl
  · exact ⟨by omega, by omega, by omega⟩
  · exact ⟨by omega, by omega, by omega⟩
theorem CP.scr {M M' : Mem} {p : Nat} {P : Pp} (h : CP M p P) (hp : p = 124 ∨ p = 129) (g : Scr M M') : CP M' p P := by
  obtain ⟨h1, h2, h3⟩ := h
  refine ⟨?_, fun k q => ?_, fun k q => ?_⟩
  · rw [g.i (sc_pn hp 0).1]; exact h1
  · rw [g.i (sc_pn hp k).2.1]; exact h2 k q
  · rw [g.i (sc_pn hp k).2.2]; exact h3 k q
theorem RP.scr {M M' : Mem} {P : Pp} (h : RP M P) (hP : P.ok) (g : Scr M M') : RP M' P := by
  obtain ⟨h1, h2, h3⟩ := h
  have := hP.1
  refine ⟨?_, fun k q => ?_, fun k q => ?_⟩
  · rw [g.i (by unfold ScI; omega)]; exact h1
  · rw [g.i (by unfold ScI; omega)]; exact h2 k q
  · rw [g.i (by unfold ScI; omega)]; exact h3 k q
def upf {α : Type} (c : Nat → α) (i : Nat) (v : α) : Nat → α := fun k => if k = i then v else c k
/-- whether a value goes on, behind c that came; what becomes of it -/
def pgo (kd nu : Int) (c v : Int32) : Bool := if kd = 3 then decide (¬ i32 nu ≤ v) else if kd = 4 then decide (¬ v ≤ i32 nu) else if kd = 5 then decide (¬ i32 nu ≤ c) else if kd = 6 then decide (c - c / i32 (nu + 1) * i32 (nu + 1) = i32 0) else true
def pch (kd nu : Int) (v : Int32) : Int32 := if kd = 0 then v + i32 nu else if kd = 1 then v * i32 nu else if kd = 2 then v - v / i32 nu * i32 nu else v
def psend (P : Pp) : Nat → Nat → (Nat → Int32) → Int32 → (Nat → Int32) × Option Int32
  | 0, _, c, v => (c, some v)
  | k + 1, i, c, v => if pgo (P.kd i) (P.nu i) (c i) v = true then psend P k (i + 1) (upf c i (c i + i32 1)) (pch (P.kd i) (P.nu i) v) else (upf c i (c i + i32 1), none)
def olen (r : Option Int32) : Nat := match r with
  | none => 0
  | some _ => 1
def outU (f : Nat → Int32) (o : Nat) (r : Option Int32) : Nat → Int32 := match r with
  | none => f
  | some w => upf f o w
def prunS (P : Pp) (A : St) (fu : Nat → Int) (l : Nat) : Nat → Nat → (Nat → Int32) → Nat → (Nat → Int32) → Nat × (Nat → Int32)
  | 0, _, _, o, f => (o, f)
  | k + 1, j, c, o, f => if A.df l j = fu l then prunS P A fu l k (j + 1) (psend P P.n 0 c (i32 (A.vl l j))).1 (o + olen (psend P P.n 0 c (i32 (A.vl l j))).2) (outU f o (psend P P.n 0 c (i32 (A.vl l j))).2) else prunS P A fu l k (j + 1) c o f
theorem olen_le (r : Option Int32) : olen r ≤ 1 := by cases r <;> simp [olen]
theorem outU_lt (f : Nat → Int32) (o : Nat) (r : Option Int32) {i : Nat} (h : i < o) : outU f o r i = f i := by
  cases r with
  | none => rfl
  | some w => simp only [outU, upf]; rw [if_neg (by omega)]
theorem prunS_keep (P : Pp) (A : St) (fu : Nat → Int) (l : Nat) : ∀ (k j : Nat) (c : Nat → Int32) (o : Nat) (f : Nat → Int32), o ≤ (prunS P A fu l k j c o f).1 ∧ (prunS P A fu l k j c o f).1 ≤ o + k ∧ ∀ i, i < o → (prunS P A fu l k j c o f).2 i = f i := by
  intro k
  induction k with
  | zero => intro j c o f; exact ⟨Nat.le_refl _, Nat.le_refl _, fun _ _ => rfl⟩
  | succ k ih =>
    intro j c o f
    unfold prunS
    split
    · have h := ih (j + 1) (psend P P.n 0 c (i32 (A.vl l j))).1 (o + olen (psend P P.n 0 c (i32 (A.vl l j))).2) (outU f o (psend P P.n 0 c (i32 (A.vl l j))).2)
      have h2 := olen_le (psend P P.n 0 c (i32 (A.vl l j))).2
      refine ⟨by omega, by omega, fun i hi => ?_⟩
      rw [h.2.2 i (by omega), outU_lt _ _ _ hi]
    · have h := ih (j + 1) c o f
      exact ⟨by omega, by omega, h.2.2⟩
def a_piped (P : Pp) (S : Sc) (A : St) (l i : Int) : Nat ⊕ Int32 := if 0 ≤ l ∧ l < S.nl then (if i = -1 then .inr (i32 (prunS P A S.fu l.toNat (A.sz l.toNat) 0 (fun _ => i32 0) 0 (fun _ => i32 0)).1) else if 0 ≤ i ∧ i < (prunS P A S.fu l.toNat (A.sz l.toNat) 0 (fun _ => i32 0) 0 (fun _ => i32 0)).1 then .inr ((prunS P A S.fu l.toNat (A.sz l.toNat) 0 (fun _ => i32 0) 0 (fun _ => i32 0)).2 i.toNat) else .inl 1) else .inl 1
section
variable {M : Mem} {s p : Nat} {S : Sc} {A : St} {P : Pp}
theorem X3_goesOn (hL : PiLay M p) (hP : P.ok) (hC : CP M p P) {i : Nat} (hi : i < P.n) (v c : Int32) (hc : mI M (p + 4) i = c) : f_X3_goesOn p (i32 i) v M = some (if pgo (P.kd i) (P.nu i) c v = true then i32 1 else i32 0, sI M (p + 4) i (c + i32 1)) := by
  obtain ⟨c0, c1, c2⟩ := hC
  have b := hP.2 i hi
  have hn := hP.1
  have hk : P.kd i = 0 ∨ P.kd i = 1 ∨ P.kd i = 2 ∨ P.kd i = 3 ∨ P.kd i = 4 ∨ P.kd i = 5 ∨ P.kd i = 6 := by omega
  rcases hk with hk | hk | hk | hk | hk | hk | hk <;> simp (disch := omega) only [↓reduceIte, add_i0, cast_add1, cast_sub1, toNat120, i32_lit, i32_neg, i32_add, i32_sub, i32_mul, i32_nat, i32_le, i32_lt, i32_eq, inB_i, Int.toNat_natCast, mI_sI_eq, mI_sI_ne, mR_sR_eq, mR_sR_ne, mI_sR, mR_sI, mK_sI, mN_sI, mn_sI, mJ_sI, mK_sR, mN_sR, mn_sR, mJ_sR, mI_wI, mR_wI, mK_wI, mN_wI, mn_wI, mJ_wI, ↓bnd_of, ↓bndX_r, ↓bndX_l, ↓ap_nr, bnd_of, bndX_r, bndX_l, if_true, if_false, ite_true, ite_false, not_true_eq_false, not_false_eq_true, Nat.reduceAdd, Nat.reduceMul, Nat.reduceEqDiff, Int.reduceToNat, Int.reduceNeg, Ilt_t, Ilt_f, Ile_t, Ile_f, Ieq_t, Ieq_f, Nlt_t, Nlt_f, Nle_t, Nle_f, Neq_t, Neq_f, or_true, true_or, or_false, false_or, and_true, true_and, and_false, false_and, ne_eq, or_self, and_self, decide_true, decide_false, Bool.false_eq_true, f_X3_goesOn, hL.o, c1, c2, hc, hk, pgo, decide_eq_true_eq] <;> (first | done | with_reducible rfl | ((repeat' split) <;> (first | with_reducible rfl | (exfalso; omega) | skip)))
theorem X3_changed (hL : PiLay M p) (hP : P.ok) (hC : CP M p P) {i : Nat} (hi : i < P.n) (v : Int32) : f_X3_changed p (i32 i) v M = some (pch (P.kd i) (P.nu i) v, M) := by
  obtain ⟨c0, c1, c2⟩ := hC
  have b := hP.2 i hi
  have hn := hP.1
  have hk : P.kd i = 0 ∨ P.kd i = 1 ∨ P.kd i = 2 ∨ P.kd i = 3 ∨ P.kd i = 4 ∨ P.kd i = 5 ∨ P.kd i = 6 := by omega
  rcases hk with hk | hk | hk | hk | hk | hk | hk <;> simp (disch := omega) only [↓reduceIte, add_i0, cast_add1, cast_sub1, toNat120, i32_lit, i32_neg, i32_add, i32_sub, i32_mul, i32_nat, i32_le, i32_lt, i32_eq, inB_i, Int.toNat_natCast, mI_sI_eq, mI_sI_ne, mR_sR_eq, mR_sR_ne, mI_sR, mR_sI, mK_sI, mN_sI, mn_sI, mJ_sI, mK_sR, mN_sR, mn_sR, mJ_sR, mI_wI, mR_wI, mK_wI, mN_wI, mn_wI, mJ_wI, ↓bnd_of, ↓bndX_r, ↓bndX_l, ↓ap_nr, bnd_of, bndX_r, bndX_l, if_true, if_false, ite_true, ite_false, not_true_eq_false, not_false_eq_true, Nat.reduceAdd, Nat.reduceMul, Nat.reduceEqDiff, Int.reduceToNat, Int.reduceNeg, Ilt_t, Ilt_f, Ile_t, Ile_f, Ieq_t, Ieq_f, Nlt_t, Nlt_f, Nle_t, Nle_f, Neq_t, Neq_f, or_true, true_or, or_false, false_or, and_true, true_and, and_false, false_and, ne_eq, or_self, and_self, decide_true, decide_false, Bool.false_eq_true, f_X3_changed, hL.o, c1, c2, hk, pch] <;> (first | done | with_reducible rfl | ((repeat' split) <;> (first | with_reducible rfl | (exfalso; omega) | skip)))
theorem X3_send_loop (hP : P.ok) (hp : p = 124 ∨ p = 129) {o : Nat} (ho : o < 120) : ∀ (k i n : Nat) (M : Mem) (c : Nat → Int32) (v : Int32), i + k = P.n → k < n → PiLay M p → CP M p P → (∀ i, i < 8 → mI M (p + 4) i = c i) → mI M p 2 = i32 o → ∃ M', f_X3_send_4 n p v (i32 i) M = some ((), M') ∧ Scr M M' ∧ (∀ x, x < 8 → mI M' (p + 4) x = (psend P k i c v).1 x) ∧ mI M' p 2 = i32 ((o + olen (psend P k i c v).2 : Nat) : Int) ∧ (∀ x, mI M' (p + 1) x = outU (mI M (p + 1)) o (psend P k i c v).2 x) := by
  have hn8 := hP.1
  intro k
  induction k with
  | zero =>
    intro i n M c v hj hn hL hC hc h2
    obtain ⟨n, rfl⟩ : ∃ m, n = m + 1 := ⟨n - 1, by omega⟩
    have c0 := hC.1
    refine ⟨sI (sI M (p + 1) o v) p 2 (i32 ((o + 1 : Nat) : Int)), ?_, ((Scr.rf M).sI (sc_p hp o).1).sI (sc_p hp 0).2.1, fun i hi => ?_, ?_, fun j => ?_⟩
    · simp (disch := omega) only [↓reduceIte, add_i0, cast_add1, cast_sub1, toNat120, i32_lit, i32_neg, i32_add, i32_sub, i32_mul, i32_nat, i32_le, i32_lt, i32_eq, inB_i, Int.toNat_natCast, mI_sI_eq, mI_sI_ne, mR_sR_eq, mR_sR_ne, mI_sR, mR_sI, mK_sI, mN_sI, mn_sI, mJ_sI, mK_sR, mN_sR, mn_sR, mJ_sR, mI_wI, mR_wI, mK_wI, mN_wI, mn_wI, mJ_wI, ↓bnd_of, ↓bndX_r, ↓bndX_l, ↓ap_nr, bnd_of, bndX_r, bndX_l, if_true, if_false, ite_true, ite_false, not_true_eq_false, not_false_eq_true, Nat.reduceAdd, Nat.reduceMul, Nat.reduceEqDiff, Int.reduceToNat, Int.reduceNeg, Ilt_t, Ilt_f, Ile_t, Ile_f, Ieq_t, Ieq_f, Nlt_t, Nlt_f, Nle_t, Nle_f, Neq_t, Neq_f, or_true, true_or, or_false, false_or, and_true, true_and, and_false, false_and, ne_eq, or_self, and_self, decide_true, decide_false, Bool.false_eq_true, f_X3_send_4, hL.o, c0, h2]
    · simp (disch := omega) only [↓reduceIte, add_i0, cast_add1, cast_sub1, toNat120, i32_lit, i32_neg, i32_add, i32_sub, i32_mul, i32_nat, i32_le, i32_lt, i32_eq, inB_i, Int.toNat_natCast, mI_sI_eq, mI_sI_ne, mR_sR_eq, mR_sR_ne, mI_sR, mR_sI, mK_sI, mN_sI, mn_sI, mJ_sI, mK_sR, mN_sR, mn_sR, mJ_sR, mI_wI, mR_wI, mK_wI, mN_wI, mn_wI, mJ_wI, ↓bnd_of, ↓bndX_r, ↓bndX_l, ↓ap_nr, bnd_of, bndX_r, bndX_l, if_true, if_false, ite_true, ite_false, not_true_eq_false, not_false_eq_true, Nat.reduceAdd, Nat.reduceMul, Nat.reduceEqDiff, Int.reduceToNat, Int.reduceNeg, Ilt_t, Ilt_f, Ile_t, Ile_f, Ieq_t, Ieq_f, Nlt_t, Nlt_f, Nle_t, Nle_f, Neq_t, Neq_f, or_true, true_or, or_false, false_or, and_true, true_and, and_false, false_and, ne_eq, or_self, and_self, decide_true, decide_false, Bool.false_eq_true, psend, hc]
    · simp (disch := omega) only [↓reduceIte, add_i0, cast_add1, cast_sub1, toNat120, i32_lit, i32_neg, i32_add, i32_sub, i32_mul, i32_nat, i32_le, i32_lt, i32_eq, inB_i, Int.toNat_natCast, mI_sI_eq, mI_sI_ne, mR_sR_eq, mR_sR_ne, mI_sR, mR_sI, mK_sI, mN_sI, mn_sI, mJ_sI, mK_sR, mN_sR, mn_sR, mJ_sR, mI_wI, mR_wI, mK_wI, mN_wI, mn_wI, mJ_wI, ↓bnd_of, ↓bndX_r, ↓bndX_l, ↓ap_nr, bnd_of, bndX_r, bndX_l, if_true, if_false, ite_true, ite_false, not_true_eq_false, not_false_eq_true, Nat.reduceAdd, Nat.reduceMul, Nat.reduceEqDiff, Int.reduceToNat, Int.reduceNeg, Ilt_t, Ilt_f, Ile_t, Ile_f, Ieq_t, Ieq_f, Nlt_t, Nlt_f, Nle_t, Nle_f, Neq_t, Neq_f, or_true, true_or, or_false, false_or, and_true, true_and, and_false, false_and, ne_eq, or_self, and_self, decide_true, decide_false, Bool.false_eq_true, psend, olen]
    · simp only [psend, outU, upf]
      by_cases e : j = o
      · subst e; simp (disch := omega) only [↓reduceIte, add_i0, cast_add1, cast_sub1, toNat120, i32_lit, i32_neg, i32_add, i32_sub, i32_mul, i32_nat, i32_le, i32_lt, i32_eq, inB_i, Int.toNat_natCast, mI_sI_eq, mI_sI_ne, mR_sR_eq, mR_sR_ne, mI_sR, mR_sI, mK_sI, mN_sI, mn_sI, mJ_sI, mK_sR, mN_sR, mn_sR, mJ_sR, mI_wI, mR_wI, mK_wI, mN_wI, mn_wI, mJ_wI, ↓bnd_of, ↓bndX_r, ↓bndX_l, ↓ap_nr, bnd_of, bndX_r, bndX_l, if_true, if_false, ite_true, ite_false, not_true_eq_false, not_false_eq_true, Nat.reduceAdd, Nat.reduceMul, Nat.reduceEqDiff, Int.reduceToNat, Int.reduceNeg, Ilt_t, Ilt_f, Ile_t, Ile_f, Ieq_t, Ieq_f, Nlt_t, Nlt_f, Nle_t, Nle_f, Neq_t, Neq_f, or_true, true_or, or_false, false_or, and_true, true_and, and_false, false_and, ne_eq, or_self, and_self, decide_true, decide_false, Bool.false_eq_true]
      · simp (disch := omega) only [↓reduceIte, add_i0, cast_add1, cast_sub1, toNat120, i32_lit, i32_neg, i32_add, i32_sub, i32_mul, i32_nat, i32_le, i32_lt, i32_eq, inB_i, Int.toNat_natCast, mI_sI_eq, mI_sI_ne, mR_sR_eq, mR_sR_ne, mI_sR, mR_sI, mK_sI, mN_sI, mn_sI, mJ_sI, mK_sR, mN_sR, mn_sR, mJ_sR, mI_wI, mR_wI, mK_wI, mN_wI, mn_wI, mJ_wI, ↓bnd_of, ↓bndX_r, ↓bndX_l, ↓ap_nr, bnd_of, bndX_r, bndX_l, if_true, if_false, ite_true, ite_false, not_true_eq_false, not_false_eq_true, Nat.reduceAdd, Nat.reduceMul, Nat.reduceEqDiff, Int.reduceToNat, Int.reduceNeg, Ilt_t, Ilt_f, Ile_t, Ile_f, Ieq_t, Ieq_f, Nlt_t, Nlt_f, Nle_t, Nle_f, Neq_t, Neq_f, or_true, true_or, or_false, false_or, and_true, true_and, and_false, false_and, ne_eq, or_self, and_self, decide_true, decide_false, Bool.false_eq_true, e]
  | succ k ih =>
    intro i n M c v hj hn hL hC hc h2
    obtain ⟨n, rfl⟩ : ∃ m, n = m + 1 := ⟨n - 1, by omega⟩
    have c0 := hC.1
    have e1 := X3_goesOn hL hP hC (i := i) (by omega) v (c i) (hc i (by omega))
    have g : Scr M (sI M (p + 4) i (c i + i32 1)) := (Scr.rf M).sI (sc_p hp i).2.2
    have hL1 := PiLay.scr hL (by omega) g
    have hC1 := CP.scr hC hp g
    have e2 := X3_changed hL1 hP hC1 (i := i) (by omega) v
    have hc1 : ∀ k, k < 8 → mI (sI M (p + 4) i (c i + i32 1)) (p + 4) k = upf c i (c i + i32 1) k := by
      intro k hk
      unfold upf
      by_cases e : k = i
      · subst e; simp (disch := omega) only [↓reduceIte, add_i0, cast_add1, cast_sub1, toNat120, i32_lit, i32_neg, i32_add, i32_sub, i32_mul, i32_nat, i32_le, i32_lt, i32_eq, inB_i, Int.toNat_natCast, mI_sI_eq, mI_sI_ne, mR_sR_eq, mR_sR_ne, mI_sR, mR_sI, mK_sI, mN_sI, mn_sI, mJ_sI, mK_sR, mN_sR, mn_sR, mJ_sR, mI_wI, mR_wI, mK_wI, mN_wI, mn_wI, mJ_wI, ↓bnd_of, ↓bndX_r, ↓bndX_l, ↓ap_nr, bnd_of, bndX_r, bndX_l, if_true, if_false, ite_true, ite_false, not_true_eq_false, not_false_eq_true, Nat.reduceAdd, Nat.reduceMul, Nat.reduceEqDiff, Int.reduceToNat, Int.reduceNeg, Ilt_t, Ilt_f, Ile_t, Ile_f, Ieq_t, Ieq_f, Nlt_t, Nlt_f, Nle_t, Nle_f, Neq_t, Neq_f, or_true, true_or, or_false, false_or, and_true, true_and, and_false, false_and, ne_eq, or_self, and_self, decide_true, decide_false, Bool.false_eq_true]
      · simp (disch := omega) only [↓reduceIte, add_i0, cast_add1, cast_sub1, toNat120, i32_lit, i32_neg, i32_add, i32_sub, i32_mul, i32_nat, i32_le, i32_lt, i32_eq, inB_i, Int.toNat_natCast, mI_sI_eq, mI_sI_ne, mR_sR_eq, mR_sR_ne, mI_sR, mR_sI, mK_sI, mN_sI, mn_sI, mJ_sI, mK_sR, mN_sR, mn_sR, mJ_sR, mI_wI, mR_wI, mK_wI, mN_wI, mn_wI, mJ_wI, ↓bnd_of, ↓bndX_r, ↓bndX_l, ↓ap_nr, bnd_of, bndX_r, bndX_l, if_true, if_false, ite_true, ite_false, not_true_eq_false, not_false_eq_true, Nat.reduceAdd, Nat.reduceMul, Nat.reduceEqDiff, Int.reduceToNat, Int.reduceNeg, Ilt_t, Ilt_f, Ile_t, Ile_f, Ieq_t, Ieq_f, Nlt_t, Nlt_f, Nle_t, Nle_f, Neq_t, Neq_f, or_true, true_or, or_false, false_or, and_true, true_and, and_false, false_and, ne_eq, or_self, and_self, decide_true, decide_false, Bool.false_eq_true, e, hc]
    have h21 : mI (sI M (p + 4) i (c i + i32 1)) p 2 = i32 o := by simp (disch := omega) only [↓reduceIte, add_i0, cast_add1, cast_sub1, toNat120, i32_lit, i32_neg, i32_add, i32_sub, i32_mul, i32_nat, i32_le, i32_lt, i32_eq, inB_i, Int.toNat_natCast, mI_sI_eq, mI_sI_ne, mR_sR_eq, mR_sR_ne, mI_sR, mR_sI, mK_sI, mN_sI, mn_sI, mJ_sI, mK_sR, mN_sR, mn_sR, mJ_sR, mI_wI, mR_wI, mK_wI, mN_wI, mn_wI, mJ_wI, ↓bnd_of, ↓bndX_r, ↓bndX_l, ↓ap_nr, bnd_of, bndX_r, bndX_l, if_true, if_false, ite_true, ite_false, not_true_eq_false, not_false_eq_true, Nat.reduceAdd, Nat.reduceMul, Nat.reduceEqDiff, Int.reduceToNat, Int.reduceNeg, Ilt_t, Ilt_f, Ile_t, Ile_f, Ieq_t, Ieq_f, Nlt_t, Nlt_f, Nle_t, Nle_f, Neq_t, Neq_f, or_true, true_or, or_false, false_or, and_true, true_and, and_false, false_and, ne_eq, or_self, and_self, decide_true, decide_false, Bool.false_eq_true, h2]
    unfold psend
    by_cases d : pgo (P.kd i) (P.nu i) (c i) v = true
    · rw [if_pos d] at e1 ⊢
      obtain ⟨M', h3, h4, h5, h6, h7⟩ := ih (i + 1) n (sI M (p + 4) i (c i + i32 1)) (upf c i (c i + i32 1)) (pch (P.kd i) (P.nu i) v) (by omega) (by omega) hL1 hC1 hc1 h21
      refine ⟨M', ?_, g.tr h4, h5, h6, fun j => ?_⟩
      · rw [← h3]
        simp (disch := omega) only [↓reduceIte, add_i0, cast_add1, cast_sub1, toNat120, i32_lit, i32_neg, i32_add, i32_sub, i32_mul, i32_nat, i32_le, i32_lt, i32_eq, inB_i, Int.toNat_natCast, mI_sI_eq, mI_sI_ne, mR_sR_eq, mR_sR_ne, mI_sR, mR_sI, mK_sI, mN_sI, mn_sI, mJ_sI, mK_sR, mN_sR, mn_sR, mJ_sR, mI_wI, mR_wI, mK_wI, mN_wI, mn_wI, mJ_wI, ↓bnd_of, ↓bndX_r, ↓bndX_l, ↓ap_nr, bnd_of, bndX_r, bndX_l, if_true, if_false, ite_true, ite_false, not_true_eq_false, not_false_eq_true, Nat.reduceAdd, Nat.reduceMul, Nat.reduceEqDiff, Int.reduceToNat, Int.reduceNeg, Ilt_t, Ilt_f, Ile_t, Ile_f, Ieq_t, Ieq_f, Nlt_t, Nlt_f, Nle_t, Nle_f, Neq_t, Neq_f, or_true, true_or, or_false, false_or, and_true, true_and, and_false, false_and, ne_eq, or_self, and_self, decide_true, decide_false, Bool.false_eq_true, f_X3_send_4, hL.o, hL1.o, c0, ↓bx e1, ↓bx e2]
      · rw [h7 j]
        congr 1
        funext q
        simp (disch := omega) only [↓reduceIte, add_i0, cast_add1, cast_sub1, toNat120, i32_lit, i32_neg, i32_add, i32_sub, i32_mul, i32_nat, i32_le, i32_lt, i32_eq, inB_i, Int.toNat_natCast, mI_sI_eq, mI_sI_ne, mR_sR_eq, mR_sR_ne, mI_sR, mR_sI, mK_sI, mN_sI, mn_sI, mJ_sI, mK_sR, mN_sR, mn_sR, mJ_sR, mI_wI, mR_wI, mK_wI, mN_wI, mn_wI, mJ_wI, ↓bnd_of, ↓bndX_r, ↓bndX_l, ↓ap_nr, bnd_of, bndX_r, bndX_l, if_true, if_false, ite_true, ite_false, not_true_eq_false, not_false_eq_true, Nat.reduceAdd, Nat.reduceMul, Nat.reduceEqDiff, Int.reduceToNat, Int.reduceNeg, Ilt_t, Ilt_f, Ile_t, Ile_f, Ieq_t, Ieq_f, Nlt_t, Nlt_f, Nle_t, Nle_f, Neq_t, Neq_f, or_true, true_or, or_false, false_or, and_true, true_and, and_false, false_and, ne_eq, or_self, and_self, decide_true, decide_false, Bool.false_eq_true]
    · rw [if_neg d] at e1 ⊢
      refine ⟨_, ?_, g, hc1, ?_, fun j => ?_⟩
      · simp (disch := omega) only [↓reduceIte, add_i0, cast_add1, cast_sub1, toNat120, i32_lit, i32_neg, i32_add, i32_sub, i32_mul, i32_nat, i32_le, i32_lt, i32_eq, inB_i, Int.toNat_natCast, mI_sI_eq, mI_sI_ne, mR_sR_eq, mR_sR_ne, mI_sR, mR_sI, mK_sI, mN_sI, mn_sI, mJ_sI, mK_sR, mN_sR, mn_sR, mJ_sR, mI_wI, mR_wI, mK_wI, mN_wI, mn_wI, mJ_wI, ↓bnd_of, ↓bndX_r, ↓bndX_l, ↓ap_nr, bnd_of, bndX_r, bndX_l, if_true, if_false, ite_true, ite_false, not_true_eq_false, not_false_eq_true, Nat.reduceAdd, Nat.reduceMul, Nat.reduceEqDiff, Int.reduceToNat, Int.reduceNeg, Ilt_t, Ilt_f, Ile_t, Ile_f, Ieq_t, Ieq_f, Nlt_t, Nlt_f, Nle_t, Nle_f, Neq_t, Neq_f, or_true, true_or, or_false, false_or, and_true, true_and, and_false, false_and, ne_eq, or_self, and_self, decide_true, decide_false, Bool.false_eq_true, f_X3_send_4, hL.o, c0, ↓bx e1]
      · simp only [olen]; exact h21
      · simp only [outU]; simp (disch := omega) only [↓reduceIte, add_i0, cast_add1, cast_sub1, toNat120, i32_lit, i32_neg, i32_add, i32_sub, i32_mul, i32_nat, i32_le, i32_lt, i32_eq, inB_i, Int.toNat_natCast, mI_sI_eq, mI_sI_ne, mR_sR_eq, mR_sR_ne, mI_sR, mR_sI, mK_sI, mN_sI, mn_sI, mJ_sI, mK_sR, mN_sR, mn_sR, mJ_sR, mI_wI, mR_wI, mK_wI, mN_wI, mn_wI, mJ_wI, ↓bnd_of, ↓bndX_r, ↓bndX_l, ↓ap_nr, bnd_of, bndX_r, bndX_l, if_true, if_false, ite_true, ite_false, not_true_eq_false, not_false_eq_true, Nat.reduceAdd, Nat.reduceMul, Nat.reduceEqDiff, Int.reduceToNat, Int.reduceNeg, Ilt_t, Ilt_f, Ile_t, Ile_f, Ieq_t, Ieq_f, Nlt_t, Nlt_f, Nle_t, Nle_f, Neq_t, Neq_f, or_true, true_or, or_false, false_or, and_true, true_and, and_false, false_and, ne_eq, or_self, and_self, decide_true, decide_false, Bool.false_eq_true]
theorem X3_run28 (hP : P.ok) (hp : p = 124 ∨ p = 129) {l : Nat} (hl : l < S.nl) : ∀ (k j n : Nat) (M : Mem) (c : Nat → Int32) (o : Nat) (f : Nat → Int32), j + k = A.sz l → k < n → o ≤ j → CV M s S A → S.ok → PiLay M p → CP M p P → (∀ i, i < 8 → mI M (p + 4) i = c i) → mI M p 2 = i32 o → (∀ j, j < o → mI M (p + 1) j = f j) → ∃ M', f_X3_run_28 n p (21 + 4 * l) (i32 j) M = some (i32 (prunS P A S.fu l k j c o f).1, M') ∧ Scr M M' ∧ (∀ x, x < (prunS P A S.fu l k j c o f).1 → mI M' (p + 1) x = (prunS P A S.fu l k j c o f).2 x) := by
  intro k
  induction k with
  | zero =>
    intro j n M c o f hj hn ho hV hS hL hC hc h2 hf
    obtain ⟨n, rfl⟩ : ∃ m, n = m + 1 := ⟨n - 1, by omega⟩
    have hnl := hS.2.1
    have hc2 := hV.2.1
    have a1 := hV.2.2.2.2.1.2.1
    have bz := hV.2.2.2.2.1.1.2.2.2.1 l
    refine ⟨M, ?_, Scr.rf M, hf⟩
    simp (disch := omega) only [↓reduceIte, add_i0, cast_add1, cast_sub1, toNat120, i32_lit, i32_neg, i32_add, i32_sub, i32_mul, i32_nat, i32_le, i32_lt, i32_eq, inB_i, Int.toNat_natCast, mI_sI_eq, mI_sI_ne, mR_sR_eq, mR_sR_ne, mI_sR, mR_sI, mK_sI, mN_sI, mn_sI, mJ_sI, mK_sR, mN_sR, mn_sR, mJ_sR, mI_wI, mR_wI, mK_wI, mN_wI, mn_wI, mJ_wI, ↓bnd_of, ↓bndX_r, ↓bndX_l, ↓ap_nr, bnd_of, bndX_r, bndX_l, if_true, if_false, ite_true, ite_false, not_true_eq_false, not_false_eq_true, Nat.reduceAdd, Nat.reduceMul, Nat.reduceEqDiff, Int.reduceToNat, Int.reduceNeg, Ilt_t, Ilt_f, Ile_t, Ile_f, Ieq_t, Ieq_f, Nlt_t, Nlt_f, Nle_t, Nle_f, Neq_t, Neq_f, or_true, true_or, or_false, false_or, and_true, true_and, and_false, false_and, ne_eq, or_self, and_self, decide_true, decide_false, Bool.false_eq_true, f_X3_run_28, prunS, hL.o, hc2, a1, h2]
  | succ k ih =>
    intro j n M c o f hj hn ho hV hS hL hC hc h2 hf
    obtain ⟨n, rfl⟩ : ∃ m, n = m + 1 := ⟨n - 1, by omega⟩
    have hnl := hS.2.1
    have hc2 := hV.2.1
    have bz := hV.2.2.2.2.1.1.2.2.2.1 l
    have e1 := X2_hasValue hV.2.1 hV.2.2.2.2.1 (l := l) (by omega) (j := j) (by omega)
    have a1 := hV.2.2.2.2.1.2.1
    have a4 := hV.2.2.2.2.1.2.2.2.2.1
    unfold prunS
    by_cases d : A.df l j = S.fu l
    · rw [if_pos d] at e1
      simp only [d, if_true]
      obtain ⟨M1, h3, h4, h5, h6, h7⟩ := X3_send_loop hP hp (show o < 120 by omega) P.n 0 FUEL M c (i32 (A.vl l j)) (by omega) (by unfold FUEL; have := hP.1; omega) hL hC hc h2
      have h3' : f_X3_send p (i32 (A.vl l j)) M = some ((), M1) := h3
      have h8 := olen_le (psend P P.n 0 c (i32 (A.vl l j))).2
      obtain ⟨M2, q1, q2, q3⟩ := ih (j + 1) n M1 (psend P P.n 0 c (i32 (A.vl l j))).1 (o + olen (psend P P.n 0 c (i32 (A.vl l j))).2) (outU f o (psend P P.n 0 c (i32 (A.vl l j))).2) (by omega) (by omega) (by omega) (hV.scr h4) hS (PiLay.scr hL (by omega) h4) (CP.scr hC hp h4) h5 h6 (fun i hi => by
        rw [h7 i]
        cases hr : (psend P P.n 0 c (i32 (A.vl l j))).2 with
        | none =>
          rw [hr] at hi
          exact hf i (by simpa [olen] using hi)
        | some w =>
          rw [hr] at hi
          simp only [olen] at hi
          simp only [outU, upf]
          split
          · rfl
          · exact hf i (by omega))
      refine ⟨M2, ?_, h4.tr q2, q3⟩
      rw [← q1]
      simp (disch := omega) only [↓reduceIte, add_i0, cast_add1, cast_sub1, toNat120, i32_lit, i32_neg, i32_add, i32_sub, i32_mul, i32_nat, i32_le, i32_lt, i32_eq, inB_i, Int.toNat_natCast, mI_sI_eq, mI_sI_ne, mR_sR_eq, mR_sR_ne, mI_sR, mR_sI, mK_sI, mN_sI, mn_sI, mJ_sI, mK_sR, mN_sR, mn_sR, mJ_sR, mI_wI, mR_wI, mK_wI, mN_wI, mn_wI, mJ_wI, ↓bnd_of, ↓bndX_r, ↓bndX_l, ↓ap_nr, bnd_of, bndX_r, bndX_l, if_true, if_false, ite_true, ite_false, not_true_eq_false, not_false_eq_true, Nat.reduceAdd, Nat.reduceMul, Nat.reduceEqDiff, Int.reduceToNat, Int.reduceNeg, Ilt_t, Ilt_f, Ile_t, Ile_f, Ieq_t, Ieq_f, Nlt_t, Nlt_f, Nle_t, Nle_f, Neq_t, Neq_f, or_true, true_or, or_false, false_or, and_true, true_and, and_false, false_and, ne_eq, or_self, and_self, decide_true, decide_false, Bool.false_eq_true, f_X3_run_28, f_X3_run_54, hL.o, hc2, a1, ↓bx e1, a4, ↓bx h3']
    · rw [if_neg d] at e1
      simp only [d, if_false]
      obtain ⟨M2, q1, q2, q3⟩ := ih (j + 1) n M c o f (by omega) (by omega) (by omega) hV hS hL hC hc h2 hf
      refine ⟨M2, ?_, q2, q3⟩
      rw [← q1]
      simp (disch := omega) only [↓reduceIte, add_i0, cast_add1, cast_sub1, toNat120, i32_lit, i32_neg, i32_add, i32_sub, i32_mul, i32_nat, i32_le, i32_lt, i32_eq, inB_i, Int.toNat_natCast, mI_sI_eq, mI_sI_ne, mR_sR_eq, mR_sR_ne, mI_sR, mR_sI, mK_sI, mN_sI, mn_sI, mJ_sI, mK_sR, mN_sR, mn_sR, mJ_sR, mI_wI, mR_wI, mK_wI, mN_wI, mn_wI, mJ_wI, ↓bnd_of, ↓bndX_r, ↓bndX_l, ↓ap_nr, bnd_of, bndX_r, bndX_l, if_true, if_false, ite_true, ite_false, not_true_eq_false, not_false_eq_true, Nat.reduceAdd, Nat.reduceMul, Nat.reduceEqDiff, Int.reduceToNat, Int.reduceNeg, Ilt_t, Ilt_f, Ile_t, Ile_f, Ieq_t, Ieq_f, Nlt_t, Nlt_f, Nle_t, Nle_f, Neq_t, Neq_f, or_true, true_or, or_false, false_or, and_true, true_and, and_false, false_and, ne_eq, or_self, and_self, decide_true, decide_false, Bool.false_eq_true, f_X3_run_28, f_X3_run_54, hL.o, hc2, a1, ↓bx e1]
theorem X3_run7 (hP : P.ok) (hp : p = 124 ∨ p = 129) {l : Nat} : ∀ (k j n : Nat) (M : Mem), j + k = 8 → k < n → PiLay M p → (∀ i, i < j → mI M (p + 4) i = i32 0) → ∃ M', f_X3_run_7 n p (21 + 4 * l) (i32 j) M = f_X3_run_28 FUEL p (21 + 4 * l) (i32 (0 : Nat)) M' ∧ Scr M M' ∧ (∀ i, i < 8 → mI M' (p + 4) i = i32 0) ∧ mI M' p 2 = mI M p 2 := by
  intro k
  induction k with
  | zero =>
    intro j n M hj hn hL hc
    obtain ⟨n, rfl⟩ : ∃ m, n = m + 1 := ⟨n - 1, by omega⟩
    refine ⟨M, ?_, Scr.rf M, fun i hi => hc i (by omega), rfl⟩
    simp (disch := omega) only [↓reduceIte, add_i0, cast_add1, cast_sub1, toNat120, i32_lit, i32_neg, i32_add, i32_sub, i32_mul, i32_nat, i32_le, i32_lt, i32_eq, inB_i, Int.toNat_natCast, mI_sI_eq, mI_sI_ne, mR_sR_eq, mR_sR_ne, mI_sR, mR_sI, mK_sI, mN_sI, mn_sI, mJ_sI, mK_sR, mN_sR, mn_sR, mJ_sR, mI_wI, mR_wI, mK_wI, mN_wI, mn_wI, mJ_wI, ↓bnd_of, ↓bndX_r, ↓bndX_l, ↓ap_nr, bnd_of, bndX_r, bndX_l, if_true, if_false, ite_true, ite_false, not_true_eq_false, not_false_eq_true, Nat.reduceAdd, Nat.reduceMul, Nat.reduceEqDiff, Int.reduceToNat, Int.reduceNeg, Ilt_t, Ilt_f, Ile_t, Ile_f, Ieq_t, Ieq_f, Nlt_t, Nlt_f, Nle_t, Nle_f, Neq_t, Neq_f, or_true, true_or, or_false, false_or, and_true, true_and, and_false, false_and, ne_eq, or_self, and_self, decide_true, decide_false, Bool.false_eq_true, f_X3_run_7]
    rfl
  | succ k ih =>
    intro j n M hj hn hL hc
    obtain ⟨n, rfl⟩ : ∃ m, n = m + 1 := ⟨n - 1, by omega⟩
    have g : Scr M (sI M (p + 4) j (i32 0)) := (Scr.rf M).sI (sc_p hp j).2.2
    obtain ⟨M', h1, h2, h3, h4⟩ := ih (j + 1) n _ (by omega) (by omega) (PiLay.scr hL (by omega) g) (fun i hi => by
      by_cases e : i = j
      · subst e; simp (disch := omega) only [↓reduceIte, add_i0, cast_add1, cast_sub1, toNat120, i32_lit, i32_neg, i32_add, i32_sub, i32_mul, i32_nat, i32_le, i32_lt, i32_eq, inB_i, Int.toNat_natCast, mI_sI_eq, mI_sI_ne, mR_sR_eq, mR_sR_ne, mI_sR, mR_sI, mK_sI, mN_sI, mn_sI, mJ_sI, mK_sR, mN_sR, mn_sR, mJ_sR, mI_wI, mR_wI, mK_wI, mN_wI, mn_wI, mJ_wI, ↓bnd_of, ↓bndX_r, ↓bndX_l, ↓ap_nr, bnd_of, bndX_r, bndX_l, if_true, if_false, ite_true, ite_false, not_true_eq_false, not_false_eq_true, Nat.reduceAdd, Nat.reduceMul, Nat.reduceEqDiff, Int.reduceToNat, Int.reduceNeg, Ilt_t, Ilt_f, Ile_t, Ile_f, Ieq_t, Ieq_f, Nlt_t, Nlt_f, Nle_t, Nle_f, Neq_t, Neq_f, or_true, true_or, or_false, false_or, and_true, true_and, and_false, false_and, ne_eq, or_self, and_self, decide_true, decide_false, Bool.false_eq_true]
      · have := hc i (by omega)
        simp (disch := omega) only [↓reduceIte, add_i0, cast_add1, cast_sub1, toNat120, i32_lit, i32_neg, i32_add, i32_sub, i32_mul, i32_nat, i32_le, i32_lt, i32_eq, inB_i, Int.toNat_natCast, mI_sI_eq, mI_sI_ne, mR_sR_eq, mR_sR_ne, mI_sR, mR_sI, mK_sI, mN_sI, mn_sI, mJ_sI, mK_sR, mN_sR, mn_sR, mJ_sR, mI_wI, mR_wI, mK_wI, mN_wI, mn_wI, mJ_wI, ↓bnd_of, ↓bndX_r, ↓bndX_l, ↓ap_nr, bnd_of, bndX_r, bndX_l, if_true, if_false, ite_true, ite_false, not_true_eq_false, not_false_eq_true, Nat.reduceAdd, Nat.reduceMul, Nat.reduceEqDiff, Int.reduceToNat, Int.reduceNeg, Ilt_t, Ilt_f, Ile_t, Ile_f, Ieq_t, Ieq_f, Nlt_t, Nlt_f, Nle_t, Nle_f, Neq_t, Neq_f, or_true, true_or, or_false, false_or, and_true, true_and, and_false, false_and, ne_eq, or_self, and_self, decide_true, decide_false, Bool.false_eq_true, e, this])
    refine ⟨M', ?_, g.tr h2, h3, ?_⟩
    · rw [← h1]
      simp (disch := omega) only [↓reduceIte, add_i0, cast_add1, cast_sub1, toNat120, i32_lit, i32_neg, i32_add, i32_sub, i32_mul, i32_nat, i32_le, i32_lt, i32_eq, inB_i, Int.toNat_natCast, mI_sI_eq, mI_sI_ne, mR_sR_eq, mR_sR_ne, mI_sR, mR_sI, mK_sI, mN_sI, mn_sI, mJ_sI, mK_sR, mN_sR, mn_sR, mJ_sR, mI_wI, mR_wI, mK_wI, mN_wI, mn_wI, mJ_wI, ↓bnd_of, ↓bndX_r, ↓bndX_l, ↓ap_nr, bnd_of, bndX_r, bndX_l, if_true, if_false, ite_true, ite_false, not_true_eq_false, not_false_eq_true, Nat.reduceAdd, Nat.reduceMul, Nat.reduceEqDiff, Int.reduceToNat, Int.reduceNeg, Ilt_t, Ilt_f, Ile_t, Ile_f, Ieq_t, Ieq_f, Nlt_t, Nlt_f, Nle_t, Nle_f, Neq_t, Neq_f, or_true, true_or, or_false, false_or, and_true, true_and, and_false, false_and, ne_eq, or_self, and_self, decide_true, decide_false, Bool.false_eq_true, f_X3_run_7, hL.o]
    · rw [h4]
      simp (disch := omega) only [↓reduceIte, add_i0, cast_add1, cast_sub1, toNat120, i32_lit, i32_neg, i32_add, i32_sub, i32_mul, i32_nat, i32_le, i32_lt, i32_eq, inB_i, Int.toNat_natCast, mI_sI_eq, mI_sI_ne, mR_sR_eq, mR_sR_ne, mI_sR, mR_sI, mK_sI, mN_sI, mn_sI, mJ_sI, mK_sR, mN_sR, mn_sR, mJ_sR, mI_wI, mR_wI, mK_wI, mN_wI, mn_wI, mJ_wI, ↓bnd_of, ↓bndX_r, ↓bndX_l, ↓ap_nr, bnd_of, bndX_r, bndX_l, if_true, if_false, ite_true, ite_false, not_true_eq_false, not_false_eq_true, Nat.reduceAdd, Nat.reduceMul, Nat.reduceEqDiff, Int.reduceToNat, Int.reduceNeg, Ilt_t, Ilt_f, Ile_t, Ile_f, Ieq_t, Ieq_f, Nlt_t, Nlt_f, Nle_t, Nle_f, Neq_t, Neq_f, or_true, true_or, or_false, false_or, and_true, true_and, and_false, false_and, ne_eq, or_self, and_self, decide_true, decide_false, Bool.false_eq_true]
theorem X3_run (hP : P.ok) (hp : p = 124 ∨ p = 129) (hS : S.ok) {l : Nat} (hl : l < S.nl) (hV : CV M s S A) (hL : PiLay M p) (hC : CP M p P) : ∃ M', f_X3_run p (21 + 4 * l) M = some (i32 (prunS P A S.fu l (A.sz l) 0 (fun _ => i32 0) 0 (fun _ => i32 0)).1, M') ∧ Scr M M' ∧ (∀ j, j < (prunS P A S.fu l (A.sz l) 0 (fun _ => i32 0) 0 (fun _ => i32 0)).1 → mI M' (p + 1) j = (prunS P A S.fu l (A.sz l) 0 (fun _ => i32 0) 0 (fun _ => i32 0)).2 j) := by
  have g : Scr M (sI M p 2 (0 : Int32)) := (Scr.rf M).sI (sc_p hp 0).2.1
  have bz := hV.2.2.2.2.1.1.2.2.2.1 l
  obtain ⟨M1, h1, h2, h3, h4⟩ := X3_run7 hP hp (l := l) 8 0 FUEL _ (by omega) (by unfold FUEL; omega) (PiLay.scr hL (by omega) g) (fun i hi => by omega)
  have g1 := g.tr h2
  obtain ⟨M2, q1, q2, q3⟩ := X3_run28 hP hp hl (A.sz l) 0 FUEL M1 (fun _ => i32 0) 0 (fun _ => i32 0) (by omega) (by unfold FUEL; omega) (by omega) (hV.scr g1) hS (PiLay.scr hL (by omega) g1) (CP.scr hC hp g1) h3 (by rw [h4]; exact mI_sI_eq) (fun j hj => by omega)
  refine ⟨M2, ?_, g1.tr q2, q3⟩
  rw [← q1, ← h1]
  unfold f_X3_run
  rw [if_pos hL.o.1, ap_of]
  rfl
theorem c_piped (h : RO M s S A) (hp : p = 124 ∨ p = 129) (hL11 : mR M 1 11 = p) (hPL : PiLay M p) (hP : P.ok) (hC : CP M p P) (l i : Int) (z1 : -2147483648 ≤ l) (z2 : l ≤ 2147483647) (z3 : -2147483648 ≤ i) (z4 : i ≤ 2147483647) : ∃ M', f_X11_piped 1 (i32 l) (i32 i) M = some (a_piped P S A l i, M') ∧ Scr M M' := by
  obtain ⟨hW, hV, -, h8⟩ := h
  have hn := X11_needLeaf hV h8 hW.1 l z1 z2
  have hL := hV.1
  have b := hW.1.2.1
  unfold a_piped
  by_cases d : 0 ≤ l ∧ l < S.nl
  · rw [if_pos d] at hn ⊢
    obtain ⟨l, rfl⟩ : ∃ k : Nat, l = k := ⟨l.toNat, by omega⟩
    simp only [Int.toNat_natCast]
    obtain ⟨M', e1, g, e3⟩ := X3_run hP hp hW.1 (l := l) (by omega) hV hPL hC
    have hL' := hL.scr g
    have hPL' := PiLay.scr hPL (by omega) g
    have hr11 : mR M' 1 11 = p := by rw [g.r (by unfold ScR; omega)]; exact hL11
    have hcol := hV.2.1.2.2.2.2.2.2.2.2.2.2
    simp only [Nat.reduceSub] at hcol
    have hk := prunS_keep P A S.fu l (A.sz l) 0 (fun _ => i32 0) 0 (fun _ => i32 0)
    have bz := hV.2.2.2.2.1.1.2.2.2.1 l
    refine ⟨M', ?_, g⟩
    by_cases c1 : i = -1
    · subst c1
      simp (disch := omega) only [↓reduceIte, add_i0, cast_add1, cast_sub1, toNat120, i32_lit, i32_neg, i32_add, i32_sub, i32_mul, i32_nat, i32_le, i32_lt, i32_eq, inB_i, Int.toNat_natCast, mI_sI_eq, mI_sI_ne, mR_sR_eq, mR_sR_ne, mI_sR, mR_sI, mK_sI, mN_sI, mn_sI, mJ_sI, mK_sR, mN_sR, mn_sR, mJ_sR, mI_wI, mR_wI, mK_wI, mN_wI, mn_wI, mJ_wI, ↓bnd_of, ↓bndX_r, ↓bndX_l, ↓ap_nr, bnd_of, bndX_r, bndX_l, if_true, if_false, ite_true, ite_false, not_true_eq_false, not_false_eq_true, Nat.reduceAdd, Nat.reduceMul, Nat.reduceEqDiff, Int.reduceToNat, Int.reduceNeg, Ilt_t, Ilt_f, Ile_t, Ile_f, Ieq_t, Ieq_f, Nlt_t, Nlt_f, Nle_t, Nle_f, Neq_t, Neq_f, or_true, true_or, or_false, false_or, and_true, true_and, and_false, false_and, ne_eq, or_self, and_self, decide_true, decide_false, Bool.false_eq_true, f_X11_piped, hL.o, ↓bxX hn, hcol, hL11, hPL.o, ↓bx e1]
    · by_cases c2 : 0 ≤ i
      · by_cases c3 : i < (prunS P A S.fu l (A.sz l) 0 (fun _ => i32 0) 0 (fun _ => i32 0)).1
        · have e4 := e3 i.toNat (by omega)
          simp (disch := omega) only [↓reduceIte, add_i0, cast_add1, cast_sub1, toNat120, i32_lit, i32_neg, i32_add, i32_sub, i32_mul, i32_nat, i32_le, i32_lt, i32_eq, inB_i, Int.toNat_natCast, mI_sI_eq, mI_sI_ne, mR_sR_eq, mR_sR_ne, mI_sR, mR_sI, mK_sI, mN_sI, mn_sI, mJ_sI, mK_sR, mN_sR, mn_sR, mJ_sR, mI_wI, mR_wI, mK_wI, mN_wI, mn_wI, mJ_wI, ↓bnd_of, ↓bndX_r, ↓bndX_l, ↓ap_nr, bnd_of, bndX_r, bndX_l, if_true, if_false, ite_true, ite_false, not_true_eq_false, not_false_eq_true, Nat.reduceAdd, Nat.reduceMul, Nat.reduceEqDiff, Int.reduceToNat, Int.reduceNeg, Ilt_t, Ilt_f, Ile_t, Ile_f, Ieq_t, Ieq_f, Nlt_t, Nlt_f, Nle_t, Nle_f, Neq_t, Neq_f, or_true, true_or, or_false, false_or, and_true, true_and, and_false, false_and, ne_eq, or_self, and_self, decide_true, decide_false, Bool.false_eq_true, f_X11_piped, hL.o, ↓bxX hn, hcol, hL11, hPL.o, ↓bx e1, hL'.o, hr11, hPL'.o, e4]
        · simp (disch := omega) only [↓reduceIte, add_i0, cast_add1, cast_sub1, toNat120, i32_lit, i32_neg, i32_add, i32_sub, i32_mul, i32_nat, i32_le, i32_lt, i32_eq, inB_i, Int.toNat_natCast, mI_sI_eq, mI_sI_ne, mR_sR_eq, mR_sR_ne, mI_sR, mR_sI, mK_sI, mN_sI, mn_sI, mJ_sI, mK_sR, mN_sR, mn_sR, mJ_sR, mI_wI, mR_wI, mK_wI, mN_wI, mn_wI, mJ_wI, ↓bnd_of, ↓bndX_r, ↓bndX_l, ↓ap_nr, bnd_of, bndX_r, bndX_l, if_true, if_false, ite_true, ite_false, not_true_eq_false, not_false_eq_true, Nat.reduceAdd, Nat.reduceMul, Nat.reduceEqDiff, Int.reduceToNat, Int.reduceNeg, Ilt_t, Ilt_f, Ile_t, Ile_f, Ieq_t, Ieq_f, Nlt_t, Nlt_f, Nle_t, Nle_f, Neq_t, Neq_f, or_true, true_or, or_false, false_or, and_true, true_and, and_false, false_and, ne_eq, or_self, and_self, decide_true, decide_false, Bool.false_eq_true, f_X11_piped, f_X11_piped_38, hL.o, ↓bxX hn, hcol, hL11, hPL.o, ↓bx e1]
      · simp (disch := omega) only [↓reduceIte, add_i0, cast_add1, cast_sub1, toNat120, i32_lit, i32_neg, i32_add, i32_sub, i32_mul, i32_nat, i32_le, i32_lt, i32_eq, inB_i, Int.toNat_natCast, mI_sI_eq, mI_sI_ne, mR_sR_eq, mR_sR_ne, mI_sR, mR_sI, mK_sI, mN_sI, mn_sI, mJ_sI, mK_sR, mN_sR, mn_sR, mJ_sR, mI_wI, mR_wI, mK_wI, mN_wI, mn_wI, mJ_wI, ↓bnd_of, ↓bndX_r, ↓bndX_l, ↓ap_nr, bnd_of, bndX_r, bndX_l, if_true, if_false, ite_true, ite_false, not_true_eq_false, not_false_eq_true, Nat.reduceAdd, Nat.reduceMul, Nat.reduceEqDiff, Int.reduceToNat, Int.reduceNeg, Ilt_t, Ilt_f, Ile_t, Ile_f, Ieq_t, Ieq_f, Nlt_t, Nlt_f, Nle_t, Nle_f, Neq_t, Neq_f, or_true, true_or, or_false, false_or, and_true, true_and, and_false, false_and, ne_eq, or_self, and_self, decide_true, decide_false, Bool.false_eq_true, f_X11_piped, f_X11_piped_38, hL.o, ↓bxX hn, hcol, hL11, hPL.o, ↓bx e1]
  · rw [if_neg d] at hn ⊢
    refine ⟨M, ?_, Scr.rf M⟩
    simp (disch := omega) only [↓reduceIte, add_i0, cast_add1, cast_sub1, toNat120, i32_lit, i32_neg, i32_add, i32_sub, i32_mul, i32_nat, i32_le, i32_lt, i32_eq, inB_i, Int.toNat_natCast, mI_sI_eq, mI_sI_ne, mR_sR_eq, mR_sR_ne, mI_sR, mR_sI, mK_sI, mN_sI, mn_sI, mJ_sI, mK_sR, mN_sR, mn_sR, mJ_sR, mI_wI, mR_wI, mK_wI, mN_wI, mn_wI, mJ_wI, ↓bnd_of, ↓bndX_r, ↓bndX_l, ↓ap_nr, bnd_of, bndX_r, bndX_l, if_true, if_false, ite_true, ite_false, not_true_eq_false, not_false_eq_true, Nat.reduceAdd, Nat.reduceMul, Nat.reduceEqDiff, Int.reduceToNat, Int.reduceNeg, Ilt_t, Ilt_f, Ile_t, Ile_f, Ieq_t, Ieq_f, Nlt_t, Nlt_f, Nle_t, Nle_f, Neq_t, Neq_f, or_true, true_or, or_false, false_or, and_true, true_and, and_false, false_and, ne_eq, or_self, and_self, decide_true, decide_false, Bool.false_eq_true, f_X11_piped, hL.o, ↓bxL hn]
theorem X12_goesThrough (hL : RLay M) (hP : P.ok) (hC : RP M P) {i : Nat} (hi : i < P.n) (v c : Int32) (hc : mI M 160 i = c) (hv : mI M 134 48 = v) : ∃ M', f_X12_goesThrough 134 (i32 i) M = some (if pgo (P.kd i) (P.nu i) c v = true then i32 1 else i32 0, M') ∧ Scr M M' ∧ (∀ k, mI M' 160 k = upf (mI M 160) i (c + i32 1) k) ∧ (pgo (P.kd i) (P.nu i) c v = true → mI M' 134 48 = pch (P.kd i) (P.nu i) v) ∧ mI M' 134 2 = mI M 134 2 := by
  obtain ⟨c0, c1, c2⟩ := hC
  have b := hP.2 i hi
  have hn := hP.1
  have g : Scr M (sI M 160 i (c + i32 1)) := (Scr.rf M).sI (by unfold ScI; omega)
  have u : ∀ k, mI (sI M 160 i (c + i32 1)) 160 k = upf (mI M 160) i (c + i32 1) k := by
    intro k
    unfold upf
    by_cases e : k = i
    · subst e; simp (disch := omega) only [↓reduceIte, add_i0, cast_add1, cast_sub1, toNat120, i32_lit, i32_neg, i32_add, i32_sub, i32_mul, i32_nat, i32_le, i32_lt, i32_eq, inB_i, Int.toNat_natCast, mI_sI_eq, mI_sI_ne, mR_sR_eq, mR_sR_ne, mI_sR, mR_sI, mK_sI, mN_sI, mn_sI, mJ_sI, mK_sR, mN_sR, mn_sR, mJ_sR, mI_wI, mR_wI, mK_wI, mN_wI, mn_wI, mJ_wI, ↓bnd_of, ↓bndX_r, ↓bndX_l, ↓ap_nr, bnd_of, bndX_r, bndX_l, if_true, if_false, ite_true, ite_false, not_true_eq_false, not_false_eq_true, Nat.reduceAdd, Nat.reduceMul, Nat.reduceEqDiff, Int.reduceToNat, Int.reduceNeg, Ilt_t, Ilt_f, Ile_t, Ile_f, Ieq_t, Ieq_f, Nlt_t, Nlt_f, Nle_t, Nle_f, Neq_t, Neq_f, or_true, true_or, or_false, false_or, and_true, true_and, and_false, false_and, ne_eq, or_self, and_self, decide_true, decide_false, Bool.false_eq_true]
    · simp (disch := omega) only [↓reduceIte, add_i0, cast_add1, cast_sub1, toNat120, i32_lit, i32_neg, i32_add, i32_sub, i32_mul, i32_nat, i32_le, i32_lt, i32_eq, inB_i, Int.toNat_natCast, mI_sI_eq, mI_sI_ne, mR_sR_eq, mR_sR_ne, mI_sR, mR_sI, mK_sI, mN_sI, mn_sI, mJ_sI, mK_sR, mN_sR, mn_sR, mJ_sR, mI_wI, mR_wI, mK_wI, mN_wI, mn_wI, mJ_wI, ↓bnd_of, ↓bndX_r, ↓bndX_l, ↓ap_nr, bnd_of, bndX_r, bndX_l, if_true, if_false, ite_true, ite_false, not_true_eq_false, not_false_eq_true, Nat.reduceAdd, Nat.reduceMul, Nat.reduceEqDiff, Int.reduceToNat, Int.reduceNeg, Ilt_t, Ilt_f, Ile_t, Ile_f, Ieq_t, Ieq_f, Nlt_t, Nlt_f, Nle_t, Nle_f, Neq_t, Neq_f, or_true, true_or, or_false, false_or, and_true, true_and, and_false, false_and, ne_eq, or_self, and_self, decide_true, decide_false, Bool.false_eq_true, e]
  have hk : P.kd i = 0 ∨ P.kd i = 1 ∨ P.kd i = 2 ∨ (3 ≤ P.kd i ∧ P.kd i ≤ 6) := by omega
  rcases hk with hk | hk | hk | hk
  · refine ⟨sI (sI M 160 i (c + i32 1)) 134 48 (v + i32 (P.nu i)), ?_, g.sI (by unfold ScI; omega), fun k => ?_, fun _ => ?_, ?_⟩
    · simp (disch := omega) only [↓reduceIte, add_i0, cast_add1, cast_sub1, toNat120, i32_lit, i32_neg, i32_add, i32_sub, i32_mul, i32_nat, i32_le, i32_lt, i32_eq, inB_i, Int.toNat_natCast, mI_sI_eq, mI_sI_ne, mR_sR_eq, mR_sR_ne, mI_sR, mR_sI, mK_sI, mN_sI, mn_sI, mJ_sI, mK_sR, mN_sR, mn_sR, mJ_sR, mI_wI, mR_wI, mK_wI, mN_wI, mn_wI, mJ_wI, ↓bnd_of, ↓bndX_r, ↓bndX_l, ↓ap_nr, bnd_of, bndX_r, bndX_l, if_true, if_false, ite_true, ite_false, not_true_eq_false, not_false_eq_true, Nat.reduceAdd, Nat.reduceMul, Nat.reduceEqDiff, Int.reduceToNat, Int.reduceNeg, Ilt_t, Ilt_f, Ile_t, Ile_f, Ieq_t, Ieq_f, Nlt_t, Nlt_f, Nle_t, Nle_f, Neq_t, Neq_f, or_true, true_or, or_false, false_or, and_true, true_and, and_false, false_and, ne_eq, or_self, and_self, decide_true, decide_false, Bool.false_eq_true, f_X12_goesThrough, hL.o, c1, c2, hc, hv, hk, pgo]
    · rw [← u k]; simp (disch := omega) only [↓reduceIte, add_i0, cast_add1, cast_sub1, toNat120, i32_lit, i32_neg, i32_add, i32_sub, i32_mul, i32_nat, i32_le, i32_lt, i32_eq, inB_i, Int.toNat_natCast, mI_sI_eq, mI_sI_ne, mR_sR_eq, mR_sR_ne, mI_sR, mR_sI, mK_sI, mN_sI, mn_sI, mJ_sI, mK_sR, mN_sR, mn_sR, mJ_sR, mI_wI, mR_wI, mK_wI, mN_wI, mn_wI, mJ_wI, ↓bnd_of, ↓bndX_r, ↓bndX_l, ↓ap_nr, bnd_of, bndX_r, bndX_l, if_true, if_false, ite_true, ite_false, not_true_eq_false, not_false_eq_true, Nat.reduceAdd, Nat.reduceMul, Nat.reduceEqDiff, Int.reduceToNat, Int.reduceNeg, Ilt_t, Ilt_f, Ile_t, Ile_f, Ieq_t, Ieq_f, Nlt_t, Nlt_f, Nle_t, Nle_f, Neq_t, Neq_f, or_true, true_or, or_false, false_or, and_true, true_and, and_false, false_and, ne_eq, or_self, and_self, decide_true, decide_false, Bool.false_eq_true]
    · simp (disch := omega) only [↓reduceIte, add_i0, cast_add1, cast_sub1, toNat120, i32_lit, i32_neg, i32_add, i32_sub, i32_mul, i32_nat, i32_le, i32_lt, i32_eq, inB_i, Int.toNat_natCast, mI_sI_eq, mI_sI_ne, mR_sR_eq, mR_sR_ne, mI_sR, mR_sI, mK_sI, mN_sI, mn_sI, mJ_sI, mK_sR, mN_sR, mn_sR, mJ_sR, mI_wI, mR_wI, mK_wI, mN_wI, mn_wI, mJ_wI, ↓bnd_of, ↓bndX_r, ↓bndX_l, ↓ap_nr, bnd_of, bndX_r, bndX_l, if_true, if_false, ite_true, ite_false, not_true_eq_false, not_false_eq_true, Nat.reduceAdd, Nat.reduceMul, Nat.reduceEqDiff, Int.reduceToNat, Int.reduceNeg, Ilt_t, Ilt_f, Ile_t, Ile_f, Ieq_t, Ieq_f, Nlt_t, Nlt_f, Nle_t, Nle_f, Neq_t, Neq_f, or_true, true_or, or_false, false_or, and_true, true_and, and_false, false_and, ne_eq, or_self, and_self, decide_true, decide_false, Bool.false_eq_true, hk, pch]
    · simp (disch := omega) only [↓reduceIte, add_i0, cast_add1, cast_sub1, toNat120, i32_lit, i32_neg, i32_add, i32_sub, i32_mul, i32_nat, i32_le, i32_lt, i32_eq, inB_i, Int.toNat_natCast, mI_sI_eq, mI_sI_ne, mR_sR_eq, mR_sR_ne, mI_sR, mR_sI, mK_sI, mN_sI, mn_sI, mJ_sI, mK_sR, mN_sR, mn_sR, mJ_sR, mI_wI, mR_wI, mK_wI, mN_wI, mn_wI, mJ_wI, ↓bnd_of, ↓bndX_r, ↓bndX_l, ↓ap_nr, bnd_of, bndX_r, bndX_l, if_true, if_false, ite_true, ite_false, not_true_eq_false, not_false_eq_true, Nat.reduceAdd, Nat.reduceMul, Nat.reduceEqDiff, Int.reduceToNat, Int.reduceNeg, Ilt_t, Ilt_f, Ile_t, Ile_f, Ieq_t, Ieq_f, Nlt_t, Nlt_f, Nle_t, Nle_f, Neq_t, Neq_f, or_true, true_or, or_false, false_or, and_true, true_and, and_false, false_and, ne_eq, or_self, and_self, decide_true, decide_false, Bool.false_eq_true]
  · refine ⟨sI (sI M 160 i (c + i32 1)) 134 48 (v * i32 (P.nu i)), ?_, g.sI (by unfold ScI; omega), fun k => ?_, fun _ => ?_, ?_⟩
    · simp (disch := omega) only [↓reduceIte, add_i0, cast_add1, cast_sub1, toNat120, i32_lit, i32_neg, i32_add, i32_sub, i32_mul, i32_nat, i32_le, i32_lt, i32_eq, inB_i, Int.toNat_natCast, mI_sI_eq, mI_sI_ne, mR_sR_eq, mR_sR_ne, mI_sR, mR_sI, mK_sI, mN_sI, mn_sI, mJ_sI, mK_sR, mN_sR, mn_sR, mJ_sR, mI_wI, mR_wI, mK_wI, mN_wI, mn_wI, mJ_wI, ↓bnd_of, ↓bndX_r, ↓bndX_l, ↓ap_nr, bnd_of, bndX_r, bndX_l, if_true, if_false, ite_true, ite_false, not_true_eq_false, not_false_eq_true, Nat.reduceAdd, Nat.reduceMul, Nat.reduceEqDiff, Int.reduceToNat, Int.reduceNeg, Ilt_t, Ilt_f, Ile_t, Ile_f, Ieq_t, Ieq_f, Nlt_t, Nlt_f, Nle_t, Nle_f, Neq_t, Neq_f, or_true, true_or, or_false, false_or, and_true, true_and, and_false, false_and, ne_eq, or_self, and_self, decide_true, decide_false, Bool.false_eq_true, f_X12_goesThrough, hL.o, c1, c2, hc, hv, hk, pgo]
    · rw [← u k]; simp (disch := omega) only [↓reduceIte, add_i0, cast_add1, cast_sub1, toNat120, i32_lit, i32_neg, i32_add, i32_sub, i32_mul, i32_nat, i32_le, i32_lt, i32_eq, inB_i, Int.toNat_natCast, mI_sI_eq, mI_sI_ne, mR_sR_eq, mR_sR_ne, mI_sR, mR_sI, mK_sI, mN_sI, mn_sI, mJ_sI, mK_sR, mN_sR, mn_sR, mJ_sR, mI_wI, mR_wI, mK_wI, mN_wI, mn_wI, mJ_wI, ↓bnd_of, ↓bndX_r, ↓bndX_l, ↓ap_nr, bnd_of, bndX_r, bndX_l, if_true, if_false, ite_true, ite_false, not_true_eq_false, not_false_eq_true, Nat.reduceAdd, Nat.reduceMul, Nat.reduceEqDiff, Int.reduceToNat, Int.reduceNeg, Ilt_t, Ilt_f, Ile_t, Ile_f, Ieq_t, Ieq_f, Nlt_t, Nlt_f, Nle_t, Nle_f, Neq_t, Neq_f, or_true, true_or, or_false, false_or, and_true, true_and, and_false, false_and, ne_eq, or_self, and_self, decide_true, decide_false, Bool.false_eq_true]
    · simp (disch := omega) only [↓reduceIte, add_i0, cast_add1, cast_sub1, toNat120, i32_lit, i32_neg, i32_add, i32_sub, i32_mul, i32_nat, i32_le, i32_lt, i32_eq, inB_i, Int.toNat_natCast, mI_sI_eq, mI_sI_ne, mR_sR_eq, mR_sR_ne, mI_sR, mR_sI, mK_sI, mN_sI, mn_sI, mJ_sI, mK_sR, mN_sR, mn_sR, mJ_sR, mI_wI, mR_wI, mK_wI, mN_wI, mn_wI, mJ_wI, ↓bnd_of, ↓bndX_r, ↓bndX_l, ↓ap_nr, bnd_of, bndX_r, bndX_l, if_true, if_false, ite_true, ite_false, not_true_eq_false, not_false_eq_true, Nat.reduceAdd, Nat.reduceMul, Nat.reduceEqDiff, Int.reduceToNat, Int.reduceNeg, Ilt_t, Ilt_f, Ile_t, Ile_f, Ieq_t, Ieq_f, Nlt_t, Nlt_f, Nle_t, Nle_f, Neq_t, Neq_f, or_true, true_or, or_false, false_or, and_true, true_and, and_false, false_and, ne_eq, or_self, and_self, decide_true, decide_false, Bool.false_eq_true, hk, pch]
    · simp (disch := omega) only [↓reduceIte, add_i0, cast_add1, cast_sub1, toNat120, i32_lit, i32_neg, i32_add, i32_sub, i32_mul, i32_nat, i32_le, i32_lt, i32_eq, inB_i, Int.toNat_natCast, mI_sI_eq, mI_sI_ne, mR_sR_eq, mR_sR_ne, mI_sR, mR_sI, mK_sI, mN_sI, mn_sI, mJ_sI, mK_sR, mN_sR, mn_sR, mJ_sR, mI_wI, mR_wI, mK_wI, mN_wI, mn_wI, mJ_wI, ↓bnd_of, ↓bndX_r, ↓bndX_l, ↓ap_nr, bnd_of, bndX_r, bndX_l, if_true, if_false, ite_true, ite_false, not_true_eq_false, not_false_eq_true, Nat.reduceAdd, Nat.reduceMul, Nat.reduceEqDiff, Int.reduceToNat, Int.reduceNeg, Ilt_t, Ilt_f, Ile_t, Ile_f, Ieq_t, Ieq_f, Nlt_t, Nlt_f, Nle_t, Nle_f, Neq_t, Neq_f, or_true, true_or, or_false, false_or, and_true, true_and, and_false, false_and, ne_eq, or_self, and_self, decide_true, decide_false, Bool.false_eq_true]
  · refine ⟨sI (sI M 160 i (c + i32 1)) 134 48 (v - v / i32 (P.nu i) * i32 (P.nu i)), ?_, g.sI (by unfold ScI; omega), fun k => ?_, fun _ => ?_, ?_⟩
    · simp (disch := omega) only [↓reduceIte, add_i0, cast_add1, cast_sub1, toNat120, i32_lit, i32_neg, i32_add, i32_sub, i32_mul, i32_nat, i32_le, i32_lt, i32_eq, inB_i, Int.toNat_natCast, mI_sI_eq, mI_sI_ne, mR_sR_eq, mR_sR_ne, mI_sR, mR_sI, mK_sI, mN_sI, mn_sI, mJ_sI, mK_sR, mN_sR, mn_sR, mJ_sR, mI_wI, mR_wI, mK_wI, mN_wI, mn_wI, mJ_wI, ↓bnd_of, ↓bndX_r, ↓bndX_l, ↓ap_nr, bnd_of, bndX_r, bndX_l, if_true, if_false, ite_true, ite_false, not_true_eq_false, not_false_eq_true, Nat.reduceAdd, Nat.reduceMul, Nat.reduceEqDiff, Int.reduceToNat, Int.reduceNeg, Ilt_t, Ilt_f, Ile_t, Ile_f, Ieq_t, Ieq_f, Nlt_t, Nlt_f, Nle_t, Nle_f, Neq_t, Neq_f, or_true, true_or, or_false, false_or, and_true, true_and, and_false, false_and, ne_eq, or_self, and_self, decide_true, decide_false, Bool.false_eq_true, f_X12_goesThrough, hL.o, c1, c2, hc, hv, hk, pgo]
    · rw [← u k]; simp (disch := omega) only [↓reduceIte, add_i0, cast_add1, cast_sub1, toNat120, i32_lit, i32_neg, i32_add, i32_sub, i32_mul, i32_nat, i32_le, i32_lt, i32_eq, inB_i, Int.toNat_natCast, mI_sI_eq, mI_sI_ne, mR_sR_eq, mR_sR_ne, mI_sR, mR_sI, mK_sI, mN_sI, mn_sI, mJ_sI, mK_sR, mN_sR, mn_sR, mJ_sR, mI_wI, mR_wI, mK_wI, mN_wI, mn_wI, mJ_wI, ↓bnd_of, ↓bndX_r, ↓bndX_l, ↓ap_nr, bnd_of, bndX_r, bndX_l, if_true, if_false, ite_true, ite_false, not_true_eq_false, not_false_eq_true, Nat.reduceAdd, Nat.reduceMul, Nat.reduceEqDiff, Int.reduceToNat, Int.reduceNeg, Ilt_t, Ilt_f, Ile_t, Ile_f, Ieq_t, Ieq_f, Nlt_t, Nlt_f, Nle_t, Nle_f, Neq_t, Neq_f, or_true, true_or, or_false, false_or, and_true, true_and, and_false, false_and, ne_eq, or_self, and_self, decide_true, decide_false, Bool.false_eq_true]
    · simp (disch := omega) only [↓reduceIte, add_i0, cast_add1, cast_sub1, toNat120, i32_lit, i32_neg, i32_add, i32_sub, i32_mul, i32_nat, i32_le, i32_lt, i32_eq, inB_i, Int.toNat_natCast, mI_sI_eq, mI_sI_ne, mR_sR_eq, mR_sR_ne, mI_sR, mR_sI, mK_sI, mN_sI, mn_sI, mJ_sI, mK_sR, mN_sR, mn_sR, mJ_sR, mI_wI, mR_wI, mK_wI, mN_wI, mn_wI, mJ_wI, ↓bnd_of, ↓bndX_r, ↓bndX_l, ↓ap_nr, bnd_of, bndX_r, bndX_l, if_true, if_false, ite_true, ite_false, not_true_eq_false, not_false_eq_true, Nat.reduceAdd, Nat.reduceMul, Nat.reduceEqDiff, Int.reduceToNat, Int.reduceNeg, Ilt_t, Ilt_f, Ile_t, Ile_f, Ieq_t, Ieq_f, Nlt_t, Nlt_f, Nle_t, Nle_f, Neq_t, Neq_f, or_true, true_or, or_false, false_or, and_true, true_and, and_false, false_and, ne_eq, or_self, and_self, decide_true, decide_false, Bool.false_eq_true, hk, pch]
    · simp (disch := omega) only [↓reduceIte, add_i0, cast_add1, cast_sub1, toNat120, i32_lit, i32_neg, i32_add, i32_sub, i32_mul, i32_nat, i32_le, i32_lt, i32_eq, inB_i, Int.toNat_natCast, mI_sI_eq, mI_sI_ne, mR_sR_eq, mR_sR_ne, mI_sR, mR_sI, mK_sI, mN_sI, mn_sI, mJ_sI, mK_sR, mN_sR, mn_sR, mJ_sR, mI_wI, mR_wI, mK_wI, mN_wI, mn_wI, mJ_wI, ↓bnd_of, ↓bndX_r, ↓bndX_l, ↓ap_nr, bnd_of, bndX_r, bndX_l, if_true, if_false, ite_true, ite_false, not_true_eq_false, not_false_eq_true, Nat.reduceAdd, Nat.reduceMul, Nat.reduceEqDiff, Int.reduceToNat, Int.reduceNeg, Ilt_t, Ilt_f, Ile_t, Ile_f, Ieq_t, Ieq_f, Nlt_t, Nlt_f, Nle_t, Nle_f, Neq_t, Neq_f, or_true, true_or, or_false, false_or, and_true, true_and, and_false, false_and, ne_eq, or_self, and_self, decide_true, decide_false, Bool.false_eq_true]
  · refine ⟨sI M 160 i (c + i32 1), ?_, g, u, fun _ => ?_, ?_⟩
    · have hk : P.kd i = 3 ∨ P.kd i = 4 ∨ P.kd i = 5 ∨ P.kd i = 6 := by omega
      rcases hk with hk | hk | hk | hk <;> simp (disch := omega) only [↓reduceIte, add_i0, cast_add1, cast_sub1, toNat120, i32_lit, i32_neg, i32_add, i32_sub, i32_mul, i32_nat, i32_le, i32_lt, i32_eq, inB_i, Int.toNat_natCast, mI_sI_eq, mI_sI_ne, mR_sR_eq, mR_sR_ne, mI_sR, mR_sI, mK_sI, mN_sI, mn_sI, mJ_sI, mK_sR, mN_sR, mn_sR, mJ_sR, mI_wI, mR_wI, mK_wI, mN_wI, mn_wI, mJ_wI, ↓bnd_of, ↓bndX_r, ↓bndX_l, ↓ap_nr, bnd_of, bndX_r, bndX_l, if_true, if_false, ite_true, ite_false, not_true_eq_false, not_false_eq_true, Nat.reduceAdd, Nat.reduceMul, Nat.reduceEqDiff, Int.reduceToNat, Int.reduceNeg, Ilt_t, Ilt_f, Ile_t, Ile_f, Ieq_t, Ieq_f, Nlt_t, Nlt_f, Nle_t, Nle_f, Neq_t, Neq_f, or_true, true_or, or_false, false_or, and_true, true_and, and_false, false_and, ne_eq, or_self, and_self, decide_true, decide_false, Bool.false_eq_true, f_X12_goesThrough, hL.o, c1, c2, hc, hv, hk, pgo, decide_eq_true_eq] <;> (first | done | with_reducible rfl | ((repeat' split) <;> (first | with_reducible rfl | (exfalso; omega) | skip)))
    · simp (disch := omega) only [↓reduceIte, add_i0, cast_add1, cast_sub1, toNat120, i32_lit, i32_neg, i32_add, i32_sub, i32_mul, i32_nat, i32_le, i32_lt, i32_eq, inB_i, Int.toNat_natCast, mI_sI_eq, mI_sI_ne, mR_sR_eq, mR_sR_ne, mI_sR, mR_sI, mK_sI, mN_sI, mn_sI, mJ_sI, mK_sR, mN_sR, mn_sR, mJ_sR, mI_wI, mR_wI, mK_wI, mN_wI, mn_wI, mJ_wI, ↓bnd_of, ↓bndX_r, ↓bndX_l, ↓ap_nr, bnd_of, bndX_r, bndX_l, if_true, if_false, ite_true, ite_false, not_true_eq_false, not_false_eq_true, Nat.reduceAdd, Nat.reduceMul, Nat.reduceEqDiff, Int.reduceToNat, Int.reduceNeg, Ilt_t, Ilt_f, Ile_t, Ile_f, Ieq_t, Ieq_f, Nlt_t, Nlt_f, Nle_t, Nle_f, Neq_t, Neq_f, or_true, true_or, or_false, false_or, and_true, true_and, and_false, false_and, ne_eq, or_self, and_self, decide_true, decide_false, Bool.false_eq_true, pch, hv]
    · simp (disch := omega) only [↓reduceIte, add_i0, cast_add1, cast_sub1, toNat120, i32_lit, i32_neg, i32_add, i32_sub, i32_mul, i32_nat, i32_le, i32_lt, i32_eq, inB_i, Int.toNat_natCast, mI_sI_eq, mI_sI_ne, mR_sR_eq, mR_sR_ne, mI_sR, mR_sI, mK_sI, mN_sI, mn_sI, mJ_sI, mK_sR, mN_sR, mn_sR, mJ_sR, mI_wI, mR_wI, mK_wI, mN_wI, mn_wI, mJ_wI, ↓bnd_of, ↓bndX_r, ↓bndX_l, ↓ap_nr, bnd_of, bndX_r, bndX_l, if_true, if_false, ite_true, ite_false, not_true_eq_false, not_false_eq_true, Nat.reduceAdd, Nat.reduceMul, Nat.reduceEqDiff, Int.reduceToNat, Int.reduceNeg, Ilt_t, Ilt_f, Ile_t, Ile_f, Ieq_t, Ieq_f, Nlt_t, Nlt_f, Nle_t, Nle_f, Neq_t, Neq_f, or_true, true_or, or_false, false_or, and_true, true_and, and_false, false_and, ne_eq, or_self, and_self, decide_true, decide_false, Bool.false_eq_true]
theorem X12_piped86 (hP : P.ok) (g48 : Nat → Int32 → Int32 → Int32 → Int32 → Mem → Option (Int32 × Mem)) (a1 a2 a3 a4 : Int32) : ∀ (k i n : Nat) (M : Mem) (c : Nat → Int32) (v : Int32), i + k = P.n → k < n → RLay M → RP M P → (∀ i, i < 8 → mI M 160 i = c i) → mI M 134 48 = v → ∃ M', Scr M M' ∧ (∀ x, x < 8 → mI M' 160 x = (psend P k i c v).1 x) ∧ mI M' 134 2 = mI M 134 2 ∧ f_X12_piped_86 g48 n 134 a1 a2 a3 a4 (i32 i) M = (match (psend P k i c v).2 with
    | none => g48 134 a1 a2 a3 (a4 + 1) M'
    | some w => if a3 = a2 then some (w, M') else g48 134 a1 a2 (a3 + 1) (a4 + 1) M') := by
  have hn8 := hP.1
  intro k
  induction k with
  | zero =>
    intro i n M c v hj hn hL hC hc hv
    obtain ⟨n, rfl⟩ : ∃ m, n = m + 1 := ⟨n - 1, by omega⟩
    have c0 := hC.1
    refine ⟨M, Scr.rf M, fun i hi => hc i hi, rfl, ?_⟩
    simp (disch := omega) only [↓reduceIte, add_i0, cast_add1, cast_sub1, toNat120, i32_lit, i32_neg, i32_add, i32_sub, i32_mul, i32_nat, i32_le, i32_lt, i32_eq, inB_i, Int.toNat_natCast, mI_sI_eq, mI_sI_ne, mR_sR_eq, mR_sR_ne, mI_sR, mR_sI, mK_sI, mN_sI, mn_sI, mJ_sI, mK_sR, mN_sR, mn_sR, mJ_sR, mI_wI, mR_wI, mK_wI, mN_wI, mn_wI, mJ_wI, ↓bnd_of, ↓bndX_r, ↓bndX_l, ↓ap_nr, bnd_of, bndX_r, bndX_l, if_true, if_false, ite_true, ite_false, not_true_eq_false, not_false_eq_true, Nat.reduceAdd, Nat.reduceMul, Nat.reduceEqDiff, Int.reduceToNat, Int.reduceNeg, Ilt_t, Ilt_f, Ile_t, Ile_f, Ieq_t, Ieq_f, Nlt_t, Nlt_f, Nle_t, Nle_f, Neq_t, Neq_f, or_true, true_or, or_false, false_or, and_true, true_and, and_false, false_and, ne_eq, or_self, and_self, decide_true, decide_false, Bool.false_eq_true, f_X12_piped_86, f_X12_piped_110, f_X12_piped_135, hL.o, c0, psend, hv]
  | succ k ih =>
    intro i n M c v hj hn hL hC hc hv
    obtain ⟨n, rfl⟩ : ∃ m, n = m + 1 := ⟨n - 1, by omega⟩
    have c0 := hC.1
    obtain ⟨M1, e1, g1, e2, e3, e4⟩ := X12_goesThrough hL hP hC (i := i) (by omega) v (c i) (hc i (by omega)) hv
    have hL1 := hL.scr g1
    have hC1 := hC.scr hP g1
    have c01 := hC1.1
    have hc1 : ∀ k, k < 8 → mI M1 160 k = upf c i (c i + i32 1) k := by
      intro k hk
      rw [e2 k]
      unfold upf
      split
      · rfl
      · exact hc k hk
    unfold psend
    by_cases d : pgo (P.kd i) (P.nu i) (c i) v = true
    · rw [if_pos d] at e1
      simp only [d, if_true]
      obtain ⟨M', h1, h2, h3, h4⟩ := ih (i + 1) n M1 _ _ (by omega) (by omega) hL1 hC1 hc1 (e3 d)
      refine ⟨M', g1.tr h1, h2, h3.trans e4, ?_⟩
      rw [← h4]
      simp (disch := omega) only [↓reduceIte, add_i0, cast_add1, cast_sub1, toNat120, i32_lit, i32_neg, i32_add, i32_sub, i32_mul, i32_nat, i32_le, i32_lt, i32_eq, inB_i, Int.toNat_natCast, mI_sI_eq, mI_sI_ne, mR_sR_eq, mR_sR_ne, mI_sR, mR_sI, mK_sI, mN_sI, mn_sI, mJ_sI, mK_sR, mN_sR, mn_sR, mJ_sR, mI_wI, mR_wI, mK_wI, mN_wI, mn_wI, mJ_wI, ↓bnd_of, ↓bndX_r, ↓bndX_l, ↓ap_nr, bnd_of, bndX_r, bndX_l, if_true, if_false, ite_true, ite_false, not_true_eq_false, not_false_eq_true, Nat.reduceAdd, Nat.reduceMul, Nat.reduceEqDiff, Int.reduceToNat, Int.reduceNeg, Ilt_t, Ilt_f, Ile_t, Ile_f, Ieq_t, Ieq_f, Nlt_t, Nlt_f, Nle_t, Nle_f, Neq_t, Neq_f, or_true, true_or, or_false, false_or, and_true, true_and, and_false, false_and, ne_eq, or_self, and_self, decide_true, decide_false, Bool.false_eq_true, f_X12_piped_86, hL.o, c0, ↓bx e1]
    · rw [if_neg d] at e1
      simp only [d, Bool.false_eq_true, if_false]
      refine ⟨M1, g1, hc1, e4, ?_⟩
      simp (disch := omega) only [↓reduceIte, add_i0, cast_add1, cast_sub1, toNat120, i32_lit, i32_neg, i32_add, i32_sub, i32_mul, i32_nat, i32_le, i32_lt, i32_eq, inB_i, Int.toNat_natCast, mI_sI_eq, mI_sI_ne, mR_sR_eq, mR_sR_ne, mI_sR, mR_sI, mK_sI, mN_sI, mn_sI, mJ_sI, mK_sR, mN_sR, mn_sR, mJ_sR, mI_wI, mR_wI, mK_wI, mN_wI, mn_wI, mJ_wI, ↓bnd_of, ↓bndX_r, ↓bndX_l, ↓ap_nr, bnd_of, bndX_r, bndX_l, if_true, if_false, ite_true, ite_false, not_true_eq_false, not_false_eq_true, Nat.reduceAdd, Nat.reduceMul, Nat.reduceEqDiff, Int.reduceToNat, Int.reduceNeg, Ilt_t, Ilt_f, Ile_t, Ile_f, Ieq_t, Ieq_f, Nlt_t, Nlt_f, Nle_t, Nle_f, Neq_t, Neq_f, or_true, true_or, or_false, false_or, and_true, true_and, and_false, false_and, ne_eq, or_self, and_self, decide_true, decide_false, Bool.false_eq_true, f_X12_piped_86, f_X12_piped_110, f_X12_piped_135, hL.o, hL1.o, c0, c01, ↓bx e1]
theorem X12_piped48s (hL : RLay M) {l j : Nat} (hl : l < S.nl) (hnl : S.nl ≤ 8) (hj : j < A.sz l) (bz : A.sz l ≤ 120) (a1 : ∀ l, l < 8 → mI M 151 l = i32 (A.sz l)) (e1 : f_X12_hasValue 134 (i32 l) (i32 j) M = some (i32 1, M)) (e2 : f_X12_valueAt 134 (i32 l) (i32 j) M = some (i32 (A.vl l j), M)) (i o : Int32) (n : Nat) : f_X12_piped_48 (n + 1) 134 (i32 l) i o (i32 j) M = f_X12_piped_86 (f_X12_piped_48 n) FUEL 134 (i32 l) i o (i32 j) (i32 ((0 : Nat) : Int)) (sI M 134 48 (i32 (A.vl l j))) := by
  have z0 : i32 0 = i32 ((0 : Nat) : Int) := rfl
  simp (disch := omega) only [↓reduceIte, add_i0, cast_add1, cast_sub1, toNat120, i32_lit, i32_neg, i32_add, i32_sub, i32_mul, i32_nat, i32_le, i32_lt, i32_eq, inB_i, Int.toNat_natCast, mI_sI_eq, mI_sI_ne, mR_sR_eq, mR_sR_ne, mI_sR, mR_sI, mK_sI, mN_sI, mn_sI, mJ_sI, mK_sR, mN_sR, mn_sR, mJ_sR, mI_wI, mR_wI, mK_wI, mN_wI, mn_wI, mJ_wI, ↓bnd_of, ↓bndX_r, ↓bndX_l, ↓ap_nr, bnd_of, bndX_r, bndX_l, if_true, if_false, ite_true, ite_false, not_true_eq_false, not_false_eq_true, Nat.reduceAdd, Nat.reduceMul, Nat.reduceEqDiff, Int.reduceToNat, Int.reduceNeg, Ilt_t, Ilt_f, Ile_t, Ile_f, Ieq_t, Ieq_f, Nlt_t, Nlt_f, Nle_t, Nle_f, Neq_t, Neq_f, or_true, true_or, or_false, false_or, and_true, true_and, and_false, false_and, ne_eq, or_self, and_self, decide_true, decide_false, Bool.false_eq_true, f_X12_piped_48, hL.o, a1, ↓bx e1, ↓bx e2]
  rw [z0]
theorem piped_e5 (P : Pp) (A : St) (fu : Nat → Int) (l k j : Nat) (c : Nat → Int32) (o : Nat) (f : Nat → Int32) (w : Int32) : (if (o : Int) = -1 then Sum.inr (i32 (prunS P A fu l k j c (o + 1) (upf f o w)).1) else if 0 ≤ (o : Int) ∧ (o : Int) < (prunS P A fu l k j c (o + 1) (upf f o w)).1 then Sum.inr ((prunS P A fu l k j c (o + 1) (upf f o w)).2 (o : Int).toNat) else Sum.inl 1) = (Sum.inr w : Nat ⊕ Int32) := by
  have hk := prunS_keep P A fu l k j c (o + 1) (upf f o w)
  rw [if_neg (by omega), if_pos ⟨by omega, by omega⟩, Int.toNat_natCast, hk.2.2 o (by omega)]
  exact congrArg Sum.inr (if_pos rfl)
theorem X12_piped48 (hW : S.wf) (hP : P.ok) {l : Nat} (hl : l < S.nl) (i : Int) (i1 : -2147483648 ≤ i) (i2 : i ≤ 2147483647) : ∀ (k j n : Nat) (M : Mem) (c : Nat → Int32) (o : Nat) (f : Nat → Int32), j + k = A.sz l → k < n → o ≤ j → (i < 0 ∨ o ≤ i) → RV M S A → RP M P → mI M 134 2 = i32 0 → (∀ i, i < 8 → mI M 160 i = c i) → ∃ r M', f_X12_piped_48 n 134 (i32 l) (i32 i) (i32 o) (i32 j) M = some (r, M') ∧ RA M M' (if i = -1 then .inr (i32 (prunS P A S.fu l k j c o f).1) else if 0 ≤ i ∧ i < (prunS P A S.fu l k j c o f).1 then .inr ((prunS P A S.fu l k j c o f).2 i.toNat) else .inl 1) r := by
  have hnl := hW.1.2.1
  intro k
  induction k with
  | zero =>
    intro j n M c o f hj hn ho hi hV hC h0 hc
    obtain ⟨n, rfl⟩ : ∃ m, n = m + 1 := ⟨n - 1, by omega⟩
    have hL := hV.1
    have a1 := hV.2.2.2.1
    have bz := hV.2.2.1.2.2.2.1 l
    have hf := X12_fail hV.1 1
    unfold prunS
    by_cases d : i = -1
    · subst d
      rw [if_pos rfl]
      refine ⟨_, _, ?_, RA_1 h0 _⟩
      simp (disch := omega) only [↓reduceIte, add_i0, cast_add1, cast_sub1, toNat120, i32_lit, i32_neg, i32_add, i32_sub, i32_mul, i32_nat, i32_le, i32_lt, i32_eq, inB_i, Int.toNat_natCast, mI_sI_eq, mI_sI_ne, mR_sR_eq, mR_sR_ne, mI_sR, mR_sI, mK_sI, mN_sI, mn_sI, mJ_sI, mK_sR, mN_sR, mn_sR, mJ_sR, mI_wI, mR_wI, mK_wI, mN_wI, mn_wI, mJ_wI, ↓bnd_of, ↓bndX_r, ↓bndX_l, ↓ap_nr, bnd_of, bndX_r, bndX_l, if_true, if_false, ite_true, ite_false, not_true_eq_false, not_false_eq_true, Nat.reduceAdd, Nat.reduceMul, Nat.reduceEqDiff, Int.reduceToNat, Int.reduceNeg, Ilt_t, Ilt_f, Ile_t, Ile_f, Ieq_t, Ieq_f, Nlt_t, Nlt_f, Nle_t, Nle_f, Neq_t, Neq_f, or_true, true_or, or_false, false_or, and_true, true_and, and_false, false_and, ne_eq, or_self, and_self, decide_true, decide_false, Bool.false_eq_true, f_X12_piped_48, hL.o, a1]
    · rw [if_neg d, if_neg (by simp only []; omega)]
      refine ⟨_, _, ?_, RA_f 1 (i32 0)⟩
      simp (disch := omega) only [↓reduceIte, add_i0, cast_add1, cast_sub1, toNat120, i32_lit, i32_neg, i32_add, i32_sub, i32_mul, i32_nat, i32_le, i32_lt, i32_eq, inB_i, Int.toNat_natCast, mI_sI_eq, mI_sI_ne, mR_sR_eq, mR_sR_ne, mI_sR, mR_sI, mK_sI, mN_sI, mn_sI, mJ_sI, mK_sR, mN_sR, mn_sR, mJ_sR, mI_wI, mR_wI, mK_wI, mN_wI, mn_wI, mJ_wI, ↓bnd_of, ↓bndX_r, ↓bndX_l, ↓ap_nr, bnd_of, bndX_r, bndX_l, if_true, if_false, ite_true, ite_false, not_true_eq_false, not_false_eq_true, Nat.reduceAdd, Nat.reduceMul, Nat.reduceEqDiff, Int.reduceToNat, Int.reduceNeg, Ilt_t, Ilt_f, Ile_t, Ile_f, Ieq_t, Ieq_f, Nlt_t, Nlt_f, Nle_t, Nle_f, Neq_t, Neq_f, or_true, true_or, or_false, false_or, and_true, true_and, and_false, false_and, ne_eq, or_self, and_self, decide_true, decide_false, Bool.false_eq_true, f_X12_piped_48, hL.o, a1, hf]
      rfl
  | succ k ih =>
    intro j n M c o f hj hn ho hi hV hC h0 hc
    obtain ⟨n, rfl⟩ : ∃ m, n = m + 1 := ⟨n - 1, by omega⟩
    have hL := hV.1
    have a1 := hV.2.2.2.1
    have bz := hV.2.2.1.2.2.2.1 l
    have e1 := X12_hasValue hV.1 hW.1 hV.2.1 hV.2.2 (l := l) (j := j) (by omega) (by omega)
    have e2 := X12_valueAt hV.1 hV.2.2 (l := l) (j := j) (by omega) (by omega)
    by_cases d : A.df l j = S.fu l
    · rw [if_pos d] at e1
      have g : Scr M (sI M 134 48 (i32 (A.vl l j))) := (Scr.rf M).sI (by unfold ScI; omega)
      obtain ⟨M1, h1, h2, h3, h4⟩ := X12_piped86 hP (f_X12_piped_48 n) (i32 l) (i32 i) (i32 o) (i32 j) P.n 0 FUEL (sI M 134 48 (i32 (A.vl l j))) c (i32 (A.vl l j)) (by omega) (by unfold FUEL; have := hP.1; omega) (hL.scr g) (hC.scr hP g) (fun i hi => by simp (disch := omega) only [↓reduceIte, add_i0, cast_add1, cast_sub1, toNat120, i32_lit, i32_neg, i32_add, i32_sub, i32_mul, i32_nat, i32_le, i32_lt, i32_eq, inB_i, Int.toNat_natCast, mI_sI_eq, mI_sI_ne, mR_sR_eq, mR_sR_ne, mI_sR, mR_sI, mK_sI, mN_sI, mn_sI, mJ_sI, mK_sR, mN_sR, mn_sR, mJ_sR, mI_wI, mR_wI, mK_wI, mN_wI, mn_wI, mJ_wI, ↓bnd_of, ↓bndX_r, ↓bndX_l, ↓ap_nr, bnd_of, bndX_r, bndX_l, if_true, if_false, ite_true, ite_false, not_true_eq_false, not_false_eq_true, Nat.reduceAdd, Nat.reduceMul, Nat.reduceEqDiff, Int.reduceToNat, Int.reduceNeg, Ilt_t, Ilt_f, Ile_t, Ile_f, Ieq_t, Ieq_f, Nlt_t, Nlt_f, Nle_t, Nle_f, Neq_t, Neq_f, or_true, true_or, or_false, false_or, and_true, true_and, and_false, false_and, ne_eq, or_self, and_self, decide_true, decide_false, Bool.false_eq_true, hc]) mI_sI_eq
      have g1 := g.tr h1
      have h02 : mI M1 134 2 = i32 0 := by rw [h3]; simp (disch := omega) only [↓reduceIte, add_i0, cast_add1, cast_sub1, toNat120, i32_lit, i32_neg, i32_add, i32_sub, i32_mul, i32_nat, i32_le, i32_lt, i32_eq, inB_i, Int.toNat_natCast, mI_sI_eq, mI_sI_ne, mR_sR_eq, mR_sR_ne, mI_sR, mR_sI, mK_sI, mN_sI, mn_sI, mJ_sI, mK_sR, mN_sR, mn_sR, mJ_sR, mI_wI, mR_wI, mK_wI, mN_wI, mn_wI, mJ_wI, ↓bnd_of, ↓bndX_r, ↓bndX_l, ↓ap_nr, bnd_of, bndX_r, bndX_l, if_true, if_false, ite_true, ite_false, not_true_eq_false, not_false_eq_true, Nat.reduceAdd, Nat.reduceMul, Nat.reduceEqDiff, Int.reduceToNat, Int.reduceNeg, Ilt_t, Ilt_f, Ile_t, Ile_f, Ieq_t, Ieq_f, Nlt_t, Nlt_f, Nle_t, Nle_f, Neq_t, Neq_f, or_true, true_or, or_false, false_or, and_true, true_and, and_false, false_and, ne_eq, or_self, and_self, decide_true, decide_false, Bool.false_eq_true, h0]
      rw [X12_piped48s hL hl hnl (show j < A.sz l by omega) bz a1 e1 e2 (i32 i) (i32 o) n, h4]
      unfold prunS
      simp only [d, if_true]
      cases hr : (psend P P.n 0 c (i32 (A.vl l j))).2 with
      | none =>
        simp only [olen, outU, Nat.add_zero]
        obtain ⟨r, M2, q1, q2⟩ := ih (j + 1) n M1 (psend P P.n 0 c (i32 (A.vl l j))).1 o f (by omega) (by omega) (by omega) hi (hV.scr hW.1 g1) (hC.scr hP g1) h02 h2
        refine ⟨r, M2, ?_, q2.tr g1⟩
        rw [← q1]
        rw [k_add1]
      | some w =>
        simp only [olen, outU]
        have hk := prunS_keep P A S.fu l k (j + 1) (psend P P.n 0 c (i32 (A.vl l j))).1 (o + 1) (upf f o w)
        by_cases d2 : i = o
        · subst d2
          have e5 := piped_e5 P A S.fu l k (j + 1) (psend P P.n 0 c (i32 (A.vl l j))).1 o f w
          have e7 : (if i32 (o : Int) = i32 (o : Int) then some (w, M1) else f_X12_piped_48 n 134 (i32 l) (i32 (o : Int)) (i32 (o : Int) + 1) (i32 (j : Int) + 1) M1) = some (w, M1) := if_pos rfl
          refine ⟨w, M1, e7, ?_⟩
          refine RA.tr g1 ?_
          have e6 := RA_1 h02 w
          rw [← e5] at e6
          exact e6
        · rw [if_neg (i32_ne (by omega) (by omega) (by omega) (by omega) (by omega))]
          obtain ⟨r, M2, q1, q2⟩ := ih (j + 1) n M1 (psend P P.n 0 c (i32 (A.vl l j))).1 (o + 1) (upf f o w) (by omega) (by omega) (by omega) (by omega) (hV.scr hW.1 g1) (hC.scr hP g1) h02 h2
          refine ⟨r, M2, ?_, q2.tr g1⟩
          rw [← q1]
          rw [k_add1, k_add1]
    · rw [if_neg d] at e1
      unfold prunS
      simp only [d, if_false]
      obtain ⟨r, M2, q1, q2⟩ := ih (j + 1) n M c o f (by omega) (by omega) (by omega) hi hV hC h0 hc
      refine ⟨r, M2, ?_, q2⟩
      rw [← q1]
      simp (disch := omega) only [↓reduceIte, add_i0, cast_add1, cast_sub1, toNat120, i32_lit, i32_neg, i32_add, i32_sub, i32_mul, i32_nat, i32_le, i32_lt, i32_eq, inB_i, Int.toNat_natCast, mI_sI_eq, mI_sI_ne, mR_sR_eq, mR_sR_ne, mI_sR, mR_sI, mK_sI, mN_sI, mn_sI, mJ_sI, mK_sR, mN_sR, mn_sR, mJ_sR, mI_wI, mR_wI, mK_wI, mN_wI, mn_wI, mJ_wI, ↓bnd_of, ↓bndX_r, ↓bndX_l, ↓ap_nr, bnd_of, bndX_r, bndX_l, if_true, if_false, ite_true, ite_false, not_true_eq_false, not_false_eq_true, Nat.reduceAdd, Nat.reduceMul, Nat.reduceEqDiff, Int.reduceToNat, Int.reduceNeg, Ilt_t, Ilt_f, Ile_t, Ile_f, Ieq_t, Ieq_f, Nlt_t, Nlt_f, Nle_t, Nle_f, Neq_t, Neq_f, or_true, true_or, or_false, false_or, and_true, true_and, and_false, false_and, ne_eq, or_self, and_self, decide_true, decide_false, Bool.false_eq_true, f_X12_piped_48, f_X12_piped_135, hL.o, a1, ↓bx e1]
theorem X12_piped24 (a1 a2 : Int32) : ∀ (k j n : Nat) (M : Mem), j + k = 8 → k < n → RLay M → (∀ i, i < j → mI M 160 i = i32 0) → ∃ M', f_X12_piped_24 n 134 a1 a2 (i32 0) (i32 j) M = f_X12_piped_48 FUEL 134 a1 a2 (i32 (0 : Nat)) (i32 (0 : Nat)) M' ∧ Scr M M' ∧ (∀ i, i < 8 → mI M' 160 i = i32 0) ∧ mI M' 134 2 = mI M 134 2 := by
  intro k
  induction k with
  | zero =>
    intro j n M hj hn hL hc
    obtain ⟨n, rfl⟩ : ∃ m, n = m + 1 := ⟨n - 1, by omega⟩
    refine ⟨M, ?_, Scr.rf M, fun i hi => hc i (by omega), rfl⟩
    simp (disch := omega) only [↓reduceIte, add_i0, cast_add1, cast_sub1, toNat120, i32_lit, i32_neg, i32_add, i32_sub, i32_mul, i32_nat, i32_le, i32_lt, i32_eq, inB_i, Int.toNat_natCast, mI_sI_eq, mI_sI_ne, mR_sR_eq, mR_sR_ne, mI_sR, mR_sI, mK_sI, mN_sI, mn_sI, mJ_sI, mK_sR, mN_sR, mn_sR, mJ_sR, mI_wI, mR_wI, mK_wI, mN_wI, mn_wI, mJ_wI, ↓bnd_of, ↓bndX_r, ↓bndX_l, ↓ap_nr, bnd_of, bndX_r, bndX_l, if_true, if_false, ite_true, ite_false, not_true_eq_false, not_false_eq_true, Nat.reduceAdd, Nat.reduceMul, Nat.reduceEqDiff, Int.reduceToNat, Int.reduceNeg, Ilt_t, Ilt_f, Ile_t, Ile_f, Ieq_t, Ieq_f, Nlt_t, Nlt_f, Nle_t, Nle_f, Neq_t, Neq_f, or_true, true_or, or_false, false_or, and_true, true_and, and_false, false_and, ne_eq, or_self, and_self, decide_true, decide_false, Bool.false_eq_true, f_X12_piped_24]
    rfl
  | succ k ih =>
    intro j n M hj hn hL hc
    obtain ⟨n, rfl⟩ : ∃ m, n = m + 1 := ⟨n - 1, by omega⟩
    have g : Scr M (sI M 160 j (i32 0)) := (Scr.rf M).sI (by unfold ScI; omega)
    obtain ⟨M', h1, h2, h3, h4⟩ := ih (j + 1) n _ (by omega) (by omega) (hL.scr g) (fun i hi => by
      by_cases e : i = j
      · subst e; simp (disch := omega) only [↓reduceIte, add_i0, cast_add1, cast_sub1, toNat120, i32_lit, i32_neg, i32_add, i32_sub, i32_mul, i32_nat, i32_le, i32_lt, i32_eq, inB_i, Int.toNat_natCast, mI_sI_eq, mI_sI_ne, mR_sR_eq, mR_sR_ne, mI_sR, mR_sI, mK_sI, mN_sI, mn_sI, mJ_sI, mK_sR, mN_sR, mn_sR, mJ_sR, mI_wI, mR_wI, mK_wI, mN_wI, mn_wI, mJ_wI, ↓bnd_of, ↓bndX_r, ↓bndX_l, ↓ap_nr, bnd_of, bndX_r, bndX_l, if_true, if_false, ite_true, ite_false, not_true_eq_false, not_false_eq_true, Nat.reduceAdd, Nat.reduceMul, Nat.reduceEqDiff, Int.reduceToNat, Int.reduceNeg, Ilt_t, Ilt_f, Ile_t, Ile_f, Ieq_t, Ieq_f, Nlt_t, Nlt_f, Nle_t, Nle_f, Neq_t, Neq_f, or_true, true_or, or_false, false_or, and_true, true_and, and_false, false_and, ne_eq, or_self, and_self, decide_true, decide_false, Bool.false_eq_true]
      · have := hc i (by omega)
        simp (disch := omega) only [↓reduceIte, add_i0, cast_add1, cast_sub1, toNat120, i32_lit, i32_neg, i32_add, i32_sub, i32_mul, i32_nat, i32_le, i32_lt, i32_eq, inB_i, Int.toNat_natCast, mI_sI_eq, mI_sI_ne, mR_sR_eq, mR_sR_ne, mI_sR, mR_sI, mK_sI, mN_sI, mn_sI, mJ_sI, mK_sR, mN_sR, mn_sR, mJ_sR, mI_wI, mR_wI, mK_wI, mN_wI, mn_wI, mJ_wI, ↓bnd_of, ↓bndX_r, ↓bndX_l, ↓ap_nr, bnd_of, bndX_r, bndX_l, if_true, if_false, ite_true, ite_false, not_true_eq_false, not_false_eq_true, Nat.reduceAdd, Nat.reduceMul, Nat.reduceEqDiff, Int.reduceToNat, Int.reduceNeg, Ilt_t, Ilt_f, Ile_t, Ile_f, Ieq_t, Ieq_f, Nlt_t, Nlt_f, Nle_t, Nle_f, Neq_t, Neq_f, or_true, true_or, or_false, false_or, and_true, true_and, and_false, false_and, ne_eq, or_self, and_self, decide_true, decide_false, Bool.false_eq_true, e, this])
    refine ⟨M', ?_, g.tr h2, h3, ?_⟩
    · rw [← h1]
      simp (disch := omega) only [↓reduceIte, add_i0, cast_add1, cast_sub1, toNat120, i32_lit, i32_neg, i32_add, i32_sub, i32_mul, i32_nat, i32_le, i32_lt, i32_eq, inB_i, Int.toNat_natCast, mI_sI_eq, mI_sI_ne, mR_sR_eq, mR_sR_ne, mI_sR, mR_sI, mK_sI, mN_sI, mn_sI, mJ_sI, mK_sR, mN_sR, mn_sR, mJ_sR, mI_wI, mR_wI, mK_wI, mN_wI, mn_wI, mJ_wI, ↓bnd_of, ↓bndX_r, ↓bndX_l, ↓ap_nr, bnd_of, bndX_r, bndX_l, if_true, if_false, ite_true, ite_false, not_true_eq_false, not_false_eq_true, Nat.reduceAdd, Nat.reduceMul, Nat.reduceEqDiff, Int.reduceToNat, Int.reduceNeg, Ilt_t, Ilt_f, Ile_t, Ile_f, Ieq_t, Ieq_f, Nlt_t, Nlt_f, Nle_t, Nle_f, Neq_t, Neq_f, or_true, true_or, or_false, false_or, and_true, true_and, and_false, false_and, ne_eq, or_self, and_self, decide_true, decide_false, Bool.false_eq_true, f_X12_piped_24, hL.o]
    · rw [h4]
      simp (disch := omega) only [↓reduceIte, add_i0, cast_add1, cast_sub1, toNat120, i32_lit, i32_neg, i32_add, i32_sub, i32_mul, i32_nat, i32_le, i32_lt, i32_eq, inB_i, Int.toNat_natCast, mI_sI_eq, mI_sI_ne, mR_sR_eq, mR_sR_ne, mI_sR, mR_sI, mK_sI, mN_sI, mn_sI, mJ_sI, mK_sR, mN_sR, mn_sR, mJ_sR, mI_wI, mR_wI, mK_wI, mN_wI, mn_wI, mJ_wI, ↓bnd_of, ↓bndX_r, ↓bndX_l, ↓ap_nr, bnd_of, bndX_r, bndX_l, if_true, if_false, ite_true, ite_false, not_true_eq_false, not_false_eq_true, Nat.reduceAdd, Nat.reduceMul, Nat.reduceEqDiff, Int.reduceToNat, Int.reduceNeg, Ilt_t, Ilt_f, Ile_t, Ile_f, Ieq_t, Ieq_f, Nlt_t, Nlt_f, Nle_t, Nle_f, Neq_t, Neq_f, or_true, true_or, or_false, false_or, and_true, true_and, and_false, false_and, ne_eq, or_self, and_self, decide_true, decide_false, Bool.false_eq_true]
theorem r_piped (hW : S.wf) (hV : RV M S A) (hP : P.ok) (hC : RP M P) (l i : Int) (z1 : -2147483648 ≤ l) (z2 : l ≤ 2147483647) (z3 : -2147483648 ≤ i) (z4 : i ≤ 2147483647) : ∃ v M', f_X12_piped 134 (i32 l) (i32 i) M = some (v, M') ∧ RA M M' (a_piped P S A l i) v := by
  generalize ha : a_piped P S A l i = ans
  unfold f_X12_piped
  refine ref_start2 hW hV (fun M0 g0 hV0 hc0 => ?_)
  have hS := hW.1
  have hn := X12_isLeaf hV0 hS l z1 z2
  have hf := X12_fail hV0.1 1
  have hL := hV0.1
  have b := hS.2.1
  have hC0 := hC.scr hP g0
  unfold a_piped at ha
  by_cases d : 0 ≤ l ∧ l < S.nl
  · rw [if_pos d] at hn ha
    obtain ⟨l, rfl⟩ : ∃ k : Nat, l = k := ⟨l.toNat, by omega⟩
    simp only [Int.toNat_natCast] at ha
    have bz := hV0.2.2.1.2.2.2.1 l
    obtain ⟨M1, h1, h2, h3, h4⟩ := X12_piped24 (i32 l) (i32 i) 8 0 FUEL M0 (by omega) (by unfold FUEL; omega) hL (fun i hi => by omega)
    obtain ⟨r, M2, q1, q2⟩ := X12_piped48 hW hP (l := l) (by omega) i z3 z4 (A.sz l) 0 FUEL M1 (fun _ => i32 0) 0 (fun _ => i32 0) (by omega) (by unfold FUEL; omega) (by omega) (by omega) (hV0.scr hS h2) (hC0.scr hP h2) (by rw [h4]; exact hc0) h3
    rw [ha] at q2
    refine ⟨r, M2, ?_, q2.tr h2⟩
    rw [← q1, ← h1]
    simp (disch := omega) only [↓reduceIte, add_i0, cast_add1, cast_sub1, toNat120, i32_lit, i32_neg, i32_add, i32_sub, i32_mul, i32_nat, i32_le, i32_lt, i32_eq, inB_i, Int.toNat_natCast, mI_sI_eq, mI_sI_ne, mR_sR_eq, mR_sR_ne, mI_sR, mR_sI, mK_sI, mN_sI, mn_sI, mJ_sI, mK_sR, mN_sR, mn_sR, mJ_sR, mI_wI, mR_wI, mK_wI, mN_wI, mn_wI, mJ_wI, ↓bnd_of, ↓bndX_r, ↓bndX_l, ↓ap_nr, bnd_of, bndX_r, bndX_l, if_true, if_false, ite_true, ite_false, not_true_eq_false, not_false_eq_true, Nat.reduceAdd, Nat.reduceMul, Nat.reduceEqDiff, Int.reduceToNat, Int.reduceNeg, Ilt_t, Ilt_f, Ile_t, Ile_f, Ieq_t, Ieq_f, Nlt_t, Nlt_f, Nle_t, Nle_f, Neq_t, Neq_f, or_true, true_or, or_false, false_or, and_true, true_and, and_false, false_and, ne_eq, or_self, and_self, decide_true, decide_false, Bool.false_eq_true, hL.o, ↓bx hn]
    rfl
  · rw [if_neg d] at hn ha
    subst ha
    refine ⟨_, _, ?_, RA_f 1 (i32 0)⟩
    simp (disch := omega) only [↓reduceIte, add_i0, cast_add1, cast_sub1, toNat120, i32_lit, i32_neg, i32_add, i32_sub, i32_mul, i32_nat, i32_le, i32_lt, i32_eq, inB_i, Int.toNat_natCast, mI_sI_eq, mI_sI_ne, mR_sR_eq, mR_sR_ne, mI_sR, mR_sI, mK_sI, mN_sI, mn_sI, mJ_sI, mK_sR, mN_sR, mn_sR, mJ_sR, mI_wI, mR_wI, mK_wI, mN_wI, mn_wI, mJ_wI, ↓bnd_of, ↓bndX_r, ↓bndX_l, ↓ap_nr, bnd_of, bndX_r, bndX_l, if_true, if_false, ite_true, ite_false, not_true_eq_false, not_false_eq_true, Nat.reduceAdd, Nat.reduceMul, Nat.reduceEqDiff, Int.reduceToNat, Int.reduceNeg, Ilt_t, Ilt_f, Ile_t, Ile_f, Ieq_t, Ieq_f, Nlt_t, Nlt_f, Nle_t, Nle_f, Neq_t, Neq_f, or_true, true_or, or_false, false_or, and_true, true_and, and_false, false_and, ne_eq, or_self, and_self, decide_true, decide_false, Bool.false_eq_true, hL.o, ↓bx hn, hf]
    rfl
end
