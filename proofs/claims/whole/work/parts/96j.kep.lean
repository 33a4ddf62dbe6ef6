/-! Acts: a new cell, keep -/
section
variable {M : Mem} {t n : Nat}
theorem mn_new : mn (mNew M t n) = mn M + 1 := rfl
theorem mK_new_ne {a : Nat} (h : a ≤ mn M) : mK (mNew M t n) a = mK M a := if_neg (by omega)
theorem mN_new_ne {a : Nat} (h : a ≤ mn M) : mN (mNew M t n) a = mN M a := if_neg (by omega)
theorem mI_new_ne {a : Nat} (h : a ≤ mn M) : mI (mNew M t n) a = mI M a := if_neg (by omega)
theorem mR_new_ne {a : Nat} (h : a ≤ mn M) : mR (mNew M t n) a = mR M a := if_neg (by omega)
theorem mK_new_eq : mK (mNew M t n) (mn M + 1) = t := if_pos rfl
theorem mN_new_eq : mN (mNew M t n) (mn M + 1) = n := if_pos rfl
theorem mI_new_eq : mI (mNew M t n) (mn M + 1) = fun _ => 0 := if_pos rfl
theorem mR_new_eq : mR (mNew M t n) (mn M + 1) = fun _ => 0 := if_pos rfl
theorem CLay.new (h : CLay M) (hm : 164 ≤ mn M) : CLay (mNew M t n) := by
  unfold CLay CLay' at h ⊢
  simp (disch := omega) only [mK_new_ne, mN_new_ne, mR_new_ne]
  exact h
theorem RLay.new (h : RLay M) (hm : 164 ≤ mn M) : RLay (mNew M t n) := by
  unfold RLay RLay' at h ⊢
  simp (disch := omega) only [mK_new_ne, mN_new_ne, mR_new_ne]
  exact h
theorem ColLay.new {b : Nat} (h : ColLay M b) (hb : b ≤ 56) (hm : 164 ≤ mn M) : ColLay (mNew M t n) b := by
  unfold ColLay at h ⊢
  obtain ⟨h1, h2, h3, h4, h5, h6, h7, h8, h9, h10, h11⟩ := h
  refine ⟨fun l q => ?_, fun l q => ?_, fun l q => ?_, fun l q => ?_, fun l q => ?_, fun l q => ?_, fun l q => ?_, fun l q => ?_, fun l q => ?_, fun l q => ?_, fun l q => ?_⟩
  · rw [mK_new_ne (by omega)]; exact h1 l q
  · rw [mR_new_ne (by omega)]; exact h2 l q
  · rw [mR_new_ne (by omega)]; exact h3 l q
  · rw [mR_new_ne (by omega)]; exact h4 l q
  · rw [mK_new_ne (by omega)]; exact h5 l q
  · rw [mK_new_ne (by omega)]; exact h6 l q
  · rw [mK_new_ne (by omega)]; exact h7 l q
  · rw [mN_new_ne (by omega)]; exact h8 l q
  · rw [mN_new_ne (by omega)]; exact h9 l q
  · rw [mN_new_ne (by omega)]; exact h10 l q
  · rw [mR_new_ne (by omega)]; exact h11 l q
theorem ShLay.new {s : Nat} (h : ShLay M s) (hs : s ≤ 112) (hm : 164 ≤ mn M) : ShLay (mNew M t n) s := by
  unfold ShLay ShLay' at h ⊢
  simp (disch := omega) only [mK_new_ne, mN_new_ne, mR_new_ne]
  exact h
theorem PiLay.new {p : Nat} (h : PiLay M p) (hs : p ≤ 129) (hm : 164 ≤ mn M) : PiLay (mNew M t n) p := by
  unfold PiLay PiLay' at h ⊢
  simp (disch := omega) only [mK_new_ne, mN_new_ne, mR_new_ne]
  exact h
end
/-- what was made before stands as it was -/
def Old (M M' : Mem) : Prop := mn M ≤ mn M' ∧ ∀ b, 165 ≤ b → b ≤ mn M → mK M' b = mK M b ∧ mN M' b = mN M b ∧ (∀ j, mI M' b j = mI M b j) ∧ ∀ j, mR M' b j = mR M b j
theorem Old.rf (M : Mem) : Old M M := ⟨Nat.le_refl _, fun _ _ _ => ⟨rfl, rfl, fun _ => rfl, fun _ => rfl⟩⟩
theorem Old.tr {M M1 M2 : Mem} (h : Old M M1) (g : Old M1 M2) : Old M M2 := ⟨Nat.le_trans h.1 g.1, fun b h1 h2 => by
  have a := h.2 b h1 h2
  have c := g.2 b h1 (Nat.le_trans h2 h.1)
  exact ⟨c.1.trans a.1, c.2.1.trans a.2.1, fun j => (c.2.2.1 j).trans (a.2.2.1 j), fun j => (c.2.2.2 j).trans (a.2.2.2 j)⟩⟩
theorem Fr.old {P Q : Nat → Nat → Prop} {M M' : Mem} (h : Fr P Q M M') (hP : ∀ a j, P a j → a < 165) (hQ : ∀ a j, Q a j → a < 165) : Old M M' := ⟨by rw [h.2.2.1]; exact Nat.le_refl _, fun b h1 h2 => ⟨by rw [h.1], by rw [h.2.1], fun j => h.i (fun q => by have := hP b j q; omega), fun j => h.r (fun q => by have := hQ b j q; omega)⟩⟩
theorem Chg.old {P : Nat → Nat → Prop} {M M' : Mem} (h : Chg P M M') (hP : ∀ a j, P a j → a < 165) : Old M M' := (h.fr (R := fun _ _ => False) (fun _ _ q => q)).old hP (fun _ _ q => q.elim)
theorem Old.new {M : Mem} (t n : Nat) : Old M (mNew M t n) := ⟨Nat.le_succ _, fun b h1 h2 => ⟨mK_new_ne h2, mN_new_ne h2, fun j => by rw [mI_new_ne h2], fun j => by rw [mR_new_ne h2]⟩⟩
section
variable {M : Mem}
theorem X0_init {a : Nat} (ha : 0 < a) (hK : mK M a = 1) (k l e x : Int32) {r : Nat} (hr : r ≤ mn M) : f_X0_init a k l e x r M = some ((), sR (sI (sI (sI (sI M a 0 k) a 1 l) a 2 e) a 3 x) a 4 r) := by
  have nz : ¬ a = 0 := by omega
  unfold f_X0_init
  rw [if_pos nz, if_pos hK, ap_of, if_pos (by exact hK), ap_of, if_pos (by exact hK), ap_of, if_pos (by exact hK), ap_of, if_pos (by exact hK), if_pos (by rw [okrB_sI, okrB_sI, okrB_sI, okrB_sI, okB1 hr]; trivial), ap_of]
theorem X7_keep30 (hL : CLay M) {n a : Nat} (hn : n < 40) (h3 : mI M 18 3 = i32 n) (ha : mK M a = 1) : f_X7_keep_30 18 a M = some ((), sI (sR M 20 n a) 18 3 (i32 ((n + 1 : Nat) : Int))) := by
  have k18 : mK M 18 = 8 := by simp only [hL.o]
  have r2 : mR M 18 2 = 20 := by simp only [hL.o]
  have k20 : mK M 20 = 24 := by simp only [hL.o]
  have n20 : mN M 20 = 40 := by simp only [hL.o]
  unfold f_X7_keep_30
  rw [if_pos k18, r2, if_pos k20, h3, n20, if_pos (by simp (disch := omega) only [↓reduceIte, add_i0, cast_add1, cast_sub1, toNat120, i32_lit, i32_neg, i32_add, i32_sub, i32_mul, i32_nat, i32_le, i32_lt, i32_eq, inB_i, Int.toNat_natCast, mI_sI_eq, mI_sI_ne, mR_sR_eq, mR_sR_ne, mI_sR, mR_sI, mK_sI, mN_sI, mn_sI, mJ_sI, mK_sR, mN_sR, mn_sR, mJ_sR, mI_wI, mR_wI, mK_wI, mN_wI, mn_wI, mJ_wI, ↓bnd_of, ↓bndX_r, ↓bndX_l, ↓ap_nr, bnd_of, bndX_r, bndX_l, if_true, if_false, ite_true, ite_false, not_true_eq_false, not_false_eq_true, Nat.reduceAdd, Nat.reduceMul, Nat.reduceEqDiff, Int.reduceToNat, Int.reduceNeg, Ilt_t, Ilt_f, Ile_t, Ile_f, Ieq_t, Ieq_f, Nlt_t, Nlt_f, Nle_t, Nle_f, Neq_t, Neq_f, or_true, true_or, or_false, false_or, and_true, true_and, and_false, false_and, ne_eq, or_self, and_self, decide_true, decide_false, Bool.false_eq_true]), if_pos ha, ap_of, if_pos (by exact k18), ap_of, i32_nat (by omega) (by omega), Int.toNat_natCast, mI_sR, h3, k_add1]
theorem X7_keep (hL : CLay M) {n a : Nat} (hn : n ≤ 40) (h3 : mI M 18 3 = i32 n) (hacts : ∀ k, k < n → mK M (mR M 20 k) = 1) (ha : mK M a = 1) : ∃ M', f_X7_keep 18 a M = some ((), M') ∧ Fr (fun b j => b = 18 ∧ j = 3) (fun b _ => b = 20) M M' ∧ (n < 40 → mI M' 18 3 = i32 ((n + 1 : Nat) : Int) ∧ mR M' 20 n = a ∧ ∀ k, k < n → mR M' 20 k = mR M 20 k) ∧ (n = 40 → mI M' 18 3 = i32 40 ∧ mR M' 20 39 = a ∧ ∀ k, k < 39 → mR M' 20 k = mR M 20 (k + 1)) := by
  have k18 : mK M 18 = 8 := by simp only [hL.o]
  have r2 : mR M 18 2 = 20 := by simp only [hL.o]
  have k20 : mK M 20 = 24 := by simp only [hL.o]
  have n20 : mN M 20 = 40 := by simp only [hL.o]
  by_cases c : n < 40
  · have e := X7_keep30 hL c h3 ha
    refine ⟨_, ?_, ((Fr.rf _ _ M).sR (a := 20) (k := n) (v := a) rfl).sI (a := 18) (k := 3) ⟨rfl, rfl⟩, fun _ => ⟨mI_sI_eq, ?_, fun k hk => ?_⟩, fun q => by omega⟩
    · unfold f_X7_keep
      rw [if_pos k18, h3, if_pos (by simp (disch := omega) only [↓reduceIte, add_i0, cast_add1, cast_sub1, toNat120, i32_lit, i32_neg, i32_add, i32_sub, i32_mul, i32_nat, i32_le, i32_lt, i32_eq, inB_i, Int.toNat_natCast, mI_sI_eq, mI_sI_ne, mR_sR_eq, mR_sR_ne, mI_sR, mR_sI, mK_sI, mN_sI, mn_sI, mJ_sI, mK_sR, mN_sR, mn_sR, mJ_sR, mI_wI, mR_wI, mK_wI, mN_wI, mn_wI, mJ_wI, ↓bnd_of, ↓bndX_r, ↓bndX_l, ↓ap_nr, bnd_of, bndX_r, bndX_l, if_true, if_false, ite_true, ite_false, not_true_eq_false, not_false_eq_true, Nat.reduceAdd, Nat.reduceMul, Nat.reduceEqDiff, Int.reduceToNat, Int.reduceNeg, Ilt_t, Ilt_f, Ile_t, Ile_f, Ieq_t, Ieq_f, Nlt_t, Nlt_f, Nle_t, Nle_f, Neq_t, Neq_f, or_true, true_or, or_false, false_or, and_true, true_and, and_false, false_and, ne_eq, or_self, and_self, decide_true, decide_false, Bool.false_eq_true])]
      exact e
    · rw [mR_sI]; exact mR_sR_eq
    · rw [mR_sI]; exact mR_sR_ne (by omega)
  · have hn40 : n = 40 := by omega
    subst hn40
    have hcp : copyB M 20 20 (1 : Int32) (0 : Int32) (39 : Int32) = true := by
      unfold copyB
      rw [n20]
      decide
    have hac : actsB M 20 1 39 = true := by
      unfold actsB
      rw [List.all_eq_true]
      intro k hk
      rw [List.mem_range] at hk
      exact decide_eq_true (hacts (1 + k) (by omega))
    have c1 : (1 : Int32).toNatClampNeg = 1 := by decide
    have c0 : (0 : Int32).toNatClampNeg = 0 := by decide
    have c39 : (39 : Int32).toNatClampNeg = 39 := by decide
    have frc : Fr (fun b j => b = 18 ∧ j = 3) (fun b _ => b = 20) M (cpR M 20 20 1 0 39) := ⟨rfl, rfl, rfl, rfl, fun _ _ _ => rfl, fun b j q => by
      show va_up (mR M) 20 (va_cpy (mR M 20) (mR M 20) 1 0 39) b j = _
      unfold va_up
      rw [if_neg q]⟩
    have fr1 := frc.sI (a := 18) (k := 3) (v := (39 : Int32)) ⟨rfl, rfl⟩
    have hL1 : CLay (sI (cpR M 20 20 1 0 39) 18 3 (39 : Int32)) := by
      unfold CLay CLay' at hL ⊢
      have rr : ∀ b j, b ≠ 20 → mR (sI (cpR M 20 20 1 0 39) 18 3 (39 : Int32)) b j = mR M b j := fun b j q => fr1.r q
      have kk : mK (sI (cpR M 20 20 1 0 39) 18 3 (39 : Int32)) = mK M := rfl
      have nn : mN (sI (cpR M 20 20 1 0 39) 18 3 (39 : Int32)) = mN M := rfl
      simp (disch := omega) only [rr, kk, nn]
      exact hL
    have e := X7_keep30 hL1 (n := 39) (a := a) (by omega) mI_sI_eq ha
    refine ⟨_, ?_, (fr1.sR (a := 20) (k := 39) (v := a) rfl).sI (a := 18) (k := 3) ⟨rfl, rfl⟩, fun q => by omega, fun _ => ⟨mI_sI_eq, ?_, fun k hk => ?_⟩⟩
    · unfold f_X7_keep
      rw [if_pos k18, h3, if_neg (by decide), r2, if_pos k20, if_pos hcp, c1, c0, c39, if_pos hac, ap_of, if_pos (by exact k18), ap_of]
      exact e
    · rw [mR_sI]; exact mR_sR_eq
    · rw [mR_sI, mR_sR_ne (by omega)]
      show va_up (mR M) 20 (va_cpy (mR M 20) (mR M 20) 1 0 39) 20 k = _
      unfold va_up va_cpy
      rw [if_pos rfl, if_pos (by omega), show 1 + (k - 0) = k + 1 by omega]
theorem X12_keep54 (hL : RLay M) {A : St} (hE : RE M A) {n : Nat} (hn : n < 40) (h31 : mI M 134 31 = i32 n) : ∃ M', f_X12_keep_54 134 M = some ((), M') ∧ Chg (fun b j => (b = 152 ∧ 969 * n ≤ j ∧ j < 969 * n + 969) ∨ (b = 134 ∧ j = 31)) M M' ∧ mI M' 134 31 = i32 ((n + 1 : Nat) : Int) ∧ RRow M' 152 (969 * n) A := by
  have k152 : mK M 152 = 21 := by simp only [hL.o]
  have n152 : mN M 152 = 38760 := by simp only [hL.o]
  have r29 : mR M 134 29 = 152 := by simp only [hL.o]
  obtain ⟨M1, e1, g1, q1, q2, q3⟩ := X12_pack (a := 152) (off := 969 * n) hL (by omega) (by omega) k152 (by rw [n152]; omega) (by omega)
  have hL1 := hL.all g1
  have h311 : mI M1 134 31 = i32 n := by rw [g1.i (by unfold pkC; omega)]; exact h31
  have hrow := RRow.of hE q1 q2 q3
  have e2 : (969 : Int32) * i32 (n : Int) = i32 ((969 * n : Nat) : Int) := by
    rw [i32_lit, i32_mul]
    congr 1
  refine ⟨sI M1 134 31 (i32 ((n + 1 : Nat) : Int)), ?_, (g1.mono (fun b j q => Or.inl q)).sI (Or.inr ⟨rfl, rfl⟩), mI_sI_eq, hrow.cg (fun i hi => mI_sI_ne (by omega))⟩
  unfold f_X12_keep_54
  rw [if_pos hL.k, r29, h31, e2, bx e1, if_pos hL1.k, ap_of, h311, k_add1]
theorem X12_keep13 : ∀ (k j m : Nat) (M1 : Mem), j + k = 37791 → k < m → RLay M1 → Chg (fun b _ => b = 152) M M1 → (∀ i, i < j → mI M1 152 i = mI M 152 (i + 969)) → (∀ i, j ≤ i → mI M1 152 i = mI M 152 i) → ∃ M2, f_X12_keep_13 m 134 (i32 ((j + 969 : Nat) : Int)) M1 = f_X12_keep_54 134 (sI M2 134 31 (mI M2 134 31 - (1 : Int32))) ∧ Chg (fun b _ => b = 152) M M2 ∧ ∀ i, i < 37791 → mI M2 152 i = mI M 152 (i + 969) := by
  intro k
  induction k with
  | zero =>
    intro j m M1 hj hm hL g h1 h2
    obtain ⟨m, rfl⟩ : ∃ q, m = q + 1 := ⟨m - 1, by omega⟩
    have k152 : mK M1 152 = 21 := by simp only [hL.o]
    have n152 : mN M1 152 = 38760 := by simp only [hL.o]
    have r29 : mR M1 134 29 = 152 := by simp only [hL.o]
    refine ⟨M1, ?_, g, fun i hi => h1 i (by omega)⟩
    have ej : j + 969 = 38760 := by omega
    unfold f_X12_keep_13
    rw [if_pos hL.k, r29, if_pos k152, n152, ej, if_pos (by decide), ap_of]
  | succ k ih =>
    intro j m M1 hj hm hL g h1 h2
    obtain ⟨m, rfl⟩ : ∃ q, m = q + 1 := ⟨m - 1, by omega⟩
    have k152 : mK M1 152 = 21 := by simp only [hL.o]
    have n152 : mN M1 152 = 38760 := by simp only [hL.o]
    have r29 : mR M1 134 29 = 152 := by simp only [hL.o]
    have e1 : i32 ((j + 969 : Nat) : Int) - (969 : Int32) = i32 (j : Int) := by
      rw [i32_lit, i32_sub, show ((j + 969 : Nat) : Int) - 969 = (j : Int) by omega]
    have e3 : i32 ((j + 969 : Nat) : Int) + (1 : Int32) = i32 ((j + 1 + 969 : Nat) : Int) := by
      rw [i32_lit, i32_add, show ((j + 969 : Nat) : Int) + 1 = ((j + 1 + 969 : Nat) : Int) by omega]
    have gs : Chg (fun b _ => b = 152) M1 (sI M1 152 j (mI M1 152 (j + 969))) := (Chg.rf _ M1).sI rfl
    obtain ⟨M2, q1, q2, q3⟩ := ih (j + 1) m (sI M1 152 j (mI M1 152 (j + 969))) (by omega) (by omega) (hL.all gs) (g.tr gs) (fun i hi => by
      by_cases e : i = j
      · subst e
        rw [mI_sI_eq, h2 (i + 969) (by omega)]
      · rw [mI_sI_ne (by omega)]
        exact h1 i (by omega)) (fun i hi => by
      rw [mI_sI_ne (by omega)]
      exact h2 i (by omega))
    refine ⟨M2, ?_, q2, q3⟩
    rw [← q1, ← e3]
    conv => lhs; unfold f_X12_keep_13
    rw [if_pos hL.k, r29, if_pos k152, n152, i32_ofNat, if_neg (by simp (disch := omega) only [↓reduceIte, add_i0, cast_add1, cast_sub1, toNat120, i32_lit, i32_neg, i32_add, i32_sub, i32_mul, i32_nat, i32_le, i32_lt, i32_eq, inB_i, Int.toNat_natCast, mI_sI_eq, mI_sI_ne, mR_sR_eq, mR_sR_ne, mI_sR, mR_sI, mK_sI, mN_sI, mn_sI, mJ_sI, mK_sR, mN_sR, mn_sR, mJ_sR, mI_wI, mR_wI, mK_wI, mN_wI, mn_wI, mJ_wI, ↓bnd_of, ↓bndX_r, ↓bndX_l, ↓ap_nr, bnd_of, bndX_r, bndX_l, if_true, if_false, ite_true, ite_false, not_true_eq_false, not_false_eq_true, Nat.reduceAdd, Nat.reduceMul, Nat.reduceEqDiff, Int.reduceToNat, Int.reduceNeg, Ilt_t, Ilt_f, Ile_t, Ile_f, Ieq_t, Ieq_f, Nlt_t, Nlt_f, Nle_t, Nle_f, Neq_t, Neq_f, or_true, true_or, or_false, false_or, and_true, true_and, and_false, false_and, ne_eq, or_self, and_self, decide_true, decide_false, Bool.false_eq_true]), if_pos (by simp (disch := omega) only [↓reduceIte, add_i0, cast_add1, cast_sub1, toNat120, i32_lit, i32_neg, i32_add, i32_sub, i32_mul, i32_nat, i32_le, i32_lt, i32_eq, inB_i, Int.toNat_natCast, mI_sI_eq, mI_sI_ne, mR_sR_eq, mR_sR_ne, mI_sR, mR_sI, mK_sI, mN_sI, mn_sI, mJ_sI, mK_sR, mN_sR, mn_sR, mJ_sR, mI_wI, mR_wI, mK_wI, mN_wI, mn_wI, mJ_wI, ↓bnd_of, ↓bndX_r, ↓bndX_l, ↓ap_nr, bnd_of, bndX_r, bndX_l, if_true, if_false, ite_true, ite_false, not_true_eq_false, not_false_eq_true, Nat.reduceAdd, Nat.reduceMul, Nat.reduceEqDiff, Int.reduceToNat, Int.reduceNeg, Ilt_t, Ilt_f, Ile_t, Ile_f, Ieq_t, Ieq_f, Nlt_t, Nlt_f, Nle_t, Nle_f, Neq_t, Neq_f, or_true, true_or, or_false, false_or, and_true, true_and, and_false, false_and, ne_eq, or_self, and_self, decide_true, decide_false, Bool.false_eq_true]), e1, if_pos (by simp (disch := omega) only [↓reduceIte, add_i0, cast_add1, cast_sub1, toNat120, i32_lit, i32_neg, i32_add, i32_sub, i32_mul, i32_nat, i32_le, i32_lt, i32_eq, inB_i, Int.toNat_natCast, mI_sI_eq, mI_sI_ne, mR_sR_eq, mR_sR_ne, mI_sR, mR_sI, mK_sI, mN_sI, mn_sI, mJ_sI, mK_sR, mN_sR, mn_sR, mJ_sR, mI_wI, mR_wI, mK_wI, mN_wI, mn_wI, mJ_wI, ↓bnd_of, ↓bndX_r, ↓bndX_l, ↓ap_nr, bnd_of, bndX_r, bndX_l, if_true, if_false, ite_true, ite_false, not_true_eq_false, not_false_eq_true, Nat.reduceAdd, Nat.reduceMul, Nat.reduceEqDiff, Int.reduceToNat, Int.reduceNeg, Ilt_t, Ilt_f, Ile_t, Ile_f, Ieq_t, Ieq_f, Nlt_t, Nlt_f, Nle_t, Nle_f, Neq_t, Neq_f, or_true, true_or, or_false, false_or, and_true, true_and, and_false, false_and, ne_eq, or_self, and_self, decide_true, decide_false, Bool.false_eq_true]), ap_of, i32_nat (by omega) (by omega), Int.toNat_natCast, i32_nat (by omega) (by omega), Int.toNat_natCast]
theorem X12_keep (hL : RLay M) {A : St} (hE : RE M A) {n : Nat} (hn : n ≤ 40) (h31 : mI M 134 31 = i32 n) : ∃ M', f_X12_keep 134 M = some ((), M') ∧ Chg (fun b j => b = 152 ∨ (b = 134 ∧ j = 31)) M M' ∧ (n < 40 → mI M' 134 31 = i32 ((n + 1 : Nat) : Int) ∧ RRow M' 152 (969 * n) A ∧ ∀ i, i < 969 * n → mI M' 152 i = mI M 152 i) ∧ (n = 40 → mI M' 134 31 = i32 40 ∧ RRow M' 152 (969 * 39) A ∧ ∀ i, i < 969 * 39 → mI M' 152 i = mI M 152 (i + 969)) := by
  by_cases c : n < 40
  · obtain ⟨M1, e1, g1, q1, q2⟩ := X12_keep54 hL hE c h31
    refine ⟨M1, ?_, g1.mono (fun b j q => by omega), fun _ => ⟨q1, q2, fun i hi => g1.i (by omega)⟩, fun q => by omega⟩
    unfold f_X12_keep
    rw [if_pos hL.k, h31, if_neg (by simp (disch := omega) only [↓reduceIte, add_i0, cast_add1, cast_sub1, toNat120, i32_lit, i32_neg, i32_add, i32_sub, i32_mul, i32_nat, i32_le, i32_lt, i32_eq, inB_i, Int.toNat_natCast, mI_sI_eq, mI_sI_ne, mR_sR_eq, mR_sR_ne, mI_sR, mR_sI, mK_sI, mN_sI, mn_sI, mJ_sI, mK_sR, mN_sR, mn_sR, mJ_sR, mI_wI, mR_wI, mK_wI, mN_wI, mn_wI, mJ_wI, ↓bnd_of, ↓bndX_r, ↓bndX_l, ↓ap_nr, bnd_of, bndX_r, bndX_l, if_true, if_false, ite_true, ite_false, not_true_eq_false, not_false_eq_true, Nat.reduceAdd, Nat.reduceMul, Nat.reduceEqDiff, Int.reduceToNat, Int.reduceNeg, Ilt_t, Ilt_f, Ile_t, Ile_f, Ieq_t, Ieq_f, Nlt_t, Nlt_f, Nle_t, Nle_f, Neq_t, Neq_f, or_true, true_or, or_false, false_or, and_true, true_and, and_false, false_and, ne_eq, or_self, and_self, decide_true, decide_false, Bool.false_eq_true])]
    exact e1
  · have hn40 : n = 40 := by omega
    subst hn40
    obtain ⟨M2, e2, g2, q2⟩ := X12_keep13 (M := M) 37791 0 FUEL M (by omega) (by unfold FUEL; omega) hL (Chg.rf _ M) (fun i hi => by omega) (fun i hi => rfl)
    have hL2 := hL.all g2
    have h312 : mI M2 134 31 = i32 40 := by rw [g2.i (by omega)]; exact h31
    have e39 : mI M2 134 31 - (1 : Int32) = i32 39 := by rw [h312]; rfl
    rw [e39] at e2
    have gs : Chg (fun b j => b = 134 ∧ j = 31) M2 (sI M2 134 31 (i32 39)) := (Chg.rf _ M2).sI ⟨rfl, rfl⟩
    have hE2 : RE (sI M2 134 31 (i32 39)) A := by
      obtain ⟨a0, a1, a2, a3⟩ := hE
      refine ⟨a0, fun l hl => ?_, fun l j hl hj => ?_, ?_⟩
      · rw [gs.i (by omega), g2.i (by omega)]; exact a1 l hl
      · rw [gs.i (by omega), g2.i (by omega)]; exact a2 l j hl hj
      · rw [gs.i (by omega), g2.i (by omega)]; exact a3
    obtain ⟨M3, e3, g3, q3, q4⟩ := X12_keep54 (hL2.all gs) hE2 (n := 39) (by omega) mI_sI_eq
    refine ⟨M3, ?_, (g2.mono (fun b j q => Or.inl q)).tr ((gs.mono (fun b j q => Or.inr q)).tr (g3.mono (fun b j q => by omega))), fun q => by omega, fun _ => ⟨q3, q4, fun i hi => ?_⟩⟩
    · unfold f_X12_keep
      rw [if_pos hL.k, h31, if_pos (by rfl)]
      have e2 : f_X12_keep_13 FUEL 134 (969 : Int32) M = _ := e2
      rw [e2]
      exact e3
    · rw [g3.i (by omega), gs.i (by omega), q2 i (by omega)]
end
