/-! pipe: the calls -/
def P00 : Pp := (0, fun _ => 0, fun _ => 0)
theorem P00_ok : P00.ok := ⟨by decide, fun k hk => absurd hk (Nat.not_lt_zero k)⟩
/-- what a text's reading noted: the place, how many were refused -/
def a_pipe (t : Nat → Int) (z : Nat) (n : Int) : Nat ⊕ Int32 := if 0 ≤ n ∧ n ≤ z then (match pipF t n.toNat (n.toNat + 1) 0 P00 with
  | .inl q => .inr (i32 q.1)
  | .inr _ => .inr (i32 0)) else .inl 2
/-- the cells that pipe writes -/
def pwI (q : Nat) (a j : Nat) : Prop := (a = 2 ∧ 1 ≤ j ∧ j ≤ 5) ∨ (a = q ∧ j = 0) ∨ a = q + 2 ∨ a = q + 3 ∨ (a = 1 ∧ j = 14) ∨ (a = 18 ∧ j = 4)
def pwR (a j : Nat) : Prop := a = 1 ∧ (j = 11 ∨ j = 12)
section
variable {M : Mem} {t : Nat → Int} {z p q : Nat}
theorem c_pipe (hL : CLay M) (hT : TPc M t z) (hp : q = 124 ∨ q = 129) (hq : PiLay M q) (hm : 164 ≤ mn M) (h11 : mR M 1 11 = p) (hpm : p ≤ 164) (h12 : mR M 1 12 = q) (n : Int) (n1 : -2147483648 ≤ n) (n2 : n ≤ 2147483647) : ∃ M', f_X11_pipe 1 (i32 n) M = some (a_pipe t z n, M') ∧ Fr (pwI q) pwR M M' ∧ (if 0 ≤ n ∧ n ≤ z then (mI M' 2 1 = i32 0 ∧ (match pipF t n.toNat (n.toNat + 1) 0 P00 with
    | .inl f => mI M' 1 14 = i32 f.2 ∧ mI M' 18 4 = mI M 18 4 + i32 1 ∧ mR M' = mR M
    | .inr P => mI M' 1 14 = i32 (-1) ∧ mI M' 18 4 = mI M 18 4 ∧ mR M' 1 11 = q ∧ mR M' 1 12 = p ∧ P.ok ∧ CP M' q P)) else M' = M) := by
  have en := X11_needTape hL hT n n1 n2
  unfold a_pipe
  by_cases c : 0 ≤ n ∧ n ≤ z
  · rw [if_pos c] at en
    simp only [c, and_self, if_true]
    obtain ⟨n, rfl⟩ : ∃ k : Nat, n = k := ⟨n.toNat, by omega⟩
    simp only [Int.toNat_natCast]
    obtain ⟨M1, e1, g1, x1, k1, s1⟩ := X9_open hL hT (n := n) (by omega)
    have hL1 := hL.all g1
    have hq1 := hq.all g1
    have g2 : Chg (piC q) M1 (sI M1 q 0 (0 : Int32)) := (Chg.rf _ M1).sI (by unfold piC; omega)
    obtain ⟨r, M2, e2, g3, m2⟩ := X3_read7 hp (n + 1) 0 FUEL 0 P00 (sI M1 q 0 (0 : Int32)) (by omega) (by omega) (by have := x1.2.2.1; unfold FUEL; omega) (by omega) (hL1.all g2) (hq1.all g2) (x1.pic (by omega) g2) ⟨by rw [mI_sI_ne (by omega)]; exact k1.1, by rw [mI_sI_ne (by omega)]; exact k1.2.1, by rw [mI_sI_ne (by omega)]; exact k1.2.2⟩ P00_ok ⟨mI_sI_eq, fun k hk => absurd hk (Nat.not_lt_zero k), fun k hk => absurd hk (Nat.not_lt_zero k)⟩
    have hL2 := (hL1.all g2).all g3
    have e3 : f_X3_read q 2 M1 = some (i32 r, M2) := by
      rw [← e2]
      unfold f_X3_read
      rw [if_pos hq1.o.1, ap_of]
      rfl
    have g12 : Chg (pwI q) M M2 := (g1.mono (fun a j w => Or.inl w)).tr ((g2.tr g3).mono (fun a j w => by unfold piC tkC at w; show (a = 2 ∧ 1 ≤ j ∧ j ≤ 5) ∨ (a = q ∧ j = 0) ∨ a = q + 2 ∨ a = q + 3 ∨ (a = 1 ∧ j = 14) ∨ (a = 18 ∧ j = 4); omega))
    have h11' : mR M2 1 11 = p := by rw [g12.r]; exact h11
    have h12' : mR M2 1 12 = q := by rw [g12.r]; exact h12
    have s2 : mI M2 2 1 = i32 0 := by
      rw [g3.i (by unfold piC tkC; omega), g2.i (by unfold piC tkC; omega)]; exact s1
    have s4 : mI M2 18 4 = mI M 18 4 := by rw [g3.i (by unfold piC tkC; omega), g2.i (by unfold piC tkC; omega), g1.i (by omega)]
    have k0 : mK M 1 = 12 := by simp only [hL.o]
    have r00 : mR M 1 0 = 2 := by simp only [hL.o]
    have k02 : mK M 2 = 10 := by simp only [hL.o]
    have k01 : mK M1 1 = 12 := by simp only [hL1.o]
    have r01 : mR M1 1 0 = 2 := by simp only [hL1.o]
    have kq1 : mK M1 q = 4 := hq1.o.1
    have h12'' : mR M1 1 12 = q := by rw [g1.r]; exact h12
    have k2 : mK M2 1 = 12 := by simp only [hL2.o]
    have head : ∀ X, bnd (f_X11_noteFault 1 (i32 r) M2) (fun r14 M13 => if r14 = 0 then if mK M13 1 = 12 then if okrB M13 [mR M13 1 12] = true then ap (sR M13 1 11 (mR M13 1 12)) fun M17 => if mK M17 1 = 12 then if okrB M17 [mR M13 1 11] = true then ap (sR M17 1 12 (mR M13 1 11)) fun M20 => some (.inr (0 : Int32), M20) else none else none else none else none else some (.inr (i32 r), M13)) = some X → f_X11_pipe 1 (i32 n) M = some X := by
      intro X hX
      unfold f_X11_pipe
      rw [if_pos k0, bxX en, if_pos k0, r00, if_pos k02, bx e1, if_pos k01, h12'', r01, if_pos kq1, bx e3, if_pos k2]
      exact hX
    cases hpf : pipF t n (n + 1) 0 P00 with
    | inl f =>
      rw [hpf] at m2
      simp only [] at m2 ⊢
      obtain ⟨m3, m4, m5, m6, m7⟩ := m2
      subst m3
      have e4 := X11_noteF hL2 f.1 m4 (by omega)
      refine ⟨sI (sI M2 1 14 (mI M2 2 4)) 18 4 (mI M2 18 4 + i32 1), head (.inr (i32 f.1), _) ?_, (g12.fr (fun a j w => w)).tr (((Fr.rf _ _ M2).sI (a := 1) (k := 14) (by unfold pwI; omega)).sI (a := 18) (k := 4) (by unfold pwI; omega)), ?_, ?_, ?_, ?_⟩
      · rw [bx e4, if_neg (by decide)]
      · rw [mI_sI_ne (by omega), mI_sI_ne (by omega)]; exact s2
      · rw [mI_sI_ne (by omega), mI_sI_eq]; exact m6
      · rw [mI_sI_eq, s4]
      · rw [mR_sI, mR_sI, g12.r]
    | inr P =>
      rw [hpf] at m2
      simp only [] at m2 ⊢
      obtain ⟨m3, m4, m5⟩ := m2
      subst m3
      have e4 := X11_note0 hL2
      have hmn : mn M2 = mn M := g12.2.2.1
      refine ⟨sR (sR (sI M2 1 14 (i32 (-1))) 1 11 q) 1 12 p, head _ ?_, ((g12.fr (fun a j w => w)).tr ((Fr.rf _ _ M2).sI (a := 1) (k := 14) (by unfold pwI; omega))).tr (((Fr.rf _ _ _).sR (a := 1) (k := 11) (by unfold pwR; omega)).sR (a := 1) (k := 12) (by unfold pwR; omega)), ?_, ?_, ?_, ?_, ?_, m4, ?_⟩
      · rw [bx e4, if_pos (by rfl), if_pos (by exact k2), mR_sI, h12', h11', if_pos (by rw [okB1 (by show q ≤ mn M2; omega)]; trivial), ap_of, if_pos (by exact k2), if_pos (by rw [okrB_sR, okB1 (by show p ≤ mn M2; omega)]; trivial), ap_of]
        rfl
      · rw [mI_sR, mI_sR, mI_sI_ne (by omega)]; exact s2
      · rw [mI_sR, mI_sR, mI_sI_eq]
      · rw [mI_sR, mI_sR, mI_sI_ne (by omega)]; exact s4
      · rw [mR_sR_ne (by omega), mR_sR_eq]
      · rw [mR_sR_eq]
      · obtain ⟨c1, c2, c3⟩ := m5
        refine ⟨?_, fun k hk => ?_, fun k hk => ?_⟩
        · rw [mI_sR, mI_sR, mI_sI_ne (by omega)]; exact c1
        · rw [mI_sR, mI_sR, mI_sI_ne (by omega)]; exact c2 k hk
        · rw [mI_sR, mI_sR, mI_sI_ne (by omega)]; exact c3 k hk
  · rw [if_neg c] at en
    simp only [c, if_false]
    refine ⟨M, ?_, Fr.rf _ _ M, rfl⟩
    have k0 : mK M 1 = 12 := by simp only [hL.o]
    unfold f_X11_pipe
    rw [if_pos k0, bxL en]
/-- the cells that the reference's pipe writes -/
def rpI (a j : Nat) : Prop := (a = 134 ∧ (j = 2 ∨ (5 ≤ j ∧ j ≤ 14) ∨ j = 47)) ∨ a = 158 ∨ a = 159 ∨ (a = 138 ∧ j = 0)
theorem r_pipe138 {P : Pp} (hP : P.ok) : ∀ (k j m : Nat) (M : Mem), j + k = P.n → k < m → RLay M → RP8 M P → (∀ i, i < j → mI M 158 i = i32 (P.kd i) ∧ mI M 159 i = i32 (P.nu i)) → ∃ M', f_X12_pipe_138 m 134 (i32 P.n) (i32 j) M = some (i32 0, M') ∧ Chg (fun a _ => a = 158 ∨ a = 159) M M' ∧ ∀ i, i < P.n → mI M' 158 i = i32 (P.kd i) ∧ mI M' 159 i = i32 (P.nu i) := by
  have h8 := hP.1
  intro k
  induction k with
  | zero =>
    intro j m M hj hm hL h8 hd
    obtain ⟨m, rfl⟩ : ∃ q, m = q + 1 := ⟨m - 1, by omega⟩
    refine ⟨M, ?_, Chg.rf _ M, fun i hi => hd i (by omega)⟩
    simp (disch := omega) only [↓reduceIte, add_i0, cast_add1, cast_sub1, toNat120, i32_lit, i32_neg, i32_add, i32_sub, i32_mul, i32_nat, i32_le, i32_lt, i32_eq, inB_i, Int.toNat_natCast, mI_sI_eq, mI_sI_ne, mR_sR_eq, mR_sR_ne, mI_sR, mR_sI, mK_sI, mN_sI, mn_sI, mJ_sI, mK_sR, mN_sR, mn_sR, mJ_sR, mI_wI, mR_wI, mK_wI, mN_wI, mn_wI, mJ_wI, ↓bnd_of, ↓bndX_r, ↓bndX_l, ↓ap_nr, bnd_of, bndX_r, bndX_l, if_true, if_false, ite_true, ite_false, not_true_eq_false, not_false_eq_true, Nat.reduceAdd, Nat.reduceMul, Nat.reduceEqDiff, Int.reduceToNat, Int.reduceNeg, Ilt_t, Ilt_f, Ile_t, Ile_f, Ieq_t, Ieq_f, Nlt_t, Nlt_f, Nle_t, Nle_f, Neq_t, Neq_f, or_true, true_or, or_false, false_or, and_true, true_and, and_false, false_and, ne_eq, or_self, and_self, decide_true, decide_false, Bool.false_eq_true, f_X12_pipe_138]
  | succ k ih =>
    intro j m M hj hm hL h8 hd
    obtain ⟨m, rfl⟩ : ∃ q, m = q + 1 := ⟨m - 1, by omega⟩
    have q1 := h8.1 j (by omega)
    have q2 := h8.2 j (by omega)
    have g : Chg (fun a _ => a = 158 ∨ a = 159) M (sI (sI M 158 j (i32 (P.kd j))) 159 j (i32 (P.nu j))) := ((Chg.rf _ M).sI (Or.inl rfl)).sI (Or.inr rfl)
    obtain ⟨M', e1, g1, e2⟩ := ih (j + 1) m _ (by omega) (by omega) (hL.all g) ⟨fun k hk => by have := h8.1 k hk; simp (disch := omega) only [↓reduceIte, add_i0, cast_add1, cast_sub1, toNat120, i32_lit, i32_neg, i32_add, i32_sub, i32_mul, i32_nat, i32_le, i32_lt, i32_eq, inB_i, Int.toNat_natCast, mI_sI_eq, mI_sI_ne, mR_sR_eq, mR_sR_ne, mI_sR, mR_sI, mK_sI, mN_sI, mn_sI, mJ_sI, mK_sR, mN_sR, mn_sR, mJ_sR, mI_wI, mR_wI, mK_wI, mN_wI, mn_wI, mJ_wI, ↓bnd_of, ↓bndX_r, ↓bndX_l, ↓ap_nr, bnd_of, bndX_r, bndX_l, if_true, if_false, ite_true, ite_false, not_true_eq_false, not_false_eq_true, Nat.reduceAdd, Nat.reduceMul, Nat.reduceEqDiff, Int.reduceToNat, Int.reduceNeg, Ilt_t, Ilt_f, Ile_t, Ile_f, Ieq_t, Ieq_f, Nlt_t, Nlt_f, Nle_t, Nle_f, Neq_t, Neq_f, or_true, true_or, or_false, false_or, and_true, true_and, and_false, false_and, ne_eq, or_self, and_self, decide_true, decide_false, Bool.false_eq_true, this], fun k hk => by have := h8.2 k hk; simp (disch := omega) only [↓reduceIte, add_i0, cast_add1, cast_sub1, toNat120, i32_lit, i32_neg, i32_add, i32_sub, i32_mul, i32_nat, i32_le, i32_lt, i32_eq, inB_i, Int.toNat_natCast, mI_sI_eq, mI_sI_ne, mR_sR_eq, mR_sR_ne, mI_sR, mR_sI, mK_sI, mN_sI, mn_sI, mJ_sI, mK_sR, mN_sR, mn_sR, mJ_sR, mI_wI, mR_wI, mK_wI, mN_wI, mn_wI, mJ_wI, ↓bnd_of, ↓bndX_r, ↓bndX_l, ↓ap_nr, bnd_of, bndX_r, bndX_l, if_true, if_false, ite_true, ite_false, not_true_eq_false, not_false_eq_true, Nat.reduceAdd, Nat.reduceMul, Nat.reduceEqDiff, Int.reduceToNat, Int.reduceNeg, Ilt_t, Ilt_f, Ile_t, Ile_f, Ieq_t, Ieq_f, Nlt_t, Nlt_f, Nle_t, Nle_f, Neq_t, Neq_f, or_true, true_or, or_false, false_or, and_true, true_and, and_false, false_and, ne_eq, or_self, and_self, decide_true, decide_false, Bool.false_eq_true, this]⟩ (fun i hi => by
      by_cases e : i = j
      · subst e
        exact ⟨by simp (disch := omega) only [↓reduceIte, add_i0, cast_add1, cast_sub1, toNat120, i32_lit, i32_neg, i32_add, i32_sub, i32_mul, i32_nat, i32_le, i32_lt, i32_eq, inB_i, Int.toNat_natCast, mI_sI_eq, mI_sI_ne, mR_sR_eq, mR_sR_ne, mI_sR, mR_sI, mK_sI, mN_sI, mn_sI, mJ_sI, mK_sR, mN_sR, mn_sR, mJ_sR, mI_wI, mR_wI, mK_wI, mN_wI, mn_wI, mJ_wI, ↓bnd_of, ↓bndX_r, ↓bndX_l, ↓ap_nr, bnd_of, bndX_r, bndX_l, if_true, if_false, ite_true, ite_false, not_true_eq_false, not_false_eq_true, Nat.reduceAdd, Nat.reduceMul, Nat.reduceEqDiff, Int.reduceToNat, Int.reduceNeg, Ilt_t, Ilt_f, Ile_t, Ile_f, Ieq_t, Ieq_f, Nlt_t, Nlt_f, Nle_t, Nle_f, Neq_t, Neq_f, or_true, true_or, or_false, false_or, and_true, true_and, and_false, false_and, ne_eq, or_self, and_self, decide_true, decide_false, Bool.false_eq_true], by simp (disch := omega) only [↓reduceIte, add_i0, cast_add1, cast_sub1, toNat120, i32_lit, i32_neg, i32_add, i32_sub, i32_mul, i32_nat, i32_le, i32_lt, i32_eq, inB_i, Int.toNat_natCast, mI_sI_eq, mI_sI_ne, mR_sR_eq, mR_sR_ne, mI_sR, mR_sI, mK_sI, mN_sI, mn_sI, mJ_sI, mK_sR, mN_sR, mn_sR, mJ_sR, mI_wI, mR_wI, mK_wI, mN_wI, mn_wI, mJ_wI, ↓bnd_of, ↓bndX_r, ↓bndX_l, ↓ap_nr, bnd_of, bndX_r, bndX_l, if_true, if_false, ite_true, ite_false, not_true_eq_false, not_false_eq_true, Nat.reduceAdd, Nat.reduceMul, Nat.reduceEqDiff, Int.reduceToNat, Int.reduceNeg, Ilt_t, Ilt_f, Ile_t, Ile_f, Ieq_t, Ieq_f, Nlt_t, Nlt_f, Nle_t, Nle_f, Neq_t, Neq_f, or_true, true_or, or_false, false_or, and_true, true_and, and_false, false_and, ne_eq, or_self, and_self, decide_true, decide_false, Bool.false_eq_true]⟩
      · have := hd i (by omega)
        exact ⟨by simp (disch := omega) only [↓reduceIte, add_i0, cast_add1, cast_sub1, toNat120, i32_lit, i32_neg, i32_add, i32_sub, i32_mul, i32_nat, i32_le, i32_lt, i32_eq, inB_i, Int.toNat_natCast, mI_sI_eq, mI_sI_ne, mR_sR_eq, mR_sR_ne, mI_sR, mR_sI, mK_sI, mN_sI, mn_sI, mJ_sI, mK_sR, mN_sR, mn_sR, mJ_sR, mI_wI, mR_wI, mK_wI, mN_wI, mn_wI, mJ_wI, ↓bnd_of, ↓bndX_r, ↓bndX_l, ↓ap_nr, bnd_of, bndX_r, bndX_l, if_true, if_false, ite_true, ite_false, not_true_eq_false, not_false_eq_true, Nat.reduceAdd, Nat.reduceMul, Nat.reduceEqDiff, Int.reduceToNat, Int.reduceNeg, Ilt_t, Ilt_f, Ile_t, Ile_f, Ieq_t, Ieq_f, Nlt_t, Nlt_f, Nle_t, Nle_f, Neq_t, Neq_f, or_true, true_or, or_false, false_or, and_true, true_and, and_false, false_and, ne_eq, or_self, and_self, decide_true, decide_false, Bool.false_eq_true, e, this], by simp (disch := omega) only [↓reduceIte, add_i0, cast_add1, cast_sub1, toNat120, i32_lit, i32_neg, i32_add, i32_sub, i32_mul, i32_nat, i32_le, i32_lt, i32_eq, inB_i, Int.toNat_natCast, mI_sI_eq, mI_sI_ne, mR_sR_eq, mR_sR_ne, mI_sR, mR_sI, mK_sI, mN_sI, mn_sI, mJ_sI, mK_sR, mN_sR, mn_sR, mJ_sR, mI_wI, mR_wI, mK_wI, mN_wI, mn_wI, mJ_wI, ↓bnd_of, ↓bndX_r, ↓bndX_l, ↓ap_nr, bnd_of, bndX_r, bndX_l, if_true, if_false, ite_true, ite_false, not_true_eq_false, not_false_eq_true, Nat.reduceAdd, Nat.reduceMul, Nat.reduceEqDiff, Int.reduceToNat, Int.reduceNeg, Ilt_t, Ilt_f, Ile_t, Ile_f, Ieq_t, Ieq_f, Nlt_t, Nlt_f, Nle_t, Nle_f, Neq_t, Neq_f, or_true, true_or, or_false, false_or, and_true, true_and, and_false, false_and, ne_eq, or_self, and_self, decide_true, decide_false, Bool.false_eq_true, e, this]⟩)
    refine ⟨M', ?_, g.tr g1, e2⟩
    rw [← e1]
    simp (disch := omega) only [↓reduceIte, add_i0, cast_add1, cast_sub1, toNat120, i32_lit, i32_neg, i32_add, i32_sub, i32_mul, i32_nat, i32_le, i32_lt, i32_eq, inB_i, Int.toNat_natCast, mI_sI_eq, mI_sI_ne, mR_sR_eq, mR_sR_ne, mI_sR, mR_sI, mK_sI, mN_sI, mn_sI, mJ_sI, mK_sR, mN_sR, mn_sR, mJ_sR, mI_wI, mR_wI, mK_wI, mN_wI, mn_wI, mJ_wI, ↓bnd_of, ↓bndX_r, ↓bndX_l, ↓ap_nr, bnd_of, bndX_r, bndX_l, if_true, if_false, ite_true, ite_false, not_true_eq_false, not_false_eq_true, Nat.reduceAdd, Nat.reduceMul, Nat.reduceEqDiff, Int.reduceToNat, Int.reduceNeg, Ilt_t, Ilt_f, Ile_t, Ile_f, Ieq_t, Ieq_f, Nlt_t, Nlt_f, Nle_t, Nle_f, Neq_t, Neq_f, or_true, true_or, or_false, false_or, and_true, true_and, and_false, false_and, ne_eq, or_self, and_self, decide_true, decide_false, Bool.false_eq_true, f_X12_pipe_138, hL.o, toNatA8, q1, q2]
theorem r_pipe (hL : RLay M) (hT : TPr M t z) (n : Int) (n1 : -2147483648 ≤ n) (n2 : n ≤ 2147483647) : ∃ x M', f_X12_pipe 134 (i32 n) M = some (x, M') ∧ Chg rpI M M' ∧ (if 0 ≤ n ∧ n ≤ z then (mI M' 134 2 = i32 0 ∧ a_pipe t z n = .inr x ∧ mI M' 134 5 = i32 0 ∧ (match pipF t n.toNat (n.toNat + 1) 0 P00 with
    | .inl f => mI M' 134 14 = i32 f.2 ∧ mI M' 138 0 = mI M 138 0 + i32 1 ∧ mI M' 134 47 = mI M 134 47 ∧ ∀ k, k < 8 → mI M' 158 k = mI M 158 k ∧ mI M' 159 k = mI M 159 k
    | .inr P => mI M' 134 14 = i32 (-1) ∧ mI M' 138 0 = mI M 138 0 ∧ RP M' P)) else (mI M' 134 2 = i32 1 ∧ Chg (fun a j => a = 134 ∧ j = 2) M M')) := by
  unfold a_pipe
  by_cases c : 0 ≤ n ∧ n ≤ z
  · simp only [c, and_self, if_true]
    obtain ⟨n, rfl⟩ : ∃ k : Nat, n = k := ⟨n.toNat, by omega⟩
    simp only [Int.toNat_natCast]
    obtain ⟨M1, e1, g1, x1, h6, hb, h5, h2⟩ := X12_beginY hL hT (n := n) (by omega)
    have hL1 := hL.all g1
    obtain ⟨M2, e2, g2, k2⟩ := X12_stepOn hL1 x1 h6 (by omega)
    have hL2 := hL1.all g2
    have hb2 : mI M2 134 12 = i32 0 := by rw [g2.i (by unfold tkR; omega)]; exact hb
    obtain ⟨w, M3, e3, g3, m3⟩ := X12_pipe16 (n + 1) FUEL 0 P00 M2 (by omega) (by omega) (by have := x1.2.2.1; unfold FUEL; omega) hL2 (x1.tkr g2) k2 hb2 P00_ok ⟨fun k hk => absurd hk (Nat.not_lt_zero k), fun k hk => absurd hk (Nat.not_lt_zero k)⟩
    have hL3 := hL2.all g3
    have e4 : f_X12_pipe 134 (i32 n) M = f_X12_pipe_119 134 (i32 w) M3 := by
      rw [← e3]
      unfold f_X12_pipe
      rw [if_pos hL.k, bx e1, if_neg (by decide), if_pos hL1.k, bx e2]
      rfl
    have g13 : Chg rpI M M3 := (g1.mono (fun a j q => by unfold bgR at q; unfold rpI; omega)).tr ((g2.mono (fun a j q => by unfold tkR at q; unfold rpI; omega)).tr (g3.mono (fun a j q => by unfold piR rdR at q; unfold rpI; omega)))
    have y5 : mI M3 134 5 = i32 0 := by rw [g3.i (by unfold piR rdR; omega), g2.i (by unfold tkR; omega)]; exact h5
    have y2 : mI M3 134 2 = i32 0 := by rw [g3.i (by unfold piR rdR; omega), g2.i (by unfold tkR; omega)]; exact h2
    have y38 : mI M3 138 0 = mI M 138 0 := by rw [g3.i (by unfold piR rdR; omega), g2.i (by unfold tkR; omega), g1.i (by unfold bgR; omega)]
    have y47 : mI M3 134 47 = mI M 134 47 := by rw [g3.i (by unfold piR rdR; omega), g2.i (by unfold tkR; omega), g1.i (by unfold bgR; omega)]
    have y58 : ∀ a k, a = 158 ∨ a = 159 → k < 8 → mI M3 a k = mI M a k := fun a k q1 q2 => by rw [g3.i (by unfold piR rdR; omega), g2.i (by unfold tkR; omega), g1.i (by unfold bgR; omega)]
    rw [e4]
    cases hpf : pipF t n (n + 1) 0 P00 with
    | inl f =>
      rw [hpf] at m3
      simp only [] at m3 ⊢
      obtain ⟨M4, e5, g4, z1, z2⟩ := X12_endedF hL3 m3
      have hL4 := hL3.all g4
      have nz : ¬ (i32 f.1 = i32 0) := by
        obtain ⟨b1, b2, b3, b4⟩ := m3
        exact i32_ne (by omega) (by omega) (by omega) (by omega) (by omega)
      have nz : ¬ (i32 f.1 = (0 : Int32)) := nz
      have y12 : mI M4 134 12 = i32 f.1 := by rw [g4.i (by unfold enR; omega)]; exact m3.1
      refine ⟨i32 f.1, M4, ?_, g13.tr (g4.mono (fun a j q => by unfold enR at q; unfold rpI; omega)), ?_, rfl, ?_, z1, ?_, ?_, ?_⟩
      · unfold f_X12_pipe_119
        rw [if_pos hL3.k, bx e5, if_neg nz, if_pos hL4.k, y12]
      · rw [g4.i (by unfold enR; omega)]; exact y2
      · rw [g4.i (by unfold enR; omega)]; exact y5
      · rw [z2, y38]
      · rw [g4.i (by unfold enR; omega)]; exact y47
      · intro k hk
        rw [g4.i (by unfold enR; omega), g4.i (by unfold enR; omega)]
        exact ⟨y58 158 k (Or.inl rfl) hk, y58 159 k (Or.inr rfl) hk⟩
    | inr P =>
      rw [hpf] at m3
      simp only [] at m3 ⊢
      obtain ⟨m4, m5, m6, m7⟩ := m3
      subst m4
      obtain ⟨M4, e5, g4, z1, z2⟩ := X12_ended0 hL3 m5
      have hL4 := hL3.all g4
      have g5 : Chg rpI M4 (sI M4 134 47 (i32 P.n)) := (Chg.rf _ M4).sI (by unfold rpI; omega)
      obtain ⟨M6, e6, g6, z6⟩ := r_pipe138 m6 P.n 0 FUEL (sI M4 134 47 (i32 P.n)) (by omega) (by have := m6.1; unfold FUEL; omega) (hL4.all g5) ⟨fun k hk => by have := m7.1 k hk; rw [← g4.i (a := 158) (j := 8 + k) (by unfold enR; omega)] at this; simp (disch := omega) only [↓reduceIte, add_i0, cast_add1, cast_sub1, toNat120, i32_lit, i32_neg, i32_add, i32_sub, i32_mul, i32_nat, i32_le, i32_lt, i32_eq, inB_i, Int.toNat_natCast, mI_sI_eq, mI_sI_ne, mR_sR_eq, mR_sR_ne, mI_sR, mR_sI, mK_sI, mN_sI, mn_sI, mJ_sI, mK_sR, mN_sR, mn_sR, mJ_sR, mI_wI, mR_wI, mK_wI, mN_wI, mn_wI, mJ_wI, ↓bnd_of, ↓bndX_r, ↓bndX_l, ↓ap_nr, bnd_of, bndX_r, bndX_l, if_true, if_false, ite_true, ite_false, not_true_eq_false, not_false_eq_true, Nat.reduceAdd, Nat.reduceMul, Nat.reduceEqDiff, Int.reduceToNat, Int.reduceNeg, Ilt_t, Ilt_f, Ile_t, Ile_f, Ieq_t, Ieq_f, Nlt_t, Nlt_f, Nle_t, Nle_f, Neq_t, Neq_f, or_true, true_or, or_false, false_or, and_true, true_and, and_false, false_and, ne_eq, or_self, and_self, decide_true, decide_false, Bool.false_eq_true, this], fun k hk => by have := m7.2 k hk; rw [← g4.i (a := 159) (j := 8 + k) (by unfold enR; omega)] at this; simp (disch := omega) only [↓reduceIte, add_i0, cast_add1, cast_sub1, toNat120, i32_lit, i32_neg, i32_add, i32_sub, i32_mul, i32_nat, i32_le, i32_lt, i32_eq, inB_i, Int.toNat_natCast, mI_sI_eq, mI_sI_ne, mR_sR_eq, mR_sR_ne, mI_sR, mR_sI, mK_sI, mN_sI, mn_sI, mJ_sI, mK_sR, mN_sR, mn_sR, mJ_sR, mI_wI, mR_wI, mK_wI, mN_wI, mn_wI, mJ_wI, ↓bnd_of, ↓bndX_r, ↓bndX_l, ↓ap_nr, bnd_of, bndX_r, bndX_l, if_true, if_false, ite_true, ite_false, not_true_eq_false, not_false_eq_true, Nat.reduceAdd, Nat.reduceMul, Nat.reduceEqDiff, Int.reduceToNat, Int.reduceNeg, Ilt_t, Ilt_f, Ile_t, Ile_f, Ieq_t, Ieq_f, Nlt_t, Nlt_f, Nle_t, Nle_f, Neq_t, Neq_f, or_true, true_or, or_false, false_or, and_true, true_and, and_false, false_and, ne_eq, or_self, and_self, decide_true, decide_false, Bool.false_eq_true, this]⟩ (fun i hi => by omega)
      refine ⟨i32 0, M6, ?_, g13.tr ((g4.mono (fun a j q => by unfold enR at q; unfold rpI; omega)).tr (g5.tr (g6.mono (fun a j q => by unfold rpI; omega)))), ?_, rfl, ?_, ?_, ?_, ?_, fun k hk => (z6 k hk).1, fun k hk => (z6 k hk).2⟩
      · unfold f_X12_pipe_119
        rw [if_pos hL3.k, bx e5, if_pos (by rfl), if_pos hL4.k, ap_of]
        exact e6
      · rw [g6.i (by omega), mI_sI_ne (by omega), g4.i (by unfold enR; omega)]; exact y2
      · rw [g6.i (by omega), mI_sI_ne (by omega), g4.i (by unfold enR; omega)]; exact y5
      · rw [g6.i (by omega), mI_sI_ne (by omega)]; exact z1
      · rw [g6.i (by omega), mI_sI_ne (by omega), z2, y38]
      · rw [g6.i (by omega)]
        exact mI_sI_eq
  · simp only [c, if_false]
    obtain ⟨M1, e1, g1, h2⟩ := X12_beginN hL hT n n1 n2 c
    refine ⟨i32 0, M1, ?_, g1.mono (fun a j q => by unfold rpI; omega), h2, g1⟩
    unfold f_X12_pipe
    rw [if_pos hL.k, bx e1, if_pos (by rfl)]
    rfl
end
