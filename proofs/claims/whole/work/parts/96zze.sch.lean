/-! schema, view in the reference: the calls -/
def rsI (a j : Nat) : Prop := shR a j ∨ (a = 134 ∧ j = 26)
section
variable {M M' : Mem} {S : Sc} {vw : Bool} {t : Nat → Int} {n z : Nat} {A : St}
theorem X12_readSchema (hn7 : n ≤ 700) (hL : RLay M) (hT : TXr M t n) (h6 : mI M 134 6 = i32 ((0 : Nat) : Int)) (hb : mI M 134 12 = i32 0) (hv : vw = true → RS0 M S ∧ S.ok) : ∃ M', f_X12_readSchema 134 (i32 (if vw = true then 1 else 0)) M = some ((), M') ∧ Chg rsI M M' ∧ match shF vw S t n (n + 1) 0 T00 (-1) 0 with
    | .inl y => RBad M' y.1 y.2
    | .inr T => mI M' 134 12 = i32 0 ∧ RTr M' T vw := by
  have t2 : (2 : Int32).toNatClampNeg = 2 := by decide
  have zb : zB (i32 (if vw = true then 1 else 0)) = true := by cases vw <;> decide
  have r23 : mR M 134 23 = 147 := by simp only [hL.o]
  have k147 : mK M 147 = 21 := by simp only [hL.o]
  have n147 : mN M 147 = 3 := by simp only [hL.o]
  have r24 : mR M 134 24 = 148 := by simp only [hL.o]
  have k148 : mK M 148 = 21 := by simp only [hL.o]
  have n148 : mN M 148 = 3 := by simp only [hL.o]
  obtain ⟨M1, em⟩ : ∃ M1, sI (sI (sI M 134 26 (i32 (if vw = true then 1 else 0))) 147 2 (0 : Int32)) 148 2 (0 : Int32) = M1 := ⟨_, rfl⟩
  have g1 : Chg rsI M M1 := by
    rw [← em]
    exact (((Chg.rf rsI M).sI (Or.inr ⟨rfl, rfl⟩)).sI (Or.inl (by unfold shR; omega))).sI (Or.inl (by unfold shR; omega))
  have g1b : Chg (fun a j => (a = 134 ∧ j = 26) ∨ ((a = 147 ∨ a = 148) ∧ j = 2)) M M1 := by
    rw [← em]
    exact (((Chg.rf _ M).sI (by omega)).sI (by omega)).sI (by omega)
  have hL1 := hL.all g1
  have hT1 : TXr M1 t n := hT.chg g1b (by omega) (fun i => by omega)
  have h61 : mI M1 134 6 = i32 ((0 : Nat) : Int) := by rw [g1b.i (by omega)]; exact h6
  have hb1 : mI M1 134 12 = i32 0 := by rw [g1b.i (by omega)]; exact hb
  obtain ⟨M2, e2, g2, k2⟩ := X12_stepOn hL1 hT1 h61 (by omega)
  have gs2 : Chg shR M1 M2 := g2.mono tk_shr
  have hR1 : SRL M1 S vw t n := ⟨hL1, hT1, by rw [← em, mI_sI_ne (by omega), mI_sI_ne (by omega), mI_sI_eq], fun w => by
    obtain ⟨r, o⟩ := hv w
    refine ⟨?_, o⟩
    have hnf := o.1
    have hln := o.2.2.2.2.2.2.2.1
    obtain ⟨c0, c1, c2, c3, c4, c5, c6, c7, c8, c9, c10⟩ := r
    exact ⟨by rw [g1b.i (by omega)]; exact c0, by rw [g1b.i (by omega)]; exact c1, fun f h => by rw [g1b.i (by omega)]; exact c2 f h, fun f h => by rw [g1b.i (by omega)]; exact c3 f h, fun f h => by rw [g1b.i (by omega)]; exact c4 f h, fun f h => by rw [g1b.i (by omega)]; exact c5 f h, fun f h => by rw [g1b.i (by omega)]; exact c6 f h, fun f h => by rw [g1b.i (by omega)]; exact c7 f h, fun f i h hi => by rw [g1b.i (by omega)]; exact c8 f i h hi, fun f h => by rw [g1b.i (by omega)]; exact c9 f h, fun l h => by rw [g1b.i (by omega)]; exact c10 l h⟩⟩
  have hR2 := hR1.chg gs2
  have hb2 := bad.tk hb1 g2
  have tr2 : RTr M2 T00 vw := by
    refine ⟨by rw [g2.i (by unfold tkR; omega), ← em, mI_sI_ne (by omega), mI_sI_eq]; rfl, by rw [g2.i (by unfold tkR; omega), ← em, mI_sI_eq]; rfl, fun f hf => absurd hf (Nat.not_lt_zero f), fun f hf => absurd hf (Nat.not_lt_zero f), fun f hf => absurd hf (Nat.not_lt_zero f), fun f hf => absurd hf (Nat.not_lt_zero f), fun f hf => absurd hf (Nat.not_lt_zero f), fun f hf => absurd hf (Nat.not_lt_zero f), fun f i hf => absurd hf (Nat.not_lt_zero f), fun f hf => absurd hf (Nat.not_lt_zero f)⟩
  obtain ⟨M3, e3, g3, r3⟩ := X12_fieldsO (kF := f_X12_readFields 5) (d := 0) (g := -1) (T := T00) (dp := fun _ => 0) hn7 (fun _ => HKs_rf hn7 3 0 (by omega)) hR2 tr2 BI_start (Or.inl ⟨rfl, rfl⟩) (Nat.zero_le n) k2 hb2
  have e3 : f_X12_readFields 6 134 (-1 : Int32) (0 : Int32) M2 = some ((), M3) := e3
  refine ⟨M3, ?_, g1.tr ((gs2.mono (fun a j h => Or.inl h)).tr (g3.mono (fun a j h => Or.inl h))), ?_⟩
  · unfold f_X12_readSchema
    rw [if_pos hL.k, if_pos zb, ap_of, if_pos (by exact hL.k), mR_sI, r23, if_pos (by exact k147), mN_sI, n147, if_pos (by decide), t2, ap_of, if_pos (by exact hL.k), mR_sI, mR_sI, r24, if_pos (by exact k148), mN_sI, mN_sI, n148, if_pos (by decide), ap_of, em, if_pos hL1.k, bx e2, if_pos hR2.1.k, bx e3]
  · rcases r3 with ⟨y, b3, s3⟩ | ⟨e2', T2, dp2, z1, z2, z3, z4, z5, z6, z7, z8, z9, z10⟩
    · rw [s3 (n + 1) (by omega)]
      exact b3
    · obtain ⟨K2, hK2, hs⟩ := z10 (n + 1) (by omega)
      rw [if_pos rfl] at z9
      obtain ⟨K2, rfl⟩ : ∃ q, K2 = q + 1 := ⟨K2 - 1, by omega⟩
      have z7' : 0 < T2.nf := z7
      have ee : shF vw S t n (K2 + 1) e2' T2 (-1) 0 = .inr T2 := by
        unfold shF
        rw [if_pos z9, if_pos ⟨rfl, z7'⟩]
      rw [hs, ee]
      exact ⟨z4, z5⟩
def rvI (a j : Nat) : Prop := bgR a j ∨ rsI a j ∨ enR a j ∨ tkF 16 a j ∨ ((a = 147 ∨ a = 148) ∧ j = 1)
def rvB (a j : Nat) : Prop := bgR a j ∨ rsI a j ∨ enR a j
theorem r_view (hL : RLay M) (hR : RS0 M S) (hS : S.ok) (hT : TPr M t z) (n : Int) (n1 : -2147483648 ≤ n) (n2 : n ≤ 2147483647) : ∃ x M', f_X12_view 134 (i32 n) M = some (x, M') ∧ (if 0 ≤ n ∧ n ≤ z then (mI M' 134 2 = i32 0 ∧ a_shape true S t z n = .inr x ∧ mI M' 134 5 = i32 0 ∧ match shF true S t n.toNat (n.toNat + 1) 0 T00 (-1) 0 with
    | .inl y => Chg rvB M M' ∧ mI M' 134 14 = i32 y.2 ∧ mI M' 138 0 = mI M 138 0 + i32 1
    | .inr V => Chg rvI M M' ∧ mI M' 134 14 = i32 (-1) ∧ mI M' 138 0 = mI M 138 0 ∧ RVw M' V) else (mI M' 134 2 = i32 1 ∧ Chg (fun a j => a = 134 ∧ j = 2) M M')) := by
  unfold a_shape
  by_cases c : 0 ≤ n ∧ n ≤ z
  · simp only [c, and_self, if_true]
    obtain ⟨n, rfl⟩ : ∃ k : Nat, n = k := ⟨n.toNat, by omega⟩
    simp only [Int.toNat_natCast]
    obtain ⟨M1, e1, g1, x1, h6, hb, h5, h2⟩ := X12_beginY hL hT (n := n) (by omega)
    have hL1 := hL.all g1
    have hR1 : RS0 M1 S := hR.chg g1 (fun a j h => by unfold bgR at h; omega)
    have nz1 : ¬ (i32 1 = i32 0) := i32_ne (by omega) (by omega) (by omega) (by omega) (by omega)
    obtain ⟨M2, e2, g2, r2⟩ := X12_readSchema (vw := true) (S := S) x1.2.2.1 hL1 x1 h6 hb (fun _ => ⟨hR1, hS⟩)
    have e2 : f_X12_readSchema 134 (1 : Int32) M1 = some ((), M2) := e2
    have hL2 := hL1.all g2
    have y5 : mI M2 134 5 = i32 0 := by rw [g2.i (by unfold rsI shR rdR; omega)]; exact h5
    have y2 : mI M2 134 2 = i32 0 := by rw [g2.i (by unfold rsI shR rdR; omega)]; exact h2
    have y38 : mI M2 138 0 = mI M 138 0 := by rw [g2.i (by unfold rsI shR rdR; omega), g1.i (by unfold bgR; omega)]
    have ok2 := shF_ok (vw := true) (S := S) (tb := t) (n := n) (fun _ => hS) hT.2.2.2 (n + 1) 0 T00 (-1) 0 (fun _ => 0) BI_start (by omega)
    have gb2 : Chg rvB M M2 := (g1.mono (fun a j h => Or.inl h)).tr (g2.mono (fun a j h => Or.inr (Or.inl h)))
    generalize shF true S t n (n + 1) 0 T00 (-1) 0 = w at r2 ok2
    match w, r2, ok2 with
    | .inl y, r2, ok2 =>
      obtain ⟨M3, e3, g3, w3, w4⟩ := X12_endedF hL2 r2
      have hL3 := hL2.all g3
      have nf : ¬ (i32 y.1 = i32 0) := by
        rw [← r2.1]
        exact r2.nz
      have y12 : mI M3 134 12 = i32 y.1 := by rw [g3.i (by unfold enR; omega)]; exact r2.1
      refine ⟨i32 y.1, M3, ?_, ?_, rfl, ?_, gb2.tr (g3.mono (fun a j h => Or.inr (Or.inr h))), w3, ?_⟩
      · unfold f_X12_view
        rw [if_pos hL.k, bx e1, if_neg (by exact nz1), if_pos hL1.k, bx e2, if_pos hL2.k, bx e3, if_neg (by exact nf)]
        unfold f_X12_view_27
        rw [if_pos hL3.k, y12]
      · rw [g3.i (by unfold enR; omega)]; exact y2
      · rw [g3.i (by unfold enR; omega)]; exact y5
      · rw [w4, y38]
    | .inr V, r2, ok2 =>
      obtain ⟨b2, tr2⟩ := r2
      obtain ⟨nf0, d', dp', bi⟩ := ok2
      obtain ⟨M3, e3, g3, w3, w4⟩ := X12_ended0 hL2 b2
      have hL3 := hL2.all g3
      have tr3 : RTr M3 V true := by
        obtain ⟨c0, c1, c2, c3, c4, c5, c6, c7, c8, c9⟩ := tr2
        have q : ∀ a j, 139 ≤ a → mI M3 a j = mI M2 a j := fun a j h => g3.i (by unfold enR; omega)
        exact ⟨by rw [q _ _ (by omega)]; exact c0, by rw [q _ _ (by omega)]; exact c1, fun f h => by rw [q _ _ (by omega)]; exact c2 f h, fun f h => by rw [q _ _ (by omega)]; exact c3 f h, fun f h => by rw [q _ _ (by omega)]; exact c4 f h, fun f h => by rw [q _ _ (by omega)]; exact c5 f h, fun f h => by rw [q _ _ (by omega)]; exact c6 f h, fun f h => by rw [q _ _ (by omega)]; exact c7 f h, fun f i h hi => by rw [q _ _ (by omega)]; exact c8 f i h hi, fun f h => by rw [q _ _ (by omega)]; exact c9 f h⟩
      obtain ⟨M4, e4, g4, v1, v2, v3⟩ := X12_takeFields (b := 16) (v1 := 1) (Or.inr ⟨rfl, rfl⟩) bi.1 hL3 tr3
      have e4 : f_X12_takeFields 134 (1 : Int32) M3 = some ((), M4) := e4
      have hL4 := hL3.all g4
      have y12 : mI M4 134 12 = i32 0 := by rw [g4.i (by unfold tkF; omega), g3.i (by unfold enR; omega)]; exact b2
      refine ⟨i32 0, M4, ?_, ?_, rfl, ?_, (gb2.mono (fun a j h => by rcases h with h | h | h; exact Or.inl h; exact Or.inr (Or.inl h); exact Or.inr (Or.inr (Or.inl h)))).tr ((g3.mono (fun a j h => Or.inr (Or.inr (Or.inl h)))).tr (g4.mono (fun a j h => Or.inr (Or.inr (Or.inr h))))), ?_, ?_, v1, fun f hf => (v3 f hf).1, fun f hf => (v3 f hf).2.1, fun f hf => ?_⟩
      · unfold f_X12_view
        rw [if_pos hL.k, bx e1, if_neg (by exact nz1), if_pos hL1.k, bx e2, if_pos hL2.k, bx e3, if_pos (by rfl), if_pos hL3.k, bx e4]
        unfold f_X12_view_27
        rw [if_pos hL4.k, y12]
      · rw [g4.i (by unfold tkF; omega), g3.i (by unfold enR; omega)]; exact y2
      · rw [g4.i (by unfold tkF; omega), g3.i (by unfold enR; omega)]; exact y5
      · rw [g4.i (by unfold tkF; omega)]; exact w3
      · rw [g4.i (by unfold tkF; omega), w4, y38]
      · exact (v3 f hf).2.2.2.2.2.2.1
  · simp only [c, if_false]
    obtain ⟨M1, e1, g1, h2⟩ := X12_beginN hL hT n n1 n2 c
    refine ⟨i32 0, M1, ?_, h2, g1⟩
    unfold f_X12_view
    rw [if_pos hL.k, bx e1, if_pos (by rfl)]
    rfl
theorem X12_sch91 : ∀ (k j m : Nat) (M1 : Mem), j + k = 8 → k < m → RLay M1 → Chg (fun a _ => a = 151) M M1 → (∀ l, l < j → mI M1 151 l = i32 0) → ∃ M2, f_X12_schema_91 m 134 (i32 j) M1 = some (i32 0, sI (sI M2 134 31 (i32 0)) 134 50 (i32 0)) ∧ Chg (fun a _ => a = 151) M M2 ∧ ∀ l, l < 8 → mI M2 151 l = i32 0 := by
  intro k
  induction k with
  | zero =>
    intro j m M1 hj hm hL g h
    obtain ⟨m, rfl⟩ : ∃ q, m = q + 1 := ⟨m - 1, by omega⟩
    refine ⟨M1, ?_, g, fun l hl => h l (by omega)⟩
    unfold f_X12_schema_91
    rw [if_pos (by simp (disch := omega) only [↓reduceIte, add_i0, cast_add1, cast_sub1, toNat120, i32_lit, i32_neg, i32_add, i32_sub, i32_mul, i32_nat, i32_le, i32_lt, i32_eq, inB_i, Int.toNat_natCast, mI_sI_eq, mI_sI_ne, mR_sR_eq, mR_sR_ne, mI_sR, mR_sI, mK_sI, mN_sI, mn_sI, mJ_sI, mK_sR, mN_sR, mn_sR, mJ_sR, mI_wI, mR_wI, mK_wI, mN_wI, mn_wI, mJ_wI, ↓bnd_of, ↓bndX_r, ↓bndX_l, ↓ap_nr, bnd_of, bndX_r, bndX_l, if_true, if_false, ite_true, ite_false, not_true_eq_false, not_false_eq_true, Nat.reduceAdd, Nat.reduceMul, Nat.reduceEqDiff, Int.reduceToNat, Int.reduceNeg, Ilt_t, Ilt_f, Ile_t, Ile_f, Ieq_t, Ieq_f, Nlt_t, Nlt_f, Nle_t, Nle_f, Neq_t, Neq_f, or_true, true_or, or_false, false_or, and_true, true_and, and_false, false_and, ne_eq, or_self, and_self, decide_true, decide_false, Bool.false_eq_true]), if_pos hL.k, ap_of, if_pos (by exact hL.k), ap_of]
    rfl
  | succ k ih =>
    intro j m M1 hj hm hL g h
    obtain ⟨m, rfl⟩ : ∃ q, m = q + 1 := ⟨m - 1, by omega⟩
    have r28 : mR M1 134 28 = 151 := by simp only [hL.o]
    have k151 : mK M1 151 = 21 := by simp only [hL.o]
    have n151 : mN M1 151 = 8 := by simp only [hL.o]
    have inj : inB (i32 (j : Int)) 8 = true := by simp (disch := omega) only [↓reduceIte, add_i0, cast_add1, cast_sub1, toNat120, i32_lit, i32_neg, i32_add, i32_sub, i32_mul, i32_nat, i32_le, i32_lt, i32_eq, inB_i, Int.toNat_natCast, mI_sI_eq, mI_sI_ne, mR_sR_eq, mR_sR_ne, mI_sR, mR_sI, mK_sI, mN_sI, mn_sI, mJ_sI, mK_sR, mN_sR, mn_sR, mJ_sR, mI_wI, mR_wI, mK_wI, mN_wI, mn_wI, mJ_wI, ↓bnd_of, ↓bndX_r, ↓bndX_l, ↓ap_nr, bnd_of, bndX_r, bndX_l, if_true, if_false, ite_true, ite_false, not_true_eq_false, not_false_eq_true, Nat.reduceAdd, Nat.reduceMul, Nat.reduceEqDiff, Int.reduceToNat, Int.reduceNeg, Ilt_t, Ilt_f, Ile_t, Ile_f, Ieq_t, Ieq_f, Nlt_t, Nlt_f, Nle_t, Nle_f, Neq_t, Neq_f, or_true, true_or, or_false, false_or, and_true, true_and, and_false, false_and, ne_eq, or_self, and_self, decide_true, decide_false, Bool.false_eq_true]
    have lt : ¬ ((8 : Int32) ≤ i32 (j : Int)) := by simp (disch := omega) only [↓reduceIte, add_i0, cast_add1, cast_sub1, toNat120, i32_lit, i32_neg, i32_add, i32_sub, i32_mul, i32_nat, i32_le, i32_lt, i32_eq, inB_i, Int.toNat_natCast, mI_sI_eq, mI_sI_ne, mR_sR_eq, mR_sR_ne, mI_sR, mR_sI, mK_sI, mN_sI, mn_sI, mJ_sI, mK_sR, mN_sR, mn_sR, mJ_sR, mI_wI, mR_wI, mK_wI, mN_wI, mn_wI, mJ_wI, ↓bnd_of, ↓bndX_r, ↓bndX_l, ↓ap_nr, bnd_of, bndX_r, bndX_l, if_true, if_false, ite_true, ite_false, not_true_eq_false, not_false_eq_true, Nat.reduceAdd, Nat.reduceMul, Nat.reduceEqDiff, Int.reduceToNat, Int.reduceNeg, Ilt_t, Ilt_f, Ile_t, Ile_f, Ieq_t, Ieq_f, Nlt_t, Nlt_f, Nle_t, Nle_f, Neq_t, Neq_f, or_true, true_or, or_false, false_or, and_true, true_and, and_false, false_and, ne_eq, or_self, and_self, decide_true, decide_false, Bool.false_eq_true]
    have g2 : Chg (fun a _ => a = 151) M1 (sI M1 151 j (0 : Int32)) := (Chg.rf _ M1).sI rfl
    obtain ⟨M3, e3, g3, w3⟩ := ih (j + 1) m (sI M1 151 j (0 : Int32)) (by omega) (by omega) (hL.all g2) (g.tr g2) (fun l hl => by
      by_cases c : l = j
      · subst c
        rw [mI_sI_eq]
        rfl
      · rw [mI_sI_ne (by omega)]; exact h l (by omega))
    refine ⟨M3, ?_, g3, w3⟩
    rw [← e3]
    conv => lhs; unfold f_X12_schema_91
    rw [if_neg lt, if_pos hL.k, r28, if_pos k151, n151, if_pos inj, nat_i (by omega), ap_of, k_add1]
theorem X12_sch34 {T : Sc} (hT : T.ok) (hw6 : ∀ f, f < T.nf → T.lf f ≠ -1 → T.lf f < T.nl ∧ T.fo (T.lf f).toNat = f) : ∀ (k f m : Nat) (M1 : Mem), f + k = T.nf → k < m → RLay M1 → mI M1 147 0 = i32 T.nf → (∀ f, f < T.nf → mI M1 141 f = i32 (T.lf f)) → Chg (fun a _ => a = 149) M M1 → (∀ l, l < T.nl → T.fo l < f → mI M1 149 l = i32 (T.fo l)) → ∃ M2, f_X12_schema_34 m 134 (i32 f) M1 = f_X12_schema_91 FUEL 134 (0 : Int32) (sI (sI (sI M2 147 1 (i32 0)) 134 47 (i32 0)) 134 30 (i32 0)) ∧ Chg (fun a _ => a = 149) M M2 ∧ ∀ l, l < T.nl → mI M2 149 l = i32 (T.fo l) := by
  have hnf := hT.1
  have hnl := hT.2.1
  have o11 := hT.2.2.2.2.2.2.2.2.2.2
  have c0 : (0 : Int32).toNatClampNeg = 0 := by decide
  have c1 : (1 : Int32).toNatClampNeg = 1 := by decide
  intro k
  induction k with
  | zero =>
    intro f m M1 hf hm hL h0 hlf g h
    obtain ⟨m, rfl⟩ : ∃ q, m = q + 1 := ⟨m - 1, by omega⟩
    have r23 : mR M1 134 23 = 147 := by simp only [hL.o]
    have k147 : mK M1 147 = 21 := by simp only [hL.o]
    have n147 : mN M1 147 = 3 := by simp only [hL.o]
    refine ⟨M1, ?_, g, fun l hl => h l hl (by have := (o11 l hl).1; omega)⟩
    unfold f_X12_schema_34
    rw [if_pos hL.k, r23, if_pos k147, n147, if_pos (by decide), c0, h0, if_pos (by simp (disch := omega) only [↓reduceIte, add_i0, cast_add1, cast_sub1, toNat120, i32_lit, i32_neg, i32_add, i32_sub, i32_mul, i32_nat, i32_le, i32_lt, i32_eq, inB_i, Int.toNat_natCast, mI_sI_eq, mI_sI_ne, mR_sR_eq, mR_sR_ne, mI_sR, mR_sI, mK_sI, mN_sI, mn_sI, mJ_sI, mK_sR, mN_sR, mn_sR, mJ_sR, mI_wI, mR_wI, mK_wI, mN_wI, mn_wI, mJ_wI, ↓bnd_of, ↓bndX_r, ↓bndX_l, ↓ap_nr, bnd_of, bndX_r, bndX_l, if_true, if_false, ite_true, ite_false, not_true_eq_false, not_false_eq_true, Nat.reduceAdd, Nat.reduceMul, Nat.reduceEqDiff, Int.reduceToNat, Int.reduceNeg, Ilt_t, Ilt_f, Ile_t, Ile_f, Ieq_t, Ieq_f, Nlt_t, Nlt_f, Nle_t, Nle_f, Neq_t, Neq_f, or_true, true_or, or_false, false_or, and_true, true_and, and_false, false_and, ne_eq, or_self, and_self, decide_true, decide_false, Bool.false_eq_true]), if_pos (by decide), c1, ap_of, if_pos (by exact hL.k), ap_of, if_pos (by exact hL.k), ap_of]
    rfl
  | succ k ih =>
    intro f m M1 hf hm hL h0 hlf g h
    obtain ⟨m, rfl⟩ : ∃ q, m = q + 1 := ⟨m - 1, by omega⟩
    have r23 : mR M1 134 23 = 147 := by simp only [hL.o]
    have k147 : mK M1 147 = 21 := by simp only [hL.o]
    have n147 : mN M1 147 = 3 := by simp only [hL.o]
    have r17 : mR M1 134 17 = 141 := by simp only [hL.o]
    have k141 : mK M1 141 = 21 := by simp only [hL.o]
    have n141 : mN M1 141 = 48 := by simp only [hL.o]
    have r25 : mR M1 134 25 = 149 := by simp only [hL.o]
    have k149 : mK M1 149 = 21 := by simp only [hL.o]
    have n149 : mN M1 149 = 8 := by simp only [hL.o]
    have inf : inB (i32 (f : Int)) 48 = true := by simp (disch := omega) only [↓reduceIte, add_i0, cast_add1, cast_sub1, toNat120, i32_lit, i32_neg, i32_add, i32_sub, i32_mul, i32_nat, i32_le, i32_lt, i32_eq, inB_i, Int.toNat_natCast, mI_sI_eq, mI_sI_ne, mR_sR_eq, mR_sR_ne, mI_sR, mR_sI, mK_sI, mN_sI, mn_sI, mJ_sI, mK_sR, mN_sR, mn_sR, mJ_sR, mI_wI, mR_wI, mK_wI, mN_wI, mn_wI, mJ_wI, ↓bnd_of, ↓bndX_r, ↓bndX_l, ↓ap_nr, bnd_of, bndX_r, bndX_l, if_true, if_false, ite_true, ite_false, not_true_eq_false, not_false_eq_true, Nat.reduceAdd, Nat.reduceMul, Nat.reduceEqDiff, Int.reduceToNat, Int.reduceNeg, Ilt_t, Ilt_f, Ile_t, Ile_f, Ieq_t, Ieq_f, Nlt_t, Nlt_f, Nle_t, Nle_f, Neq_t, Neq_f, or_true, true_or, or_false, false_or, and_true, true_and, and_false, false_and, ne_eq, or_self, and_self, decide_true, decide_false, Bool.false_eq_true]
    have lt : ¬ (i32 (T.nf : Int) ≤ i32 (f : Int)) := by simp (disch := omega) only [↓reduceIte, add_i0, cast_add1, cast_sub1, toNat120, i32_lit, i32_neg, i32_add, i32_sub, i32_mul, i32_nat, i32_le, i32_lt, i32_eq, inB_i, Int.toNat_natCast, mI_sI_eq, mI_sI_ne, mR_sR_eq, mR_sR_ne, mI_sR, mR_sI, mK_sI, mN_sI, mn_sI, mJ_sI, mK_sR, mN_sR, mn_sR, mJ_sR, mI_wI, mR_wI, mK_wI, mN_wI, mn_wI, mJ_wI, ↓bnd_of, ↓bndX_r, ↓bndX_l, ↓ap_nr, bnd_of, bndX_r, bndX_l, if_true, if_false, ite_true, ite_false, not_true_eq_false, not_false_eq_true, Nat.reduceAdd, Nat.reduceMul, Nat.reduceEqDiff, Int.reduceToNat, Int.reduceNeg, Ilt_t, Ilt_f, Ile_t, Ile_f, Ieq_t, Ieq_f, Nlt_t, Nlt_f, Nle_t, Nle_f, Neq_t, Neq_f, or_true, true_or, or_false, false_or, and_true, true_and, and_false, false_and, ne_eq, or_self, and_self, decide_true, decide_false, Bool.false_eq_true]
    have el := hlf f (by omega)
    have lb := hT.2.2.2.2.1 f
    by_cases c : T.lf f = -1
    · obtain ⟨M3, e3, g3, w3⟩ := ih (f + 1) m M1 (by omega) (by omega) hL h0 hlf g (fun l hl hfo => by
        have o := o11 l hl
        by_cases u : T.fo l = f
        · rw [u, c] at o
          omega
        · exact h l hl (by omega))
      refine ⟨M3, ?_, g3, w3⟩
      rw [← e3]
      conv => lhs; unfold f_X12_schema_34
      rw [if_pos hL.k, r23, if_pos k147, n147, if_pos (by decide), c0, h0, if_neg lt, r17, if_pos k141, n141, if_pos inf, nat_i (by omega), el, if_pos (by rw [c]; rfl), f_X12_schema_66, k_add1]
    · obtain ⟨w1, w2⟩ := hw6 f (by omega) c
      obtain ⟨l0, hl0⟩ : ∃ l : Nat, T.lf f = l := ⟨(T.lf f).toNat, by omega⟩
      have nl : ¬ (i32 (T.lf f) = i32 (-1)) := i32_ne (by omega) (by omega) (by omega) (by omega) c
      have inl : inB (i32 (l0 : Int)) 8 = true := by simp (disch := omega) only [↓reduceIte, add_i0, cast_add1, cast_sub1, toNat120, i32_lit, i32_neg, i32_add, i32_sub, i32_mul, i32_nat, i32_le, i32_lt, i32_eq, inB_i, Int.toNat_natCast, mI_sI_eq, mI_sI_ne, mR_sR_eq, mR_sR_ne, mI_sR, mR_sI, mK_sI, mN_sI, mn_sI, mJ_sI, mK_sR, mN_sR, mn_sR, mJ_sR, mI_wI, mR_wI, mK_wI, mN_wI, mn_wI, mJ_wI, ↓bnd_of, ↓bndX_r, ↓bndX_l, ↓ap_nr, bnd_of, bndX_r, bndX_l, if_true, if_false, ite_true, ite_false, not_true_eq_false, not_false_eq_true, Nat.reduceAdd, Nat.reduceMul, Nat.reduceEqDiff, Int.reduceToNat, Int.reduceNeg, Ilt_t, Ilt_f, Ile_t, Ile_f, Ieq_t, Ieq_f, Nlt_t, Nlt_f, Nle_t, Nle_f, Neq_t, Neq_f, or_true, true_or, or_false, false_or, and_true, true_and, and_false, false_and, ne_eq, or_self, and_self, decide_true, decide_false, Bool.false_eq_true]
      have g2 : Chg (fun a _ => a = 149) M1 (sI M1 149 l0 (i32 (f : Int))) := (Chg.rf _ M1).sI rfl
      obtain ⟨M3, e3, g3, w3⟩ := ih (f + 1) m (sI M1 149 l0 (i32 (f : Int))) (by omega) (by omega) (hL.all g2) (by rw [mI_sI_ne (by omega)]; exact h0) (fun f' h' => by rw [mI_sI_ne (by omega)]; exact hlf f' h') (g.tr g2) (fun l hl hfo => by
        have o := o11 l hl
        by_cases u : l = l0
        · subst u
          rw [mI_sI_eq]
          have : T.fo l = f := by rw [hl0, Int.toNat_natCast] at w2; exact w2
          rw [this]
        · have nf : T.fo l ≠ f := fun v => by
            rw [v, hl0] at o
            omega
          rw [mI_sI_ne (by omega)]
          exact h l hl (by omega))
      refine ⟨M3, ?_, g3, w3⟩
      rw [← e3]
      conv => lhs; unfold f_X12_schema_34
      rw [if_pos hL.k, r23, if_pos k147, n147, if_pos (by decide), c0, h0, if_neg lt, r17, if_pos k141, n141, if_pos inf, nat_i (by omega), el, if_neg (by exact nl), r25, if_pos k149, hl0, n149, if_pos inl, nat_i (by omega), ap_of, f_X12_schema_66, k_add1]
def rcI (a j : Nat) : Prop := rvB a j ∨ tkF 0 a j ∨ (a = 147 ∧ j ≤ 1) ∨ (a = 148 ∧ j = 0) ∨ a = 149 ∨ a = 151 ∨ (a = 134 ∧ (j = 30 ∨ j = 31 ∨ j = 47 ∨ j = 50))
theorem r_schema (hL : RLay M) (hT : TPr M t z) (n : Int) (n1 : -2147483648 ≤ n) (n2 : n ≤ 2147483647) : ∃ x M', f_X12_schema 134 (i32 n) M = some (x, M') ∧ (if 0 ≤ n ∧ n ≤ z then (mI M' 134 2 = i32 0 ∧ a_shape false T00 t z n = .inr x ∧ mI M' 134 5 = i32 0 ∧ match shF false T00 t n.toNat (n.toNat + 1) 0 T00 (-1) 0 with
    | .inl y => Chg rvB M M' ∧ mI M' 134 14 = i32 y.2 ∧ mI M' 138 0 = mI M 138 0 + i32 1
    | .inr T => Chg rcI M M' ∧ mI M' 134 14 = i32 (-1) ∧ mI M' 138 0 = mI M 138 0 ∧ RS0 M' T ∧ mI M' 147 1 = i32 0 ∧ mI M' 134 47 = i32 0 ∧ RE M' A00 ∧ mI M' 134 31 = i32 0 ∧ mI M' 134 50 = i32 0) else (mI M' 134 2 = i32 1 ∧ Chg (fun a j => a = 134 ∧ j = 2) M M')) := by
  unfold a_shape
  by_cases c : 0 ≤ n ∧ n ≤ z
  · simp only [c, and_self, if_true]
    obtain ⟨n, rfl⟩ : ∃ k : Nat, n = k := ⟨n.toNat, by omega⟩
    simp only [Int.toNat_natCast]
    obtain ⟨M1, e1, g1, x1, h6, hb, h5, h2⟩ := X12_beginY hL hT (n := n) (by omega)
    have hL1 := hL.all g1
    have nz1 : ¬ (i32 1 = i32 0) := i32_ne (by omega) (by omega) (by omega) (by omega) (by omega)
    obtain ⟨M2, e2, g2, r2⟩ := X12_readSchema (vw := false) (S := T00) x1.2.2.1 hL1 x1 h6 hb (fun w => absurd w (by decide))
    have e2 : f_X12_readSchema 134 (0 : Int32) M1 = some ((), M2) := e2
    have hL2 := hL1.all g2
    have y5 : mI M2 134 5 = i32 0 := by rw [g2.i (by unfold rsI shR rdR; omega)]; exact h5
    have y2 : mI M2 134 2 = i32 0 := by rw [g2.i (by unfold rsI shR rdR; omega)]; exact h2
    have y38 : mI M2 138 0 = mI M 138 0 := by rw [g2.i (by unfold rsI shR rdR; omega), g1.i (by unfold bgR; omega)]
    have ok2 := shF_ok (vw := false) (S := T00) (tb := t) (n := n) (fun w => absurd w (by decide)) hT.2.2.2 (n + 1) 0 T00 (-1) 0 (fun _ => 0) BI_start (by omega)
    have gb2 : Chg rvB M M2 := (g1.mono (fun a j h => Or.inl h)).tr (g2.mono (fun a j h => Or.inr (Or.inl h)))
    generalize shF false T00 t n (n + 1) 0 T00 (-1) 0 = w at r2 ok2
    match w, r2, ok2 with
    | .inl y, r2, ok2 =>
      obtain ⟨M3, e3, g3, w3, w4⟩ := X12_endedF hL2 r2
      have hL3 := hL2.all g3
      have nf : ¬ (i32 y.1 = i32 0) := by
        rw [← r2.1]
        exact r2.nz
      have y12 : mI M3 134 12 = i32 y.1 := by rw [g3.i (by unfold enR; omega)]; exact r2.1
      refine ⟨i32 y.1, M3, ?_, ?_, rfl, ?_, gb2.tr (g3.mono (fun a j h => Or.inr (Or.inr h))), w3, ?_⟩
      · unfold f_X12_schema
        rw [if_pos hL.k, bx e1, if_neg (by exact nz1), if_pos hL1.k, bx e2, if_pos hL2.k, bx e3, if_neg (by exact nf), if_pos hL3.k, y12]
      · rw [g3.i (by unfold enR; omega)]; exact y2
      · rw [g3.i (by unfold enR; omega)]; exact y5
      · rw [w4, y38]
    | .inr T, r2, ok2 =>
      obtain ⟨b2, tr2⟩ := r2
      obtain ⟨nf0, d', dp', bi⟩ := ok2
      have hTo := bi.1
      have hnf := hTo.1
      have hln := hTo.2.2.2.2.2.2.2.1
      obtain ⟨M3, e3, g3, w3, w4⟩ := X12_ended0 hL2 b2
      have hL3 := hL2.all g3
      have tr3 : RTr M3 T false := by
        obtain ⟨c0, c1, c2, c3, c4, c5, c6, c7, c8, c9⟩ := tr2
        have q : ∀ a j, 139 ≤ a → mI M3 a j = mI M2 a j := fun a j h => g3.i (by unfold enR; omega)
        exact ⟨by rw [q _ _ (by omega)]; exact c0, by rw [q _ _ (by omega)]; exact c1, fun f h => by rw [q _ _ (by omega)]; exact c2 f h, fun f h => by rw [q _ _ (by omega)]; exact c3 f h, fun f h => by rw [q _ _ (by omega)]; exact c4 f h, fun f h => by rw [q _ _ (by omega)]; exact c5 f h, fun f h => by rw [q _ _ (by omega)]; exact c6 f h, fun f h => by rw [q _ _ (by omega)]; exact c7 f h, fun f i h hi => by rw [q _ _ (by omega)]; exact c8 f i h hi, fun f h => by rw [q _ _ (by omega)]; exact c9 f h⟩
      obtain ⟨M4, e4, g4, v1, v2, v3⟩ := X12_takeFields (b := 0) (v1 := 0) (Or.inl ⟨rfl, rfl⟩) hTo hL3 tr3
      have e4 : f_X12_takeFields 134 (0 : Int32) M3 = some ((), M4) := e4
      have hL4 := hL3.all g4
      have v3' : ∀ f, f < T.nf → mI M4 139 f = i32 (T.kd f) ∧ mI M4 140 f = i32 (T.gr f) ∧ mI M4 141 f = i32 (T.lf f) ∧ mI M4 142 f = i32 (T.sd f) ∧ mI M4 143 f = i32 (T.sr f) ∧ mI M4 144 f = i32 (T.ln f) ∧ mI M4 145 f = i32 (f : Int) ∧ ∀ i : Nat, (i : Int) < T.ln f → mI M4 146 (4 * f + i) = i32 (T.nm (4 * f + i)) := fun f hf => by
        have := v3 f hf
        rw [Nat.zero_add, if_pos rfl] at this
        exact this
      obtain ⟨M5, e5, g5, w5⟩ := X12_sch34 (M := M4) hTo bi.2.2.2.2.2.1 T.nf 0 FUEL M4 (by omega) (by unfold FUEL; omega) hL4 v1 (fun f hf => (v3' f hf).2.2.1) (Chg.rf _ M4) (fun l hl h => by omega)
      have e5 : f_X12_schema_34 FUEL 134 (0 : Int32) M4 = _ := e5
      obtain ⟨M6, em6⟩ : ∃ M6, sI (sI (sI M5 147 1 (i32 0)) 134 47 (i32 0)) 134 30 (i32 0) = M6 := ⟨_, rfl⟩
      have g6 : Chg (fun a j => (a = 147 ∧ j = 1) ∨ (a = 134 ∧ (j = 47 ∨ j = 30))) M5 M6 := by
        rw [← em6]
        exact (((Chg.rf _ M5).sI (by omega)).sI (by omega)).sI (by omega)
      rw [em6] at e5
      have hL6 := (hL4.all g5).all g6
      obtain ⟨M7, e7, g7, w7⟩ := X12_sch91 (M := M6) 8 0 FUEL M6 (by omega) (by unfold FUEL; omega) hL6 (Chg.rf _ M6) (fun l hl => by omega)
      have e7 : f_X12_schema_91 FUEL 134 (0 : Int32) M6 = _ := e7
      obtain ⟨M8, em8⟩ : ∃ M8, sI (sI M7 134 31 (i32 0)) 134 50 (i32 0) = M8 := ⟨_, rfl⟩
      rw [em8] at e7
      have g8 : Chg (fun a j => a = 134 ∧ (j = 31 ∨ j = 50)) M7 M8 := by
        rw [← em8]
        exact ((Chg.rf _ M7).sI (by omega)).sI (by omega)
      have tw : ∀ f, f < T.nf → T.tw f = f := fun f hf => by
        have := bi.2.2.2.2.2.2.2.2.2.2.2.2 f hf
        rw [if_neg (by decide)] at this
        exact this
      -- what stands at the end
      have q : ∀ a j, (a ≠ 149) → (a ≠ 151) → ¬ (a = 147 ∧ j = 1) → ¬ (a = 134 ∧ (j = 47 ∨ j = 30 ∨ j = 31 ∨ j = 50)) → mI M8 a j = mI M4 a j := fun a j h1 h2 h3 h4 => by rw [g8.i (by omega), g7.i (by omega), g6.i (by omega), g5.i (by omega)]
      have q3 : ∀ a j, a = 134 ∨ a = 138 → ¬ (a = 134 ∧ (j = 47 ∨ j = 30 ∨ j = 31 ∨ j = 50)) → mI M8 a j = mI M3 a j := fun a j h1 h2 => by rw [q a j (by omega) (by omega) (by omega) h2, g4.i (by unfold tkF; omega)]
      refine ⟨i32 0, M8, ?_, ?_, rfl, ?_, ?_, ?_, ?_, ⟨?_, ?_, fun f hf => ?_, fun f hf => ?_, fun f hf => ?_, fun f hf => ?_, fun f hf => ?_, fun f hf => ?_, fun f i hf hi => ?_, fun f hf => ?_, fun l hl => ?_⟩, ?_, ?_, ?_, ?_, ?_⟩
      · unfold f_X12_schema
        rw [if_pos hL.k, bx e1, if_neg (by exact nz1), if_pos hL1.k, bx e2, if_pos hL2.k, bx e3, if_pos (by rfl), if_pos hL3.k, bx e4, e5, e7]
      · rw [q3 _ _ (Or.inl rfl) (by omega), g3.i (by unfold enR; omega)]; exact y2
      · rw [q3 _ _ (Or.inl rfl) (by omega), g3.i (by unfold enR; omega)]; exact y5
      · have f1 : Chg rcI M M3 := (gb2.tr (g3.mono (fun a j h => Or.inr (Or.inr h)))).mono (fun a j h => Or.inl h)
        have f4 : Chg rcI M3 M4 := g4.mono (fun a j h => by
          rcases h with h | h
          · exact Or.inr (Or.inl h)
          · exact Or.inr (Or.inr (by omega)))
        have f5 : Chg rcI M4 M5 := g5.mono (fun a j h => Or.inr (Or.inr (by omega)))
        have f6 : Chg rcI M5 M6 := g6.mono (fun a j h => Or.inr (Or.inr (by omega)))
        have f7 : Chg rcI M6 M7 := g7.mono (fun a j h => Or.inr (Or.inr (by omega)))
        have f8 : Chg rcI M7 M8 := g8.mono (fun a j h => Or.inr (Or.inr (by omega)))
        exact f1.tr (f4.tr (f5.tr (f6.tr (f7.tr f8))))
      · rw [q3 _ _ (Or.inl rfl) (by omega)]; exact w3
      · rw [q3 _ _ (Or.inr rfl) (by omega), w4, y38]
      · rw [q _ _ (by omega) (by omega) (by omega) (by omega)]; exact v1
      · rw [q _ _ (by omega) (by omega) (by omega) (by omega)]; exact v2
      · rw [q _ _ (by omega) (by omega) (by omega) (by omega)]; exact (v3' f hf).1
      · rw [q _ _ (by omega) (by omega) (by omega) (by omega)]; exact (v3' f hf).2.1
      · rw [q _ _ (by omega) (by omega) (by omega) (by omega)]; exact (v3' f hf).2.2.1
      · rw [q _ _ (by omega) (by omega) (by omega) (by omega)]; exact (v3' f hf).2.2.2.1
      · rw [q _ _ (by omega) (by omega) (by omega) (by omega)]; exact (v3' f hf).2.2.2.2.1
      · rw [q _ _ (by omega) (by omega) (by omega) (by omega)]; exact (v3' f hf).2.2.2.2.2.1
      · rw [q _ _ (by omega) (by omega) (by omega) (by omega)]; exact (v3' f hf).2.2.2.2.2.2.2 i hi
      · rw [q _ _ (by omega) (by omega) (by omega) (by omega), tw f hf]; exact (v3' f hf).2.2.2.2.2.2.1
      · rw [g8.i (by omega), g7.i (by omega), g6.i (by omega)]; exact w5 l hl
      · rw [g8.i (by omega), g7.i (by omega), ← em6, mI_sI_ne (by omega), mI_sI_ne (by omega), mI_sI_eq]
      · rw [g8.i (by omega), g7.i (by omega), ← em6, mI_sI_ne (by omega), mI_sI_eq]
      · refine ⟨A00_ok, fun l hl => ?_, fun l j hl hj => absurd hj (Nat.not_lt_zero j), ?_⟩
        · rw [g8.i (by omega)]; exact w7 l hl
        · rw [g8.i (by omega), g7.i (by omega), ← em6, mI_sI_eq]; rfl
      · rw [← em8, mI_sI_ne (by omega), mI_sI_eq]
      · rw [← em8, mI_sI_eq]
  · simp only [c, if_false]
    obtain ⟨M1, e1, g1, h2⟩ := X12_beginN hL hT n n1 n2 c
    refine ⟨i32 0, M1, ?_, h2, g1⟩
    unfold f_X12_schema
    rw [if_pos hL.k, bx e1, if_pos (by rfl)]
    rfl
end
