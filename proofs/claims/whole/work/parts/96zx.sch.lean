/-! schema, view in the class: the calls -/
def A00 : St := (fun _ _ => 0, fun _ _ => 0, fun _ _ => 0, fun _ => 0, 0)
theorem A00_ok : A00.ok := ⟨fun l j => by show (0 : Int) ≤ 0 ∧ (0 : Int) ≤ 9; omega, fun l j => by show (0 : Int) ≤ 0 ∧ (0 : Int) ≤ 9; omega, fun l j => by show (0 : Int) ≤ 0 ∧ (0 : Int) ≤ 999; omega, fun l => by show 0 ≤ 120; omega, by show 0 ≤ 30; omega⟩
def s4I (q a j : Nat) : Prop := tkC a j ∨ (a = 4 ∧ 3 ≤ j) ∨ (q ≤ a ∧ a ≤ q + 11)
def s4R (a _j : Nat) : Prop := a = 4
section
variable {M M' : Mem} {S : Sc} {s v q p : Nat} {vw : Bool} {t : Nat → Int} {n z : Nat}
theorem X6_read (hL : CLay M) (hq : ShLay M q) (q1 : 88 ≤ q) (q2 : q ≤ 112) (hm : 164 ≤ mn M) (hsm : s ≤ 164) (hT : TXc M t n) (hk : CTk M t n 0) (hv : vw = true → ShLay M s ∧ CSh M s S ∧ S.ok ∧ 88 ≤ s ∧ s ≤ 112 ∧ (s + 11 < q ∨ q + 11 < s)) : ∃ x M', f_X6_read 4 2 q s (i32 (if vw = true then 1 else 0)) M = some (i32 x, M') ∧ Fr (s4I q) s4R M M' ∧ match shF vw S t n (n + 1) 0 T00 (-1) 0 with
    | .inl y => x = y.1 ∧ mI M' 2 4 = i32 y.2
    | .inr T' => x = 0 ∧ CSh M' q T' := by
  have hn := hT.2.2.1
  have k4 : mK M 4 = 7 := by simp only [hL.o]
  have kq : mK M q = 6 := by simp only [hq.o]
  have zb : zB (i32 (if vw = true then 1 else 0)) = true := by cases vw <;> decide
  obtain ⟨M1, em⟩ : ∃ M1, sI (sI (sI (sI (sI (sR (sR (sR M 4 0 2) 4 1 q) 4 2 s) 4 3 (i32 (if vw = true then 1 else 0))) 4 4 (-1 : Int32)) 4 5 (0 : Int32)) q 0 (0 : Int32)) q 1 (0 : Int32) = M1 := ⟨_, rfl⟩
  have g1 : Fr (s4I q) s4R M M1 := by
    rw [← em]
    exact ((((((((Fr.rf (s4I q) s4R M).sR (a := 4) (k := 0) (v := 2) rfl).sR (a := 4) (k := 1) (v := q) rfl).sR (a := 4) (k := 2) (v := s) rfl).sI (by unfold s4I; omega)).sI (by unfold s4I; omega)).sI (by unfold s4I; omega)).sI (by unfold s4I; omega)).sI (by unfold s4I; omega)
  have i1 : ∀ a j, a ≠ 4 → a ≠ q → mI M1 a j = mI M a j := fun a j h1 h2 => by rw [← em, mI_sI_ne (by omega), mI_sI_ne (by omega), mI_sI_ne (by omega), mI_sI_ne (by omega), mI_sI_ne (by omega)]; rfl
  have gw1 : Gw (s4I q) s4R M M1 := g1.gw (fun a j h => by unfold s4I tkC at h; omega) (fun a j h => by unfold s4R at h; omega)
  have dy : ∀ a j, s4R a j → DyR a j := fun a j h => by unfold s4R at h; unfold DyR; omega
  have hR1 : SHL M1 q s S vw t n := by
    refine ⟨hL.gw gw1 dy, hq.gw q1 q2 gw1 dy, q1, q2, ?_, ?_, ?_, ?_, ?_, fun w => ?_⟩
    · rw [← em]
      show mR (sR (sR (sR M 4 0 2) 4 1 q) 4 2 s) 4 0 = 2
      rw [mR_sR_ne (by omega), mR_sR_ne (by omega), mR_sR_eq]
    · rw [← em]
      show mR (sR (sR (sR M 4 0 2) 4 1 q) 4 2 s) 4 1 = q
      rw [mR_sR_ne (by omega), mR_sR_eq]
    · rw [← em]
      show mR (sR (sR (sR M 4 0 2) 4 1 q) 4 2 s) 4 2 = s
      rw [mR_sR_eq]
    · rw [← em, mI_sI_ne (by omega), mI_sI_ne (by omega), mI_sI_ne (by omega), mI_sI_ne (by omega), mI_sI_eq]
    · exact ⟨by rw [i1 _ _ (by omega) (by omega)]; exact hT.1, fun i hi => by rw [i1 _ _ (by omega) (by omega)]; exact hT.2.1 i hi, hT.2.2⟩
    · obtain ⟨b1, b2, b3, b4, b5, b6⟩ := hv w
      refine ⟨b1.gw b4 b5 gw1 dy, ?_, b3, b4, b5, b6⟩
      have e0 : ∀ j, mI M1 s j = mI M s j := fun j => i1 s j (by omega) (by omega)
      have e1 : ∀ i j, i ≤ 11 → mI M1 (s + i) j = mI M (s + i) j := fun i j h => i1 _ j (by omega) (by omega)
      unfold CSh at b2 ⊢
      simp only [e0, e1 1 _ (by omega), e1 2 _ (by omega), e1 3 _ (by omega), e1 4 _ (by omega), e1 5 _ (by omega), e1 6 _ (by omega), e1 7 _ (by omega), e1 8 _ (by omega), e1 9 _ (by omega), e1 10 _ (by omega), e1 11 _ (by omega)]
      exact b2
  have cs1 : CSh M1 q T00 := ⟨by rw [← em, mI_sI_ne (by omega), mI_sI_eq]; rfl, by rw [← em, mI_sI_eq]; rfl, fun f hf => absurd hf (Nat.not_lt_zero f), fun f hf => absurd hf (Nat.not_lt_zero f), fun f hf => absurd hf (Nat.not_lt_zero f), fun f hf => absurd hf (Nat.not_lt_zero f), fun f hf => absurd hf (Nat.not_lt_zero f), fun f hf => absurd hf (Nat.not_lt_zero f), fun f i hf => absurd hf (Nat.not_lt_zero f), fun f hf => absurd hf (Nat.not_lt_zero f), fun f i hf => absurd hf (Nat.not_lt_zero f), fun f hf => absurd hf (Nat.not_lt_zero f), fun l hl => absurd hl (Nat.not_lt_zero l)⟩
  obtain ⟨x2, M2, e2, g2, r2⟩ := X6_read41 (q := q) (s := s) (S := S) (vw := vw) hn (fun w => (hv w).2.2.1) (n + 1) 0 FUEL 0 T00 (-1) 0 (fun _ => 0) M1 (by omega) (by unfold FUEL; omega) (by omega) hR1 cs1 BI_start (by rw [← em, mI_sI_ne (by omega), mI_sI_ne (by omega), mI_sI_ne (by omega), mI_sI_eq]; rfl) (by rw [← em, mI_sI_ne (by omega), mI_sI_ne (by omega), mI_sI_eq]; rfl) (hk.cg (fun i => i1 2 i (by omega) (by omega))) (by omega)
  have e2 : f_X6_read_41 FUEL 4 (0 : Int32) M1 = some (i32 x2, M2) := e2
  refine ⟨x2, M2, ?_, g1.tr (g2.fr (fun a j h => by
    rcases h with h | h | h
    · exact Or.inl h
    · exact Or.inr (Or.inl ⟨h.1, by omega⟩)
    · exact Or.inr (Or.inr h))), r2⟩
  have ecl : ∀ N : Mem, mK N q = 6 → f_X5_clear q N = some ((), sI (sI N q 0 (0 : Int32)) q 1 (0 : Int32)) := fun N h => by
    unfold f_X5_clear
    rw [if_pos h, ap_of, if_pos (by exact h), ap_of]
  have r41 : mR (sI (sI (sI (sR (sR (sR M 4 0 2) 4 1 q) 4 2 s) 4 3 (i32 (if vw = true then 1 else 0))) 4 4 (-1 : Int32)) 4 5 (0 : Int32)) 4 1 = q := by
    show mR (sR (sR (sR M 4 0 2) 4 1 q) 4 2 s) 4 1 = q
    rw [mR_sR_ne (by omega), mR_sR_eq]
  unfold f_X6_read
  rw [if_pos k4, if_pos (by rw [okB1 (by omega)]; trivial), ap_of, if_pos (by exact k4), if_pos (by rw [okrB_sR, okB1 (by omega)]; trivial), ap_of, if_pos (by exact k4), if_pos (by rw [okrB_sR, okrB_sR, okB1 (by omega)]; trivial), ap_of, if_pos (by exact k4), if_pos zb, ap_of, if_pos (by exact k4), ap_of, if_pos (by exact k4), ap_of, if_pos (by exact k4), r41, if_pos (by exact kq), bx (ecl _ (by exact kq)), em, e2]
def a_shape (vw : Bool) (S : Sc) (t : Nat → Int) (z : Nat) (n : Int) : Nat ⊕ Int32 := if 0 ≤ n ∧ n ≤ z then (match shF vw S t n.toNat (n.toNat + 1) 0 T00 (-1) 0 with
  | .inl y => .inr (i32 y.1)
  | .inr _ => .inr (i32 0)) else .inl 2
def vwI (q a j : Nat) : Prop := (a = 2 ∧ 1 ≤ j ∧ j ≤ 5) ∨ a = 4 ∨ (q ≤ a ∧ a ≤ q + 11) ∨ (a = 1 ∧ j = 14) ∨ (a = 18 ∧ j = 4)
def vwR (a j : Nat) : Prop := a = 4 ∨ (a = 1 ∧ (j = 9 ∨ j = 10))
theorem c_view (hL : CLay M) (hT : TPc M t z) (hm : 164 ≤ mn M) (hs : ShLay M s) (hC : CSh M s S) (hS : S.ok) (s1 : 88 ≤ s) (s2 : s ≤ 112) (hq : ShLay M q) (q1 : 88 ≤ q) (q2 : q ≤ 112) (hsq : s + 11 < q ∨ q + 11 < s) (hv2 : v ≤ 112) (h8 : mR M 1 8 = s) (h9 : mR M 1 9 = v) (h10 : mR M 1 10 = q) (n : Int) (n1 : -2147483648 ≤ n) (n2 : n ≤ 2147483647) : ∃ M', f_X11_view 1 (i32 n) M = some (a_shape true S t z n, M') ∧ Fr (vwI q) vwR M M' ∧ (if 0 ≤ n ∧ n ≤ z then (mI M' 2 1 = i32 0 ∧ match shF true S t n.toNat (n.toNat + 1) 0 T00 (-1) 0 with
    | .inl y => mI M' 1 14 = i32 y.2 ∧ mI M' 18 4 = mI M 18 4 + i32 1 ∧ mR M' 1 9 = v ∧ mR M' 1 10 = q
    | .inr V => mI M' 1 14 = i32 (-1) ∧ mI M' 18 4 = mI M 18 4 ∧ mR M' 1 9 = q ∧ mR M' 1 10 = v ∧ CSh M' q V) else M' = M) := by
  have en := X11_needTape hL hT n n1 n2
  have k1 : mK M 1 = 12 := by simp only [hL.o]
  have r0 : mR M 1 0 = 2 := by simp only [hL.o]
  have k2 : mK M 2 = 10 := by simp only [hL.o]
  unfold a_shape
  by_cases c : 0 ≤ n ∧ n ≤ z
  · rw [if_pos c] at en
    simp only [c, and_self, if_true]
    obtain ⟨n, rfl⟩ : ∃ k : Nat, n = k := ⟨n.toNat, by omega⟩
    simp only [Int.toNat_natCast]
    obtain ⟨M1, e1, g1, x1, kk1, o1⟩ := X9_open hL hT (n := n) (by omega)
    have hL1 := hL.all g1
    have k11 : mK M1 1 = 12 := by simp only [hL1.o]
    have r11 : mR M1 1 1 = 4 := by simp only [hL1.o]
    have k41 : mK M1 4 = 7 := by simp only [hL1.o]
    have r01 : mR M1 1 0 = 2 := by simp only [hL1.o]
    have r101 : mR M1 1 10 = q := by rw [g1.r]; exact h10
    have r81 : mR M1 1 8 = s := by rw [g1.r]; exact h8
    obtain ⟨x2, M2, e2, g2, r2⟩ := X6_read (vw := true) (S := S) (s := s) hL1 (hq.all g1) q1 q2 (by rw [g1.2.2.1]; exact hm) (by omega) x1 kk1 (fun _ => ⟨hs.all g1, hC.away g1 (fun a j h => by omega), hS, s1, s2, hsq⟩)
    have e2 : f_X6_read 4 2 q s (1 : Int32) M1 = some (i32 x2, M2) := e2
    have dy : ∀ a j, s4R a j → DyR a j := fun a j h => by unfold s4R at h; unfold DyR; omega
    have gw2 : Gw (s4I q) s4R M1 M2 := g2.gw (fun a j h => by unfold s4I tkC at h; omega) (fun a j h => by unfold s4R at h; omega)
    have hL2 := hL1.gw gw2 dy
    have k12 : mK M2 1 = 12 := by simp only [hL2.o]
    have gf2 : Fr (vwI q) vwR M M2 := (g1.fr (fun a j h => by unfold vwI; omega)).tr (g2.mono (fun a j h => by unfold s4I tkC at h; unfold vwI; omega) (fun a j h => by unfold s4R at h; unfold vwR; omega))
    have s22 : mI M2 2 1 = i32 0 := by rw [g2.i (by unfold s4I tkC; omega)]; exact o1
    have s184 : mI M2 18 4 = mI M 18 4 := by rw [g2.i (by unfold s4I tkC; omega), g1.i (by omega)]
    have r92 : mR M2 1 9 = v := by rw [g2.r (by unfold s4R; omega), g1.r]; exact h9
    have r102 : mR M2 1 10 = q := by rw [g2.r (by unfold s4R; omega), g1.r]; exact h10
    have mn2 : mn M2 = mn M := gf2.2.2.1
    have st : ∀ X, (bnd (f_X11_noteFault 1 (i32 x2) M2) fun r14 M13 => if r14 = 0 then if mK M13 1 = 12 then if okrB M13 [mR M13 1 10] = true then ap (sR M13 1 9 (mR M13 1 10)) fun M17 => if mK M17 1 = 12 then if okrB M17 [mR M13 1 9] = true then ap (sR M17 1 10 (mR M13 1 9)) fun M20 => some (.inr (0 : Int32), M20) else none else none else none else none else some (.inr (i32 x2), M13)) = some X → f_X11_view 1 (i32 (n : Int)) M = some X := fun X hX => by
      unfold f_X11_view
      rw [if_pos k1, bxX en, if_pos k1, r0, if_pos k2, bx e1, if_pos k11, r11, if_pos k41, r01, r101, r81, bx e2, if_pos k12]
      exact hX
    have ok2 := shF_ok (vw := true) (S := S) (tb := t) (n := n) (fun _ => hS) hT.2.2.2 (n + 1) 0 T00 (-1) 0 (fun _ => 0) BI_start (by omega)
    generalize shF true S t n (n + 1) 0 T00 (-1) 0 = y at r2 ok2
    match y, r2, ok2 with
    | .inl y, r2, ok2 =>
      obtain ⟨p1, p2⟩ := r2
      subst p1
      have e4 := X11_noteF hL2 y.1 ok2.1 ok2.2
      have nz1 : ¬ (i32 1 = i32 0) := i32_ne (by omega) (by omega) (by omega) (by omega) (by omega)
      refine ⟨sI (sI M2 1 14 (mI M2 2 4)) 18 4 (mI M2 18 4 + i32 1), st _ ?_, (gf2.sI (by unfold vwI; omega)).sI (by unfold vwI; omega), ?_, ?_, ?_, ?_, ?_⟩
      · rw [bx e4, if_neg (by exact nz1)]
      · rw [mI_sI_ne (by omega), mI_sI_ne (by omega)]; exact s22
      · rw [mI_sI_ne (by omega), mI_sI_eq]; exact p2
      · rw [mI_sI_eq, s184]
      · rw [mR_sI, mR_sI]; exact r92
      · rw [mR_sI, mR_sI]; exact r102
    | .inr V, r2, ok2 =>
      obtain ⟨p1, p2⟩ := r2
      subst p1
      have e4 := X11_note0 hL2
      refine ⟨sR (sR (sI M2 1 14 (i32 (-1))) 1 9 q) 1 10 v, st _ ?_, ((gf2.sI (by unfold vwI; omega)).sR (by unfold vwR; omega)).sR (by unfold vwR; omega), ?_, ?_, ?_, ?_, ?_, ?_⟩
      · rw [bx e4, if_pos (by rfl), if_pos (by exact k12), mR_sI, r102, if_pos (by rw [okrB_sI, okB1 (by omega)]; trivial), ap_of, if_pos (by exact k12), r92, if_pos (by rw [okrB_sR, okrB_sI, okB1 (by omega)]; trivial), ap_of]
        rfl
      · show mI (sI M2 1 14 (i32 (-1))) 2 1 = i32 0
        rw [mI_sI_ne (by omega)]; exact s22
      · rw [mI_sR, mI_sR]; exact mI_sI_eq
      · show mI (sI M2 1 14 (i32 (-1))) 18 4 = mI M 18 4
        rw [mI_sI_ne (by omega)]; exact s184
      · rw [mR_sR_ne (by omega), mR_sR_eq]
      · rw [mR_sR_eq]
      · show CSh (sI M2 1 14 (i32 (-1))) q V
        exact p2.away ((Chg.rf (fun a j => a = 1 ∧ j = 14) M2).sI ⟨rfl, rfl⟩) (fun a j h => by omega)
  · rw [if_neg c] at en
    simp only [c, if_false]
    refine ⟨M, ?_, Fr.rf _ _ M, rfl⟩
    unfold f_X11_view
    rw [if_pos k1, bxL en]
theorem X7_clear12 {T : Sc} (hW : T.ok) (hq : ShLay M q) (hC : CSh M q T) (q1 : 88 ≤ q) : ∀ (k j m : Nat) (M1 : Mem), j + k = 8 → k < m → CLay M1 → ColLay M1 21 → Chg (fun a i => 21 ≤ a ∧ a ≤ 52 ∧ 3 ≤ i) M M1 → (∀ l, l < j → mI M1 (21 + 4 * l) 3 = i32 0 ∧ mI M1 (21 + 4 * l) 4 = i32 (T.fu l)) → ∃ M', f_X7_clear_12 m 18 q (i32 j) M1 = some ((), M') ∧ Chg (fun a i => 21 ≤ a ∧ a ≤ 52 ∧ 3 ≤ i) M M' ∧ ∀ l, l < 8 → mI M' (21 + 4 * l) 3 = i32 0 ∧ mI M' (21 + 4 * l) 4 = i32 (T.fu l) := by
  have hnf := hW.1
  have hnl := hW.2.1
  intro k
  induction k with
  | zero =>
    intro j m M1 hj hm hL hc g h
    obtain ⟨m, rfl⟩ : ∃ q, m = q + 1 := ⟨m - 1, by omega⟩
    refine ⟨M1, ?_, g, fun l hl => h l (by omega)⟩
    unfold f_X7_clear_12
    rw [if_pos (by simp (disch := omega) only [↓reduceIte, add_i0, cast_add1, cast_sub1, toNat120, i32_lit, i32_neg, i32_add, i32_sub, i32_mul, i32_nat, i32_le, i32_lt, i32_eq, inB_i, Int.toNat_natCast, mI_sI_eq, mI_sI_ne, mR_sR_eq, mR_sR_ne, mI_sR, mR_sI, mK_sI, mN_sI, mn_sI, mJ_sI, mK_sR, mN_sR, mn_sR, mJ_sR, mI_wI, mR_wI, mK_wI, mN_wI, mn_wI, mJ_wI, ↓bnd_of, ↓bndX_r, ↓bndX_l, ↓ap_nr, bnd_of, bndX_r, bndX_l, if_true, if_false, ite_true, ite_false, not_true_eq_false, not_false_eq_true, Nat.reduceAdd, Nat.reduceMul, Nat.reduceEqDiff, Int.reduceToNat, Int.reduceNeg, Ilt_t, Ilt_f, Ile_t, Ile_f, Ieq_t, Ieq_f, Nlt_t, Nlt_f, Nle_t, Nle_f, Neq_t, Neq_f, or_true, true_or, or_false, false_or, and_true, true_and, and_false, false_and, ne_eq, or_self, and_self, decide_true, decide_false, Bool.false_eq_true])]
  | succ k ih =>
    intro j m M1 hj hm hL hc g h
    obtain ⟨m, rfl⟩ : ∃ q, m = q + 1 := ⟨m - 1, by omega⟩
    have hq1 := hq.all g
    have k18 : mK M1 18 = 8 := by simp only [hL.o]
    have r180 : mR M1 18 0 = 19 := by simp only [hL.o]
    have k19 : mK M1 19 = 23 := by simp only [hL.o]
    have n19 : mN M1 19 = 8 := by simp only [hL.o]
    have hca := hc.at21 (l := j) (by omega)
    have rj : mR M1 19 j = 21 + 4 * j := by simp only [hca.o]
    have kj : mK M1 (21 + 4 * j) = 3 := by simp only [hca.o]
    have kq : mK M1 q = 6 := by simp only [hq1.o]
    have r12 : mR M1 q 12 = q + 11 := by simp only [hq1.o]
    have k11 : mK M1 (q + 11) = 21 := by simp only [hq1.o]
    have n11 : mN M1 (q + 11) = 8 := by simp only [hq1.o]
    have r5 : mR M1 q 5 = q + 4 := by simp only [hq1.o]
    have kq4 : mK M1 (q + 4) = 21 := by simp only [hq1.o]
    have nq4 : mN M1 (q + 4) = 16 := by simp only [hq1.o]
    have inj : inB (i32 (j : Int)) 8 = true := by simp (disch := omega) only [↓reduceIte, add_i0, cast_add1, cast_sub1, toNat120, i32_lit, i32_neg, i32_add, i32_sub, i32_mul, i32_nat, i32_le, i32_lt, i32_eq, inB_i, Int.toNat_natCast, mI_sI_eq, mI_sI_ne, mR_sR_eq, mR_sR_ne, mI_sR, mR_sI, mK_sI, mN_sI, mn_sI, mJ_sI, mK_sR, mN_sR, mn_sR, mJ_sR, mI_wI, mR_wI, mK_wI, mN_wI, mn_wI, mJ_wI, ↓bnd_of, ↓bndX_r, ↓bndX_l, ↓ap_nr, bnd_of, bndX_r, bndX_l, if_true, if_false, ite_true, ite_false, not_true_eq_false, not_false_eq_true, Nat.reduceAdd, Nat.reduceMul, Nat.reduceEqDiff, Int.reduceToNat, Int.reduceNeg, Ilt_t, Ilt_f, Ile_t, Ile_f, Ieq_t, Ieq_f, Nlt_t, Nlt_f, Nle_t, Nle_f, Neq_t, Neq_f, or_true, true_or, or_false, false_or, and_true, true_and, and_false, false_and, ne_eq, or_self, and_self, decide_true, decide_false, Bool.false_eq_true]
    have lt : ¬ ((8 : Int32) ≤ i32 (j : Int)) := by simp (disch := omega) only [↓reduceIte, add_i0, cast_add1, cast_sub1, toNat120, i32_lit, i32_neg, i32_add, i32_sub, i32_mul, i32_nat, i32_le, i32_lt, i32_eq, inB_i, Int.toNat_natCast, mI_sI_eq, mI_sI_ne, mR_sR_eq, mR_sR_ne, mI_sR, mR_sI, mK_sI, mN_sI, mn_sI, mJ_sI, mK_sR, mN_sR, mn_sR, mJ_sR, mI_wI, mR_wI, mK_wI, mN_wI, mn_wI, mJ_wI, ↓bnd_of, ↓bndX_r, ↓bndX_l, ↓ap_nr, bnd_of, bndX_r, bndX_l, if_true, if_false, ite_true, ite_false, not_true_eq_false, not_false_eq_true, Nat.reduceAdd, Nat.reduceMul, Nat.reduceEqDiff, Int.reduceToNat, Int.reduceNeg, Ilt_t, Ilt_f, Ile_t, Ile_f, Ieq_t, Ieq_f, Nlt_t, Nlt_f, Nle_t, Nle_f, Neq_t, Neq_f, or_true, true_or, or_false, false_or, and_true, true_and, and_false, false_and, ne_eq, or_self, and_self, decide_true, decide_false, Bool.false_eq_true]
    have nj := nat_i (k := j) (by omega)
    obtain ⟨M2, em⟩ : ∃ M2, sI M1 (21 + 4 * j) 3 (0 : Int32) = M2 := ⟨_, rfl⟩
    have g2 : Chg (fun a i => 21 ≤ a ∧ a ≤ 52 ∧ 3 ≤ i) M M2 := by rw [← em]; exact g.sI (by omega)
    have e1 : mI M2 q 1 = i32 T.nl := by rw [g2.i (by omega)]; exact hC.2.1
    have K2 : mK M2 = mK M1 := by rw [← em]; rfl
    have N2 : mN M2 = mN M1 := by rw [← em]; rfl
    have R2 : mR M2 = mR M1 := by rw [← em]; rfl
    obtain ⟨M3, em3⟩ : ∃ M3, sI M2 (21 + 4 * j) 4 (i32 (T.fu j)) = M3 := ⟨_, rfl⟩
    have g23 : Chg (fun a i => 21 ≤ a ∧ a ≤ 52 ∧ 3 ≤ i) M1 M3 := by
      rw [← em3, ← em]
      exact ((Chg.rf _ M1).sI (by omega)).sI (by omega)
    have st : f_X7_clear_12 (m + 1) 18 q (i32 j) M1 = f_X7_clear_12 m 18 q (i32 ((j + 1 : Nat) : Int)) M3 := by
      conv => lhs; unfold f_X7_clear_12
      rw [if_neg lt, if_pos k18, r180, if_pos k19, n19, if_pos inj, nj, rj, if_pos kj, ap_of, em, K2, if_pos k18, R2, r180, if_pos k19, N2, n19, if_pos inj, if_pos kq, e1]
      by_cases c : T.nl ≤ j
      · have ef : T.fu j = 0 := if_neg (by omega)
        rw [if_pos (by simp (disch := omega) only [↓reduceIte, add_i0, cast_add1, cast_sub1, toNat120, i32_lit, i32_neg, i32_add, i32_sub, i32_mul, i32_nat, i32_le, i32_lt, i32_eq, inB_i, Int.toNat_natCast, mI_sI_eq, mI_sI_ne, mR_sR_eq, mR_sR_ne, mI_sR, mR_sI, mK_sI, mN_sI, mn_sI, mJ_sI, mK_sR, mN_sR, mn_sR, mJ_sR, mI_wI, mR_wI, mK_wI, mN_wI, mn_wI, mJ_wI, ↓bnd_of, ↓bndX_r, ↓bndX_l, ↓ap_nr, bnd_of, bndX_r, bndX_l, if_true, if_false, ite_true, ite_false, not_true_eq_false, not_false_eq_true, Nat.reduceAdd, Nat.reduceMul, Nat.reduceEqDiff, Int.reduceToNat, Int.reduceNeg, Ilt_t, Ilt_f, Ile_t, Ile_f, Ieq_t, Ieq_f, Nlt_t, Nlt_f, Nle_t, Nle_f, Neq_t, Neq_f, or_true, true_or, or_false, false_or, and_true, true_and, and_false, false_and, ne_eq, or_self, and_self, decide_true, decide_false, Bool.false_eq_true]), rj]
        unfold f_X7_clear_57
        rw [if_pos (by rw [K2]; exact kj), ap_of, k_add1, ← em3, ef]
        rfl
      · have o := hW.2.2.2.2.2.2.2.2.2.2 j (by omega)
        have ef : T.fu j = T.sd (T.fo j) := if_pos (by omega)
        have efo : mI M2 (q + 11) j = i32 ((T.fo j : Nat) : Int) := by rw [g2.i (by omega)]; exact hC.2.2.2.2.2.2.2.2.2.2.2.2 j (by omega)
        have inf : inB (i32 ((T.fo j : Nat) : Int)) 16 = true := by simp (disch := omega) only [↓reduceIte, add_i0, cast_add1, cast_sub1, toNat120, i32_lit, i32_neg, i32_add, i32_sub, i32_mul, i32_nat, i32_le, i32_lt, i32_eq, inB_i, Int.toNat_natCast, mI_sI_eq, mI_sI_ne, mR_sR_eq, mR_sR_ne, mI_sR, mR_sI, mK_sI, mN_sI, mn_sI, mJ_sI, mK_sR, mN_sR, mn_sR, mJ_sR, mI_wI, mR_wI, mK_wI, mN_wI, mn_wI, mJ_wI, ↓bnd_of, ↓bndX_r, ↓bndX_l, ↓ap_nr, bnd_of, bndX_r, bndX_l, if_true, if_false, ite_true, ite_false, not_true_eq_false, not_false_eq_true, Nat.reduceAdd, Nat.reduceMul, Nat.reduceEqDiff, Int.reduceToNat, Int.reduceNeg, Ilt_t, Ilt_f, Ile_t, Ile_f, Ieq_t, Ieq_f, Nlt_t, Nlt_f, Nle_t, Nle_f, Neq_t, Neq_f, or_true, true_or, or_false, false_or, and_true, true_and, and_false, false_and, ne_eq, or_self, and_self, decide_true, decide_false, Bool.false_eq_true]
        have esd : mI M2 (q + 4) (T.fo j) = i32 (T.sd (T.fo j)) := by rw [g2.i (by omega)]; exact hC.2.2.2.2.2.1 _ o.1
        rw [if_neg (by simp (disch := omega) only [↓reduceIte, add_i0, cast_add1, cast_sub1, toNat120, i32_lit, i32_neg, i32_add, i32_sub, i32_mul, i32_nat, i32_le, i32_lt, i32_eq, inB_i, Int.toNat_natCast, mI_sI_eq, mI_sI_ne, mR_sR_eq, mR_sR_ne, mI_sR, mR_sI, mK_sI, mN_sI, mn_sI, mJ_sI, mK_sR, mN_sR, mn_sR, mJ_sR, mI_wI, mR_wI, mK_wI, mN_wI, mn_wI, mJ_wI, ↓bnd_of, ↓bndX_r, ↓bndX_l, ↓ap_nr, bnd_of, bndX_r, bndX_l, if_true, if_false, ite_true, ite_false, not_true_eq_false, not_false_eq_true, Nat.reduceAdd, Nat.reduceMul, Nat.reduceEqDiff, Int.reduceToNat, Int.reduceNeg, Ilt_t, Ilt_f, Ile_t, Ile_f, Ieq_t, Ieq_f, Nlt_t, Nlt_f, Nle_t, Nle_f, Neq_t, Neq_f, or_true, true_or, or_false, false_or, and_true, true_and, and_false, false_and, ne_eq, or_self, and_self, decide_true, decide_false, Bool.false_eq_true]), r12, if_pos k11, n11, if_pos inj, r5, if_pos kq4, efo, nq4, if_pos inf, nat_i (by omega), esd, rj]
        unfold f_X7_clear_57
        rw [if_pos (by rw [K2]; exact kj), ap_of, k_add1, ← em3, ef]
    rw [st]
    refine ih (j + 1) m M3 (by omega) (by omega) (hL.all g23) (hc.all g23) (g.tr g23) (fun l hl => ?_)
    by_cases c : l = j
    · subst c
      refine ⟨?_, ?_⟩
      · rw [← em3, mI_sI_ne (by omega), ← em, mI_sI_eq]; rfl
      · rw [← em3, mI_sI_eq]
    · rw [← em3, mI_sI_ne (by omega), mI_sI_ne (by omega), ← em, mI_sI_ne (by omega), mI_sI_ne (by omega)]
      exact h l (by omega)
def scI (q a j : Nat) : Prop := vwI q a j ∨ (a = 18 ∧ (j = 1 ∨ j = 3)) ∨ (21 ≤ a ∧ a ≤ 52) ∨ (a = 1 ∧ j = 13) ∨ (88 ≤ a ∧ a ≤ 112 ∧ j ≤ 1) ∨ ((a = 124 ∨ a = 129) ∧ j = 0)
def scR (a j : Nat) : Prop := a = 4 ∨ (a = 1 ∧ (j = 8 ∨ j = 10))
theorem c_schema (hL : CLay M) (hc : ColLay M 21) (hT : TPc M t z) (hm : 164 ≤ mn M) (hq : ShLay M q) (q1 : 88 ≤ q) (q2 : q ≤ 112) (hv : ShLay M v) (v1 : 88 ≤ v) (v2 : v ≤ 112) (hvq : v + 11 < q ∨ q + 11 < v) (s2 : s ≤ 112) (hp : PiLay M p) (p1 : p = 124 ∨ p = 129) (h8 : mR M 1 8 = s) (h9 : mR M 1 9 = v) (h10 : mR M 1 10 = q) (h11 : mR M 1 11 = p) (n : Int) (n1 : -2147483648 ≤ n) (n2 : n ≤ 2147483647) : ∃ M', f_X11_schema 1 (i32 n) M = some (a_shape false T00 t z n, M') ∧ (if 0 ≤ n ∧ n ≤ z then (mI M' 2 1 = i32 0 ∧ match shF false T00 t n.toNat (n.toNat + 1) 0 T00 (-1) 0 with
    | .inl y => Fr (vwI q) scR M M' ∧ mI M' 1 14 = i32 y.2 ∧ mI M' 18 4 = mI M 18 4 + i32 1 ∧ mR M' 1 8 = s ∧ mR M' 1 10 = q
    | .inr T => Fr (scI q) scR M M' ∧ mI M' 1 14 = i32 (-1) ∧ mI M' 18 4 = mI M 18 4 ∧ mR M' 1 8 = q ∧ mR M' 1 10 = s ∧ CSh M' q T ∧ mI M' v 0 = i32 0 ∧ mI M' p 0 = i32 0 ∧ CC M' 21 T.fu A00 ∧ mI M' 18 1 = i32 0 ∧ mI M' 18 3 = i32 0 ∧ mI M' 1 13 = i32 0) else M' = M) := by
  have en := X11_needTape hL hT n n1 n2
  have k1 : mK M 1 = 12 := by simp only [hL.o]
  have r0 : mR M 1 0 = 2 := by simp only [hL.o]
  have k2 : mK M 2 = 10 := by simp only [hL.o]
  unfold a_shape
  by_cases c : 0 ≤ n ∧ n ≤ z
  · rw [if_pos c] at en
    simp only [c, and_self, if_true]
    obtain ⟨n, rfl⟩ : ∃ k : Nat, n = k := ⟨n.toNat, by omega⟩
    simp only [Int.toNat_natCast]
    obtain ⟨M1, e1, g1, x1, kk1, o1⟩ := X9_open hL hT (n := n) (by omega)
    have hL1 := hL.all g1
    have k11 : mK M1 1 = 12 := by simp only [hL1.o]
    have r11 : mR M1 1 1 = 4 := by simp only [hL1.o]
    have k41 : mK M1 4 = 7 := by simp only [hL1.o]
    have r01 : mR M1 1 0 = 2 := by simp only [hL1.o]
    have r101 : mR M1 1 10 = q := by rw [g1.r]; exact h10
    obtain ⟨x2, M2, e2, g2, r2⟩ := X6_read (vw := false) (S := T00) (s := q) hL1 (hq.all g1) q1 q2 (by rw [g1.2.2.1]; exact hm) (by omega) x1 kk1 (fun w => absurd w (by decide))
    have e2 : f_X6_read 4 2 q q (0 : Int32) M1 = some (i32 x2, M2) := e2
    have dy : ∀ a j, s4R a j → DyR a j := fun a j h => by unfold s4R at h; unfold DyR; omega
    have gw2 : Gw (s4I q) s4R M1 M2 := g2.gw (fun a j h => by unfold s4I tkC at h; omega) (fun a j h => by unfold s4R at h; omega)
    have hL2 := hL1.gw gw2 dy
    have k12 : mK M2 1 = 12 := by simp only [hL2.o]
    have gf2 : Fr (vwI q) scR M M2 := (g1.fr (fun a j h => by unfold vwI; omega)).tr (g2.mono (fun a j h => by unfold s4I tkC at h; unfold vwI; omega) (fun a j h => by unfold s4R at h; unfold scR; omega))
    have s22 : mI M2 2 1 = i32 0 := by rw [g2.i (by unfold s4I tkC; omega)]; exact o1
    have s184 : mI M2 18 4 = mI M 18 4 := by rw [g2.i (by unfold s4I tkC; omega), g1.i (by omega)]
    have r82 : mR M2 1 8 = s := by rw [g2.r (by unfold s4R; omega), g1.r]; exact h8
    have r92 : mR M2 1 9 = v := by rw [g2.r (by unfold s4R; omega), g1.r]; exact h9
    have r102 : mR M2 1 10 = q := by rw [g2.r (by unfold s4R; omega), g1.r]; exact h10
    have r112 : mR M2 1 11 = p := by rw [g2.r (by unfold s4R; omega), g1.r]; exact h11
    have mn2 : mn M2 = mn M := gf2.2.2.1
    have st : ∀ X, (bnd (f_X11_noteFault 1 (i32 x2) M2) fun r14 M13 => if r14 = 0 then if mK M13 1 = 12 then if okrB M13 [mR M13 1 10] = true then ap (sR M13 1 8 (mR M13 1 10)) fun M17 => if mK M17 1 = 12 then if okrB M17 [mR M13 1 8] = true then ap (sR M17 1 10 (mR M13 1 8)) fun M20 => if mK M20 1 = 12 then if mK M20 (mR M20 1 9) = 6 then bnd (f_X5_clear (mR M20 1 9) M20) fun _ M24 => if mK M24 1 = 12 then if mK M24 (mR M24 1 11) = 4 then bnd (f_X3_clear (mR M24 1 11) M24) fun _ M28 => if mK M28 1 = 12 then if mK M28 (mR M28 1 6) = 8 then bnd (f_X7_clear (mR M28 1 6) (mR M28 1 8) M28) fun _ M32 => if mK M32 1 = 12 then ap (sI M32 1 13 (0 : Int32)) fun M35 => some (.inr (0 : Int32), M35) else none else none else none else none else none else none else none else none else none else none else none else some (.inr (i32 x2), M13)) = some X → f_X11_schema 1 (i32 (n : Int)) M = some X := fun X hX => by
      unfold f_X11_schema
      rw [if_pos k1, bxX en, if_pos k1, r0, if_pos k2, bx e1, if_pos k11, r11, if_pos k41, r01, r101, bx e2, if_pos k12]
      exact hX
    have ok2 := shF_ok (vw := false) (S := T00) (tb := t) (n := n) (fun w => absurd w (by decide)) hT.2.2.2 (n + 1) 0 T00 (-1) 0 (fun _ => 0) BI_start (by omega)
    generalize shF false T00 t n (n + 1) 0 T00 (-1) 0 = y at r2 ok2
    match y, r2, ok2 with
    | .inl y, r2, ok2 =>
      obtain ⟨p1, p2⟩ := r2
      subst p1
      have e4 := X11_noteF hL2 y.1 ok2.1 ok2.2
      have nz1 : ¬ (i32 1 = i32 0) := i32_ne (by omega) (by omega) (by omega) (by omega) (by omega)
      refine ⟨sI (sI M2 1 14 (mI M2 2 4)) 18 4 (mI M2 18 4 + i32 1), st _ ?_, ?_, (gf2.sI (by unfold vwI; omega)).sI (by unfold vwI; omega), ?_, ?_, ?_, ?_⟩
      · rw [bx e4, if_neg (by exact nz1)]
      · rw [mI_sI_ne (by omega), mI_sI_ne (by omega)]; exact s22
      · rw [mI_sI_ne (by omega), mI_sI_eq]; exact p2
      · rw [mI_sI_eq, s184]
      · rw [mR_sI, mR_sI]; exact r82
      · rw [mR_sI, mR_sI]; exact r102
    | .inr T, r2, ok2 =>
      obtain ⟨p3, p4⟩ := r2
      subst p3
      obtain ⟨nf0, d', dp', bi⟩ := ok2
      have hTo := bi.1
      have e4 := X11_note0 hL2
      -- the shapes change places, the view and the pipe are empty
      obtain ⟨M3, em3⟩ : ∃ M3, sI (sI (sI (sR (sR (sI M2 1 14 (i32 (-1))) 1 8 q) 1 10 s) v 0 (0 : Int32)) v 1 (0 : Int32)) p 0 (0 : Int32) = M3 := ⟨_, rfl⟩
      have gf3 : Fr (scI q) scR M M3 := by
        rw [← em3]
        exact ((((((gf2.mono (P' := scI q) (Q' := scR) (fun a j h => Or.inl h) (fun a j h => h)).sI (by unfold scI vwI; omega)).sR (by unfold scR; omega)).sR (by unfold scR; omega)).sI (by unfold scI; omega)).sI (by unfold scI; omega)).sI (by unfold scI; omega)
      have lt3 : ∀ a j, scI q a j → a < 165 := fun a j h => by unfold scI vwI at h; omega
      have lr3 : ∀ a j, scR a j → a < 165 := fun a j h => by unfold scR at h; omega
      have dy3 : ∀ a j, scR a j → DyR a j := fun a j h => by unfold scR at h; unfold DyR; omega
      have gw3 : Gw (scI q) scR M M3 := gf3.gw lt3 lr3
      have hL3 := hL.gw gw3 dy3
      have hq3 := hq.gw q1 q2 gw3 dy3
      have hc3 := hc.gw (Or.inl rfl) gw3 dy3
      have i3 : ∀ a j, ¬ (a = 1 ∧ j = 14) → ¬ (a = v ∧ j ≤ 1) → ¬ (a = p ∧ j = 0) → mI M3 a j = mI M2 a j := fun a j h1 h2 h3 => by
        rw [← em3, mI_sI_ne (by omega), mI_sI_ne (by omega), mI_sI_ne (by omega)]
        show mI (sI M2 1 14 (i32 (-1))) a j = _
        rw [mI_sI_ne (by omega)]
      have cs3 : CSh M3 q T := by
        have e0 : ∀ j, mI M3 q j = mI M2 q j := fun j => i3 q j (by omega) (by omega) (by omega)
        have e1 : ∀ i j, i ≤ 11 → mI M3 (q + i) j = mI M2 (q + i) j := fun i j h => i3 _ j (by omega) (by omega) (by omega)
        unfold CSh at p4 ⊢
        simp only [e0, e1 1 _ (by omega), e1 2 _ (by omega), e1 3 _ (by omega), e1 4 _ (by omega), e1 5 _ (by omega), e1 6 _ (by omega), e1 7 _ (by omega), e1 8 _ (by omega), e1 9 _ (by omega), e1 10 _ (by omega), e1 11 _ (by omega)]
        exact p4
      have k183 : mK M3 18 = 8 := by simp only [hL3.o]
      have r63 : mR M3 1 6 = 18 := by simp only [hL3.o]
      have k13 : mK M3 1 = 12 := by simp only [hL3.o]
      have r83 : mR M3 1 8 = q := by
        rw [← em3]
        show mR (sR (sR (sI M2 1 14 (i32 (-1))) 1 8 q) 1 10 s) 1 8 = q
        rw [mR_sR_ne (by omega), mR_sR_eq]
      have r103 : mR M3 1 10 = s := by
        rw [← em3]
        show mR (sR (sR (sI M2 1 14 (i32 (-1))) 1 8 q) 1 10 s) 1 10 = s
        rw [mR_sR_eq]
      obtain ⟨M4, em4⟩ : ∃ M4, sI (sI M3 18 1 (0 : Int32)) 18 3 (0 : Int32) = M4 := ⟨_, rfl⟩
      have g4 : Chg (fun a j => a = 18 ∧ (j = 1 ∨ j = 3)) M3 M4 := by
        rw [← em4]
        exact ((Chg.rf _ M3).sI ⟨rfl, Or.inl rfl⟩).sI ⟨rfl, Or.inr rfl⟩
      have hL4 := hL3.all g4
      have cs4 : CSh M4 q T := cs3.away g4 (fun a j h => by omega)
      obtain ⟨M5, e5, g5, w5⟩ := X7_clear12 (M := M4) (q := q) hTo (hq3.all g4) cs4 q1 8 0 FUEL M4 (by omega) (by unfold FUEL; omega) hL4 (hc3.all g4) (Chg.rf _ M4) (fun l hl => by omega)
      have e5 : f_X7_clear_12 FUEL 18 q (0 : Int32) M4 = some ((), M5) := e5
      have hL5 := hL4.all g5
      have k15 : mK M5 1 = 12 := by simp only [hL5.o]
      have ecl : f_X7_clear 18 q M3 = some ((), M5) := by
        unfold f_X7_clear
        rw [if_pos k183, ap_of, if_pos (by exact k183), ap_of, em4, e5]
      have kv : mK M2 v = 6 := by
        have := (hv.gw v1 v2 (gf2.gw (fun a j h => by unfold vwI at h; omega) lr3) dy3).o.1
        exact this
      have kp : mK M2 p = 4 := by
        have := (hp.gw (by omega) (by omega) (gf2.gw (fun a j h => by unfold vwI at h; omega) lr3) dy3).o.1
        exact this
      have fr5 : ∀ a j, ¬ (a = 18 ∧ (j = 1 ∨ j = 3)) → ¬ (21 ≤ a ∧ a ≤ 52) → mI M5 a j = mI M3 a j := fun a j h1 h2 => by rw [g5.i (by omega), g4.i (by omega)]
      refine ⟨sI M5 1 13 (0 : Int32), st _ ?_, ?_, (gf3.tr ((g4.fr (fun a j h => by unfold scI; omega)).tr (g5.fr (fun a j h => by unfold scI; omega)))).sI (by unfold scI; omega), ?_, ?_, ?_, ?_, ?_, ?_, ?_, ?_, ?_, ?_, mI_sI_eq⟩
      · have x3 : f_X5_clear v (sR (sR (sI M2 1 14 (i32 (-1))) 1 8 q) 1 10 s) = some ((), sI (sI (sR (sR (sI M2 1 14 (i32 (-1))) 1 8 q) 1 10 s) v 0 (0 : Int32)) v 1 (0 : Int32)) := by
          unfold f_X5_clear
          rw [if_pos (by exact kv), ap_of, if_pos (by exact kv), ap_of]
        have x4 : f_X3_clear p (sI (sI (sR (sR (sI M2 1 14 (i32 (-1))) 1 8 q) 1 10 s) v 0 (0 : Int32)) v 1 (0 : Int32)) = some ((), M3) := by
          unfold f_X3_clear
          rw [if_pos (by exact kp), ap_of, em3]
        have y9 : mR (sR (sR (sI M2 1 14 (i32 (-1))) 1 8 q) 1 10 s) 1 9 = v := by rw [mR_sR_ne (by omega), mR_sR_ne (by omega), mR_sI]; exact r92
        have y11 : mR (sI (sI (sR (sR (sI M2 1 14 (i32 (-1))) 1 8 q) 1 10 s) v 0 (0 : Int32)) v 1 (0 : Int32)) 1 11 = p := by
          show mR (sR (sR (sI M2 1 14 (i32 (-1))) 1 8 q) 1 10 s) 1 11 = p
          rw [mR_sR_ne (by omega), mR_sR_ne (by omega), mR_sI]; exact r112
        rw [bx e4, if_pos (by rfl), if_pos (by exact k12), mR_sI, r102, if_pos (by rw [okrB_sI, okB1 (by omega)]; trivial), ap_of, if_pos (by exact k12), r82, if_pos (by rw [okrB_sR, okrB_sI, okB1 (by omega)]; trivial), ap_of, if_pos (by exact k12), y9, if_pos (by exact kv), bx x3, if_pos (by exact k12), y11, if_pos (by exact kp), bx x4, if_pos k13, r63, if_pos k183, r83, bx ecl, if_pos k15, ap_of]
        rfl
      · rw [mI_sI_ne (by omega), fr5 _ _ (by omega) (by omega), i3 _ _ (by omega) (by omega) (by omega)]; exact s22
      · rw [mI_sI_ne (by omega), fr5 _ _ (by omega) (by omega), ← em3, mI_sI_ne (by omega), mI_sI_ne (by omega), mI_sI_ne (by omega), mI_sR, mI_sR]
        exact mI_sI_eq
      · rw [mI_sI_ne (by omega), fr5 _ _ (by omega) (by omega), i3 _ _ (by omega) (by omega) (by omega)]; exact s184
      · rw [mR_sI, g5.r, g4.r]; exact r83
      · rw [mR_sI, g5.r, g4.r]; exact r103
      · exact (cs4.away g5 (fun a j h => by omega)).away ((Chg.rf (fun a j => a = 1 ∧ j = 13) M5).sI ⟨rfl, rfl⟩) (fun a j h => by omega)
      · rw [mI_sI_ne (by omega), fr5 _ _ (by omega) (by omega), ← em3, mI_sI_ne (by omega), mI_sI_ne (by omega), mI_sI_eq]; rfl
      · rw [mI_sI_ne (by omega), fr5 _ _ (by omega) (by omega), ← em3, mI_sI_eq]; rfl
      · refine ⟨A00_ok, fun l hl => ?_, fun l j hl hj => absurd hj (Nat.not_lt_zero j), fun l j hl hj => absurd hj (Nat.not_lt_zero j), fun l j hl hj => absurd hj (Nat.not_lt_zero j), fun l hl => ?_, fun l => ?_⟩
        · rw [mI_sI_ne (by omega)]; exact (w5 l hl).1
        · rw [mI_sI_ne (by omega)]; exact (w5 l hl).2
        · unfold Sc.fu
          split
          · exact hTo.2.2.2.2.2.1 _
          · omega
      · rw [mI_sI_ne (by omega), g5.i (by omega), ← em4, mI_sI_ne (by omega), mI_sI_eq]; rfl
      · rw [mI_sI_ne (by omega), g5.i (by omega), ← em4, mI_sI_eq]; rfl
  · rw [if_neg c] at en
    simp only [c, if_false]
    refine ⟨M, ?_, rfl⟩
    unfold f_X11_schema
    rw [if_pos k1, bxL en]
end
