/-! add in the class: entries staged -/
def adC (a j : Nat) : Prop := tkC a j ∨ (a = 5 ∧ j = 5) ∨ a = 6 ∨ (21 ≤ a ∧ a ≤ 52)
def ARL (M : Mem) (s : Nat) (S : Sc) (tb : Nat → Int) (n : Nat) : Prop := CLay M ∧ ColLay M 21 ∧ ShLay M s ∧ CSh M s S ∧ 88 ≤ s ∧ s ≤ 112 ∧ mR M 5 2 = 2 ∧ mR M 5 3 = s ∧ mR M 5 4 = 18 ∧ TXc M tb n
def CX (M : Mem) (S : Sc) (A0 B : St) : Prop := CC M 21 S.fu A0 ∧ B.lvo ∧ (∀ l, l < 8 → A0.sz l ≤ B.sz l) ∧ (∀ l, l < S.nl → mI M 6 l = i32 (B.sz l)) ∧ (∀ l j, l < 8 → j < B.sz l → j < 120 → mI M (21 + 4 * l + 1) j = i32 (B.rp l j) ∧ mI M (21 + 4 * l + 2) j = i32 (B.df l j) ∧ mI M (21 + 4 * l + 3) j = i32 (B.vl l j))
section
variable {M M' : Mem} {S : Sc} {s : Nat} {tb : Nat → Int} {n : Nat} {A0 B : St}
theorem ARL.chg (h : ARL M s S tb n) (g : Chg adC M M') : ARL M' s S tb n := by
  obtain ⟨h1, h2, h3, h4, h5, h6, h7, h8, h9, h10⟩ := h
  refine ⟨h1.all g, h2.all g, h3.all g, h4.gw h5 h6 (g.gw (Q := fun _ _ => False) (fun a j q => by unfold adC tkC at q; omega)) (fun a j q => by unfold adC tkC at q; omega), h5, h6, by rw [g.r]; exact h7, by rw [g.r]; exact h8, by rw [g.r]; exact h9, h10.chg g (by unfold adC tkC; omega) (fun i => by unfold adC tkC; omega)⟩
theorem tkC_ad (a j : Nat) (h : tkC a j) : adC a j := Or.inl h
theorem CX.cg (h : CX M S A0 B) (g : ∀ a j, a = 6 ∨ (21 ≤ a ∧ a ≤ 52) → mI M' a j = mI M a j) : CX M' S A0 B := by
  obtain ⟨h1, h2, h3, h4, h5⟩ := h
  obtain ⟨c0, c1, c2, c3, c4, c5, c6⟩ := h1
  refine ⟨⟨c0, fun l hl => ?_, fun l j hl hj => ?_, fun l j hl hj => ?_, fun l j hl hj => ?_, fun l hl => ?_, c6⟩, h2, h3, fun l hl => ?_, fun l j hl hj h120 => ?_⟩
  · rw [g _ _ (by omega)]; exact c1 l hl
  · rw [g _ _ (by omega)]; exact c2 l j hl hj
  · rw [g _ _ (by omega)]; exact c3 l j hl hj
  · rw [g _ _ (by omega)]; exact c4 l j hl hj
  · rw [g _ _ (by omega)]; exact c5 l hl
  · rw [g _ _ (by omega)]; exact h4 l hl
  · rw [g _ _ (by omega), g _ _ (by omega), g _ _ (by omega)]; exact h5 l j hl hj h120
theorem CX.tk (h : CX M S A0 B) (g : Chg tkC M M') : CX M' S A0 B := h.cg (fun a j q => g.i (by unfold tkC; omega))
theorem X2_putN (hc : ColLay M 21) {l j : Nat} (hl : l < 8) (hj : 120 ≤ j) (hj2 : j ≤ 2000000000) (a b c : Int32) : f_X2_put (21 + 4 * l) (i32 j) a b c M = some ((), M) := by
  have p : ¬ (i32 (j : Int) < i32 0) := by simp (disch := omega) only [↓reduceIte, add_i0, cast_add1, cast_sub1, toNat120, i32_lit, i32_neg, i32_add, i32_sub, i32_mul, i32_nat, i32_le, i32_lt, i32_eq, inB_i, Int.toNat_natCast, mI_sI_eq, mI_sI_ne, mR_sR_eq, mR_sR_ne, mI_sR, mR_sI, mK_sI, mN_sI, mn_sI, mJ_sI, mK_sR, mN_sR, mn_sR, mJ_sR, mI_wI, mR_wI, mK_wI, mN_wI, mn_wI, mJ_wI, ↓bnd_of, ↓bndX_r, ↓bndX_l, ↓ap_nr, bnd_of, bndX_r, bndX_l, if_true, if_false, ite_true, ite_false, not_true_eq_false, not_false_eq_true, Nat.reduceAdd, Nat.reduceMul, Nat.reduceEqDiff, Int.reduceToNat, Int.reduceNeg, Ilt_t, Ilt_f, Ile_t, Ile_f, Ieq_t, Ieq_f, Nlt_t, Nlt_f, Nle_t, Nle_f, Neq_t, Neq_f, or_true, true_or, or_false, false_or, and_true, true_and, and_false, false_and, ne_eq, or_self, and_self, decide_true, decide_false, Bool.false_eq_true]
  have q : ¬ (i32 (j : Int) < i32 120) := by simp (disch := omega) only [↓reduceIte, add_i0, cast_add1, cast_sub1, toNat120, i32_lit, i32_neg, i32_add, i32_sub, i32_mul, i32_nat, i32_le, i32_lt, i32_eq, inB_i, Int.toNat_natCast, mI_sI_eq, mI_sI_ne, mR_sR_eq, mR_sR_ne, mI_sR, mR_sI, mK_sI, mN_sI, mn_sI, mJ_sI, mK_sR, mN_sR, mn_sR, mJ_sR, mI_wI, mR_wI, mK_wI, mN_wI, mn_wI, mJ_wI, ↓bnd_of, ↓bndX_r, ↓bndX_l, ↓ap_nr, bnd_of, bndX_r, bndX_l, if_true, if_false, ite_true, ite_false, not_true_eq_false, not_false_eq_true, Nat.reduceAdd, Nat.reduceMul, Nat.reduceEqDiff, Int.reduceToNat, Int.reduceNeg, Ilt_t, Ilt_f, Ile_t, Ile_f, Ieq_t, Ieq_f, Nlt_t, Nlt_f, Nle_t, Nle_f, Neq_t, Neq_f, or_true, true_or, or_false, false_or, and_true, true_and, and_false, false_and, ne_eq, or_self, and_self, decide_true, decide_false, Bool.false_eq_true]
  have q2 : i32 120 ≤ i32 (j : Int) := by simp (disch := omega) only [↓reduceIte, add_i0, cast_add1, cast_sub1, toNat120, i32_lit, i32_neg, i32_add, i32_sub, i32_mul, i32_nat, i32_le, i32_lt, i32_eq, inB_i, Int.toNat_natCast, mI_sI_eq, mI_sI_ne, mR_sR_eq, mR_sR_ne, mI_sR, mR_sI, mK_sI, mN_sI, mn_sI, mJ_sI, mK_sR, mN_sR, mn_sR, mJ_sR, mI_wI, mR_wI, mK_wI, mN_wI, mn_wI, mJ_wI, ↓bnd_of, ↓bndX_r, ↓bndX_l, ↓ap_nr, bnd_of, bndX_r, bndX_l, if_true, if_false, ite_true, ite_false, not_true_eq_false, not_false_eq_true, Nat.reduceAdd, Nat.reduceMul, Nat.reduceEqDiff, Int.reduceToNat, Int.reduceNeg, Ilt_t, Ilt_f, Ile_t, Ile_f, Ieq_t, Ieq_f, Nlt_t, Nlt_f, Nle_t, Nle_f, Neq_t, Neq_f, or_true, true_or, or_false, false_or, and_true, true_and, and_false, false_and, ne_eq, or_self, and_self, decide_true, decide_false, Bool.false_eq_true]
  unfold f_X2_put
  first
    | rw [if_neg (by exact p), if_pos (by exact q2)]
    | rw [if_neg (by exact p), if_neg (by exact q)]
theorem X4_stage (hR : ARL M s S tb n) (hX : CX M S A0 B) (h8 : S.nl ≤ 8) {l : Nat} {r d v : Int} (hx : En.ok S.nl (l, r, d, v)) (hs : B.sz l ≤ 1000000) : ∃ M', f_X4_stage 5 (i32 l) (i32 r) (i32 d) (i32 v) M = some ((), M') ∧ Chg adC M M' ∧ CX M' S A0 (B.app (l, r, d, v)) ∧ ∀ j, mI M' 2 j = mI M 2 j := by
  have hlv := app_lvo hX.2.1 hx
  obtain ⟨x0, x1, x2, x3⟩ := hx
  have x0 : l < S.nl := x0
  obtain ⟨hL, hc, hsl, hsh, s1, s2, r52, r53, r54, hT⟩ := hR
  obtain ⟨hC, hB, hle, h6, hent⟩ := hX
  have k5 : mK M 5 = 5 := by simp only [hL.o]
  have k18 : mK M 18 = 8 := by simp only [hL.o]
  have r180 : mR M 18 0 = 19 := by simp only [hL.o]
  have k19 : mK M 19 = 23 := by simp only [hL.o]
  have n19 : mN M 19 = 8 := by simp only [hL.o]
  have r50 : mR M 5 0 = 6 := by simp only [hL.o]
  have k6 : mK M 6 = 21 := by simp only [hL.o]
  have n6 : mN M 6 = 8 := by simp only [hL.o]
  have hca := hc.at21 (l := l) (by omega)
  have rl : mR M 19 l = 21 + 4 * l := by simp only [hca.o]
  have kl : mK M (21 + 4 * l) = 3 := by simp only [hca.o]
  have inl : inB (i32 (l : Int)) 8 = true := by simp (disch := omega) only [↓reduceIte, add_i0, cast_add1, cast_sub1, toNat120, i32_lit, i32_neg, i32_add, i32_sub, i32_mul, i32_nat, i32_le, i32_lt, i32_eq, inB_i, Int.toNat_natCast, mI_sI_eq, mI_sI_ne, mR_sR_eq, mR_sR_ne, mI_sR, mR_sI, mK_sI, mN_sI, mn_sI, mJ_sI, mK_sR, mN_sR, mn_sR, mJ_sR, mI_wI, mR_wI, mK_wI, mN_wI, mn_wI, mJ_wI, ↓bnd_of, ↓bndX_r, ↓bndX_l, ↓ap_nr, bnd_of, bndX_r, bndX_l, if_true, if_false, ite_true, ite_false, not_true_eq_false, not_false_eq_true, Nat.reduceAdd, Nat.reduceMul, Nat.reduceEqDiff, Int.reduceToNat, Int.reduceNeg, Ilt_t, Ilt_f, Ile_t, Ile_f, Ieq_t, Ieq_f, Nlt_t, Nlt_f, Nle_t, Nle_f, Neq_t, Neq_f, or_true, true_or, or_false, false_or, and_true, true_and, and_false, false_and, ne_eq, or_self, and_self, decide_true, decide_false, Bool.false_eq_true]
  have el := h6 l x0
  have fin : ∀ M1 : Mem, f_X2_put (21 + 4 * l) (i32 (B.sz l : Int)) (i32 r) (i32 d) (i32 v) M = some ((), M1) → Chg adC M M1 → mI M1 6 l = i32 (B.sz l) → f_X4_stage 5 (i32 l) (i32 r) (i32 d) (i32 v) M = some ((), sI M1 6 l (i32 ((B.sz l + 1 : Nat) : Int))) := fun M1 e1 g1 e6 => by
    have hL1 := hL.all g1
    have k51 : mK M1 5 = 5 := by simp only [hL1.o]
    have r501 : mR M1 5 0 = 6 := by simp only [hL1.o]
    have k61 : mK M1 6 = 21 := by simp only [hL1.o]
    have n61 : mN M1 6 = 8 := by simp only [hL1.o]
    unfold f_X4_stage
    rw [if_pos k5, r54, if_pos k18, r180, if_pos k19, n19, if_pos inl, r50, if_pos k6, n6, if_pos inl, nat_i (by omega), rl, if_pos kl, el, bx e1, if_pos k51, r501, if_pos k61, n61, if_pos inl, e6, k_add1, ap_of]
  by_cases c : B.sz l < 120
  · have e1 := X2_put hc (l := l) (j := B.sz l) (by omega) c (i32 r) (i32 d) (i32 v)
    obtain ⟨M1, em⟩ : ∃ M1, sI (sI (sI M (21 + 4 * l + 1) (B.sz l) (i32 r)) (21 + 4 * l + 2) (B.sz l) (i32 d)) (21 + 4 * l + 3) (B.sz l) (i32 v) = M1 := ⟨_, rfl⟩
    rw [em] at e1
    have g1 : Chg adC M M1 := by
      rw [← em]
      exact (((Chg.rf adC M).sI (by unfold adC; omega)).sI (by unfold adC; omega)).sI (by unfold adC; omega)
    have rd : ∀ a j, (j ≠ B.sz l ∨ (a ≠ 21 + 4 * l + 1 ∧ a ≠ 21 + 4 * l + 2 ∧ a ≠ 21 + 4 * l + 3)) → mI M1 a j = mI M a j := fun a j q => by
      rw [← em, mI_sI_ne (by omega), mI_sI_ne (by omega), mI_sI_ne (by omega)]
    have e6 : mI M1 6 l = i32 (B.sz l) := by rw [rd _ _ (by omega)]; exact el
    refine ⟨_, fin M1 e1 g1 e6, g1.sI (by unfold adC; omega), ⟨?_, hlv, fun k hk => ?_, fun k hk => ?_, fun k j hk hj h120 => ?_⟩, fun j => ?_⟩
    · have hlel := hle l (by omega)
      obtain ⟨c0, c1, c2, c3, c4, c5, c6⟩ := hC
      refine ⟨c0, fun k hk => ?_, fun k j hk hj => ?_, fun k j hk hj => ?_, fun k j hk hj => ?_, fun k hk => ?_, c6⟩
      · rw [mI_sI_ne (by omega), rd _ _ (by omega)]; exact c1 k hk
      · rw [mI_sI_ne (by omega), rd _ _ (by
          by_cases w : k = l
          · subst w; omega
          · omega)]; exact c2 k j hk hj
      · rw [mI_sI_ne (by omega), rd _ _ (by
          by_cases w : k = l
          · subst w; omega
          · omega)]; exact c3 k j hk hj
      · rw [mI_sI_ne (by omega), rd _ _ (by
          by_cases w : k = l
          · subst w; omega
          · omega)]; exact c4 k j hk hj
      · rw [mI_sI_ne (by omega), rd _ _ (by omega)]; exact c5 k hk
    · have := hle k hk
      rw [app_sz]
      omega
    · rw [app_sz]
      by_cases q : l = k
      · subst q
        rw [mI_sI_eq, if_pos rfl]
      · rw [mI_sI_ne (by omega), if_neg q, rd _ _ (by omega)]
        exact h6 k hk
    · rw [app_sz] at hj
      rw [mI_sI_ne (by omega), mI_sI_ne (by omega), mI_sI_ne (by omega)]
      by_cases q : k = l ∧ j = B.sz k
      · have a1 : (B.app (l, r, d, v)).rp k j = r := if_pos q
        have a2 : (B.app (l, r, d, v)).df k j = d := if_pos q
        have a3 : (B.app (l, r, d, v)).vl k j = v := if_pos q
        rw [a1, a2, a3]
        obtain ⟨q1, q2⟩ := q
        subst q1; subst q2
        rw [← em]
        refine ⟨?_, ?_, ?_⟩
        · rw [mI_sI_ne (by omega), mI_sI_ne (by omega), mI_sI_eq]
        · rw [mI_sI_ne (by omega), mI_sI_eq]
        · rw [mI_sI_eq]
      · have hj2 : j < B.sz k := by
          by_cases w : l = k
          · rw [if_pos w] at hj; omega
          · rw [if_neg w] at hj; omega
        have o := app_old B (l, r, d, v) hj2
        have ne : ∀ i, 1 ≤ i → i ≤ 3 → (j ≠ B.sz l ∨ (21 + 4 * k + i ≠ 21 + 4 * l + 1 ∧ 21 + 4 * k + i ≠ 21 + 4 * l + 2 ∧ 21 + 4 * k + i ≠ 21 + 4 * l + 3)) := fun i i1 i3 => by
          by_cases w : k = l
          · subst w; omega
          · omega
        rw [o.1, o.2.1, o.2.2, rd _ _ (ne 1 (by omega) (by omega)), rd _ _ (ne 2 (by omega) (by omega)), rd _ _ (ne 3 (by omega) (by omega))]
        exact hent k j hk hj2 h120
    · rw [mI_sI_ne (by omega), rd _ _ (by omega)]
  · have e1 := X2_putN hc (l := l) (j := B.sz l) (by omega) (by omega) (by omega) (i32 r) (i32 d) (i32 v)
    refine ⟨_, fin M e1 (Chg.rf _ M) el, (Chg.rf adC M).sI (by unfold adC; omega), ⟨?_, hlv, fun k hk => ?_, fun k hk => ?_, fun k j hk hj h120 => ?_⟩, fun j => mI_sI_ne (by omega)⟩
    · obtain ⟨c0, c1, c2, c3, c4, c5, c6⟩ := hC
      refine ⟨c0, fun k hk => ?_, fun k j hk hj => ?_, fun k j hk hj => ?_, fun k j hk hj => ?_, fun k hk => ?_, c6⟩
      · rw [mI_sI_ne (by omega)]; exact c1 k hk
      · rw [mI_sI_ne (by omega)]; exact c2 k j hk hj
      · rw [mI_sI_ne (by omega)]; exact c3 k j hk hj
      · rw [mI_sI_ne (by omega)]; exact c4 k j hk hj
      · rw [mI_sI_ne (by omega)]; exact c5 k hk
    · have := hle k hk
      rw [app_sz]
      omega
    · rw [app_sz]
      by_cases q : l = k
      · subst q
        rw [mI_sI_eq, if_pos rfl]
      · rw [mI_sI_ne (by omega), if_neg q]
        exact h6 k hk
    · rw [app_sz] at hj
      have hj2 : j < B.sz k := by
        by_cases w : l = k
        · rw [if_pos w] at hj
          subst w
          omega
        · rw [if_neg w] at hj; omega
      have o := app_old B (l, r, d, v) hj2
      rw [mI_sI_ne (by omega), mI_sI_ne (by omega), mI_sI_ne (by omega), o.1, o.2.1, o.2.2]
      exact hent k j hk hj2 h120
theorem X4_none3 (hS : S.ok) {f : Nat} (hf : f < S.nf) {r d : Int} (r0 : 0 ≤ r) (r9 : r ≤ 9) (d0 : 0 ≤ d) (d9 : d ≤ 9) : ∀ (k j m : Nat) (M : Mem) (B : St), j + k = S.nl → k < m → ARL M s S tb n → CX M S A0 B → (∀ l, B.sz l + k ≤ 1000000) → ∃ M', f_X4_putNone_3 m 5 (i32 f) (i32 r) (i32 d) (i32 j) M = some ((), M') ∧ Chg adC M M' ∧ CX M' S A0 (B.apL (lackE S f r d k j)) ∧ ∀ i, mI M' 2 i = mI M 2 i := by
  have hnl := hS.2.1
  have hnf := hS.1
  intro k
  induction k with
  | zero =>
    intro j m M B hj hm hR hX hb
    obtain ⟨m, rfl⟩ : ∃ q, m = q + 1 := ⟨m - 1, by omega⟩
    obtain ⟨hL, hc, hsl, hsh, s1, s2, r52, r53, r54, hT⟩ := hR
    have k5 : mK M 5 = 5 := by simp only [hL.o]
    have ks : mK M s = 6 := by simp only [hsl.o]
    refine ⟨M, ?_, Chg.rf _ M, hX, fun i => rfl⟩
    unfold f_X4_putNone_3
    rw [if_pos k5, r53, if_pos ks, hsh.2.1, if_pos (by simp (disch := omega) only [↓reduceIte, add_i0, cast_add1, cast_sub1, toNat120, i32_lit, i32_neg, i32_add, i32_sub, i32_mul, i32_nat, i32_le, i32_lt, i32_eq, inB_i, Int.toNat_natCast, mI_sI_eq, mI_sI_ne, mR_sR_eq, mR_sR_ne, mI_sR, mR_sI, mK_sI, mN_sI, mn_sI, mJ_sI, mK_sR, mN_sR, mn_sR, mJ_sR, mI_wI, mR_wI, mK_wI, mN_wI, mn_wI, mJ_wI, ↓bnd_of, ↓bndX_r, ↓bndX_l, ↓ap_nr, bnd_of, bndX_r, bndX_l, if_true, if_false, ite_true, ite_false, not_true_eq_false, not_false_eq_true, Nat.reduceAdd, Nat.reduceMul, Nat.reduceEqDiff, Int.reduceToNat, Int.reduceNeg, Ilt_t, Ilt_f, Ile_t, Ile_f, Ieq_t, Ieq_f, Nlt_t, Nlt_f, Nle_t, Nle_f, Neq_t, Neq_f, or_true, true_or, or_false, false_or, and_true, true_and, and_false, false_and, ne_eq, or_self, and_self, decide_true, decide_false, Bool.false_eq_true])]
  | succ k ih =>
    intro j m M B hj hm hR hX hb
    obtain ⟨m, rfl⟩ : ∃ q, m = q + 1 := ⟨m - 1, by omega⟩
    obtain ⟨hL, hc, hsl, hsh, s1, s2, r52, r53, r54, hT⟩ := id hR
    have k5 : mK M 5 = 5 := by simp only [hL.o]
    have ks : mK M s = 6 := by simp only [hsl.o]
    have r10 : mR M s 10 = s + 9 := by simp only [hsl.o]
    have k9 : mK M (s + 9) = 21 := by simp only [hsl.o]
    have n9 : mN M (s + 9) = 16 := by simp only [hsl.o]
    have inf : inB (i32 (f : Int)) 16 = true := by simp (disch := omega) only [↓reduceIte, add_i0, cast_add1, cast_sub1, toNat120, i32_lit, i32_neg, i32_add, i32_sub, i32_mul, i32_nat, i32_le, i32_lt, i32_eq, inB_i, Int.toNat_natCast, mI_sI_eq, mI_sI_ne, mR_sR_eq, mR_sR_ne, mI_sR, mR_sI, mK_sI, mN_sI, mn_sI, mJ_sI, mK_sR, mN_sR, mn_sR, mJ_sR, mI_wI, mR_wI, mK_wI, mN_wI, mn_wI, mJ_wI, ↓bnd_of, ↓bndX_r, ↓bndX_l, ↓ap_nr, bnd_of, bndX_r, bndX_l, if_true, if_false, ite_true, ite_false, not_true_eq_false, not_false_eq_true, Nat.reduceAdd, Nat.reduceMul, Nat.reduceEqDiff, Int.reduceToNat, Int.reduceNeg, Ilt_t, Ilt_f, Ile_t, Ile_f, Ieq_t, Ieq_f, Nlt_t, Nlt_f, Nle_t, Nle_f, Neq_t, Neq_f, or_true, true_or, or_false, false_or, and_true, true_and, and_false, false_and, ne_eq, or_self, and_self, decide_true, decide_false, Bool.false_eq_true]
    have lt : ¬ (i32 (S.nl : Int) ≤ i32 (j : Int)) := by simp (disch := omega) only [↓reduceIte, add_i0, cast_add1, cast_sub1, toNat120, i32_lit, i32_neg, i32_add, i32_sub, i32_mul, i32_nat, i32_le, i32_lt, i32_eq, inB_i, Int.toNat_natCast, mI_sI_eq, mI_sI_ne, mR_sR_eq, mR_sR_ne, mI_sR, mR_sI, mK_sI, mN_sI, mn_sI, mJ_sI, mK_sR, mN_sR, mn_sR, mJ_sR, mI_wI, mR_wI, mK_wI, mN_wI, mn_wI, mJ_wI, ↓bnd_of, ↓bndX_r, ↓bndX_l, ↓ap_nr, bnd_of, bndX_r, bndX_l, if_true, if_false, ite_true, ite_false, not_true_eq_false, not_false_eq_true, Nat.reduceAdd, Nat.reduceMul, Nat.reduceEqDiff, Int.reduceToNat, Int.reduceNeg, Ilt_t, Ilt_f, Ile_t, Ile_f, Ieq_t, Ieq_f, Nlt_t, Nlt_f, Nle_t, Nle_f, Neq_t, Neq_f, or_true, true_or, or_false, false_or, and_true, true_and, and_false, false_and, ne_eq, or_self, and_self, decide_true, decide_false, Bool.false_eq_true]
    have hbt := hsh.2.2.2.2.2.2.2.2.2.2.1 f j hf (by omega)
    have ub := ubit (mI M (s + 9) f) (i := j) (by omega)
    rw [hbt, decide_eq_true (show j < S.nl by omega), Bool.true_and] at ub
    have ub : (((mI M (s + 9) f).toUInt32 >>> ((i32 (j : Int)).toUInt32 &&& Int32.toUInt32 31)).toInt32) &&& (1 : Int32) = _ := ub
    by_cases c : S.ins (S.fo j) f = true
    · rw [if_pos c] at ub
      obtain ⟨M1, e1, g1, x1, t1⟩ := X4_stage (l := j) (r := r) (d := d) (v := 0) hR hX hnl ⟨by show j < S.nl; omega, ⟨r0, r9⟩, ⟨d0, d9⟩, by show (0 : Int) ≤ 0 ∧ (0 : Int) ≤ 999; omega⟩ (by have := hb j; omega)
      obtain ⟨M2, e2, g2, x2, t2⟩ := ih (j + 1) m M1 (B.app (j, r, d, 0)) (by omega) (by omega) (hR.chg g1) x1 (fun l => by
        have := hb l
        rw [app_sz]
        split <;> omega)
      have e1 : f_X4_stage 5 (i32 (j : Int)) (i32 r) (i32 d) (0 : Int32) M = _ := e1
      have nz : ¬ (i32 1 = i32 0) := i32_ne (by omega) (by omega) (by omega) (by omega) (by omega)
      refine ⟨M2, ?_, g1.tr g2, ?_, fun i => (t2 i).trans (t1 i)⟩
      · rw [← e2]
        conv => lhs; unfold f_X4_putNone_3
        rw [if_pos k5, r53, if_pos ks, hsh.2.1, if_neg lt, r10, if_pos k9, n9, if_pos inf, nat_i (by omega), ub, if_neg (by exact nz), bx e1, f_X4_putNone_41, k_add1]
      · have : lackE S f r d (k + 1) j = (j, r, d, 0) :: lackE S f r d k (j + 1) := by
          conv => lhs; unfold lackE
          rw [if_pos c]
        rw [this]
        exact x2
    · rw [if_neg c] at ub
      obtain ⟨M2, e2, g2, x2, t2⟩ := ih (j + 1) m M B (by omega) (by omega) hR hX (fun l => by have := hb l; omega)
      refine ⟨M2, ?_, g2, ?_, t2⟩
      · rw [← e2]
        conv => lhs; unfold f_X4_putNone_3
        rw [if_pos k5, r53, if_pos ks, hsh.2.1, if_neg lt, r10, if_pos k9, n9, if_pos inf, nat_i (by omega), ub, if_pos (by rfl), f_X4_putNone_41, k_add1]
      · have : lackE S f r d (k + 1) j = lackE S f r d k (j + 1) := by
          conv => lhs; unfold lackE
          rw [if_neg c]
        rw [this]
        exact x2
theorem X4_putNone (hS : S.ok) {f : Nat} (hf : f < S.nf) {r d : Int} (r0 : 0 ≤ r) (r9 : r ≤ 9) (d0 : 0 ≤ d) (d9 : d ≤ 9) (hR : ARL M s S tb n) (hX : CX M S A0 B) (hb : ∀ l, B.sz l + 8 ≤ 1000000) : ∃ M', f_X4_putNone 5 (i32 f) (i32 r) (i32 d) M = some ((), M') ∧ Chg adC M M' ∧ CX M' S A0 (B.apL (lackE S f r d S.nl 0)) ∧ ∀ i, mI M' 2 i = mI M 2 i := X4_none3 hS hf r0 r9 d0 d9 S.nl 0 FUEL M B (by omega) (by have := hS.2.1; unfold FUEL; omega) hR hX (fun l => by have := hb l; have := hS.2.1; omega)
theorem CTk.cg {e : Nat} (h : CTk M tb n e) (g : ∀ i, mI M' 2 i = mI M 2 i) : CTk M' tb n e := ⟨(g 3).trans h.1, (g 4).trans h.2.1, (g 5).trans h.2.2⟩
end
