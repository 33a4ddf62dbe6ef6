/-! image, restore in the class: a state copied -/
section
variable {M : Mem}
theorem copyB0 {a0 a n : Nat} (hn : n ≤ 1000) (h1 : n ≤ mN M a0) (h2 : n ≤ mN M a) : copyB M a0 a (0 : Int32) (0 : Int32) (i32 (n : Int)) = true := by
  have c0 : (0 : Int32).toNatClampNeg = 0 := by decide
  have e : (0 : Int32) ≤ i32 (n : Int) := by
    show i32 0 ≤ i32 (n : Int)
    simp (disch := omega) only [↓reduceIte, add_i0, cast_add1, cast_sub1, toNat120, i32_lit, i32_neg, i32_add, i32_sub, i32_mul, i32_nat, i32_le, i32_lt, i32_eq, inB_i, Int.toNat_natCast, mI_sI_eq, mI_sI_ne, mR_sR_eq, mR_sR_ne, mI_sR, mR_sI, mK_sI, mN_sI, mn_sI, mJ_sI, mK_sR, mN_sR, mn_sR, mJ_sR, mI_wI, mR_wI, mK_wI, mN_wI, mn_wI, mJ_wI, ↓bnd_of, ↓bndX_r, ↓bndX_l, ↓ap_nr, bnd_of, bndX_r, bndX_l, if_true, if_false, ite_true, ite_false, not_true_eq_false, not_false_eq_true, Nat.reduceAdd, Nat.reduceMul, Nat.reduceEqDiff, Int.reduceToNat, Int.reduceNeg, Ilt_t, Ilt_f, Ile_t, Ile_f, Ieq_t, Ieq_f, Nlt_t, Nlt_f, Nle_t, Nle_f, Neq_t, Neq_f, or_true, true_or, or_false, false_or, and_true, true_and, and_false, false_and, ne_eq, or_self, and_self, decide_true, decide_false, Bool.false_eq_true]
  unfold copyB
  rw [nat_i (by omega), c0]
  simp [e, h1, h2]
theorem cpI_x (M : Mem) {d s : Nat} (n : Nat) : ∃ M1, cpI M s d 0 0 n = M1 ∧ Chg (fun a _ => a = d) M M1 ∧ ∀ j, j < n → mI M1 d j = mI M s j := by
  refine ⟨_, rfl, ⟨rfl, rfl, rfl, rfl, rfl, fun b j q => ?_⟩, fun j hj => ?_⟩
  · show va_up (mI M) d (va_cpy (mI M s) (mI M d) 0 0 n) b j = _
    unfold va_up
    rw [if_neg q]
  · show va_up (mI M) d (va_cpy (mI M s) (mI M d) 0 0 n) d j = _
    unfold va_up va_cpy
    rw [if_pos rfl, if_pos (by omega), show 0 + (j - 0) = j by omega]
theorem cpR_x (M : Mem) {d s : Nat} (n : Nat) : ∃ M1, cpR M s d 0 0 n = M1 ∧ Fr (fun _ _ => False) (fun a _ => a = d) M M1 ∧ ∀ j, j < n → mR M1 d j = mR M s j := by
  refine ⟨_, rfl, ⟨rfl, rfl, rfl, rfl, fun _ _ _ => rfl, fun b j q => ?_⟩, fun j hj => ?_⟩
  · show va_up (mR M) d (va_cpy (mR M s) (mR M d) 0 0 n) b j = _
    unfold va_up
    rw [if_neg q]
  · show va_up (mR M) d (va_cpy (mR M s) (mR M d) 0 0 n) d j = _
    unfold va_up va_cpy
    rw [if_pos rfl, if_pos (by omega), show 0 + (j - 0) = j by omega]
/-- a Column at x with its arrays -/
def ColX (M : Mem) (x : Nat) : Prop := mK M x = 3 ∧ mR M x 0 = x + 1 ∧ mR M x 1 = x + 2 ∧ mR M x 2 = x + 3 ∧ mK M (x + 1) = 21 ∧ mK M (x + 2) = 21 ∧ mK M (x + 3) = 21 ∧ mN M (x + 1) = 120 ∧ mN M (x + 2) = 120 ∧ mN M (x + 3) = 120
theorem ColLay.x {b l : Nat} (hc : ColLay M b) (hl : l < 8) : ColX M (b + 4 * l) := ⟨hc.1 l hl, hc.2.1 l hl, hc.2.2.1 l hl, hc.2.2.2.1 l hl, hc.2.2.2.2.1 l hl, hc.2.2.2.2.2.1 l hl, hc.2.2.2.2.2.2.1 l hl, hc.2.2.2.2.2.2.2.1 l hl, hc.2.2.2.2.2.2.2.2.1 l hl, hc.2.2.2.2.2.2.2.2.2.1 l hl⟩
/-- the column at x in M1 is the column at y in M, as far as it is read -/
def CpL (M M1 : Mem) (x y n : Nat) : Prop := mI M1 x 3 = mI M y 3 ∧ mI M1 x 4 = mI M y 4 ∧ (∀ j, j < n → mI M1 (x + 1) j = mI M (y + 1) j) ∧ (∀ j, j < n → mI M1 (x + 2) j = mI M (y + 2) j) ∧ ∀ j, j < n → mI M1 (x + 3) j = mI M (y + 3) j
theorem X2_copyFrom {x y n : Nat} (hxy : x + 3 < y ∨ y + 3 < x) (hx : ColX M x) (hy : ColX M y) (hn : n ≤ 120) (h3 : mI M y 3 = i32 n) : ∃ M', f_X2_copyFrom x y M = some ((), M') ∧ Chg (fun a _ => x ≤ a ∧ a ≤ x + 3) M M' ∧ CpL M M' x y n := by
  obtain ⟨kx, x0, x1, x2, kx1, kx2, kx3, nx1, nx2, nx3⟩ := hx
  obtain ⟨ky, y0, y1, y2, ky1, ky2, ky3, ny1, ny2, ny3⟩ := hy
  have c0 : (0 : Int32).toNatClampNeg = 0 := by decide
  have cn := nat_i (k := n) (by omega)
  obtain ⟨M1, e1, g1, q1⟩ := cpI_x M (d := x + 1) (s := y + 1) n
  obtain ⟨M2, e2, g2, q2⟩ := cpI_x M1 (d := x + 2) (s := y + 2) n
  obtain ⟨M3, e3, g3, q3⟩ := cpI_x M2 (d := x + 3) (s := y + 3) n
  have K1 : mK M1 = mK M := g1.1
  have K2 : mK M2 = mK M := g2.1.trans K1
  have K3 : mK M3 = mK M := g3.1.trans K2
  have N1 : mN M1 = mN M := g1.2.1
  have N2 : mN M2 = mN M := g2.2.1.trans N1
  have R1 : mR M1 = mR M := g1.r
  have R2 : mR M2 = mR M := g2.r.trans R1
  have h31 : mI M1 y 3 = i32 n := by rw [g1.i (by omega)]; exact h3
  have h32 : mI M2 y 3 = i32 n := by rw [g2.i (by omega)]; exact h31
  have h33 : mI M3 y 3 = i32 n := by rw [g3.i (by omega)]; exact h32
  have b1 : copyB M (y + 1) (x + 1) (0 : Int32) (0 : Int32) (i32 (n : Int)) = true := copyB0 (by omega) (by omega) (by omega)
  have b2 : copyB M1 (y + 2) (x + 2) (0 : Int32) (0 : Int32) (i32 (n : Int)) = true := copyB0 (by omega) (by rw [N1]; omega) (by rw [N1]; omega)
  have b3 : copyB M2 (y + 3) (x + 3) (0 : Int32) (0 : Int32) (i32 (n : Int)) = true := copyB0 (by omega) (by rw [N2]; omega) (by rw [N2]; omega)
  have g13 : Chg (fun a _ => x ≤ a ∧ a ≤ x + 3) M M3 := (g1.mono (fun a j q => by omega)).tr ((g2.mono (fun a j q => by omega)).tr (g3.mono (fun a j q => by omega)))
  have w4 : mI (sI M3 x 3 (i32 (n : Int))) y 4 = mI M y 4 := by rw [mI_sI_ne (by omega), g13.i (by omega)]
  refine ⟨sI (sI M3 x 3 (i32 (n : Int))) x 4 (mI M y 4), ?_, (g13.sI (by omega)).sI (by omega), ?_, mI_sI_eq, fun j hj => ?_, fun j hj => ?_, fun j hj => ?_⟩
  · unfold f_X2_copyFrom
    rw [if_pos ky, if_pos kx, y0, x0, if_pos ky1, if_pos kx1, h3, if_pos b1, c0, cn, e1, ap_of, K1, if_pos ky, if_pos kx, R1, y1, x1, if_pos ky2, if_pos kx2, h31, if_pos b2, cn, e2, ap_of, K2, if_pos ky, if_pos kx, R2, y2, x2, if_pos ky3, if_pos kx3, h32, if_pos b3, cn, e3, ap_of, K3, if_pos ky, if_pos kx, h33, ap_of, mK_sI, K3, if_pos ky, if_pos kx, w4, ap_of]
  · rw [mI_sI_ne (by omega), mI_sI_eq, h3]
  · rw [mI_sI_ne (by omega), mI_sI_ne (by omega), g3.i (by omega), g2.i (by omega), q1 j hj]
  · rw [mI_sI_ne (by omega), mI_sI_ne (by omega), g3.i (by omega), q2 j hj, g1.i (by omega)]
  · rw [mI_sI_ne (by omega), mI_sI_ne (by omega), q3 j hj, g2.i (by omega), g1.i (by omega)]
theorem CC.cpl {M M' : Mem} {b b' : Nat} {fu : Nat → Int} {A : St} (h : CC M b fu A) (g : ∀ l, l < 8 → CpL M M' (b' + 4 * l) (b + 4 * l) (A.sz l)) : CC M' b' fu A := by
  obtain ⟨h0, h1, h2, h3, h4, h5, h6⟩ := h
  exact ⟨h0, fun l hl => (g l hl).1.trans (h1 l hl), fun l j hl hj => ((g l hl).2.2.1 j hj).trans (h2 l j hl hj), fun l j hl hj => ((g l hl).2.2.2.1 j hj).trans (h3 l j hl hj), fun l j hl hj => ((g l hl).2.2.2.2 j hj).trans (h4 l j hl hj), fun l hl => (g l hl).2.1.trans (h5 l hl), h6⟩
/-- what a copy to the state at d changes -/
def icI (d a j : Nat) : Prop := (a = d ∧ (j = 1 ∨ j = 3 ∨ j = 4 ∨ j = 5)) ∨ (d + 3 ≤ a ∧ a < d + 35)
def icR (d a _j : Nat) : Prop := a = d + 2
def StX (M : Mem) (d : Nat) : Prop := mK M d = 8 ∧ mR M d 0 = d + 1 ∧ mR M d 2 = d + 2 ∧ mK M (d + 1) = 23 ∧ mN M (d + 1) = 8 ∧ mK M (d + 2) = 24 ∧ mN M (d + 2) = 40
theorem X7_copyFrom2 {d s nl n : Nat} {fu : Nat → Int} {A : St} {Bs : Nat → St} (hds : (d = 18 ∧ s = 53) ∨ (d = 53 ∧ s = 18)) (hd : StX M d) (hs : StX M s) (hcd : ColLay M (d + 3)) (hcs : ColLay M (s + 3)) (hA : CC M (s + 3) fu A) (ha : ActsC M s (s + 2) nl n Bs) : ∀ (k j m : Nat) (M1 : Mem), j + k = 8 → k < m → Chg (fun a _ => d + 3 ≤ a ∧ a < d + 35) M M1 → (∀ l, l < j → CpL M M1 (d + 3 + 4 * l) (s + 3 + 4 * l) (A.sz l)) → ∃ M', f_X7_copyFrom_2 m d s (i32 j) M1 = some ((), M') ∧ Fr (icI d) (icR d) M M' ∧ CC M' (d + 3) fu A ∧ mI M' d 1 = mI M s 1 ∧ ActsC M' d (d + 2) nl n Bs ∧ mI M' d 4 = mI M s 4 ∧ mI M' d 5 = mI M s 5 := by
  obtain ⟨dk, d0, d2, dk1, dn1, dk2, dn2⟩ := hd
  obtain ⟨sk, s0, s2, sk1, sn1, sk2, sn2⟩ := hs
  have hsz := hA.1.2.2.2.1
  intro k
  induction k with
  | zero =>
    intro j m M1 hj hm g h
    obtain ⟨m, rfl⟩ : ∃ q, m = q + 1 := ⟨m - 1, by omega⟩
    obtain ⟨a1, a2, a3⟩ := ha
    have c0 : (0 : Int32).toNatClampNeg = 0 := by decide
    have cn := nat_i (k := n) (by omega)
    have K1 : mK M1 = mK M := g.1
    have N1 : mN M1 = mN M := g.2.1
    have R1 : mR M1 = mR M := g.r
    have i1 : mI M1 s 1 = mI M s 1 := g.i (by omega)
    obtain ⟨M2, e2⟩ : ∃ M2, sI M1 d 1 (mI M s 1) = M2 := ⟨_, rfl⟩
    have g2 : Fr (icI d) (icR d) M M2 := by
      rw [← e2]
      exact (g.fr (fun a j q => by unfold icI; omega)).sI (by unfold icI; omega)
    have K2 : mK M2 = mK M := g2.1
    have N2 : mN M2 = mN M := g2.2.1
    have R2 : mR M2 = mR M := by rw [← e2]; exact R1
    have i23 : mI M2 s 3 = i32 n := by rw [g2.i (by unfold icI; omega)]; exact a2
    have b1 : copyB M2 (s + 2) (d + 2) (0 : Int32) (0 : Int32) (i32 (n : Int)) = true := copyB0 (by omega) (by rw [N2]; omega) (by rw [N2]; omega)
    have b2 : actsB M2 (s + 2) 0 n = true := by
      unfold actsB
      rw [List.all_eq_true]
      intro k hk
      rw [List.mem_range] at hk
      refine decide_eq_true ?_
      rw [K2, R2, Nat.zero_add]
      exact (a3 k hk).1
    obtain ⟨M3, e3, g3, q3⟩ := cpR_x M2 (d := d + 2) (s := s + 2) n
    have K3 : mK M3 = mK M := g3.1.trans K2
    have g23 : Fr (icI d) (icR d) M M3 := g2.tr (g3.mono (fun a j q => q.elim) (fun a j q => by unfold icR; omega))
    have i33 : mI M3 s 3 = i32 n := by rw [g23.i (by unfold icI; omega)]; exact a2
    have i34 : mI (sI M3 d 3 (i32 (n : Int))) s 4 = mI M s 4 := by rw [mI_sI_ne (by omega), g23.i (by unfold icI; omega)]
    have i35 : mI (sI (sI M3 d 3 (i32 (n : Int))) d 4 (mI M s 4)) s 5 = mI M s 5 := by rw [mI_sI_ne (by omega), mI_sI_ne (by omega), g23.i (by unfold icI; omega)]
    have gF : Fr (icI d) (icR d) M (sI (sI (sI M3 d 3 (i32 (n : Int))) d 4 (mI M s 4)) d 5 (mI M s 5)) := ((g23.sI (by unfold icI; omega)).sI (by unfold icI; omega)).sI (by unfold icI; omega)
    have rd : ∀ a i, d + 3 ≤ a → a < d + 35 → mI (sI (sI (sI M3 d 3 (i32 (n : Int))) d 4 (mI M s 4)) d 5 (mI M s 5)) a i = mI M1 a i := fun a i h1 h2 => by
      rw [mI_sI_ne (by omega), mI_sI_ne (by omega), mI_sI_ne (by omega), g3.i (by exact fun q => q), ← e2, mI_sI_ne (by omega)]
    refine ⟨_, ?_, gF, hA.cpl (fun l hl => ?_), ?_, ⟨a1, ?_, fun k hk => ?_⟩, ?_, mI_sI_eq⟩
    · unfold f_X7_copyFrom_2
      rw [if_pos (by simp (disch := omega) only [↓reduceIte, add_i0, cast_add1, cast_sub1, toNat120, i32_lit, i32_neg, i32_add, i32_sub, i32_mul, i32_nat, i32_le, i32_lt, i32_eq, inB_i, Int.toNat_natCast, mI_sI_eq, mI_sI_ne, mR_sR_eq, mR_sR_ne, mI_sR, mR_sI, mK_sI, mN_sI, mn_sI, mJ_sI, mK_sR, mN_sR, mn_sR, mJ_sR, mI_wI, mR_wI, mK_wI, mN_wI, mn_wI, mJ_wI, ↓bnd_of, ↓bndX_r, ↓bndX_l, ↓ap_nr, bnd_of, bndX_r, bndX_l, if_true, if_false, ite_true, ite_false, not_true_eq_false, not_false_eq_true, Nat.reduceAdd, Nat.reduceMul, Nat.reduceEqDiff, Int.reduceToNat, Int.reduceNeg, Ilt_t, Ilt_f, Ile_t, Ile_f, Ieq_t, Ieq_f, Nlt_t, Nlt_f, Nle_t, Nle_f, Neq_t, Neq_f, or_true, true_or, or_false, false_or, and_true, true_and, and_false, false_and, ne_eq, or_self, and_self, decide_true, decide_false, Bool.false_eq_true]), K1, if_pos sk, if_pos dk, i1, e2, ap_of, K2, if_pos sk, if_pos dk, R2, s2, d2, if_pos sk2, if_pos dk2, i23, if_pos b1, c0, cn, if_pos b2, e3, ap_of, K3, if_pos sk, if_pos dk, i33, ap_of, mK_sI, K3, if_pos sk, if_pos dk, i34, ap_of, mK_sI, mK_sI, K3, if_pos sk, if_pos dk, i35, ap_of]
    · obtain ⟨p1, p2, p3, p4, p5⟩ := h l (by omega)
      refine ⟨?_, ?_, fun i hi => ?_, fun i hi => ?_, fun i hi => ?_⟩
      · rw [rd _ _ (by omega) (by omega)]; exact p1
      · rw [rd _ _ (by omega) (by omega)]; exact p2
      · rw [rd _ _ (by omega) (by omega)]; exact p3 i hi
      · rw [rd _ _ (by omega) (by omega)]; exact p4 i hi
      · rw [rd _ _ (by omega) (by omega)]; exact p5 i hi
    · rw [mI_sI_ne (by omega), mI_sI_ne (by omega), mI_sI_ne (by omega), g3.i (by exact fun q => q), ← e2, mI_sI_eq]
    · rw [mI_sI_ne (by omega), mI_sI_ne (by omega), mI_sI_eq]
    · have er : mR (sI (sI (sI M3 d 3 (i32 (n : Int))) d 4 (mI M s 4)) d 5 (mI M s 5)) (d + 2) k = mR M (s + 2) k := by
        rw [mR_sI, mR_sI, mR_sI, q3 k hk, R2]
      rw [er]
      exact (a3 k hk).old (gF.old (fun a j q => by unfold icI at q; omega) (fun a j q => by unfold icR at q; omega))
    · rw [mI_sI_ne (by omega), mI_sI_eq]
  | succ k ih =>
    intro j m M1 hj hm g h
    obtain ⟨m, rfl⟩ : ∃ q, m = q + 1 := ⟨m - 1, by omega⟩
    have K1 : mK M1 = mK M := g.1
    have N1 : mN M1 = mN M := g.2.1
    have R1 : mR M1 = mR M := g.r
    have hj8 : j < 8 := by omega
    have xd := (hcd.all g).x hj8
    have xs := (hcs.all g).x hj8
    have rd : mR M (d + 1) j = d + 3 + 4 * j := by
      have := hcd.2.2.2.2.2.2.2.2.2.2 j hj8
      rw [show d + 3 - 2 = d + 1 by omega] at this
      exact this
    have rs : mR M (s + 1) j = s + 3 + 4 * j := by
      have := hcs.2.2.2.2.2.2.2.2.2.2 j hj8
      rw [show s + 3 - 2 = s + 1 by omega] at this
      exact this
    have kd : mK M (d + 3 + 4 * j) = 3 := hcd.1 j hj8
    have h3 : mI M1 (s + 3 + 4 * j) 3 = i32 (A.sz j) := by
      rw [g.i (by omega)]
      exact hA.2.1 j hj8
    obtain ⟨M2, e2, g2, p2⟩ := X2_copyFrom (M := M1) (x := d + 3 + 4 * j) (y := s + 3 + 4 * j) (n := A.sz j) (by omega) xd xs (hsz j) h3
    obtain ⟨M', e, r⟩ := ih (j + 1) m M2 (by omega) (by omega) (g.tr (g2.mono (fun a i q => by omega))) (fun l hl => by
      by_cases c : l = j
      · subst c
        obtain ⟨p1, p3, p4, p5, p6⟩ := p2
        refine ⟨?_, ?_, fun i hi => ?_, fun i hi => ?_, fun i hi => ?_⟩
        · rw [p1, g.i (by omega)]
        · rw [p3, g.i (by omega)]
        · rw [p4 i hi, g.i (by omega)]
        · rw [p5 i hi, g.i (by omega)]
        · rw [p6 i hi, g.i (by omega)]
      · obtain ⟨p1, p3, p4, p5, p6⟩ := h l (by omega)
        refine ⟨?_, ?_, fun i hi => ?_, fun i hi => ?_, fun i hi => ?_⟩
        · rw [g2.i (by omega), p1]
        · rw [g2.i (by omega), p3]
        · rw [g2.i (by omega), p4 i hi]
        · rw [g2.i (by omega), p5 i hi]
        · rw [g2.i (by omega), p6 i hi])
    refine ⟨M', ?_, r⟩
    rw [← e]
    have lt : ¬ ((8 : Int32) ≤ i32 (j : Int)) := by simp (disch := omega) only [↓reduceIte, add_i0, cast_add1, cast_sub1, toNat120, i32_lit, i32_neg, i32_add, i32_sub, i32_mul, i32_nat, i32_le, i32_lt, i32_eq, inB_i, Int.toNat_natCast, mI_sI_eq, mI_sI_ne, mR_sR_eq, mR_sR_ne, mI_sR, mR_sI, mK_sI, mN_sI, mn_sI, mJ_sI, mK_sR, mN_sR, mn_sR, mJ_sR, mI_wI, mR_wI, mK_wI, mN_wI, mn_wI, mJ_wI, ↓bnd_of, ↓bndX_r, ↓bndX_l, ↓ap_nr, bnd_of, bndX_r, bndX_l, if_true, if_false, ite_true, ite_false, not_true_eq_false, not_false_eq_true, Nat.reduceAdd, Nat.reduceMul, Nat.reduceEqDiff, Int.reduceToNat, Int.reduceNeg, Ilt_t, Ilt_f, Ile_t, Ile_f, Ieq_t, Ieq_f, Nlt_t, Nlt_f, Nle_t, Nle_f, Neq_t, Neq_f, or_true, true_or, or_false, false_or, and_true, true_and, and_false, false_and, ne_eq, or_self, and_self, decide_true, decide_false, Bool.false_eq_true]
    have inj : inB (i32 (j : Int)) 8 = true := by simp (disch := omega) only [↓reduceIte, add_i0, cast_add1, cast_sub1, toNat120, i32_lit, i32_neg, i32_add, i32_sub, i32_mul, i32_nat, i32_le, i32_lt, i32_eq, inB_i, Int.toNat_natCast, mI_sI_eq, mI_sI_ne, mR_sR_eq, mR_sR_ne, mI_sR, mR_sI, mK_sI, mN_sI, mn_sI, mJ_sI, mK_sR, mN_sR, mn_sR, mJ_sR, mI_wI, mR_wI, mK_wI, mN_wI, mn_wI, mJ_wI, ↓bnd_of, ↓bndX_r, ↓bndX_l, ↓ap_nr, bnd_of, bndX_r, bndX_l, if_true, if_false, ite_true, ite_false, not_true_eq_false, not_false_eq_true, Nat.reduceAdd, Nat.reduceMul, Nat.reduceEqDiff, Int.reduceToNat, Int.reduceNeg, Ilt_t, Ilt_f, Ile_t, Ile_f, Ieq_t, Ieq_f, Nlt_t, Nlt_f, Nle_t, Nle_f, Neq_t, Neq_f, or_true, true_or, or_false, false_or, and_true, true_and, and_false, false_and, ne_eq, or_self, and_self, decide_true, decide_false, Bool.false_eq_true]
    conv => lhs; unfold f_X7_copyFrom_2
    rw [if_neg lt, K1, if_pos dk, R1, d0, if_pos dk1, N1, dn1, if_pos inj, if_pos sk, s0, if_pos sk1, sn1, if_pos inj, nat_i (by omega), rd, rs, if_pos kd, bx e2, k_add1]
theorem X7_copyFrom {d s nl n : Nat} {fu : Nat → Int} {A : St} {Bs : Nat → St} (hds : (d = 18 ∧ s = 53) ∨ (d = 53 ∧ s = 18)) (hd : StX M d) (hs : StX M s) (hcd : ColLay M (d + 3)) (hcs : ColLay M (s + 3)) (hA : CC M (s + 3) fu A) (ha : ActsC M s (s + 2) nl n Bs) : ∃ M', f_X7_copyFrom d s M = some ((), M') ∧ Fr (icI d) (icR d) M M' ∧ CC M' (d + 3) fu A ∧ mI M' d 1 = mI M s 1 ∧ ActsC M' d (d + 2) nl n Bs ∧ mI M' d 4 = mI M s 4 ∧ mI M' d 5 = mI M s 5 := X7_copyFrom2 hds hd hs hcd hcs hA ha 8 0 FUEL M (by omega) (by unfold FUEL; omega) (Chg.rf _ M) (fun l hl => by omega)
theorem CLay.st18 (hL : CLay M) : StX M 18 := by
  have k18 : mK M 18 = 8 := by simp only [hL.o]
  have r0 : mR M 18 0 = 19 := by simp only [hL.o]
  have r2 : mR M 18 2 = 20 := by simp only [hL.o]
  have k19 : mK M 19 = 23 := by simp only [hL.o]
  have n19 : mN M 19 = 8 := by simp only [hL.o]
  have k20 : mK M 20 = 24 := by simp only [hL.o]
  have n20 : mN M 20 = 40 := by simp only [hL.o]
  exact ⟨k18, r0, r2, k19, n19, k20, n20⟩
theorem CLay.st53 (hL : CLay M) : StX M 53 := by
  have k18 : mK M 53 = 8 := by simp only [hL.o]
  have r0 : mR M 53 0 = 54 := by simp only [hL.o]
  have r2 : mR M 53 2 = 55 := by simp only [hL.o]
  have k19 : mK M 54 = 23 := by simp only [hL.o]
  have n19 : mN M 54 = 8 := by simp only [hL.o]
  have k20 : mK M 55 = 24 := by simp only [hL.o]
  have n20 : mN M 55 = 40 := by simp only [hL.o]
  exact ⟨k18, r0, r2, k19, n19, k20, n20⟩
def imI (a j : Nat) : Prop := icI 53 a j ∨ (a = 1 ∧ j = 13)
theorem c_image {nl n : Nat} {fu : Nat → Int} {A : St} {Bs : Nat → St} (hL : CLay M) (h21 : ColLay M 21) (h56 : ColLay M 56) (hA : CC M 21 fu A) (ha : ActsC M 18 20 nl n Bs) : ∃ M', f_X11_image 1 M = some ((), M') ∧ Fr imI (icR 53) M M' ∧ CC M' 56 fu A ∧ mI M' 53 1 = mI M 18 1 ∧ ActsC M' 53 55 nl n Bs ∧ mI M' 53 4 = mI M 18 4 ∧ mI M' 53 5 = mI M 18 5 ∧ mI M' 1 13 = i32 1 := by
  have k1 : mK M 1 = 12 := by simp only [hL.o]
  have r6 : mR M 1 6 = 18 := by simp only [hL.o]
  have r7 : mR M 1 7 = 53 := by simp only [hL.o]
  have k53 : mK M 53 = 8 := by simp only [hL.o]
  obtain ⟨M1, e1, g1, q1, q2, q3, q4, q5⟩ := X7_copyFrom (d := 53) (s := 18) (Or.inr ⟨rfl, rfl⟩) hL.st53 hL.st18 h56 h21 hA ha
  have k11 : mK M1 1 = 12 := by rw [g1.1]; exact k1
  refine ⟨sI M1 1 13 (i32 1), ?_, (g1.mono (fun a j q => Or.inl q) (fun a j q => q)).sI (Or.inr ⟨rfl, rfl⟩), ?_, ?_, ?_, ?_, ?_, mI_sI_eq⟩
  · unfold f_X11_image
    rw [if_pos k1, r7, r6, if_pos k53, bx e1, if_pos k11, ap_of]
    rfl
  · exact q1.cpl (fun l hl => ⟨mI_sI_ne (by omega), mI_sI_ne (by omega), fun i hi => mI_sI_ne (by omega), fun i hi => mI_sI_ne (by omega), fun i hi => mI_sI_ne (by omega)⟩)
  · rw [mI_sI_ne (by omega)]; exact q2
  · refine ⟨q3.1, ?_, fun k hk => ?_⟩
    · rw [mI_sI_ne (by omega)]; exact q3.2.1
    · rw [mR_sI]
      exact (q3.2.2 k hk).old (((Chg.rf (fun a j => a = 1 ∧ j = 13) M1).sI ⟨rfl, rfl⟩).old (fun a j q => by omega))
  · rw [mI_sI_ne (by omega)]; exact q4
  · rw [mI_sI_ne (by omega)]; exact q5
theorem c_restore0 (hL : CLay M) (h13 : mI M 1 13 = i32 0) : f_X11_restore 1 M = some (i32 0, M) := by
  have k1 : mK M 1 = 12 := by simp only [hL.o]
  unfold f_X11_restore
  rw [if_pos k1, h13, if_pos (by rfl)]
  rfl
theorem c_restore1 {nl n : Nat} {fu : Nat → Int} {A : St} {Bs : Nat → St} (hL : CLay M) (h21 : ColLay M 21) (h56 : ColLay M 56) (hA : CC M 56 fu A) (ha : ActsC M 53 55 nl n Bs) (h13 : mI M 1 13 = i32 1) : ∃ M', f_X11_restore 1 M = some (i32 1, M') ∧ Fr (icI 18) (icR 18) M M' ∧ CC M' 21 fu A ∧ mI M' 18 1 = mI M 53 1 ∧ ActsC M' 18 20 nl n Bs ∧ mI M' 18 4 = mI M 53 4 ∧ mI M' 18 5 = mI M 53 5 := by
  have k1 : mK M 1 = 12 := by simp only [hL.o]
  have r6 : mR M 1 6 = 18 := by simp only [hL.o]
  have r7 : mR M 1 7 = 53 := by simp only [hL.o]
  have k18 : mK M 18 = 8 := by simp only [hL.o]
  obtain ⟨M1, e1, g1, q⟩ := X7_copyFrom (d := 18) (s := 53) (Or.inl ⟨rfl, rfl⟩) hL.st18 hL.st53 h21 h56 hA ha
  refine ⟨M1, ?_, g1, q⟩
  have nz : ¬ (i32 1 = i32 0) := i32_ne (by omega) (by omega) (by omega) (by omega) (by omega)
  unfold f_X11_restore
  rw [if_pos k1, h13, if_neg (by exact nz), r6, r7, if_pos k18, bx e1]
  rfl
end
