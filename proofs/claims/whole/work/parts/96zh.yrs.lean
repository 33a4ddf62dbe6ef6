/-! years in the reference -/
section
variable {M M' : Mem} {S : Sc} {A : St}
def rdC (a j : Nat) : Prop := (a = 150 ∧ j < 960) ∨ (a = 151 ∧ j < 8) ∨ (a = 134 ∧ j = 49)
theorem X12_drawOf (hL : RLay M) {n : Nat} (h0 : 0 < n) (h1 : n ≤ 100) : f_X12_drawOf 134 (i32 n) M = some (i32 ((dwK (mI M 134 49) n : Nat) : Int), sI M 134 49 (sdN (mI M 134 49))) := by
  have e := dwK_e (mI M 134 49) h0 h1
  unfold dwY at e
  have nz : ¬ (i32 (n : Int) = i32 0) := i32_ne (by omega) (by omega) (by omega) (by omega) (by omega)
  unfold f_X12_drawOf
  rw [if_pos hL.k, ap_of, if_pos (by exact hL.k), if_pos (by exact nz), mI_sI_eq, ← e]
  rfl
def YR (M : Mem) (S : Sc) (A : St) (sd : Int32) : Prop := RLay M ∧ RS0 M S ∧ RX M A ∧ mI M 134 49 = sd
theorem YR.app {sd : Int32} {E : List En} (h : YR M S A sd) (g : Chg apC M M') (hX : RX M' (A.apL E)) : YR M' S (A.apL E) sd := ⟨h.1.all g, h.2.1.chg g (fun a j q => by unfold apC at q; omega), hX, by rw [g.i (by unfold apC; omega)]; exact h.2.2.2⟩
theorem YR.sd {sd : Int32} (h : YR M S A sd) (x : Int32) : YR (sI M 134 49 x) S A x := ⟨h.1.all ((Chg.rf (fun a j => a = 134 ∧ j = 49) M).sI ⟨rfl, rfl⟩), h.2.1.chg ((Chg.rf (fun a j => a = 134 ∧ j = 49) M).sI ⟨rfl, rfl⟩) (fun a _ q => by omega), h.2.2.1.cg (fun j => mI_sI_ne (by omega)) (fun j => mI_sI_ne (by omega)), mI_sI_eq⟩
/-- what the call for a group does -/
def HKr (S : Sc) (kF : Nat → Int32 → Int32 → Int32 → Mem → Option (Unit × Mem)) (sub : Nat → Int → Int → Int32 → List En × Int32) (f : Nat) : Prop := ∀ (M : Mem) (A : St) (sd : Int32) (r : Int), YR M S A sd → 0 ≤ r → r ≤ 9 → (∀ l, A.sz l + (sub f r (S.sd f) sd).1.length ≤ 1000000000) → ∃ M', kF 134 (i32 f) (i32 r) (i32 (S.sd f)) M = some ((), M') ∧ Chg rdC M M' ∧ YR M' S (A.apL (sub f r (S.sd f) sd).1) (sub f r (S.sd f) sd).2
theorem X12_drawItem {kF : Nat → Int32 → Int32 → Int32 → Mem → Option (Unit × Mem)} {sub : Nat → Int → Int → Int32 → List En × Int32} {f : Nat} (hW : S.wf) (hf : f < S.nf) (hk : S.lf f = -1 → HKr S kF sub f) {sd : Int32} {r : Int} (r0 : 0 ≤ r) (r9 : r ≤ 9) (hY : YR M S A sd) (hb : ∀ l, A.sz l + (drIt S sub f r (S.sd f) sd).1.length ≤ 1000000000) : ∃ M', f_X12_drawItem kF 134 (i32 f) (i32 r) (i32 (S.sd f)) M = some ((), M') ∧ Chg rdC M M' ∧ YR M' S (A.apL (drIt S sub f r (S.sd f) sd).1) (drIt S sub f r (S.sd f) sd).2 := by
  obtain ⟨hL, hR, hX, h49⟩ := id hY
  have hnf := hW.1.1
  have hnl := hW.1.2.1
  have r17 : mR M 134 17 = 141 := by simp only [hL.o]
  have k141 : mK M 141 = 21 := by simp only [hL.o]
  have n141 : mN M 141 = 48 := by simp only [hL.o]
  have inf : inB (i32 (f : Int)) 48 = true := by simp (disch := omega) only [↓reduceIte, add_i0, cast_add1, cast_sub1, toNat120, i32_lit, i32_neg, i32_add, i32_sub, i32_mul, i32_nat, i32_le, i32_lt, i32_eq, inB_i, Int.toNat_natCast, mI_sI_eq, mI_sI_ne, mR_sR_eq, mR_sR_ne, mI_sR, mR_sI, mK_sI, mN_sI, mn_sI, mJ_sI, mK_sR, mN_sR, mn_sR, mJ_sR, mI_wI, mR_wI, mK_wI, mN_wI, mn_wI, mJ_wI, ↓bnd_of, ↓bndX_r, ↓bndX_l, ↓ap_nr, bnd_of, bndX_r, bndX_l, if_true, if_false, ite_true, ite_false, not_true_eq_false, not_false_eq_true, Nat.reduceAdd, Nat.reduceMul, Nat.reduceEqDiff, Int.reduceToNat, Int.reduceNeg, Ilt_t, Ilt_f, Ile_t, Ile_f, Ieq_t, Ieq_f, Nlt_t, Nlt_f, Nle_t, Nle_f, Neq_t, Neq_f, or_true, true_or, or_false, false_or, and_true, true_and, and_false, false_and, ne_eq, or_self, and_self, decide_true, decide_false, Bool.false_eq_true]
  have el : mI M 141 f = i32 (S.lf f) := hR.2.2.2.2.1 f hf
  have lb := hW.1.2.2.2.2.1 f
  have sb := hW.1.2.2.2.2.2.1 f
  by_cases q : S.lf f = -1
  · have ei : drIt S sub f r (S.sd f) sd = sub f r (S.sd f) sd := if_pos q
    rw [ei] at hb ⊢
    obtain ⟨M1, e1, g1, y1⟩ := hk q M A sd r hY r0 r9 hb
    refine ⟨M1, ?_, g1, y1⟩
    rw [q] at el
    unfold f_X12_drawItem
    rw [if_pos hL.k, r17, if_pos k141, n141, if_pos inf, nat_i (by omega), el, if_pos (by rfl), bx e1]
  · have ei : drIt S sub f r (S.sd f) sd = ([((S.lf f).toNat, r, S.sd f, ((dwK sd 100 : Nat) : Int))], sdN sd) := if_neg q
    rw [ei] at hb ⊢
    obtain ⟨l, hl⟩ : ∃ l : Nat, S.lf f = l := ⟨(S.lf f).toNat, by omega⟩
    have w := hW.2.2.2.2.2.1 f hf q
    have dl := dwK_lt sd (n := 100) (by omega)
    have d1 := X12_drawOf hL (n := 100) (by omega) (by omega)
    rw [h49] at d1
    have d1 : f_X12_drawOf 134 (100 : Int32) M = _ := d1
    have y1 := hY.sd (sdN sd)
    have hbl := hb l
    have ll : (S.lf f).toNat = l := by omega
    rw [ll]
    obtain ⟨M2, e2, g2, x2⟩ := X12_append (nl := S.nl) (l := l) (r := r) (d := S.sd f) (v := ((dwK sd 100 : Nat) : Int)) y1.1 y1.2.2.1 hnl ⟨by show l < S.nl; omega, ⟨r0, r9⟩, sb, by show 0 ≤ ((dwK sd 100 : Nat) : Int) ∧ ((dwK sd 100 : Nat) : Int) ≤ 999; omega⟩ (by omega)
    refine ⟨M2, ?_, ((Chg.rf rdC M).sI (by unfold rdC; omega)).tr (g2.mono (fun a j q => by unfold apC at q; unfold rdC; omega)), y1.app (E := [(l, r, S.sd f, ((dwK sd 100 : Nat) : Int))]) g2 x2⟩
    rw [hl] at el
    have nm : ¬ (i32 (l : Int) = i32 (-1)) := i32_ne (by omega) (by omega) (by omega) (by omega) (by omega)
    unfold f_X12_drawItem
    rw [if_pos hL.k, r17, if_pos k141, n141, if_pos inf, nat_i (by omega), el, if_neg (by exact nm), bx d1, if_pos (by exact hL.k), bx e2]
theorem X12_items {kF : Nat → Int32 → Int32 → Int32 → Mem → Option (Unit × Mem)} {k3 : Nat → Int32 → Int32 → Int32 → Int32 → Mem → Option (Unit × Mem)} {sub : Nat → Int → Int → Int32 → List En × Int32} {f N : Nat} (hW : S.wf) (hf : f < S.nf) (hk : S.lf f = -1 → HKr S kF sub f) (hN2 : N ≤ 2) {g r d : Int} (hd : S.sd f = d + (if S.kd f = 0 then 0 else 1)) (r0 : 0 ≤ r) (r9 : r ≤ 9) : ∀ (k i m : Nat) (M : Mem) (A : St) (sd : Int32), i + k = N → k < m → YR M S A sd → (∀ l, A.sz l + (drIs S sub f r (S.sd f) k i sd).1.length ≤ 1000000000) → ∃ M', f_X12_drawValues_80 kF k3 m 134 (i32 g) (i32 r) (i32 d) (i32 f) (i32 N) (i32 i) M = k3 134 (i32 g) (i32 r) (i32 d) (i32 ((f + 1 : Nat) : Int)) M' ∧ Chg rdC M M' ∧ YR M' S (A.apL (drIs S sub f r (S.sd f) k i sd).1) (drIs S sub f r (S.sd f) k i sd).2 := by
  have hnf := hW.1.1
  have kb := hW.1.2.2.1 f
  have rb := hW.1.2.2.2.2.2.2.1 f
  intro k
  induction k with
  | zero =>
    intro i m M A sd hi hm hY hb
    obtain ⟨m, rfl⟩ : ∃ q, m = q + 1 := ⟨m - 1, by omega⟩
    refine ⟨M, ?_, Chg.rf _ M, hY⟩
    unfold f_X12_drawValues_80
    rw [if_pos (by simp (disch := omega) only [↓reduceIte, add_i0, cast_add1, cast_sub1, toNat120, i32_lit, i32_neg, i32_add, i32_sub, i32_mul, i32_nat, i32_le, i32_lt, i32_eq, inB_i, Int.toNat_natCast, mI_sI_eq, mI_sI_ne, mR_sR_eq, mR_sR_ne, mI_sR, mR_sI, mK_sI, mN_sI, mn_sI, mJ_sI, mK_sR, mN_sR, mn_sR, mJ_sR, mI_wI, mR_wI, mK_wI, mN_wI, mn_wI, mJ_wI, ↓bnd_of, ↓bndX_r, ↓bndX_l, ↓ap_nr, bnd_of, bndX_r, bndX_l, if_true, if_false, ite_true, ite_false, not_true_eq_false, not_false_eq_true, Nat.reduceAdd, Nat.reduceMul, Nat.reduceEqDiff, Int.reduceToNat, Int.reduceNeg, Ilt_t, Ilt_f, Ile_t, Ile_f, Ieq_t, Ieq_f, Nlt_t, Nlt_f, Nle_t, Nle_f, Neq_t, Neq_f, or_true, true_or, or_false, false_or, and_true, true_and, and_false, false_and, ne_eq, or_self, and_self, decide_true, decide_false, Bool.false_eq_true]), f_X12_drawValues_132, k_add1]
  | succ k ih =>
    intro i m M A sd hi hm hY hb
    obtain ⟨m, rfl⟩ : ∃ q, m = q + 1 := ⟨m - 1, by omega⟩
    obtain ⟨hL, hR, hX, h49⟩ := id hY
    have r15 : mR M 134 15 = 139 := by simp only [hL.o]
    have k139 : mK M 139 = 21 := by simp only [hL.o]
    have n139 : mN M 139 = 48 := by simp only [hL.o]
    have r19 : mR M 134 19 = 143 := by simp only [hL.o]
    have k143 : mK M 143 = 21 := by simp only [hL.o]
    have n143 : mN M 143 = 48 := by simp only [hL.o]
    have inf : inB (i32 (f : Int)) 48 = true := by simp (disch := omega) only [↓reduceIte, add_i0, cast_add1, cast_sub1, toNat120, i32_lit, i32_neg, i32_add, i32_sub, i32_mul, i32_nat, i32_le, i32_lt, i32_eq, inB_i, Int.toNat_natCast, mI_sI_eq, mI_sI_ne, mR_sR_eq, mR_sR_ne, mI_sR, mR_sI, mK_sI, mN_sI, mn_sI, mJ_sI, mK_sR, mN_sR, mn_sR, mJ_sR, mI_wI, mR_wI, mK_wI, mN_wI, mn_wI, mJ_wI, ↓bnd_of, ↓bndX_r, ↓bndX_l, ↓ap_nr, bnd_of, bndX_r, bndX_l, if_true, if_false, ite_true, ite_false, not_true_eq_false, not_false_eq_true, Nat.reduceAdd, Nat.reduceMul, Nat.reduceEqDiff, Int.reduceToNat, Int.reduceNeg, Ilt_t, Ilt_f, Ile_t, Ile_f, Ieq_t, Ieq_f, Nlt_t, Nlt_f, Nle_t, Nle_f, Neq_t, Neq_f, or_true, true_or, or_false, false_or, and_true, true_and, and_false, false_and, ne_eq, or_self, and_self, decide_true, decide_false, Bool.false_eq_true]
    have ek : mI M 139 f = i32 (S.kd f) := hR.2.2.1 f hf
    have er : mI M 143 f = i32 (S.sr f) := hR.2.2.2.2.2.2.1 f hf
    have lt : ¬ (i32 (N : Int) ≤ i32 (i : Int)) := by simp (disch := omega) only [↓reduceIte, add_i0, cast_add1, cast_sub1, toNat120, i32_lit, i32_neg, i32_add, i32_sub, i32_mul, i32_nat, i32_le, i32_lt, i32_eq, inB_i, Int.toNat_natCast, mI_sI_eq, mI_sI_ne, mR_sR_eq, mR_sR_ne, mI_sR, mR_sI, mK_sI, mN_sI, mn_sI, mJ_sI, mK_sR, mN_sR, mn_sR, mJ_sR, mI_wI, mR_wI, mK_wI, mN_wI, mn_wI, mJ_wI, ↓bnd_of, ↓bndX_r, ↓bndX_l, ↓ap_nr, bnd_of, bndX_r, bndX_l, if_true, if_false, ite_true, ite_false, not_true_eq_false, not_false_eq_true, Nat.reduceAdd, Nat.reduceMul, Nat.reduceEqDiff, Int.reduceToNat, Int.reduceNeg, Ilt_t, Ilt_f, Ile_t, Ile_f, Ieq_t, Ieq_f, Nlt_t, Nlt_f, Nle_t, Nle_f, Neq_t, Neq_f, or_true, true_or, or_false, false_or, and_true, true_and, and_false, false_and, ne_eq, or_self, and_self, decide_true, decide_false, Bool.false_eq_true]
    have hb' : ∀ l, A.sz l + ((drIt S sub f (if i = 0 then r else S.sr f) (S.sd f) sd).1.length + (drIs S sub f r (S.sd f) k (i + 1) (drIt S sub f (if i = 0 then r else S.sr f) (S.sd f) sd).2).1.length) ≤ 1000000000 := fun l => by
      have := hb l
      have e : (drIs S sub f r (S.sd f) (k + 1) i sd).1.length = _ := List.length_append
      rw [e] at this
      exact this
    obtain ⟨M1, e1, g1, y1⟩ := X12_drawItem hW hf hk (r := if i = 0 then r else S.sr f) (by split <;> omega) (by split <;> omega) hY (fun l => by have := hb' l; omega)
    obtain ⟨M2, e2, g2, y2⟩ := ih (i + 1) m M1 _ _ (by omega) (by omega) y1 (fun l => by
      have := hb' l
      have q := cnE_le (l := l) (drIt S sub f (if i = 0 then r else S.sr f) (S.sd f) sd).1
      rw [apL_sz]
      omega)
    have tail : ∀ x : Int32, x = i32 (if i = 0 then r else S.sr f) → f_X12_drawValues_106 kF k3 (f_X12_drawValues_80 kF k3 m) 134 (i32 g) (i32 r) (i32 d) (i32 f) (i32 N) (i32 i) 134 (i32 f) x M = f_X12_drawValues_80 kF k3 m 134 (i32 g) (i32 r) (i32 d) (i32 f) (i32 N) (i32 ((i + 1 : Nat) : Int)) M1 := fun x hx => by
      subst hx
      unfold f_X12_drawValues_106
      rw [if_pos hL.k, r15, if_pos k139, n139, if_pos inf, nat_i (by omega), ek]
      by_cases c : S.kd f = 0
      · rw [if_pos c, Int.add_zero] at hd
        rw [c, if_pos (by rfl)]
        unfold f_X12_drawValues_122
        rw [if_pos hL.k, ← hd, show i32 (S.sd f) + (0 : Int32) = i32 (S.sd f) from add_i0 _, bx e1, k_add1]
      · rw [if_neg c] at hd
        have nz : ¬ (i32 (S.kd f) = i32 0) := i32_ne (by omega) (by omega) (by omega) (by omega) c
        rw [if_neg (by exact nz)]
        unfold f_X12_drawValues_122
        rw [if_pos hL.k, show i32 d + (1 : Int32) = i32 (S.sd f) from by rw [hd]; exact i32_add _ 1, bx e1, k_add1]
    refine ⟨M2, ?_, g1.tr g2, ?_⟩
    · rw [← e2]
      conv => lhs; unfold f_X12_drawValues_80
      rw [if_neg lt]
      by_cases c : i = 0
      · rw [if_pos (by rw [c]; rfl)]
        exact tail _ (by rw [if_pos c])
      · have ni : ¬ (i32 (i : Int) = i32 0) := i32_ne (by omega) (by omega) (by omega) (by omega) (by omega)
        rw [if_neg (by exact ni), if_pos hL.k, r19, if_pos k143, n143, if_pos inf, nat_i (by omega)]
        exact tail _ (by rw [if_neg c]; exact er)
    · show YR M2 S (A.apL (_ ++ _)) _
      rw [apL_app]
      exact y2
theorem X12_field {kF : Nat → Int32 → Int32 → Int32 → Mem → Option (Unit × Mem)} {k3 : Nat → Int32 → Int32 → Int32 → Int32 → Mem → Option (Unit × Mem)} {sub : Nat → Int → Int → Int32 → List En × Int32} {f : Nat} (hW : S.wf) (hf : f < S.nf) (hk : S.lf f = -1 → HKr S kF sub f) {g r d : Int} (hd : S.sd f = d + (if S.kd f = 0 then 0 else 1)) (d0 : 0 ≤ d) (d9 : d ≤ 9) (r0 : 0 ≤ r) (r9 : r ≤ 9) {sd : Int32} (hY : YR M S A sd) (hb : ∀ l, A.sz l + (drFd S sub f r d sd).1.length ≤ 1000000000) : ∃ M', (if (mI M 139 f) = 0 then f_X12_drawValues_62 kF k3 134 (i32 g) (i32 r) (i32 d) (i32 f) (1 : Int32) M else if (mI M 139 f) = (1 : Int32) then f_X12_drawValues_59 kF k3 134 (i32 g) (i32 r) (i32 d) (i32 f) 134 (2 : Int32) M else f_X12_drawValues_59 kF k3 134 (i32 g) (i32 r) (i32 d) (i32 f) 134 (3 : Int32) M) = k3 134 (i32 g) (i32 r) (i32 d) (i32 ((f + 1 : Nat) : Int)) M' ∧ Chg rdC M M' ∧ YR M' S (A.apL (drFd S sub f r d sd).1) (drFd S sub f r d sd).2 := by
  obtain ⟨hL, hR, hX, h49⟩ := id hY
  have hnf := hW.1.1
  have hnl := hW.1.2.1
  have kb := hW.1.2.2.1 f
  have ek : mI M 139 f = i32 (S.kd f) := hR.2.2.1 f hf
  rw [ek]
  by_cases q : S.kd f = 0
  · have ei : drFd S sub f r d sd = drIs S sub f r d 1 0 sd := if_pos q
    have hd' : S.sd f = d := by rw [if_pos q, Int.add_zero] at hd; exact hd
    rw [ei] at hb ⊢
    obtain ⟨M1, e1, g1, y1⟩ := X12_items (k3 := k3) (g := g) hW hf hk (N := 1) (by omega) hd r0 r9 1 0 FUEL M A sd (by omega) (by unfold FUEL; omega) hY (fun l => by rw [hd']; have := hb l; omega)
    rw [hd'] at y1
    refine ⟨M1, ?_, g1, y1⟩
    rw [q, if_pos (by rfl), ← e1]
    unfold f_X12_drawValues_62
    rw [if_neg (by decide)]
    rfl
  · have nz : ¬ (i32 (S.kd f) = i32 0) := i32_ne (by omega) (by omega) (by omega) (by omega) q
    rw [if_neg (by exact nz)]
    obtain ⟨n, hn, hn0, hn3, est⟩ : ∃ n : Nat, drM S f sd = dwK sd n ∧ 0 < n ∧ n ≤ 3 ∧ (if i32 (S.kd f) = (1 : Int32) then f_X12_drawValues_59 kF k3 134 (i32 g) (i32 r) (i32 d) (i32 f) 134 (2 : Int32) M else f_X12_drawValues_59 kF k3 134 (i32 g) (i32 r) (i32 d) (i32 f) 134 (3 : Int32) M) = f_X12_drawValues_59 kF k3 134 (i32 g) (i32 r) (i32 d) (i32 f) 134 (i32 (n : Int)) M := by
      by_cases q1 : S.kd f = 1
      · refine ⟨2, by unfold drM; rw [if_pos q1], by omega, by omega, ?_⟩
        rw [q1, if_pos (by rfl)]
        rfl
      · refine ⟨3, by unfold drM; rw [if_neg q1], by omega, by omega, ?_⟩
        have n1' : ¬ (i32 (S.kd f) = i32 1) := i32_ne (by omega) (by omega) (by omega) (by omega) (by omega)
        rw [if_neg (by exact n1')]
        rfl
    rw [est]
    have hm := drM_lt S f sd
    have d1 := X12_drawOf hL (n := n) hn0 (by omega)
    rw [h49, ← hn] at d1
    have y0 := hY.sd (sdN sd)
    have g0 : Chg rdC M (sI M 134 49 (sdN sd)) := (Chg.rf rdC M).sI (by unfold rdC; omega)
    by_cases q2 : drM S f sd = 0
    · have ei : drFd S sub f r d sd = (lackE S f r d S.nl 0, sdN sd) := by
        unfold drFd
        rw [if_neg q, if_pos q2]
      rw [ei] at hb ⊢
      obtain ⟨M1, e1, g1, x1⟩ := X12_lackIn hW.1 (f := f) (by omega) r0 r9 d0 d9 y0.1 y0.2.1 y0.2.2.1 (fun l => by have := hb l; omega)
      have y1 := y0.app g1 x1
      obtain ⟨m, hm⟩ : ∃ m, FUEL = m + 1 := ⟨FUEL - 1, by unfold FUEL; omega⟩
      refine ⟨M1, ?_, g0.tr (g1.mono (fun a j q => by unfold apC at q; unfold rdC; omega)), y1⟩
      unfold f_X12_drawValues_59
      rw [if_pos hL.k, bx d1, q2]
      unfold f_X12_drawValues_62
      rw [if_pos (by rfl), if_pos (by exact hL.k), bx e1]
      unfold f_X12_drawValues_77
      rw [hm]
      unfold f_X12_drawValues_80
      rw [if_pos (by decide), f_X12_drawValues_132, k_add1]
    · have ei : drFd S sub f r d sd = drIs S sub f r (d + 1) (drM S f sd) 0 (sdN sd) := by
        unfold drFd
        rw [if_neg q, if_neg q2]
      have hd' : S.sd f = d + 1 := by rw [if_neg q] at hd; exact hd
      rw [ei] at hb ⊢
      obtain ⟨M1, e1, g1, y1⟩ := X12_items (k3 := k3) (g := g) hW hf hk (N := drM S f sd) (by omega) hd r0 r9 (drM S f sd) 0 FUEL _ A (sdN sd) (by omega) (by unfold FUEL; omega) y0 (fun l => by rw [hd']; have := hb l; omega)
      rw [hd'] at y1
      refine ⟨M1, ?_, g0.tr g1, y1⟩
      have nm : ¬ (i32 ((drM S f sd : Nat) : Int) = i32 0) := i32_ne (by omega) (by omega) (by omega) (by omega) (by omega)
      unfold f_X12_drawValues_59
      rw [if_pos hL.k, bx d1, ← e1]
      unfold f_X12_drawValues_62
      rw [if_neg (by exact nm)]
      rfl
theorem X12_fields {kF : Nat → Int32 → Int32 → Int32 → Mem → Option (Unit × Mem)} {sub : Nat → Int → Int → Int32 → List En × Int32} {g r : Int} (hW : S.wf) (g0 : -1 ≤ g) (g16 : g < 16) (hk : ∀ f, f < S.nf → S.gr f = g → S.lf f = -1 → HKr S kF sub f) (r0 : 0 ≤ r) (r9 : r ≤ 9) : ∀ (k j m : Nat) (M : Mem) (A : St) (sd : Int32), j + k = S.nf → k < m → YR M S A sd → (∀ l, A.sz l + (drFs S sub g r (S.dg g) k j sd).1.length ≤ 1000000000) → ∃ M', f_X12_drawValues_3 kF m 134 (i32 g) (i32 r) (i32 (S.dg g)) (i32 j) M = some ((), M') ∧ Chg rdC M M' ∧ YR M' S (A.apL (drFs S sub g r (S.dg g) k j sd).1) (drFs S sub g r (S.dg g) k j sd).2 := by
  have hnf := hW.1.1
  have c0 : (0 : Int32).toNatClampNeg = 0 := by decide
  have db : 0 ≤ S.dg g ∧ S.dg g ≤ 9 := by
    unfold Sc.dg
    split
    · omega
    · exact hW.1.2.2.2.2.2.1 _
  intro k
  induction k with
  | zero =>
    intro j m M A sd hj hm hY hb
    obtain ⟨m, rfl⟩ : ∃ q, m = q + 1 := ⟨m - 1, by omega⟩
    obtain ⟨hL, hR, hX, h49⟩ := id hY
    have r23 : mR M 134 23 = 147 := by simp only [hL.o]
    have k147 : mK M 147 = 21 := by simp only [hL.o]
    have n147 : mN M 147 = 3 := by simp only [hL.o]
    refine ⟨M, ?_, Chg.rf _ M, hY⟩
    unfold f_X12_drawValues_3
    rw [if_pos hL.k, r23, if_pos k147, n147, if_pos (by decide), c0, hR.1, if_pos (by simp (disch := omega) only [↓reduceIte, add_i0, cast_add1, cast_sub1, toNat120, i32_lit, i32_neg, i32_add, i32_sub, i32_mul, i32_nat, i32_le, i32_lt, i32_eq, inB_i, Int.toNat_natCast, mI_sI_eq, mI_sI_ne, mR_sR_eq, mR_sR_ne, mI_sR, mR_sI, mK_sI, mN_sI, mn_sI, mJ_sI, mK_sR, mN_sR, mn_sR, mJ_sR, mI_wI, mR_wI, mK_wI, mN_wI, mn_wI, mJ_wI, ↓bnd_of, ↓bndX_r, ↓bndX_l, ↓ap_nr, bnd_of, bndX_r, bndX_l, if_true, if_false, ite_true, ite_false, not_true_eq_false, not_false_eq_true, Nat.reduceAdd, Nat.reduceMul, Nat.reduceEqDiff, Int.reduceToNat, Int.reduceNeg, Ilt_t, Ilt_f, Ile_t, Ile_f, Ieq_t, Ieq_f, Nlt_t, Nlt_f, Nle_t, Nle_f, Neq_t, Neq_f, or_true, true_or, or_false, false_or, and_true, true_and, and_false, false_and, ne_eq, or_self, and_self, decide_true, decide_false, Bool.false_eq_true])]
  | succ k ih =>
    intro j m M A sd hj hm hY hb
    obtain ⟨m, rfl⟩ : ∃ q, m = q + 1 := ⟨m - 1, by omega⟩
    obtain ⟨hL, hR, hX, h49⟩ := id hY
    have r23 : mR M 134 23 = 147 := by simp only [hL.o]
    have k147 : mK M 147 = 21 := by simp only [hL.o]
    have n147 : mN M 147 = 3 := by simp only [hL.o]
    have r16 : mR M 134 16 = 140 := by simp only [hL.o]
    have k140 : mK M 140 = 21 := by simp only [hL.o]
    have n140 : mN M 140 = 48 := by simp only [hL.o]
    have r15 : mR M 134 15 = 139 := by simp only [hL.o]
    have k139 : mK M 139 = 21 := by simp only [hL.o]
    have n139 : mN M 139 = 48 := by simp only [hL.o]
    have hjf : j < S.nf := by omega
    have inj : inB (i32 (j : Int)) 48 = true := by simp (disch := omega) only [↓reduceIte, add_i0, cast_add1, cast_sub1, toNat120, i32_lit, i32_neg, i32_add, i32_sub, i32_mul, i32_nat, i32_le, i32_lt, i32_eq, inB_i, Int.toNat_natCast, mI_sI_eq, mI_sI_ne, mR_sR_eq, mR_sR_ne, mI_sR, mR_sI, mK_sI, mN_sI, mn_sI, mJ_sI, mK_sR, mN_sR, mn_sR, mJ_sR, mI_wI, mR_wI, mK_wI, mN_wI, mn_wI, mJ_wI, ↓bnd_of, ↓bndX_r, ↓bndX_l, ↓ap_nr, bnd_of, bndX_r, bndX_l, if_true, if_false, ite_true, ite_false, not_true_eq_false, not_false_eq_true, Nat.reduceAdd, Nat.reduceMul, Nat.reduceEqDiff, Int.reduceToNat, Int.reduceNeg, Ilt_t, Ilt_f, Ile_t, Ile_f, Ieq_t, Ieq_f, Nlt_t, Nlt_f, Nle_t, Nle_f, Neq_t, Neq_f, or_true, true_or, or_false, false_or, and_true, true_and, and_false, false_and, ne_eq, or_self, and_self, decide_true, decide_false, Bool.false_eq_true]
    have lt : ¬ (i32 (S.nf : Int) ≤ i32 (j : Int)) := by simp (disch := omega) only [↓reduceIte, add_i0, cast_add1, cast_sub1, toNat120, i32_lit, i32_neg, i32_add, i32_sub, i32_mul, i32_nat, i32_le, i32_lt, i32_eq, inB_i, Int.toNat_natCast, mI_sI_eq, mI_sI_ne, mR_sR_eq, mR_sR_ne, mI_sR, mR_sI, mK_sI, mN_sI, mn_sI, mJ_sI, mK_sR, mN_sR, mn_sR, mJ_sR, mI_wI, mR_wI, mK_wI, mN_wI, mn_wI, mJ_wI, ↓bnd_of, ↓bndX_r, ↓bndX_l, ↓ap_nr, bnd_of, bndX_r, bndX_l, if_true, if_false, ite_true, ite_false, not_true_eq_false, not_false_eq_true, Nat.reduceAdd, Nat.reduceMul, Nat.reduceEqDiff, Int.reduceToNat, Int.reduceNeg, Ilt_t, Ilt_f, Ile_t, Ile_f, Ieq_t, Ieq_f, Nlt_t, Nlt_f, Nle_t, Nle_f, Neq_t, Neq_f, or_true, true_or, or_false, false_or, and_true, true_and, and_false, false_and, ne_eq, or_self, and_self, decide_true, decide_false, Bool.false_eq_true]
    have eg : mI M 140 j = i32 (S.gr j) := hR.2.2.2.1 j hjf
    have gb := hW.1.2.2.2.1 j
    by_cases q : S.gr j = g
    · have ei : drFs S sub g r (S.dg g) (k + 1) j sd = ((drFd S sub j r (S.dg g) sd).1 ++ (drFs S sub g r (S.dg g) k (j + 1) (drFd S sub j r (S.dg g) sd).2).1, (drFs S sub g r (S.dg g) k (j + 1) (drFd S sub j r (S.dg g) sd).2).2) := by
        conv => lhs; unfold drFs
        rw [if_pos q]
      rw [ei] at hb ⊢
      have hb' : ∀ l, A.sz l + ((drFd S sub j r (S.dg g) sd).1.length + (drFs S sub g r (S.dg g) k (j + 1) (drFd S sub j r (S.dg g) sd).2).1.length) ≤ 1000000000 := fun l => by
        have := hb l
        rw [List.length_append] at this
        exact this
      have hd : S.sd j = S.dg g + (if S.kd j = 0 then 0 else 1) := by
        have := hW.2.1 j hjf
        rw [q] at this
        exact this
      obtain ⟨M1, e1, g1, y1⟩ := X12_field (k3 := f_X12_drawValues_3 kF m) (g := g) hW hjf (hk j hjf q) hd db.1 db.2 r0 r9 hY (fun l => by have := hb' l; omega)
      obtain ⟨M2, e2, g2, y2⟩ := ih (j + 1) m M1 _ _ (by omega) (by omega) y1 (fun l => by
        have := hb' l
        have c := cnE_le (l := l) (drFd S sub j r (S.dg g) sd).1
        rw [apL_sz]
        omega)
      refine ⟨M2, ?_, g1.tr g2, ?_⟩
      · rw [← e2, ← e1]
        conv => lhs; unfold f_X12_drawValues_3
        rw [if_pos hL.k, r23, if_pos k147, n147, if_pos (by decide), c0, hR.1, if_neg lt, r16, if_pos k140, n140, if_pos inj, nat_i (by omega), eg, if_pos (by rw [q]), r15, if_pos k139, n139, if_pos inj]
      · rw [apL_app]
        exact y2
    · have ei : drFs S sub g r (S.dg g) (k + 1) j sd = drFs S sub g r (S.dg g) k (j + 1) sd := by
        conv => lhs; unfold drFs
        rw [if_neg q]
      rw [ei] at hb ⊢
      obtain ⟨M2, e2, g2, y2⟩ := ih (j + 1) m M A sd (by omega) (by omega) hY hb
      refine ⟨M2, ?_, g2, y2⟩
      rw [← e2]
      have ng : ¬ (i32 (S.gr j) = i32 g) := i32_ne (by omega) (by omega) (by omega) (by omega) q
      conv => lhs; unfold f_X12_drawValues_3
      rw [if_pos hL.k, r23, if_pos k147, n147, if_pos (by decide), c0, hR.1, if_neg lt, r16, if_pos k140, n140, if_pos inj, nat_i (by omega), eg, if_neg ng, f_X12_drawValues_132, k_add1]
theorem X12_drawValues {dp : Nat → Nat} (hW : S.wf) (hV : VT S S dp) : ∀ (k d : Nat), k + d = 4 → ∀ (M : Mem) (A : St) (sd : Int32) (g r : Int), YR M S A sd → InD S dp g d → 0 ≤ r → r ≤ 9 → (∀ l, A.sz l + (drF S k g r (S.dg g) sd).1.length ≤ 1000000000) → ∃ M', f_X12_drawValues (k + 2) 134 (i32 g) (i32 r) (i32 (S.dg g)) M = some ((), M') ∧ Chg rdC M M' ∧ YR M' S (A.apL (drF S k g r (S.dg g) sd).1) (drF S k g r (S.dg g) sd).2 := by
  intro k
  induction k with
  | zero =>
    intro d hd M A sd g r hY hI r0 r9 hb
    have := hI.le hW hV
    omega
  | succ k ih =>
    intro d hd M A sd g r hY hI r0 r9 hb
    have hnf := hW.1.1
    have gb : -1 ≤ g ∧ g < 16 := by
      rcases hI with ⟨h1, h2⟩ | ⟨p, h1, h2, h3, h4⟩
      · omega
      · omega
    exact X12_fields (kF := f_X12_drawValues (k + 2)) (sub := fun f => drF S k (f : Int)) (g := g) hW gb.1 gb.2 (fun f hf hg hlf M A sd r hY r0 r9 hb => by
      have hdf := hI.sub hV hf hg
      have e : S.dg (f : Int) = S.sd f := by
        unfold Sc.dg
        rw [if_neg (by omega), Int.toNat_natCast]
      have := ih (d + 1) (by omega) M A sd f r hY (Or.inr ⟨f, hf, rfl, hlf, by omega⟩) r0 r9
      rw [e] at this
      exact this hb) r0 r9 S.nf 0 FUEL M A sd (by omega) (by unfold FUEL; omega) hY hb
theorem X12_vsum16 (hW : S.wf) (hV : RV M S A) {l : Nat} (hl : l < S.nl) {k4 : Nat → Int32 → Int32 → Mem → Option (Int32 × Mem)} : ∀ (k j m : Nat) (z : Int), j + k = A.sz l → k < m → f_X12_valuesSum_16 k4 m 134 (i32 z) (i32 l) (i32 j) M = k4 134 (i32 (z + vs1 A S.fu l k j)) (i32 ((l + 1 : Nat) : Int)) M := by
  have hnl := hW.1.2.1
  obtain ⟨hL, hR, hE⟩ := hV
  have hsz := hE.1.2.2.2.1 l
  have r28 : mR M 134 28 = 151 := by simp only [hL.o]
  have k151 : mK M 151 = 21 := by simp only [hL.o]
  have n151 : mN M 151 = 8 := by simp only [hL.o]
  have inl : inB (i32 (l : Int)) 8 = true := by simp (disch := omega) only [↓reduceIte, add_i0, cast_add1, cast_sub1, toNat120, i32_lit, i32_neg, i32_add, i32_sub, i32_mul, i32_nat, i32_le, i32_lt, i32_eq, inB_i, Int.toNat_natCast, mI_sI_eq, mI_sI_ne, mR_sR_eq, mR_sR_ne, mI_sR, mR_sI, mK_sI, mN_sI, mn_sI, mJ_sI, mK_sR, mN_sR, mn_sR, mJ_sR, mI_wI, mR_wI, mK_wI, mN_wI, mn_wI, mJ_wI, ↓bnd_of, ↓bndX_r, ↓bndX_l, ↓ap_nr, bnd_of, bndX_r, bndX_l, if_true, if_false, ite_true, ite_false, not_true_eq_false, not_false_eq_true, Nat.reduceAdd, Nat.reduceMul, Nat.reduceEqDiff, Int.reduceToNat, Int.reduceNeg, Ilt_t, Ilt_f, Ile_t, Ile_f, Ieq_t, Ieq_f, Nlt_t, Nlt_f, Nle_t, Nle_f, Neq_t, Neq_f, or_true, true_or, or_false, false_or, and_true, true_and, and_false, false_and, ne_eq, or_self, and_self, decide_true, decide_false, Bool.false_eq_true]
  have ez := hE.2.1 l (by omega)
  intro k
  induction k with
  | zero =>
    intro j m z hj hm
    obtain ⟨m, rfl⟩ : ∃ q, m = q + 1 := ⟨m - 1, by omega⟩
    have e0 : vs1 A S.fu l 0 j = 0 := rfl
    unfold f_X12_valuesSum_16
    rw [if_pos hL.k, r28, if_pos k151, n151, if_pos inl, nat_i (by omega), ez, if_pos (by simp (disch := omega) only [↓reduceIte, add_i0, cast_add1, cast_sub1, toNat120, i32_lit, i32_neg, i32_add, i32_sub, i32_mul, i32_nat, i32_le, i32_lt, i32_eq, inB_i, Int.toNat_natCast, mI_sI_eq, mI_sI_ne, mR_sR_eq, mR_sR_ne, mI_sR, mR_sI, mK_sI, mN_sI, mn_sI, mJ_sI, mK_sR, mN_sR, mn_sR, mJ_sR, mI_wI, mR_wI, mK_wI, mN_wI, mn_wI, mJ_wI, ↓bnd_of, ↓bndX_r, ↓bndX_l, ↓ap_nr, bnd_of, bndX_r, bndX_l, if_true, if_false, ite_true, ite_false, not_true_eq_false, not_false_eq_true, Nat.reduceAdd, Nat.reduceMul, Nat.reduceEqDiff, Int.reduceToNat, Int.reduceNeg, Ilt_t, Ilt_f, Ile_t, Ile_f, Ieq_t, Ieq_f, Nlt_t, Nlt_f, Nle_t, Nle_f, Neq_t, Neq_f, or_true, true_or, or_false, false_or, and_true, true_and, and_false, false_and, ne_eq, or_self, and_self, decide_true, decide_false, Bool.false_eq_true]), k_add1, e0, Int.add_zero]
  | succ k ih =>
    intro j m z hj hm
    obtain ⟨m, rfl⟩ : ∃ q, m = q + 1 := ⟨m - 1, by omega⟩
    have lt : ¬ (i32 (A.sz l : Int) ≤ i32 (j : Int)) := by simp (disch := omega) only [↓reduceIte, add_i0, cast_add1, cast_sub1, toNat120, i32_lit, i32_neg, i32_add, i32_sub, i32_mul, i32_nat, i32_le, i32_lt, i32_eq, inB_i, Int.toNat_natCast, mI_sI_eq, mI_sI_ne, mR_sR_eq, mR_sR_ne, mI_sR, mR_sI, mK_sI, mN_sI, mn_sI, mJ_sI, mK_sR, mN_sR, mn_sR, mJ_sR, mI_wI, mR_wI, mK_wI, mN_wI, mn_wI, mJ_wI, ↓bnd_of, ↓bndX_r, ↓bndX_l, ↓ap_nr, bnd_of, bndX_r, bndX_l, if_true, if_false, ite_true, ite_false, not_true_eq_false, not_false_eq_true, Nat.reduceAdd, Nat.reduceMul, Nat.reduceEqDiff, Int.reduceToNat, Int.reduceNeg, Ilt_t, Ilt_f, Ile_t, Ile_f, Ieq_t, Ieq_f, Nlt_t, Nlt_f, Nle_t, Nle_f, Neq_t, Neq_f, or_true, true_or, or_false, false_or, and_true, true_and, and_false, false_and, ne_eq, or_self, and_self, decide_true, decide_false, Bool.false_eq_true]
    have eh := X12_hasValue hL hW.1 hR hE hl (j := j) (by omega)
    have ev := X12_valueAt hL hE (l := l) (j := j) (by omega) (by omega)
    conv => lhs; unfold f_X12_valuesSum_16
    rw [if_pos hL.k, r28, if_pos k151, n151, if_pos inl, nat_i (by omega), ez, if_neg lt, bx eh]
    by_cases c : A.df l j = S.fu l
    · have nz : ¬ (i32 1 = i32 0) := i32_ne (by omega) (by omega) (by omega) (by omega) (by omega)
      have e1 : vs1 A S.fu l (k + 1) j = A.vl l j + vs1 A S.fu l k (j + 1) := by
        show (if A.df l j = S.fu l then A.vl l j else 0) + _ = _
        rw [if_pos c]
      rw [if_pos c, if_neg (by exact nz), if_pos hL.k, bx ev, f_X12_valuesSum_46, i32_add, k_add1, ih (j + 1) m _ (by omega) (by omega), e1, Int.add_assoc]
    · have e1 : vs1 A S.fu l (k + 1) j = vs1 A S.fu l k (j + 1) := by
        show (if A.df l j = S.fu l then A.vl l j else 0) + _ = _
        rw [if_neg c, Int.zero_add]
      have z0 : i32 z + (0 : Int32) = i32 z := add_i0 _
      rw [if_neg c, if_pos (by rfl), f_X12_valuesSum_46, z0, k_add1, ih (j + 1) m _ (by omega) (by omega), e1]
theorem X12_vsum4 (hW : S.wf) (hV : RV M S A) : ∀ (k l m : Nat) (z : Int), l + k = S.nl → k < m → f_X12_valuesSum_4 m 134 (i32 z) (i32 l) M = some (i32 (z + vsF A S.fu k l), M) := by
  have hnl := hW.1.2.1
  obtain ⟨hL, hR, hE⟩ := id hV
  have r24 : mR M 134 24 = 148 := by simp only [hL.o]
  have k148 : mK M 148 = 21 := by simp only [hL.o]
  have n148 : mN M 148 = 3 := by simp only [hL.o]
  have c0 : (0 : Int32).toNatClampNeg = 0 := by decide
  intro k
  induction k with
  | zero =>
    intro l m z hl hm
    obtain ⟨m, rfl⟩ : ∃ q, m = q + 1 := ⟨m - 1, by omega⟩
    have e0 : vsF A S.fu 0 l = 0 := rfl
    unfold f_X12_valuesSum_4
    rw [if_pos hL.k, r24, if_pos k148, n148, if_pos (by decide), c0, hR.2.1, if_pos (by simp (disch := omega) only [↓reduceIte, add_i0, cast_add1, cast_sub1, toNat120, i32_lit, i32_neg, i32_add, i32_sub, i32_mul, i32_nat, i32_le, i32_lt, i32_eq, inB_i, Int.toNat_natCast, mI_sI_eq, mI_sI_ne, mR_sR_eq, mR_sR_ne, mI_sR, mR_sI, mK_sI, mN_sI, mn_sI, mJ_sI, mK_sR, mN_sR, mn_sR, mJ_sR, mI_wI, mR_wI, mK_wI, mN_wI, mn_wI, mJ_wI, ↓bnd_of, ↓bndX_r, ↓bndX_l, ↓ap_nr, bnd_of, bndX_r, bndX_l, if_true, if_false, ite_true, ite_false, not_true_eq_false, not_false_eq_true, Nat.reduceAdd, Nat.reduceMul, Nat.reduceEqDiff, Int.reduceToNat, Int.reduceNeg, Ilt_t, Ilt_f, Ile_t, Ile_f, Ieq_t, Ieq_f, Nlt_t, Nlt_f, Nle_t, Nle_f, Neq_t, Neq_f, or_true, true_or, or_false, false_or, and_true, true_and, and_false, false_and, ne_eq, or_self, and_self, decide_true, decide_false, Bool.false_eq_true]), e0, Int.add_zero]
  | succ k ih =>
    intro l m z hl hm
    obtain ⟨m, rfl⟩ : ∃ q, m = q + 1 := ⟨m - 1, by omega⟩
    have lt : ¬ (i32 (S.nl : Int) ≤ i32 (l : Int)) := by simp (disch := omega) only [↓reduceIte, add_i0, cast_add1, cast_sub1, toNat120, i32_lit, i32_neg, i32_add, i32_sub, i32_mul, i32_nat, i32_le, i32_lt, i32_eq, inB_i, Int.toNat_natCast, mI_sI_eq, mI_sI_ne, mR_sR_eq, mR_sR_ne, mI_sR, mR_sI, mK_sI, mN_sI, mn_sI, mJ_sI, mK_sR, mN_sR, mn_sR, mJ_sR, mI_wI, mR_wI, mK_wI, mN_wI, mn_wI, mJ_wI, ↓bnd_of, ↓bndX_r, ↓bndX_l, ↓ap_nr, bnd_of, bndX_r, bndX_l, if_true, if_false, ite_true, ite_false, not_true_eq_false, not_false_eq_true, Nat.reduceAdd, Nat.reduceMul, Nat.reduceEqDiff, Int.reduceToNat, Int.reduceNeg, Ilt_t, Ilt_f, Ile_t, Ile_f, Ieq_t, Ieq_f, Nlt_t, Nlt_f, Nle_t, Nle_f, Neq_t, Neq_f, or_true, true_or, or_false, false_or, and_true, true_and, and_false, false_and, ne_eq, or_self, and_self, decide_true, decide_false, Bool.false_eq_true]
    have hsz := hE.1.2.2.2.1 l
    have e1 := X12_vsum16 hW hV (l := l) (by omega) (k4 := f_X12_valuesSum_4 m) (A.sz l) 0 FUEL z (by omega) (by unfold FUEL; omega)
    have e1 : f_X12_valuesSum_16 (f_X12_valuesSum_4 m) FUEL 134 (i32 z) (i32 (l : Int)) (0 : Int32) M = _ := e1
    have e2 : vsF A S.fu (k + 1) l = vs1 A S.fu l (A.sz l) 0 + vsF A S.fu k (l + 1) := rfl
    conv => lhs; unfold f_X12_valuesSum_4
    rw [if_pos hL.k, r24, if_pos k148, n148, if_pos (by decide), c0, hR.2.1, if_neg lt, e1, ih (l + 1) m _ (by omega) (by omega), e2, Int.add_assoc]
theorem X12_valuesSum (hW : S.wf) (hV : RV M S A) : f_X12_valuesSum 134 M = some (i32 (vsF A S.fu S.nl 0), M) := by
  have h := X12_vsum4 hW hV S.nl 0 FUEL 0 (by omega) (by have := hW.1.2.1; unfold FUEL; omega)
  rw [Int.zero_add] at h
  exact h
/-- what the years change before all is brought back -/
def ylC (a j : Nat) : Prop := rdC a j ∨ (a = 134 ∧ j = 30) ∨ a = 154
theorem RV.yl {P : Nat → Nat → Prop} {B : St} (h : RV M S A) (g : Chg P M M') (hP : ∀ a j, P a j → a < 139 ∨ 149 < a) (hE : RE M' B) : RV M' S B := ⟨h.1.all g, h.2.1.chg g hP, hE⟩
theorem X12_years76 {dp : Nat → Nat} (hW : S.wf) (hVT : VT S S dp) (hV : RV M S A) {n : Nat} (hn : n ≤ 10) (w : Int32) : ∀ (k i m : Nat) (M1 : Mem) (B : St) (sd : Int32), i + k = n → k < m → Chg ylC M M1 → RV M1 S B → mI M1 134 49 = sd → ∃ M2, f_X12_years_76 m 134 (i32 n) w (i32 i) M1 = f_X12_years_76 (m - k) 134 (i32 n) w (i32 n) M2 ∧ Chg ylC M M2 ∧ RV M2 S (yrs S k (B, sd)).1 := by
  have hnl := hW.1.2.1
  intro k
  induction k with
  | zero =>
    intro i m M1 B sd hi hm g hV1 h49
    refine ⟨M1, ?_, g, hV1⟩
    rw [show i = n by omega, Nat.sub_zero]
  | succ k ih =>
    intro i m M1 B sd hi hm g hV1 h49
    obtain ⟨m, rfl⟩ : ∃ q, m = q + 1 := ⟨m - 1, by omega⟩
    have hL1 := hV1.1
    have r33 : mR M1 134 33 = 154 := by simp only [hL1.o]
    have k154 : mK M1 154 = 21 := by simp only [hL1.o]
    have n154 : mN M1 154 = 969 := by simp only [hL1.o]
    obtain ⟨M2, e2, g2, a1, a2, a3⟩ := X12_pack (a := 154) (off := 0) hL1 (by omega) (by omega) k154 (by omega) (by omega)
    have e2 : f_X12_pack 134 154 (0 : Int32) M1 = _ := e2
    have hrow := RRow.of hV1.2.2 a1 a2 a3
    have hok := hV1.2.2.1
    have hrc := hok.2.2.2.2
    have hsz := hok.2.2.2.1
    have hE2 : RE M2 B := hV1.2.2.cg (fun l q => g2.i (by unfold pkC; omega)) (fun j => g2.i (by unfold pkC; omega)) (g2.i (by unfold pkC; omega))
    have hV2 : RV M2 S B := hV1.yl g2 (fun a j q => by unfold pkC at q; omega) hE2
    have h492 : mI M2 134 49 = sd := by rw [g2.i (by unfold pkC; omega)]; exact h49
    have hE := yrE_ok hW sd
    have hlen := hE.2
    have dg1 : S.dg (-1) = 0 := rfl
    obtain ⟨M3, e3, g3, y3⟩ := X12_drawValues hW hVT 4 0 (by omega) M2 B sd (-1) 0 ⟨hV2.1, hV2.2.1, RX.of hE2, h492⟩ (Or.inl ⟨rfl, rfl⟩) (by omega) (by omega) (fun l => by
      have : (drF S 4 (-1) 0 (S.dg (-1)) sd).1.length ≤ 10000000 := hlen
      have := hsz l
      omega)
    have e3 : f_X12_drawValues 6 134 (-1 : Int32) (0 : Int32) (0 : Int32) M2 = some ((), M3) := e3
    have y3 : YR M3 S (B.apL (yrE S sd).1) (yrE S sd).2 := y3
    obtain ⟨hL3, hR3, hX3, h493⟩ := y3
    have h303 : mI M3 134 30 = i32 B.rc := by rw [g3.i (by unfold rdC; omega)]; exact hE2.2.2.2
    have x30 : mI M3 134 30 + (1 : Int32) = i32 ((B.rc + 1 : Nat) : Int) := by rw [h303, k_add1]
    obtain ⟨M4, em4⟩ : ∃ M4, sI M3 134 30 (i32 ((B.rc + 1 : Nat) : Int)) = M4 := ⟨_, rfl⟩
    have g4 : Chg (fun a j => a = 134 ∧ j = 30) M3 M4 := by rw [← em4]; exact (Chg.rf _ M3).sI ⟨rfl, rfl⟩
    have hL4 := hL3.all g4
    have hR4 : RS0 M4 S := hR3.chg g4 (fun a j q => by omega)
    have hX4 : RX M4 (B.apL (yrE S sd).1) := hX3.cg (fun j => g4.i (by omega)) (fun j => g4.i (by omega))
    have h304 : mI M4 134 30 = i32 ((B.rc + 1 : Nat) : Int) := by rw [← em4]; exact mI_sI_eq
    have h494 : mI M4 134 49 = (yrE S sd).2 := by rw [g4.i (by omega)]; exact h493
    have szb : ∀ l, (B.apL (yrE S sd).1).sz l ≤ 2000000000 := fun l => by
      have := hsz l
      have := cnE_le (l := l) (yrE S sd).1
      rw [apL_sz]
      omega
    have tm := X12_isTooMuch hW.1 hL4 hR4 hX4 szb (rc := B.rc + 1) (by omega) h304
    have gg4 : Chg ylC M M4 := g.tr ((g2.mono (fun a j q => by unfold pkC at q; unfold ylC; omega)).tr ((g3.mono (fun a j q => Or.inl q)).tr (g4.mono (fun a j q => Or.inr (Or.inl q)))))
    have lt : ¬ (i32 (n : Int) ≤ i32 (i : Int)) := by simp (disch := omega) only [↓reduceIte, add_i0, cast_add1, cast_sub1, toNat120, i32_lit, i32_neg, i32_add, i32_sub, i32_mul, i32_nat, i32_le, i32_lt, i32_eq, inB_i, Int.toNat_natCast, mI_sI_eq, mI_sI_ne, mR_sR_eq, mR_sR_ne, mI_sR, mR_sI, mK_sI, mN_sI, mn_sI, mJ_sI, mK_sR, mN_sR, mn_sR, mJ_sR, mI_wI, mR_wI, mK_wI, mN_wI, mn_wI, mJ_wI, ↓bnd_of, ↓bndX_r, ↓bndX_l, ↓ap_nr, bnd_of, bndX_r, bndX_l, if_true, if_false, ite_true, ite_false, not_true_eq_false, not_false_eq_true, Nat.reduceAdd, Nat.reduceMul, Nat.reduceEqDiff, Int.reduceToNat, Int.reduceNeg, Ilt_t, Ilt_f, Ile_t, Ile_f, Ieq_t, Ieq_f, Nlt_t, Nlt_f, Nle_t, Nle_f, Neq_t, Neq_f, or_true, true_or, or_false, false_or, and_true, true_and, and_false, false_and, ne_eq, or_self, and_self, decide_true, decide_false, Bool.false_eq_true]
    have ms : m + 1 - (k + 1) = m - k := by omega
    rw [ms]
    by_cases fit : fitS S.nl (B.apL (yrE S sd).1).inc
    · have er := tm.1 ⟨by have : (B.apL (yrE S sd).1).rc + 1 ≤ 30 := fit.1; rw [apL_rc] at this; exact this, fit.2⟩
      have e : yrs S (k + 1) (B, sd) = yrs S k ((B.apL (yrE S sd).1).inc, (yrE S sd).2) := by
        show yrs S k (yr1 S (B, sd)) = _
        congr 1
        exact if_pos fit
      have hE4 : RE M4 (B.apL (yrE S sd).1).inc := by
        refine RX.re (A := (B.apL (yrE S sd).1).inc) hX4 (fun l => ?_) fit.1 ?_
        · by_cases c : l < S.nl
          · exact fit.2 l c
          · show (B.apL (yrE S sd).1).sz l ≤ 120
            rw [apL_sz, cnE_ge (by omega) _ hE.1]
            exact hsz l
        · rw [h304]
          show _ = i32 (((B.apL (yrE S sd).1).rc + 1 : Nat) : Int)
          rw [apL_rc]
      rw [e]
      obtain ⟨M5, e5, r5⟩ := ih (i + 1) m M4 _ (yrE S sd).2 (by omega) (by omega) gg4 ⟨hL4, hR4, hE4⟩ h494
      refine ⟨M5, ?_, r5⟩
      rw [← e5]
      conv => lhs; unfold f_X12_years_76
      rw [if_neg lt, if_pos hL1.k, r33, bx e2, if_pos hV2.1.k, bx e3, if_pos hL3.k, x30, ap_of, em4, if_pos hL4.k, bx er, if_pos (by rfl), f_X12_years_124, k_add1]
    · have er := tm.2 (fun q => fit ⟨by show (B.apL (yrE S sd).1).rc + 1 ≤ 30; rw [apL_rc]; exact q.1, q.2⟩)
      have e : yrs S (k + 1) (B, sd) = yrs S k (B, (yrE S sd).2) := by
        show yrs S k (yr1 S (B, sd)) = _
        congr 1
        exact if_neg fit
      have r334 : mR M4 134 33 = 154 := by simp only [hL4.o]
      have k1544 : mK M4 154 = 21 := by simp only [hL4.o]
      have n1544 : mN M4 154 = 969 := by simp only [hL4.o]
      obtain ⟨M5, e5, g5, b1, b2, b3⟩ := X12_unpack (a := 154) (off := 0) hL4 (by omega) (by omega) k1544 (by omega) (by omega)
      have e5 : f_X12_unpack 134 154 (0 : Int32) M4 = _ := e5
      have hE5 : RE M5 B := RE.of (hrow.cg (M' := M4) (a' := 154) (off' := 0) (fun i hi => by rw [g4.i (by omega), g3.i (by unfold rdC; omega)])) b1 b2 b3
      have hV5 : RV M5 S B := ⟨hL4.all g5, hR4.chg g5 (fun a j q => by unfold upC at q; omega), hE5⟩
      rw [e]
      obtain ⟨M6, e6, r6⟩ := ih (i + 1) m M5 B (yrE S sd).2 (by omega) (by omega) (gg4.tr (g5.mono (fun a j q => by unfold upC at q; unfold ylC rdC; omega))) hV5 (by rw [g5.i (by unfold upC; omega)]; exact h494)
      refine ⟨M6, ?_, r6⟩
      rw [← e6]
      have nz1 : ¬ (i32 1 = i32 0) := i32_ne (by omega) (by omega) (by omega) (by omega) (by omega)
      conv => lhs; unfold f_X12_years_76
      rw [if_neg lt, if_pos hL1.k, r33, bx e2, if_pos hV2.1.k, bx e3, if_pos hL3.k, x30, ap_of, em4, if_pos hL4.k, bx er, if_neg (by exact nz1), if_pos hL4.k, r334, bx e5, f_X12_years_124, k_add1]
theorem r_years {dp : Nat → Nat} (hW : S.wf) (hV : RV M S A) (hVT : VT S S dp) (seed : Int32) (n w : Int) (z1 : -2147483648 ≤ n) (z2 : n ≤ 2147483647) (z3 : -2147483648 ≤ w) (z4 : w ≤ 2147483647) : ∃ x M', f_X12_years 134 seed (i32 n) (i32 w) M = some (x, M') ∧ RA M M' (a_years S A seed n w) x := by
  generalize ha : a_years S A seed n w = ans
  unfold f_X12_years
  refine ref_start2 hW hV (fun M0 g0 hV0 hc0 => ?_)
  have hS := hW.1
  have hnf := hS.1
  have hL := hV0.1
  have hf := X12_fail hL 1
  have hf2 := X12_fail hL 2
  have i1 := isIn_v w z3 z4 (0 : Int64) (2 : Int64) M0
  have i2 := isIn_v n z1 z2 (0 : Int64) (10 : Int64) M0
  have i1 : f_X12_isIn (i32 w).toInt64 (0 : Int64) (2 : Int64) M0 = some (if 0 ≤ w ∧ w ≤ 2 then i32 1 else i32 0, M0) := i1
  have i2 : f_X12_isIn (i32 n).toInt64 (0 : Int64) (10 : Int64) M0 = some (if 0 ≤ n ∧ n ≤ 10 then i32 1 else i32 0, M0) := i2
  have nz1 : ¬ (i32 1 = i32 0) := i32_ne (by omega) (by omega) (by omega) (by omega) (by omega)
  unfold a_years at ha
  rw [bx i1]
  by_cases d : 0 ≤ w ∧ w ≤ 2
  · rw [if_pos d] at ha ⊢
    rw [if_neg (by exact nz1), bx i2]
    by_cases d2 : 0 ≤ n ∧ n ≤ 10
    · rw [if_pos d2] at ha ⊢
      have r23 : mR M0 134 23 = 147 := by simp only [hL.o]
      have k147 : mK M0 147 = 21 := by simp only [hL.o]
      have n147 : mN M0 147 = 3 := by simp only [hL.o]
      have c0 : (0 : Int32).toNatClampNeg = 0 := by decide
      rw [if_neg (by exact nz1), if_pos hL.k, r23, if_pos k147, n147, if_pos (by decide), c0, hV0.2.1.1]
      by_cases d3 : S.nf = 0
      · rw [if_pos (Or.inl d3)] at ha
        rw [d3, if_pos (by rfl)]
        subst ha
        exact ⟨_, M0, rfl, Scr.rf M0, hc0, rfl⟩
      · have nz : ¬ (i32 (S.nf : Int) = i32 0) := i32_ne (by omega) (by omega) (by omega) (by omega) (by omega)
        rw [if_neg (by exact nz)]
        obtain ⟨M1, e1, g1, h21, gc1⟩ := r_chk hW hV0 hc0
        have hV1 := hV0.scr hS g1
        have hL1 := hV1.1
        have hb := chkF_b S A hV0.2.2.1 S.nl 0
        have hb2 : 0 ≤ (chk S A).1 ∧ (chk S A).1 ≤ 5 := ⟨hb.1, hb.2.1⟩
        rw [bx e1]
        by_cases d4 : (chk S A).1 = 0
        · rw [if_neg (by omega)] at ha
          obtain ⟨n, rfl⟩ : ∃ k : Nat, n = k := ⟨n.toNat, by omega⟩
          rw [Int.toNat_natCast] at ha
          rw [d4, if_pos (by rfl)]
          have r32 : mR M1 134 32 = 153 := by simp only [hL1.o]
          have k153 : mK M1 153 = 21 := by simp only [hL1.o]
          have n153 : mN M1 153 = 969 := by simp only [hL1.o]
          obtain ⟨M2, e2, g2, a1, a2, a3⟩ := X12_pack (a := 153) (off := 0) hL1 (by omega) (by omega) k153 (by omega) (by omega)
          have e2 : f_X12_pack 134 153 (0 : Int32) M1 = _ := e2
          have hL2 := hL1.all g2
          rw [if_pos hL1.k, r32, bx e2, if_pos hL2.k, ap_of]
          obtain ⟨M3, em3⟩ : ∃ M3, sI M2 134 49 seed = M3 := ⟨_, rfl⟩
          have g3 : Chg (fun a j => a = 134 ∧ j = 49) M2 M3 := by rw [← em3]; exact (Chg.rf _ M2).sI ⟨rfl, rfl⟩
          rw [em3]
          have hE3 : RE M3 A := hV1.2.2.cg (fun l q => by rw [g3.i (by omega), g2.i (by unfold pkC; omega)]) (fun j => by rw [g3.i (by omega), g2.i (by unfold pkC; omega)]) (by rw [g3.i (by omega), g2.i (by unfold pkC; omega)])
          have hR3 : RS0 M3 S := (hV1.2.1.chg g2 (fun a j q => by unfold pkC at q; omega)).chg g3 (fun a j q => by omega)
          have hV3 : RV M3 S A := ⟨hL2.all g3, hR3, hE3⟩
          obtain ⟨M4, e4, g4, hV4⟩ := X12_years76 hW hVT hV3 (n := n) (by omega) (i32 w) n 0 FUEL M3 A seed (by omega) (by unfold FUEL; omega) (Chg.rf _ M3) hV3 (by rw [← em3]; exact mI_sI_eq)
          have e4 : f_X12_years_76 FUEL 134 (i32 (n : Int)) (i32 w) (0 : Int32) M3 = _ := e4
          obtain ⟨q, hq⟩ : ∃ q, FUEL - n = q + 1 := ⟨FUEL - n - 1, by unfold FUEL; omega⟩
          rw [hq] at e4
          have hL4 := hV4.1
          have r324 : mR M4 134 32 = 153 := by simp only [hL4.o]
          have k1534 : mK M4 153 = 21 := by simp only [hL4.o]
          have n1534 : mN M4 153 = 969 := by simp only [hL4.o]
          obtain ⟨M5, e5, g5, b1, b2, b3⟩ := X12_unpack (a := 153) (off := 0) hL4 (by omega) (by omega) k1534 (by omega) (by omega)
          have e5 : f_X12_unpack 134 153 (0 : Int32) M4 = _ := e5
          have e157 : ∀ x : Int32, f_X12_years_157 134 x M4 = some (x, M5) := fun x => by
            unfold f_X12_years_157
            rw [if_pos hL4.k, r324, bx e5]
          have row : ∀ i, mI M4 153 i = mI M2 153 i := fun i => by rw [g4.i (by unfold ylC rdC; omega), g3.i (by omega)]
          have s5 : Scr M1 M5 := by
            refine ⟨?_, ?_, ?_, ?_, fun a j q => ?_, fun a j q => ?_⟩
            · rw [g5.1, g4.1, g3.1, g2.1]
            · rw [g5.2.1, g4.2.1, g3.2.1, g2.2.1]
            · rw [g5.2.2.1, g4.2.2.1, g3.2.2.1, g2.2.2.1]
            · rw [g5.2.2.2.1, g4.2.2.2.1, g3.2.2.2.1, g2.2.2.2.1]
            · by_cases u : upC a j
              · unfold upC at u
                rcases u with ⟨u1, u2⟩ | ⟨u1, u2⟩ | ⟨u1, u2⟩
                · subst u1
                  rw [b1 j u2, row, a1 j u2]
                · subst u1
                  rw [b2 j u2, row, a2 j u2]
                · subst u1; subst u2
                  rw [b3, row, a3]
              · rw [g5.i u, g4.i (fun v => by
                  unfold ylC rdC at v
                  unfold upC at u
                  unfold ScI at q
                  omega), g3.i (fun v => by unfold ScI at q; omega), g2.i (fun v => by unfold pkC at v; unfold ScI at q; omega)]
            · rw [g5.r, g4.r, g3.r, g2.r]
          have h25 : mI M5 134 2 = i32 0 := by
            rw [g5.i (by unfold upC; omega), g4.i (by unfold ylC rdC; omega), g3.i (by omega), g2.i (by unfold pkC; omega)]
            exact h21
          have fin : ∀ x : Int32, f_X12_years_76 (q + 1) 134 (i32 (n : Int)) (i32 w) (i32 (n : Int)) M4 = some (x, M5) → ans = .inr x → ∃ r M', f_X12_years_76 FUEL 134 (i32 (n : Int)) (i32 w) (0 : Int32) M3 = some (r, M') ∧ RA M0 M' ans r := fun x h1 h2 => by
            refine ⟨x, M5, e4.trans h1, g1.tr s5, ?_⟩
            rw [h2]
            exact ⟨h25, rfl⟩
          have nn : i32 (n : Int) ≤ i32 (n : Int) := by simp (disch := omega) only [↓reduceIte, add_i0, cast_add1, cast_sub1, toNat120, i32_lit, i32_neg, i32_add, i32_sub, i32_mul, i32_nat, i32_le, i32_lt, i32_eq, inB_i, Int.toNat_natCast, mI_sI_eq, mI_sI_ne, mR_sR_eq, mR_sR_ne, mI_sR, mR_sI, mK_sI, mN_sI, mn_sI, mJ_sI, mK_sR, mN_sR, mn_sR, mJ_sR, mI_wI, mR_wI, mK_wI, mN_wI, mn_wI, mJ_wI, ↓bnd_of, ↓bndX_r, ↓bndX_l, ↓ap_nr, bnd_of, bndX_r, bndX_l, if_true, if_false, ite_true, ite_false, not_true_eq_false, not_false_eq_true, Nat.reduceAdd, Nat.reduceMul, Nat.reduceEqDiff, Int.reduceToNat, Int.reduceNeg, Ilt_t, Ilt_f, Ile_t, Ile_f, Ieq_t, Ieq_f, Nlt_t, Nlt_f, Nle_t, Nle_f, Neq_t, Neq_f, or_true, true_or, or_false, false_or, and_true, true_and, and_false, false_and, ne_eq, or_self, and_self, decide_true, decide_false, Bool.false_eq_true]
          by_cases w0 : w = 0
          · refine fin (i32 (yrs S n (A, seed)).1.rc) ?_ (by rw [← ha, if_pos w0])
            rw [w0]
            unfold f_X12_years_76
            rw [if_pos nn, if_pos (by rfl), if_pos hL4.k, hV4.2.2.2.2.2, e157]
          · have nw : ¬ (i32 w = i32 0) := i32_ne (by omega) (by omega) (by omega) (by omega) w0
            by_cases w1 : w = 1
            · refine fin (i32 (vsF (yrs S n (A, seed)).1 S.fu S.nl 0)) ?_ (by rw [← ha, if_neg w0, if_pos w1])
              have es := X12_valuesSum hW hV4
              unfold f_X12_years_76
              rw [if_pos nn, if_neg (by exact nw), w1, if_pos (by rfl), if_pos hL4.k, bx es, e157]
            · have nw1 : ¬ (i32 w = i32 1) := i32_ne (by omega) (by omega) (by omega) (by omega) w1
              refine fin ((yrs S n (A, seed)).1.all S.nl) ?_ (by rw [← ha, if_neg w0, if_neg w1])
              have es := X12_allEntries hS hV4
              unfold f_X12_years_76
              rw [if_pos nn, if_neg (by exact nw), if_neg (by exact nw1), if_pos hL4.k, bx es, e157]
        · rw [if_pos (Or.inr d4)] at ha
          have nc : ¬ (i32 (chk S A).1 = i32 0) := i32_ne (by omega) (by omega) (by omega) (by omega) d4
          rw [if_neg (by exact nc)]
          subst ha
          exact ⟨_, M1, rfl, g1, h21, rfl⟩
    · rw [if_neg d2] at ha ⊢
      have hf2 : f_X12_fail 134 (2 : Int32) M0 = _ := hf2
      rw [if_pos (by rfl), if_pos hL.k, bx hf2]
      subst ha
      exact ⟨_, _, rfl, RA_fail (Scr.rf M0) 2 _⟩
  · rw [if_neg d] at ha ⊢
    have hf : f_X12_fail 134 (1 : Int32) M0 = _ := hf
    rw [if_pos (by rfl), if_pos hL.k, bx hf]
    subst ha
    exact ⟨_, _, rfl, RA_fail (Scr.rf M0) 1 _⟩
end
