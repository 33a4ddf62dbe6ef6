/-! years: what is drawn -/
def sdN (s : Int32) : Int32 := s * (1103515245 : Int32) + (12345 : Int32)
def dwY (s : Int32) : Int32 := (sdN s >>> (i32 ((16 : Nat) : Int) &&& i32 31)) &&& i32 ((2 ^ 15 - 1 : Nat) : Int)
def dwK (s : Int32) (n : Nat) : Nat := (dwY s).toInt.toNat % n
theorem dwK_lt (s : Int32) {n : Nat} (h : 0 < n) : dwK s n < n := Nat.mod_lt _ h
theorem dwK_e (s : Int32) {n : Nat} (h : 0 < n) (h2 : n ≤ 100) : dwY s - dwY s / i32 (n : Int) * i32 (n : Int) = i32 ((dwK s n : Nat) : Int) := by
  have b := and_low (sdN s >>> (i32 ((16 : Nat) : Int) &&& i32 31)) (m := 15) (by omega)
  have b : 0 ≤ (dwY s).toInt ∧ (dwY s).toInt ≤ ((2 ^ 15 - 1 : Nat) : Int) := b
  have e : dwY s = i32 (((dwY s).toInt.toNat : Nat) : Int) := by
    rw [Int.toNat_of_nonneg b.1]
    exact (i32_of _).symm
  unfold dwK
  generalize hN : (dwY s).toInt.toNat = N at e ⊢
  have hN2 : N ≤ 32767 := by omega
  rw [e, i32_div (by omega) (by omega) (by omega) (by omega), i32_mul, i32_sub]
  congr 1
  have q : ((N % n : Nat) : Int) = (N : Int) % (n : Int) := rfl
  rw [q, Int.emod_def, Int.mul_comm]
def drIt (S : Sc) (sub : Nat → Int → Int → Int32 → List En × Int32) (f : Nat) (r d : Int) (s : Int32) : List En × Int32 := if S.lf f = -1 then sub f r d s else ([((S.lf f).toNat, r, d, ((dwK s 100 : Nat) : Int))], sdN s)
def drIs (S : Sc) (sub : Nat → Int → Int → Int32 → List En × Int32) (f : Nat) (r d : Int) : Nat → Nat → Int32 → List En × Int32
  | 0, _, s => ([], s)
  | k + 1, i, s => ((drIt S sub f (if i = 0 then r else S.sr f) d s).1 ++ (drIs S sub f r d k (i + 1) (drIt S sub f (if i = 0 then r else S.sr f) d s).2).1, (drIs S sub f r d k (i + 1) (drIt S sub f (if i = 0 then r else S.sr f) d s).2).2)
def drM (S : Sc) (f : Nat) (s : Int32) : Nat := dwK s (if S.kd f = 1 then 2 else 3)
def drFd (S : Sc) (sub : Nat → Int → Int → Int32 → List En × Int32) (f : Nat) (r d : Int) (s : Int32) : List En × Int32 := if S.kd f = 0 then drIs S sub f r d 1 0 s else if drM S f s = 0 then (lackE S f r d S.nl 0, sdN s) else drIs S sub f r (d + 1) (drM S f s) 0 (sdN s)
def drFs (S : Sc) (sub : Nat → Int → Int → Int32 → List En × Int32) (g r d : Int) : Nat → Nat → Int32 → List En × Int32
  | 0, _, s => ([], s)
  | k + 1, j, s => if S.gr j = g then ((drFd S sub j r d s).1 ++ (drFs S sub g r d k (j + 1) (drFd S sub j r d s).2).1, (drFs S sub g r d k (j + 1) (drFd S sub j r d s).2).2) else drFs S sub g r d k (j + 1) s
def drF (S : Sc) : Nat → Int → Int → Int → Int32 → List En × Int32
  | 0, _, _, _, s => ([], s)
  | k + 1, g, r, d, s => drFs S (fun f => drF S k (f : Int)) g r d S.nf 0 s
theorem drM_lt (S : Sc) (f : Nat) (s : Int32) : drM S f s ≤ 2 := by
  unfold drM
  split
  · have := dwK_lt s (n := 2) (by omega); omega
  · have := dwK_lt s (n := 3) (by omega); omega
/-! years in the class -/
def yC (a j : Nat) : Prop := a = 17 ∨ (a = 15 ∧ (j = 4 ∨ j = 5))
def YCL (M : Mem) (s : Nat) (S : Sc) : Prop := CLay M ∧ ShLay M s ∧ CSh M s S ∧ 88 ≤ s ∧ s ≤ 112 ∧ mR M 15 6 = s
def YC (M : Mem) (c : Nat → Int) (z : Int) (sd : Int32) : Prop := mI M 15 5 = sd ∧ mI M 15 4 = i32 z ∧ ∀ l, l < 8 → mI M 17 l = i32 (c l)
section
variable {M M' : Mem} {S : Sc} {s : Nat}
theorem YCL.chg (h : YCL M s S) (g : Chg yC M M') : YCL M' s S := ⟨h.1.all g, h.2.1.all g, h.2.2.1.gw h.2.2.2.1 h.2.2.2.2.1 (g.gw (Q := fun _ _ => False) (fun a j q => by unfold yC at q; omega)) (fun a j q => by unfold yC at q; omega), h.2.2.2.1, h.2.2.2.2.1, by rw [g.r]; exact h.2.2.2.2.2⟩
theorem X10_draw (hL : CLay M) {n : Nat} (h0 : 0 < n) (h1 : n ≤ 100) : f_X10_draw 15 (i32 n) M = some (i32 ((dwK (mI M 15 5) n : Nat) : Int), sI M 15 5 (sdN (mI M 15 5))) := by
  have k15 : mK M 15 = 11 := by simp only [hL.o]
  have sh := shEq (sdN (mI M 15 5)) (s := 16) (m := 15) (by omega) (by omega) (by omega)
  have e := dwK_e (mI M 15 5) h0 h1
  unfold dwY at e
  rw [← sh] at e
  have p : ¬ (i32 (n : Int) ≤ i32 0) := by simp (disch := omega) only [↓reduceIte, add_i0, cast_add1, cast_sub1, toNat120, i32_lit, i32_neg, i32_add, i32_sub, i32_mul, i32_nat, i32_le, i32_lt, i32_eq, inB_i, Int.toNat_natCast, mI_sI_eq, mI_sI_ne, mR_sR_eq, mR_sR_ne, mI_sR, mR_sI, mK_sI, mN_sI, mn_sI, mJ_sI, mK_sR, mN_sR, mn_sR, mJ_sR, mI_wI, mR_wI, mK_wI, mN_wI, mn_wI, mJ_wI, ↓bnd_of, ↓bndX_r, ↓bndX_l, ↓ap_nr, bnd_of, bndX_r, bndX_l, if_true, if_false, ite_true, ite_false, not_true_eq_false, not_false_eq_true, Nat.reduceAdd, Nat.reduceMul, Nat.reduceEqDiff, Int.reduceToNat, Int.reduceNeg, Ilt_t, Ilt_f, Ile_t, Ile_f, Ieq_t, Ieq_f, Nlt_t, Nlt_f, Nle_t, Nle_f, Neq_t, Neq_f, or_true, true_or, or_false, false_or, and_true, true_and, and_false, false_and, ne_eq, or_self, and_self, decide_true, decide_false, Bool.false_eq_true]
  have nz : ¬ (i32 (n : Int) = i32 0) := i32_ne (by omega) (by omega) (by omega) (by omega) (by omega)
  unfold f_X10_draw
  rw [if_pos k15, ap_of, if_neg (by exact p), if_pos (by exact k15), if_pos (by exact nz), mI_sI_eq, ← e]
  rfl
/-- what the call for a group does -/
def HKc (s : Nat) (S : Sc) (kF : Nat → Int32 → Int32 → Mem → Option (Unit × Mem)) (sub : Nat → Int → Int → Int32 → List En × Int32) (f d : Nat) : Prop := ∀ (M : Mem) (c : Nat → Int) (z : Int) (sd : Int32) (r e : Int), YCL M s S → YC M c z sd → ∃ M', kF 15 (i32 f) (i32 ((d + 1 : Nat) : Int)) M = some ((), M') ∧ Chg yC M M' ∧ YC M' (fun l => c l + (cnE l (sub f r e sd).1 : Nat)) (z + smE (sub f r e sd).1) (sub f r e sd).2
theorem X10_drawItem {kF : Nat → Int32 → Int32 → Mem → Option (Unit × Mem)} {sub : Nat → Int → Int → Int32 → List En × Int32} {f d : Nat} (hW : S.wf) (hf : f < S.nf) (hk : S.lf f = -1 → HKc s S kF sub f d) {c : Nat → Int} {z : Int} {sd : Int32} (r e : Int) (hY : YCL M s S) (hC : YC M c z sd) : ∃ M', f_X10_drawItem kF 15 (i32 f) (i32 d) M = some ((), M') ∧ Chg yC M M' ∧ YC M' (fun l => c l + (cnE l (drIt S sub f r e sd).1 : Nat)) (z + smE (drIt S sub f r e sd).1) (drIt S sub f r e sd).2 := by
  obtain ⟨hL, hsl, hsh, s1, s2, h6⟩ := id hY
  have hnf := hW.1.1
  have k15 : mK M 15 = 11 := by simp only [hL.o]
  have ks : mK M s = 6 := by simp only [hsl.o]
  have r4 : mR M s 4 = s + 3 := by simp only [hsl.o]
  have k3 : mK M (s + 3) = 21 := by simp only [hsl.o]
  have n3 : mN M (s + 3) = 16 := by simp only [hsl.o]
  have inf : inB (i32 (f : Int)) 16 = true := by simp (disch := omega) only [↓reduceIte, add_i0, cast_add1, cast_sub1, toNat120, i32_lit, i32_neg, i32_add, i32_sub, i32_mul, i32_nat, i32_le, i32_lt, i32_eq, inB_i, Int.toNat_natCast, mI_sI_eq, mI_sI_ne, mR_sR_eq, mR_sR_ne, mI_sR, mR_sI, mK_sI, mN_sI, mn_sI, mJ_sI, mK_sR, mN_sR, mn_sR, mJ_sR, mI_wI, mR_wI, mK_wI, mN_wI, mn_wI, mJ_wI, ↓bnd_of, ↓bndX_r, ↓bndX_l, ↓ap_nr, bnd_of, bndX_r, bndX_l, if_true, if_false, ite_true, ite_false, not_true_eq_false, not_false_eq_true, Nat.reduceAdd, Nat.reduceMul, Nat.reduceEqDiff, Int.reduceToNat, Int.reduceNeg, Ilt_t, Ilt_f, Ile_t, Ile_f, Ieq_t, Ieq_f, Nlt_t, Nlt_f, Nle_t, Nle_f, Neq_t, Neq_f, or_true, true_or, or_false, false_or, and_true, true_and, and_false, false_and, ne_eq, or_self, and_self, decide_true, decide_false, Bool.false_eq_true]
  have el : mI M (s + 3) f = i32 (S.lf f) := hsh.2.2.2.2.1 f hf
  have lb := hW.1.2.2.2.2.1 f
  by_cases q : S.lf f = -1
  · obtain ⟨M1, e1, g1, y1⟩ := hk q M c z sd r e hY hC
    have ei : drIt S sub f r e sd = sub f r e sd := if_pos q
    rw [ei]
    refine ⟨M1, ?_, g1, y1⟩
    rw [q] at el
    have e1 : kF 15 (i32 (f : Int)) (i32 ((d + 1 : Nat) : Int)) M = _ := e1
    rw [← k_add1] at e1
    unfold f_X10_drawItem
    rw [if_pos k15, h6, if_pos ks, r4, if_pos k3, n3, if_pos inf, nat_i (by omega), el, if_pos (by rfl), bx e1]
  · have ei : drIt S sub f r e sd = ([((S.lf f).toNat, r, e, ((dwK sd 100 : Nat) : Int))], sdN sd) := if_neg q
    rw [ei]
    obtain ⟨y1, y2, y3⟩ := hC
    obtain ⟨l, hl⟩ : ∃ l : Nat, S.lf f = l := ⟨(S.lf f).toNat, by omega⟩
    rw [hl] at el
    have hl8 : l < 8 := by omega
    have d1 := X10_draw hL (n := 100) (by omega) (by omega)
    rw [y1] at d1
    have d1 : f_X10_draw 15 (100 : Int32) M = _ := d1
    have r3 : mR M 15 3 = 17 := by simp only [hL.o]
    have k17 : mK M 17 = 21 := by simp only [hL.o]
    have n17 : mN M 17 = 8 := by simp only [hL.o]
    have inl : inB (i32 (l : Int)) 8 = true := by simp (disch := omega) only [↓reduceIte, add_i0, cast_add1, cast_sub1, toNat120, i32_lit, i32_neg, i32_add, i32_sub, i32_mul, i32_nat, i32_le, i32_lt, i32_eq, inB_i, Int.toNat_natCast, mI_sI_eq, mI_sI_ne, mR_sR_eq, mR_sR_ne, mI_sR, mR_sI, mK_sI, mN_sI, mn_sI, mJ_sI, mK_sR, mN_sR, mn_sR, mJ_sR, mI_wI, mR_wI, mK_wI, mN_wI, mn_wI, mJ_wI, ↓bnd_of, ↓bndX_r, ↓bndX_l, ↓ap_nr, bnd_of, bndX_r, bndX_l, if_true, if_false, ite_true, ite_false, not_true_eq_false, not_false_eq_true, Nat.reduceAdd, Nat.reduceMul, Nat.reduceEqDiff, Int.reduceToNat, Int.reduceNeg, Ilt_t, Ilt_f, Ile_t, Ile_f, Ieq_t, Ieq_f, Nlt_t, Nlt_f, Nle_t, Nle_f, Neq_t, Neq_f, or_true, true_or, or_false, false_or, and_true, true_and, and_false, false_and, ne_eq, or_self, and_self, decide_true, decide_false, Bool.false_eq_true]
    have nm : ¬ (i32 (l : Int) = i32 (-1)) := i32_ne (by omega) (by omega) (by omega) (by omega) (by omega)
    have e4 : i32 z + i32 ((dwK sd 100 : Nat) : Int) = i32 (z + ((dwK sd 100 : Nat) : Int)) := i32_add _ _
    have e17 : mI (sI (sI M 15 5 (sdN sd)) 15 4 (i32 (z + ((dwK sd 100 : Nat) : Int)))) 17 l + (1 : Int32) = i32 (c l + 1) := by
      rw [mI_sI_ne (by omega), mI_sI_ne (by omega), y3 l hl8]
      exact i32_add _ 1
    refine ⟨sI (sI (sI M 15 5 (sdN sd)) 15 4 (i32 (z + ((dwK sd 100 : Nat) : Int)))) 17 l (i32 (c l + 1)), ?_, (((Chg.rf yC M).sI (by unfold yC; omega)).sI (by unfold yC; omega)).sI (by unfold yC; omega), ?_, ?_, fun k hk => ?_⟩
    · unfold f_X10_drawItem
      rw [if_pos k15, h6, if_pos ks, r4, if_pos k3, n3, if_pos inf, nat_i (by omega), el, if_neg (by exact nm), bx d1, if_pos (by exact k15), y2, e4, ap_of, if_pos (by exact k15), mR_sI, mR_sI, r3, if_pos (by exact k17), mN_sI, mN_sI, n17, if_pos inl, nat_i (by omega), e17, ap_of]
    · rw [mI_sI_ne (by omega), mI_sI_ne (by omega), mI_sI_eq]
    · rw [mI_sI_ne (by omega), mI_sI_eq]
      show i32 _ = i32 (z + (((dwK sd 100 : Nat) : Int) + 0))
      rw [Int.add_zero]
    · show _ = i32 (c k + (((if (S.lf f).toNat = k then 1 else 0) + 0 : Nat) : Int))
      have hl2 : (S.lf f).toNat = l := by omega
      rw [hl2]
      by_cases w : l = k
      · subst w
        rw [mI_sI_eq, if_pos rfl]
        rfl
      · rw [mI_sI_ne (by omega), mI_sI_ne (by omega), mI_sI_ne (by omega), if_neg w, y3 k hk]
        rw [show c k + ((0 + 0 : Nat) : Int) = c k by omega]
theorem X10_lack {kF : Nat → Int32 → Int32 → Mem → Option (Unit × Mem)} {f : Nat} (hW : S.wf) (hf : f < S.nf) {sd : Int32} {z : Int} (r e : Int) : ∀ (k j m : Nat) (M : Mem) (c : Nat → Int), j + k = S.nl → k < m → YCL M s S → YC M c z sd → ∃ M', f_X10_drawField_65 kF m 15 (i32 f) (i32 j) M = some ((), M') ∧ Chg yC M M' ∧ YC M' (fun l => c l + (cnE l (lackE S f r e k j) : Nat)) z sd := by
  have hnf := hW.1.1
  have hnl := hW.1.2.1
  intro k
  induction k with
  | zero =>
    intro j m M c hj hm hY hC
    obtain ⟨m, rfl⟩ : ∃ q, m = q + 1 := ⟨m - 1, by omega⟩
    obtain ⟨hL, hsl, hsh, s1, s2, h6⟩ := hY
    have k15 : mK M 15 = 11 := by simp only [hL.o]
    have ks : mK M s = 6 := by simp only [hsl.o]
    refine ⟨M, ?_, Chg.rf _ M, hC.1, hC.2.1, fun l hl => ?_⟩
    · unfold f_X10_drawField_65
      rw [if_pos k15, h6, if_pos ks, hsh.2.1, if_pos (by simp (disch := omega) only [↓reduceIte, add_i0, cast_add1, cast_sub1, toNat120, i32_lit, i32_neg, i32_add, i32_sub, i32_mul, i32_nat, i32_le, i32_lt, i32_eq, inB_i, Int.toNat_natCast, mI_sI_eq, mI_sI_ne, mR_sR_eq, mR_sR_ne, mI_sR, mR_sI, mK_sI, mN_sI, mn_sI, mJ_sI, mK_sR, mN_sR, mn_sR, mJ_sR, mI_wI, mR_wI, mK_wI, mN_wI, mn_wI, mJ_wI, ↓bnd_of, ↓bndX_r, ↓bndX_l, ↓ap_nr, bnd_of, bndX_r, bndX_l, if_true, if_false, ite_true, ite_false, not_true_eq_false, not_false_eq_true, Nat.reduceAdd, Nat.reduceMul, Nat.reduceEqDiff, Int.reduceToNat, Int.reduceNeg, Ilt_t, Ilt_f, Ile_t, Ile_f, Ieq_t, Ieq_f, Nlt_t, Nlt_f, Nle_t, Nle_f, Neq_t, Neq_f, or_true, true_or, or_false, false_or, and_true, true_and, and_false, false_and, ne_eq, or_self, and_self, decide_true, decide_false, Bool.false_eq_true])]
    · rw [hC.2.2 l hl]
      show _ = i32 (c l + ((0 : Nat) : Int))
      rw [show c l + ((0 : Nat) : Int) = c l by omega]
  | succ k ih =>
    intro j m M c hj hm hY hC
    obtain ⟨m, rfl⟩ : ∃ q, m = q + 1 := ⟨m - 1, by omega⟩
    obtain ⟨hL, hsl, hsh, s1, s2, h6⟩ := id hY
    have k15 : mK M 15 = 11 := by simp only [hL.o]
    have ks : mK M s = 6 := by simp only [hsl.o]
    have r3 : mR M 15 3 = 17 := by simp only [hL.o]
    have k17 : mK M 17 = 21 := by simp only [hL.o]
    have n17 : mN M 17 = 8 := by simp only [hL.o]
    have r10 : mR M s 10 = s + 9 := by simp only [hsl.o]
    have k9 : mK M (s + 9) = 21 := by simp only [hsl.o]
    have n9 : mN M (s + 9) = 16 := by simp only [hsl.o]
    have inf : inB (i32 (f : Int)) 16 = true := by simp (disch := omega) only [↓reduceIte, add_i0, cast_add1, cast_sub1, toNat120, i32_lit, i32_neg, i32_add, i32_sub, i32_mul, i32_nat, i32_le, i32_lt, i32_eq, inB_i, Int.toNat_natCast, mI_sI_eq, mI_sI_ne, mR_sR_eq, mR_sR_ne, mI_sR, mR_sI, mK_sI, mN_sI, mn_sI, mJ_sI, mK_sR, mN_sR, mn_sR, mJ_sR, mI_wI, mR_wI, mK_wI, mN_wI, mn_wI, mJ_wI, ↓bnd_of, ↓bndX_r, ↓bndX_l, ↓ap_nr, bnd_of, bndX_r, bndX_l, if_true, if_false, ite_true, ite_false, not_true_eq_false, not_false_eq_true, Nat.reduceAdd, Nat.reduceMul, Nat.reduceEqDiff, Int.reduceToNat, Int.reduceNeg, Ilt_t, Ilt_f, Ile_t, Ile_f, Ieq_t, Ieq_f, Nlt_t, Nlt_f, Nle_t, Nle_f, Neq_t, Neq_f, or_true, true_or, or_false, false_or, and_true, true_and, and_false, false_and, ne_eq, or_self, and_self, decide_true, decide_false, Bool.false_eq_true]
    have inj : inB (i32 (j : Int)) 8 = true := by simp (disch := omega) only [↓reduceIte, add_i0, cast_add1, cast_sub1, toNat120, i32_lit, i32_neg, i32_add, i32_sub, i32_mul, i32_nat, i32_le, i32_lt, i32_eq, inB_i, Int.toNat_natCast, mI_sI_eq, mI_sI_ne, mR_sR_eq, mR_sR_ne, mI_sR, mR_sI, mK_sI, mN_sI, mn_sI, mJ_sI, mK_sR, mN_sR, mn_sR, mJ_sR, mI_wI, mR_wI, mK_wI, mN_wI, mn_wI, mJ_wI, ↓bnd_of, ↓bndX_r, ↓bndX_l, ↓ap_nr, bnd_of, bndX_r, bndX_l, if_true, if_false, ite_true, ite_false, not_true_eq_false, not_false_eq_true, Nat.reduceAdd, Nat.reduceMul, Nat.reduceEqDiff, Int.reduceToNat, Int.reduceNeg, Ilt_t, Ilt_f, Ile_t, Ile_f, Ieq_t, Ieq_f, Nlt_t, Nlt_f, Nle_t, Nle_f, Neq_t, Neq_f, or_true, true_or, or_false, false_or, and_true, true_and, and_false, false_and, ne_eq, or_self, and_self, decide_true, decide_false, Bool.false_eq_true]
    have lt : ¬ (i32 (S.nl : Int) ≤ i32 (j : Int)) := by simp (disch := omega) only [↓reduceIte, add_i0, cast_add1, cast_sub1, toNat120, i32_lit, i32_neg, i32_add, i32_sub, i32_mul, i32_nat, i32_le, i32_lt, i32_eq, inB_i, Int.toNat_natCast, mI_sI_eq, mI_sI_ne, mR_sR_eq, mR_sR_ne, mI_sR, mR_sI, mK_sI, mN_sI, mn_sI, mJ_sI, mK_sR, mN_sR, mn_sR, mJ_sR, mI_wI, mR_wI, mK_wI, mN_wI, mn_wI, mJ_wI, ↓bnd_of, ↓bndX_r, ↓bndX_l, ↓ap_nr, bnd_of, bndX_r, bndX_l, if_true, if_false, ite_true, ite_false, not_true_eq_false, not_false_eq_true, Nat.reduceAdd, Nat.reduceMul, Nat.reduceEqDiff, Int.reduceToNat, Int.reduceNeg, Ilt_t, Ilt_f, Ile_t, Ile_f, Ieq_t, Ieq_f, Nlt_t, Nlt_f, Nle_t, Nle_f, Neq_t, Neq_f, or_true, true_or, or_false, false_or, and_true, true_and, and_false, false_and, ne_eq, or_self, and_self, decide_true, decide_false, Bool.false_eq_true]
    have hb := hsh.2.2.2.2.2.2.2.2.2.2.1 f j hf (by omega)
    have ub := ubit (mI M (s + 9) f) (i := j) (by omega)
    rw [hb, decide_eq_true (show j < S.nl by omega), Bool.true_and] at ub
    obtain ⟨y1, y2, y3⟩ := id hC
    have fin : ∀ v : Int, mI M 17 j + i32 v = i32 (c j + v) := fun v => by rw [y3 j (by omega), i32_add]
    obtain ⟨v, hv, hE⟩ : ∃ v : Nat, (if S.ins (S.fo j) f = true then i32 1 else i32 0) = i32 (v : Int) ∧ ∀ l, cnE l (lackE S f r e (k + 1) j) = (if l = j then v else 0) + cnE l (lackE S f r e k (j + 1)) := by
      by_cases q : S.ins (S.fo j) f = true
      · refine ⟨1, if_pos q, fun l => ?_⟩
        have : lackE S f r e (k + 1) j = (j, r, e, 0) :: lackE S f r e k (j + 1) := by
          conv => lhs; unfold lackE
          rw [if_pos q]
        rw [this]
        show (if j = l then 1 else 0) + _ = _
        by_cases w : l = j
        · rw [if_pos w, if_pos w.symm]
        · rw [if_neg w, if_neg (fun h => w h.symm)]
      · refine ⟨0, if_neg q, fun l => ?_⟩
        have : lackE S f r e (k + 1) j = lackE S f r e k (j + 1) := by
          conv => lhs; unfold lackE
          rw [if_neg q]
        rw [this]
        split <;> omega
    rw [hv] at ub
    have g1 : Chg yC M (sI M 17 j (i32 (c j + (v : Int)))) := (Chg.rf yC M).sI (by unfold yC; omega)
    obtain ⟨M2, e2, g2, w2⟩ := ih (j + 1) m (sI M 17 j (i32 (c j + (v : Int)))) (fun l => c l + ((if l = j then v else 0 : Nat) : Int)) (by omega) (by omega) (hY.chg g1) ⟨by rw [mI_sI_ne (by omega)]; exact y1, by rw [mI_sI_ne (by omega)]; exact y2, fun l hl => by
      by_cases w : l = j
      · subst w
        rw [mI_sI_eq]
        show _ = i32 (c l + ((if l = l then v else 0 : Nat) : Int))
        rw [if_pos rfl]
      · rw [mI_sI_ne (by omega), y3 l hl]
        show _ = i32 (c l + ((if l = j then v else 0 : Nat) : Int))
        rw [if_neg w, show c l + ((0 : Nat) : Int) = c l by omega]⟩
    refine ⟨M2, ?_, g1.tr g2, w2.1, w2.2.1, fun l hl => ?_⟩
    · rw [← e2]
      have ub : (((mI M (s + 9) f).toUInt32 >>> ((i32 (j : Int)).toUInt32 &&& Int32.toUInt32 31)).toInt32) &&& (1 : Int32) = _ := ub
      conv => lhs; unfold f_X10_drawField_65
      rw [if_pos k15, h6, if_pos ks, hsh.2.1, if_neg lt, r3, if_pos k17, n17, if_pos inj, r10, if_pos k9, n9, if_pos inf, nat_i (k := f) (by omega), nat_i (k := j) (by omega), ub, fin, ap_of, k_add1]
    · rw [w2.2.2 l hl]
      show i32 (c l + ((if l = j then v else 0 : Nat) : Int) + ((cnE l (lackE S f r e k (j + 1)) : Nat) : Int)) = i32 (c l + ((cnE l (lackE S f r e (k + 1) j) : Nat) : Int))
      rw [hE]
      congr 1
      split <;> omega
theorem X10_items {kF : Nat → Int32 → Int32 → Mem → Option (Unit × Mem)} {sub : Nat → Int → Int → Int32 → List En × Int32} {f d N : Nat} (hW : S.wf) (hf : f < S.nf) (hk : S.lf f = -1 → HKc s S kF sub f d) (hN : 0 < N) (hN2 : N ≤ 2) (r e : Int) : ∀ (k i m : Nat) (M : Mem) (c : Nat → Int) (z : Int) (sd : Int32), i + k = N → k < m → YCL M s S → YC M c z sd → ∃ M', f_X10_drawField_40 kF m 15 (i32 f) (i32 d) (i32 N) (i32 i) M = some ((), M') ∧ Chg yC M M' ∧ YC M' (fun l => c l + (cnE l (drIs S sub f r e k i sd).1 : Nat)) (z + smE (drIs S sub f r e k i sd).1) (drIs S sub f r e k i sd).2 := by
  intro k
  induction k with
  | zero =>
    intro i m M c z sd hi hm hY hC
    obtain ⟨m, rfl⟩ : ∃ q, m = q + 1 := ⟨m - 1, by omega⟩
    have nz : ¬ (i32 (N : Int) = i32 0) := i32_ne (by omega) (by omega) (by omega) (by omega) (by omega)
    refine ⟨M, ?_, Chg.rf _ M, hC.1, ?_, fun l hl => ?_⟩
    · unfold f_X10_drawField_40
      rw [if_pos (by simp (disch := omega) only [↓reduceIte, add_i0, cast_add1, cast_sub1, toNat120, i32_lit, i32_neg, i32_add, i32_sub, i32_mul, i32_nat, i32_le, i32_lt, i32_eq, inB_i, Int.toNat_natCast, mI_sI_eq, mI_sI_ne, mR_sR_eq, mR_sR_ne, mI_sR, mR_sI, mK_sI, mN_sI, mn_sI, mJ_sI, mK_sR, mN_sR, mn_sR, mJ_sR, mI_wI, mR_wI, mK_wI, mN_wI, mn_wI, mJ_wI, ↓bnd_of, ↓bndX_r, ↓bndX_l, ↓ap_nr, bnd_of, bndX_r, bndX_l, if_true, if_false, ite_true, ite_false, not_true_eq_false, not_false_eq_true, Nat.reduceAdd, Nat.reduceMul, Nat.reduceEqDiff, Int.reduceToNat, Int.reduceNeg, Ilt_t, Ilt_f, Ile_t, Ile_f, Ieq_t, Ieq_f, Nlt_t, Nlt_f, Nle_t, Nle_f, Neq_t, Neq_f, or_true, true_or, or_false, false_or, and_true, true_and, and_false, false_and, ne_eq, or_self, and_self, decide_true, decide_false, Bool.false_eq_true]), if_neg (by exact nz)]
    · rw [hC.2.1]
      show _ = i32 (z + 0)
      rw [Int.add_zero]
    · rw [hC.2.2 l hl]
      show _ = i32 (c l + ((0 : Nat) : Int))
      rw [show c l + ((0 : Nat) : Int) = c l by omega]
  | succ k ih =>
    intro i m M c z sd hi hm hY hC
    obtain ⟨m, rfl⟩ : ∃ q, m = q + 1 := ⟨m - 1, by omega⟩
    have k15 : mK M 15 = 11 := by simp only [hY.1.o]
    obtain ⟨M1, e1, g1, w1⟩ := X10_drawItem hW hf hk (if i = 0 then r else S.sr f) e hY hC
    obtain ⟨M2, e2, g2, w2⟩ := ih (i + 1) m M1 _ _ _ (by omega) (by omega) (hY.chg g1) w1
    refine ⟨M2, ?_, g1.tr g2, w2.1, ?_, fun l hl => ?_⟩
    · rw [← e2]
      conv => lhs; unfold f_X10_drawField_40
      rw [if_neg (by simp (disch := omega) only [↓reduceIte, add_i0, cast_add1, cast_sub1, toNat120, i32_lit, i32_neg, i32_add, i32_sub, i32_mul, i32_nat, i32_le, i32_lt, i32_eq, inB_i, Int.toNat_natCast, mI_sI_eq, mI_sI_ne, mR_sR_eq, mR_sR_ne, mI_sR, mR_sI, mK_sI, mN_sI, mn_sI, mJ_sI, mK_sR, mN_sR, mn_sR, mJ_sR, mI_wI, mR_wI, mK_wI, mN_wI, mn_wI, mJ_wI, ↓bnd_of, ↓bndX_r, ↓bndX_l, ↓ap_nr, bnd_of, bndX_r, bndX_l, if_true, if_false, ite_true, ite_false, not_true_eq_false, not_false_eq_true, Nat.reduceAdd, Nat.reduceMul, Nat.reduceEqDiff, Int.reduceToNat, Int.reduceNeg, Ilt_t, Ilt_f, Ile_t, Ile_f, Ieq_t, Ieq_f, Nlt_t, Nlt_f, Nle_t, Nle_f, Neq_t, Neq_f, or_true, true_or, or_false, false_or, and_true, true_and, and_false, false_and, ne_eq, or_self, and_self, decide_true, decide_false, Bool.false_eq_true]), if_pos k15, bx e1, k_add1]
    · rw [w2.2.1]
      show _ = i32 (z + smE (_ ++ _))
      rw [smE_app, Int.add_assoc]
    · rw [w2.2.2 l hl]
      show _ = i32 (c l + ((cnE l (_ ++ _) : Nat) : Int))
      rw [cnE_app]
      show i32 (c l + ((_ : Nat) : Int) + ((_ : Nat) : Int)) = i32 (c l + ((_ + _ : Nat) : Int))
      congr 1
      omega
theorem X10_drawField {kF : Nat → Int32 → Int32 → Mem → Option (Unit × Mem)} {sub : Nat → Int → Int → Int32 → List En × Int32} {f d : Nat} (hW : S.wf) (hf : f < S.nf) (hk : S.lf f = -1 → HKc s S kF sub f d) {c : Nat → Int} {z : Int} {sd : Int32} (r e : Int) (hY : YCL M s S) (hC : YC M c z sd) : ∃ M', f_X10_drawField kF 15 (i32 f) (i32 d) M = some ((), M') ∧ Chg yC M M' ∧ YC M' (fun l => c l + (cnE l (drFd S sub f r e sd).1 : Nat)) (z + smE (drFd S sub f r e sd).1) (drFd S sub f r e sd).2 := by
  obtain ⟨hL, hsl, hsh, s1, s2, h6⟩ := id hY
  have hnf := hW.1.1
  have hnl := hW.1.2.1
  have k15 : mK M 15 = 11 := by simp only [hL.o]
  have ks : mK M s = 6 := by simp only [hsl.o]
  have r2 : mR M s 2 = s + 1 := by simp only [hsl.o]
  have k1 : mK M (s + 1) = 21 := by simp only [hsl.o]
  have n1 : mN M (s + 1) = 16 := by simp only [hsl.o]
  have inf : inB (i32 (f : Int)) 16 = true := by simp (disch := omega) only [↓reduceIte, add_i0, cast_add1, cast_sub1, toNat120, i32_lit, i32_neg, i32_add, i32_sub, i32_mul, i32_nat, i32_le, i32_lt, i32_eq, inB_i, Int.toNat_natCast, mI_sI_eq, mI_sI_ne, mR_sR_eq, mR_sR_ne, mI_sR, mR_sI, mK_sI, mN_sI, mn_sI, mJ_sI, mK_sR, mN_sR, mn_sR, mJ_sR, mI_wI, mR_wI, mK_wI, mN_wI, mn_wI, mJ_wI, ↓bnd_of, ↓bndX_r, ↓bndX_l, ↓ap_nr, bnd_of, bndX_r, bndX_l, if_true, if_false, ite_true, ite_false, not_true_eq_false, not_false_eq_true, Nat.reduceAdd, Nat.reduceMul, Nat.reduceEqDiff, Int.reduceToNat, Int.reduceNeg, Ilt_t, Ilt_f, Ile_t, Ile_f, Ieq_t, Ieq_f, Nlt_t, Nlt_f, Nle_t, Nle_f, Neq_t, Neq_f, or_true, true_or, or_false, false_or, and_true, true_and, and_false, false_and, ne_eq, or_self, and_self, decide_true, decide_false, Bool.false_eq_true]
  have ek : mI M (s + 1) f = i32 (S.kd f) := hsh.2.2.1 f hf
  have kb := hW.1.2.2.1 f
  by_cases q : S.kd f = 0
  · obtain ⟨M1, e1, g1, w1⟩ := X10_items hW hf hk (N := 1) (by omega) (by omega) r e 1 0 FUEL M c z sd (by omega) (by unfold FUEL; omega) hY hC
    have ei : drFd S sub f r e sd = drIs S sub f r e 1 0 sd := if_pos q
    rw [ei]
    refine ⟨M1, ?_, g1, w1⟩
    rw [← e1]
    rw [q] at ek
    unfold f_X10_drawField
    rw [if_pos k15, h6, if_pos ks, r2, if_pos k1, n1, if_pos inf, nat_i (by omega), ek, if_pos (by rfl)]
    rfl
  · obtain ⟨n, hn, hn0, hn3, est⟩ : ∃ n : Nat, drM S f sd = dwK sd n ∧ 0 < n ∧ n ≤ 3 ∧ f_X10_drawField kF 15 (i32 f) (i32 d) M = f_X10_drawField_33 kF 15 (i32 f) (i32 d) 15 (i32 (n : Int)) M := by
      have nz : ¬ (i32 (S.kd f) = i32 0) := i32_ne (by omega) (by omega) (by omega) (by omega) (by omega)
      by_cases q1 : S.kd f = 1
      · refine ⟨2, by unfold drM; rw [if_pos q1], by omega, by omega, ?_⟩
        unfold f_X10_drawField
        rw [if_pos k15, h6, if_pos ks, r2, if_pos k1, n1, if_pos inf, nat_i (by omega), ek, if_neg (by exact nz), q1, if_pos (by rfl)]
        rfl
      · refine ⟨3, by unfold drM; rw [if_neg q1], by omega, by omega, ?_⟩
        have n1' : ¬ (i32 (S.kd f) = i32 1) := i32_ne (by omega) (by omega) (by omega) (by omega) (by omega)
        unfold f_X10_drawField
        rw [if_pos k15, h6, if_pos ks, r2, if_pos k1, n1, if_pos inf, nat_i (by omega), ek, if_neg (by exact nz), if_neg (by exact n1')]
        rfl
    have d1 := X10_draw hL (n := n) hn0 (by omega)
    rw [hC.1, ← hn] at d1
    have hm := drM_lt S f sd
    have g0 : Chg yC M (sI M 15 5 (sdN sd)) := (Chg.rf yC M).sI (by unfold yC; omega)
    have hC0 : YC (sI M 15 5 (sdN sd)) c z (sdN sd) := ⟨mI_sI_eq, by rw [mI_sI_ne (by omega)]; exact hC.2.1, fun l hl => by rw [mI_sI_ne (by omega)]; exact hC.2.2 l hl⟩
    have st : f_X10_drawField kF 15 (i32 f) (i32 d) M = f_X10_drawField_40 kF FUEL 15 (i32 f) (i32 d) (i32 ((drM S f sd : Nat) : Int)) (i32 ((0 : Nat) : Int)) (sI M 15 5 (sdN sd)) := by
      rw [est]
      unfold f_X10_drawField_33
      rw [if_pos k15, bx d1]
      rfl
    by_cases q2 : drM S f sd = 0
    · obtain ⟨M1, e1, g1, w1⟩ := X10_lack (kF := kF) (z := z) hW hf r e S.nl 0 FUEL _ c (by omega) (by unfold FUEL; omega) (hY.chg g0) hC0
      have ei : drFd S sub f r e sd = (lackE S f r e S.nl 0, sdN sd) := by
        unfold drFd
        rw [if_neg q, if_pos q2]
      rw [ei]
      refine ⟨M1, ?_, g0.tr g1, w1.1, ?_, w1.2.2⟩
      · rw [st, q2, ← e1]
        obtain ⟨m, hm⟩ : ∃ m, FUEL = m + 1 := ⟨FUEL - 1, by unfold FUEL; omega⟩
        conv => lhs; rw [hm]; unfold f_X10_drawField_40
        rw [if_pos (by decide), if_pos (by rfl)]
        rfl
      · rw [w1.2.1]
        have z0 : ∀ (k l : Nat), smE (lackE S f r e k l) = 0 := by
          intro k
          induction k with
          | zero => intro l; rfl
          | succ k ih =>
            intro l
            unfold lackE
            split
            · show 0 + smE _ = 0
              rw [ih, Int.add_zero]
            · exact ih _
        show _ = i32 (z + smE (lackE S f r e S.nl 0))
        rw [z0, Int.add_zero]
    · obtain ⟨M1, e1, g1, w1⟩ := X10_items hW hf hk (N := drM S f sd) (by omega) (by omega) r (e + 1) (drM S f sd) 0 FUEL _ c z (sdN sd) (by omega) (by unfold FUEL; omega) (hY.chg g0) hC0
      have ei : drFd S sub f r e sd = drIs S sub f r (e + 1) (drM S f sd) 0 (sdN sd) := by
        unfold drFd
        rw [if_neg q, if_neg q2]
      rw [ei]
      refine ⟨M1, ?_, g0.tr g1, w1⟩
      rw [st]
      exact e1
theorem X10_fields {kF : Nat → Int32 → Int32 → Mem → Option (Unit × Mem)} {sub : Nat → Int → Int → Int32 → List En × Int32} {d : Nat} {g : Int} (hW : S.wf) (g0 : -1 ≤ g) (g16 : g < 16) (hk : ∀ f, f < S.nf → S.gr f = g → S.lf f = -1 → HKc s S kF sub f d) (r e : Int) : ∀ (k j m : Nat) (M : Mem) (c : Nat → Int) (z : Int) (sd : Int32), j + k = S.nf → k < m → YCL M s S → YC M c z sd → ∃ M', f_X10_drawFields_8 kF m 15 (i32 g) (i32 d) (i32 j) M = some ((), M') ∧ Chg yC M M' ∧ YC M' (fun l => c l + (cnE l (drFs S sub g r e k j sd).1 : Nat)) (z + smE (drFs S sub g r e k j sd).1) (drFs S sub g r e k j sd).2 := by
  have hnf := hW.1.1
  intro k
  induction k with
  | zero =>
    intro j m M c z sd hj hm hY hC
    obtain ⟨m, rfl⟩ : ∃ q, m = q + 1 := ⟨m - 1, by omega⟩
    obtain ⟨hL, hsl, hsh, s1, s2, h6⟩ := id hY
    have k15 : mK M 15 = 11 := by simp only [hL.o]
    have ks : mK M s = 6 := by simp only [hsl.o]
    refine ⟨M, ?_, Chg.rf _ M, hC.1, ?_, fun l hl => ?_⟩
    · unfold f_X10_drawFields_8
      rw [if_pos k15, h6, if_pos ks, hsh.1, if_pos (by simp (disch := omega) only [↓reduceIte, add_i0, cast_add1, cast_sub1, toNat120, i32_lit, i32_neg, i32_add, i32_sub, i32_mul, i32_nat, i32_le, i32_lt, i32_eq, inB_i, Int.toNat_natCast, mI_sI_eq, mI_sI_ne, mR_sR_eq, mR_sR_ne, mI_sR, mR_sI, mK_sI, mN_sI, mn_sI, mJ_sI, mK_sR, mN_sR, mn_sR, mJ_sR, mI_wI, mR_wI, mK_wI, mN_wI, mn_wI, mJ_wI, ↓bnd_of, ↓bndX_r, ↓bndX_l, ↓ap_nr, bnd_of, bndX_r, bndX_l, if_true, if_false, ite_true, ite_false, not_true_eq_false, not_false_eq_true, Nat.reduceAdd, Nat.reduceMul, Nat.reduceEqDiff, Int.reduceToNat, Int.reduceNeg, Ilt_t, Ilt_f, Ile_t, Ile_f, Ieq_t, Ieq_f, Nlt_t, Nlt_f, Nle_t, Nle_f, Neq_t, Neq_f, or_true, true_or, or_false, false_or, and_true, true_and, and_false, false_and, ne_eq, or_self, and_self, decide_true, decide_false, Bool.false_eq_true])]
    · rw [hC.2.1]
      show _ = i32 (z + 0)
      rw [Int.add_zero]
    · rw [hC.2.2 l hl]
      show _ = i32 (c l + ((0 : Nat) : Int))
      rw [show c l + ((0 : Nat) : Int) = c l by omega]
  | succ k ih =>
    intro j m M c z sd hj hm hY hC
    obtain ⟨m, rfl⟩ : ∃ q, m = q + 1 := ⟨m - 1, by omega⟩
    obtain ⟨hL, hsl, hsh, s1, s2, h6⟩ := id hY
    have k15 : mK M 15 = 11 := by simp only [hL.o]
    have ks : mK M s = 6 := by simp only [hsl.o]
    have r3 : mR M s 3 = s + 2 := by simp only [hsl.o]
    have k2 : mK M (s + 2) = 21 := by simp only [hsl.o]
    have n2 : mN M (s + 2) = 16 := by simp only [hsl.o]
    have hjf : j < S.nf := by omega
    have inj : inB (i32 (j : Int)) 16 = true := by simp (disch := omega) only [↓reduceIte, add_i0, cast_add1, cast_sub1, toNat120, i32_lit, i32_neg, i32_add, i32_sub, i32_mul, i32_nat, i32_le, i32_lt, i32_eq, inB_i, Int.toNat_natCast, mI_sI_eq, mI_sI_ne, mR_sR_eq, mR_sR_ne, mI_sR, mR_sI, mK_sI, mN_sI, mn_sI, mJ_sI, mK_sR, mN_sR, mn_sR, mJ_sR, mI_wI, mR_wI, mK_wI, mN_wI, mn_wI, mJ_wI, ↓bnd_of, ↓bndX_r, ↓bndX_l, ↓ap_nr, bnd_of, bndX_r, bndX_l, if_true, if_false, ite_true, ite_false, not_true_eq_false, not_false_eq_true, Nat.reduceAdd, Nat.reduceMul, Nat.reduceEqDiff, Int.reduceToNat, Int.reduceNeg, Ilt_t, Ilt_f, Ile_t, Ile_f, Ieq_t, Ieq_f, Nlt_t, Nlt_f, Nle_t, Nle_f, Neq_t, Neq_f, or_true, true_or, or_false, false_or, and_true, true_and, and_false, false_and, ne_eq, or_self, and_self, decide_true, decide_false, Bool.false_eq_true]
    have lt : ¬ (i32 (S.nf : Int) ≤ i32 (j : Int)) := by simp (disch := omega) only [↓reduceIte, add_i0, cast_add1, cast_sub1, toNat120, i32_lit, i32_neg, i32_add, i32_sub, i32_mul, i32_nat, i32_le, i32_lt, i32_eq, inB_i, Int.toNat_natCast, mI_sI_eq, mI_sI_ne, mR_sR_eq, mR_sR_ne, mI_sR, mR_sI, mK_sI, mN_sI, mn_sI, mJ_sI, mK_sR, mN_sR, mn_sR, mJ_sR, mI_wI, mR_wI, mK_wI, mN_wI, mn_wI, mJ_wI, ↓bnd_of, ↓bndX_r, ↓bndX_l, ↓ap_nr, bnd_of, bndX_r, bndX_l, if_true, if_false, ite_true, ite_false, not_true_eq_false, not_false_eq_true, Nat.reduceAdd, Nat.reduceMul, Nat.reduceEqDiff, Int.reduceToNat, Int.reduceNeg, Ilt_t, Ilt_f, Ile_t, Ile_f, Ieq_t, Ieq_f, Nlt_t, Nlt_f, Nle_t, Nle_f, Neq_t, Neq_f, or_true, true_or, or_false, false_or, and_true, true_and, and_false, false_and, ne_eq, or_self, and_self, decide_true, decide_false, Bool.false_eq_true]
    have eg : mI M (s + 2) j = i32 (S.gr j) := hsh.2.2.2.1 j hjf
    have gb := hW.1.2.2.2.1 j
    by_cases q : S.gr j = g
    · obtain ⟨M1, e1, g1, w1⟩ := X10_drawField hW hjf (hk j hjf q) r e hY hC
      obtain ⟨M2, e2, g2, w2⟩ := ih (j + 1) m M1 _ _ _ (by omega) (by omega) (hY.chg g1) w1
      have ei : drFs S sub g r e (k + 1) j sd = ((drFd S sub j r e sd).1 ++ (drFs S sub g r e k (j + 1) (drFd S sub j r e sd).2).1, (drFs S sub g r e k (j + 1) (drFd S sub j r e sd).2).2) := by
        conv => lhs; unfold drFs
        rw [if_pos q]
      rw [ei]
      refine ⟨M2, ?_, g1.tr g2, w2.1, ?_, fun l hl => ?_⟩
      · rw [← e2]
        conv => lhs; unfold f_X10_drawFields_8
        rw [if_pos k15, h6, if_pos ks, hsh.1, if_neg lt, r3, if_pos k2, n2, if_pos inj, nat_i (by omega), eg, if_pos (by rw [q]), bx e1, f_X10_drawFields_38, k_add1]
      · rw [w2.2.1]
        show _ = i32 (z + smE (_ ++ _))
        rw [smE_app, Int.add_assoc]
      · rw [w2.2.2 l hl]
        show _ = i32 (c l + ((cnE l (_ ++ _) : Nat) : Int))
        rw [cnE_app]
        show i32 (c l + ((_ : Nat) : Int) + ((_ : Nat) : Int)) = i32 (c l + ((_ + _ : Nat) : Int))
        congr 1
        omega
    · obtain ⟨M2, e2, g2, w2⟩ := ih (j + 1) m M c z sd (by omega) (by omega) hY hC
      have ei : drFs S sub g r e (k + 1) j sd = drFs S sub g r e k (j + 1) sd := by
        conv => lhs; unfold drFs
        rw [if_neg q]
      rw [ei]
      refine ⟨M2, ?_, g2, w2⟩
      rw [← e2]
      have ng : ¬ (i32 (S.gr j) = i32 g) := i32_ne (by omega) (by omega) (by omega) (by omega) q
      conv => lhs; unfold f_X10_drawFields_8
      rw [if_pos k15, h6, if_pos ks, hsh.1, if_neg lt, r3, if_pos k2, n2, if_pos inj, nat_i (by omega), eg, if_neg ng, f_X10_drawFields_38, k_add1]
/-- the depth of what stands in a group -/
def InD (S : Sc) (dp : Nat → Nat) (g : Int) (d : Nat) : Prop := (g = -1 ∧ d = 0) ∨ ∃ f : Nat, f < S.nf ∧ g = f ∧ S.lf f = -1 ∧ dp f + 1 = d
theorem InD.sub {dp : Nat → Nat} {g : Int} {d f : Nat} (hV : VT S S dp) (h : InD S dp g d) (hf : f < S.nf) (hg : S.gr f = g) : dp f = d := by
  have e := hV.2.2.2.2.2.2.1 f hf
  rcases h with ⟨h1, h2⟩ | ⟨p, h1, h2, h3, h4⟩
  · rw [e, if_pos (by omega), h2]
  · rw [e, if_neg (by omega), hg, h2, Int.toNat_natCast, h4]
theorem InD.le {dp : Nat → Nat} {g : Int} {d : Nat} (hW : S.wf) (hV : VT S S dp) (h : InD S dp g d) : d ≤ 3 := by
  rcases h with ⟨h1, h2⟩ | ⟨p, h1, h2, h3, h4⟩
  · omega
  · have q := hW.2.2.2.2.1 p h1 h3
    have e := hV.2.2.2.2.2.2.1 (p + 1) q.1
    have b := hV.2.2.2.2.2.2.2 (p + 1) q.1
    rw [if_neg (by omega), q.2, Int.toNat_natCast] at e
    omega
theorem X10_drawFields {dp : Nat → Nat} (hW : S.wf) (hV : VT S S dp) : ∀ (k d : Nat), k + d = 4 → ∀ (M : Mem) (c : Nat → Int) (z : Int) (sd : Int32) (g r e : Int), YCL M s S → YC M c z sd → InD S dp g d → ∃ M', f_X10_drawFields (k + 2) 15 (i32 g) (i32 d) M = some ((), M') ∧ Chg yC M M' ∧ YC M' (fun l => c l + (cnE l (drF S k g r e sd).1 : Nat)) (z + smE (drF S k g r e sd).1) (drF S k g r e sd).2 := by
  intro k
  induction k with
  | zero =>
    intro d hd M c z sd g r e hY hC hI
    have := hI.le hW hV
    omega
  | succ k ih =>
    intro d hd M c z sd g r e hY hC hI
    have hnf := hW.1.1
    have d3 := hI.le hW hV
    have gb : -1 ≤ g ∧ g < 16 := by
      rcases hI with ⟨h1, h2⟩ | ⟨p, h1, h2, h3, h4⟩
      · omega
      · omega
    obtain ⟨M1, e1, g1, w1⟩ := X10_fields (kF := f_X10_drawFields (k + 2)) (sub := fun f => drF S k (f : Int)) (d := d) (g := g) hW gb.1 gb.2 (fun f hf hg hlf M c z sd r e hY hC => by
      have hdf := hI.sub hV hf hg
      exact ih (d + 1) (by omega) M c z sd f r e hY hC (Or.inr ⟨f, hf, rfl, hlf, by omega⟩)) r e S.nf 0 FUEL M c z sd (by omega) (by unfold FUEL; omega) hY hC
    refine ⟨M1, ?_, g1, w1⟩
    rw [← e1]
    show f_X10_drawFields_o (f_X10_drawFields (k + 2)) 15 (i32 g) (i32 d) M = _
    unfold f_X10_drawFields_o
    rw [if_pos (by simp (disch := omega) only [↓reduceIte, add_i0, cast_add1, cast_sub1, toNat120, i32_lit, i32_neg, i32_add, i32_sub, i32_mul, i32_nat, i32_le, i32_lt, i32_eq, inB_i, Int.toNat_natCast, mI_sI_eq, mI_sI_ne, mR_sR_eq, mR_sR_ne, mI_sR, mR_sI, mK_sI, mN_sI, mn_sI, mJ_sI, mK_sR, mN_sR, mn_sR, mJ_sR, mI_wI, mR_wI, mK_wI, mN_wI, mn_wI, mJ_wI, ↓bnd_of, ↓bndX_r, ↓bndX_l, ↓ap_nr, bnd_of, bndX_r, bndX_l, if_true, if_false, ite_true, ite_false, not_true_eq_false, not_false_eq_true, Nat.reduceAdd, Nat.reduceMul, Nat.reduceEqDiff, Int.reduceToNat, Int.reduceNeg, Ilt_t, Ilt_f, Ile_t, Ile_f, Ieq_t, Ieq_f, Nlt_t, Nlt_f, Nle_t, Nle_f, Neq_t, Neq_f, or_true, true_or, or_false, false_or, and_true, true_and, and_false, false_and, ne_eq, or_self, and_self, decide_true, decide_false, Bool.false_eq_true])]
    rfl
end
