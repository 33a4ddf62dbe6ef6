/-! add in the class: all the records -/
def adC2 (a j : Nat) : Prop := adC a j ∨ (a = 5 ∧ j = 1)
section
variable {M M' : Mem} {S : Sc} {s : Nat} {tb : Nat → Int} {n : Nat} {A0 B : St}
theorem ARL.chg2 (h : ARL M s S tb n) (g : Chg adC2 M M') : ARL M' s S tb n := by
  obtain ⟨h1, h2, h3, h4, h5, h6, h7, h8, h9, h10⟩ := h
  refine ⟨h1.all g, h2.all g, h3.all g, h4.gw h5 h6 (g.gw (Q := fun _ _ => False) (fun a j q => by unfold adC2 adC tkC at q; omega)) (fun a j q => by unfold adC2 adC tkC at q; omega), h5, h6, by rw [g.r]; exact h7, by rw [g.r]; exact h8, by rw [g.r]; exact h9, h10.chg g (by unfold adC2 adC tkC; omega) (fun i => by unfold adC2 adC tkC; omega)⟩
theorem adC_2 (a j : Nat) (h : adC a j) : adC2 a j := Or.inl h
theorem X4_end20 (hS : S.ok) (hR : ARL M s S tb n) (hX : CX M S A0 B) (hb : ∀ l, B.sz l ≤ 100000) : ∀ (k j m : Nat), j + k = S.nl → k < m → ((∀ l, j ≤ l → l < S.nl → B.sz l ≤ 120) → ∃ m', f_X4_readEnd_20 m 5 (i32 j) M = f_X4_readEnd_20 (m' + 1) 5 (i32 S.nl) M) ∧ ((¬ ∀ l, j ≤ l → l < S.nl → B.sz l ≤ 120) → f_X4_readEnd_20 m 5 (i32 j) M = some (i32 0, sI M 5 5 (i32 2))) := by
  have hnl := hS.2.1
  obtain ⟨hL, hc, hsl, hsh, s1, s2, r52, r53, r54, hTX⟩ := id hR
  have k5 : mK M 5 = 5 := by simp only [hL.o]
  have ks : mK M s = 6 := by simp only [hsl.o]
  have r50 : mR M 5 0 = 6 := by simp only [hL.o]
  have k6 : mK M 6 = 21 := by simp only [hL.o]
  have n6 : mN M 6 = 8 := by simp only [hL.o]
  intro k
  induction k with
  | zero =>
    intro j m hj hm
    obtain ⟨m, rfl⟩ : ∃ q, m = q + 1 := ⟨m - 1, by omega⟩
    exact ⟨fun _ => ⟨m, by rw [show j = S.nl by omega]⟩, fun h => absurd (fun l h1 h2 => by omega) h⟩
  | succ k ih =>
    intro j m hj hm
    obtain ⟨m, rfl⟩ : ∃ q, m = q + 1 := ⟨m - 1, by omega⟩
    have ih' := ih (j + 1) m (by omega) (by omega)
    have inj : inB (i32 (j : Int)) 8 = true := by simp (disch := omega) only [↓reduceIte, add_i0, cast_add1, cast_sub1, toNat120, i32_lit, i32_neg, i32_add, i32_sub, i32_mul, i32_nat, i32_le, i32_lt, i32_eq, inB_i, Int.toNat_natCast, mI_sI_eq, mI_sI_ne, mR_sR_eq, mR_sR_ne, mI_sR, mR_sI, mK_sI, mN_sI, mn_sI, mJ_sI, mK_sR, mN_sR, mn_sR, mJ_sR, mI_wI, mR_wI, mK_wI, mN_wI, mn_wI, mJ_wI, ↓bnd_of, ↓bndX_r, ↓bndX_l, ↓ap_nr, bnd_of, bndX_r, bndX_l, if_true, if_false, ite_true, ite_false, not_true_eq_false, not_false_eq_true, Nat.reduceAdd, Nat.reduceMul, Nat.reduceEqDiff, Int.reduceToNat, Int.reduceNeg, Ilt_t, Ilt_f, Ile_t, Ile_f, Ieq_t, Ieq_f, Nlt_t, Nlt_f, Nle_t, Nle_f, Neq_t, Neq_f, or_true, true_or, or_false, false_or, and_true, true_and, and_false, false_and, ne_eq, or_self, and_self, decide_true, decide_false, Bool.false_eq_true]
    have lt : ¬ (i32 (S.nl : Int) ≤ i32 (j : Int)) := by simp (disch := omega) only [↓reduceIte, add_i0, cast_add1, cast_sub1, toNat120, i32_lit, i32_neg, i32_add, i32_sub, i32_mul, i32_nat, i32_le, i32_lt, i32_eq, inB_i, Int.toNat_natCast, mI_sI_eq, mI_sI_ne, mR_sR_eq, mR_sR_ne, mI_sR, mR_sI, mK_sI, mN_sI, mn_sI, mJ_sI, mK_sR, mN_sR, mn_sR, mJ_sR, mI_wI, mR_wI, mK_wI, mN_wI, mn_wI, mJ_wI, ↓bnd_of, ↓bndX_r, ↓bndX_l, ↓ap_nr, bnd_of, bndX_r, bndX_l, if_true, if_false, ite_true, ite_false, not_true_eq_false, not_false_eq_true, Nat.reduceAdd, Nat.reduceMul, Nat.reduceEqDiff, Int.reduceToNat, Int.reduceNeg, Ilt_t, Ilt_f, Ile_t, Ile_f, Ieq_t, Ieq_f, Nlt_t, Nlt_f, Nle_t, Nle_f, Neq_t, Neq_f, or_true, true_or, or_false, false_or, and_true, true_and, and_false, false_and, ne_eq, or_self, and_self, decide_true, decide_false, Bool.false_eq_true]
    have ej := hX.2.2.2.1 j (by omega)
    have hbj := hb j
    by_cases c : B.sz j ≤ 120
    · have st : f_X4_readEnd_20 (m + 1) 5 (i32 (j : Int)) M = f_X4_readEnd_20 m 5 (i32 ((j + 1 : Nat) : Int)) M := by
        conv => lhs; unfold f_X4_readEnd_20
        rw [if_pos k5, r53, if_pos ks, hsh.2.1, if_neg lt, r50, if_pos k6, n6, if_pos inj, nat_i (by omega), ej, if_pos (by simp (disch := omega) only [↓reduceIte, add_i0, cast_add1, cast_sub1, toNat120, i32_lit, i32_neg, i32_add, i32_sub, i32_mul, i32_nat, i32_le, i32_lt, i32_eq, inB_i, Int.toNat_natCast, mI_sI_eq, mI_sI_ne, mR_sR_eq, mR_sR_ne, mI_sR, mR_sI, mK_sI, mN_sI, mn_sI, mJ_sI, mK_sR, mN_sR, mn_sR, mJ_sR, mI_wI, mR_wI, mK_wI, mN_wI, mn_wI, mJ_wI, ↓bnd_of, ↓bndX_r, ↓bndX_l, ↓ap_nr, bnd_of, bndX_r, bndX_l, if_true, if_false, ite_true, ite_false, not_true_eq_false, not_false_eq_true, Nat.reduceAdd, Nat.reduceMul, Nat.reduceEqDiff, Int.reduceToNat, Int.reduceNeg, Ilt_t, Ilt_f, Ile_t, Ile_f, Ieq_t, Ieq_f, Nlt_t, Nlt_f, Nle_t, Nle_f, Neq_t, Neq_f, or_true, true_or, or_false, false_or, and_true, true_and, and_false, false_and, ne_eq, or_self, and_self, decide_true, decide_false, Bool.false_eq_true]), k_add1]
      rw [st]
      refine ⟨fun h => ih'.1 (fun l h1 h2 => h l (by omega) h2), fun h => ih'.2 (fun q => h (fun l h1 h2 => ?_))⟩
      by_cases w : l = j
      · subst w; exact c
      · exact q l (by omega) h2
    · refine ⟨fun h => absurd (h j (by omega) (by omega)) c, fun _ => ?_⟩
      unfold f_X4_readEnd_20
      rw [if_pos k5, r53, if_pos ks, hsh.2.1, if_neg lt, r50, if_pos k6, n6, if_pos inj, nat_i (by omega), ej, if_neg (by simp (disch := omega) only [↓reduceIte, add_i0, cast_add1, cast_sub1, toNat120, i32_lit, i32_neg, i32_add, i32_sub, i32_mul, i32_nat, i32_le, i32_lt, i32_eq, inB_i, Int.toNat_natCast, mI_sI_eq, mI_sI_ne, mR_sR_eq, mR_sR_ne, mI_sR, mR_sI, mK_sI, mN_sI, mn_sI, mJ_sI, mK_sR, mN_sR, mn_sR, mJ_sR, mI_wI, mR_wI, mK_wI, mN_wI, mn_wI, mJ_wI, ↓bnd_of, ↓bndX_r, ↓bndX_l, ↓ap_nr, bnd_of, bndX_r, bndX_l, if_true, if_false, ite_true, ite_false, not_true_eq_false, not_false_eq_true, Nat.reduceAdd, Nat.reduceMul, Nat.reduceEqDiff, Int.reduceToNat, Int.reduceNeg, Ilt_t, Ilt_f, Ile_t, Ile_f, Ieq_t, Ieq_f, Nlt_t, Nlt_f, Nle_t, Nle_f, Neq_t, Neq_f, or_true, true_or, or_false, false_or, and_true, true_and, and_false, false_and, ne_eq, or_self, and_self, decide_true, decide_false, Bool.false_eq_true])]
      exact X4_failz hL (i32 2)
theorem X4_endY (hS : S.ok) (hR : ARL M s S tb n) (hX : CX M S A0 B) (hb : ∀ l, B.sz l ≤ 100000) {e : Nat} (hT : CTk M tb n e) (he : e ≤ n) {rc : Nat} (h1 : mI M 5 1 = i32 rc) (h59 : tkK tb n e = 59) (hf : ∀ l, l < S.nl → B.sz l ≤ 120) : ∃ M', f_X4_readEnd 5 M = some (i32 1, M') ∧ Chg adC2 M M' ∧ CX M' S A0 B ∧ CTk M' tb n (tkE tb n e) ∧ mI M' 5 1 = i32 ((rc + 1 : Nat) : Int) := by
  obtain ⟨hL, hc, hsl, hsh, s1, s2, r52, r53, r54, hTX⟩ := id hR
  have hnl := hS.2.1
  have k5 : mK M 5 = 5 := by simp only [hL.o]
  have k2 : mK M 2 = 10 := by simp only [hL.o]
  have ks : mK M s = 6 := by simp only [hsl.o]
  obtain ⟨m', em⟩ := (X4_end20 hS hR hX hb S.nl 0 FUEL (by omega) (by unfold FUEL; omega)).1 (fun l _ h2 => hf l h2)
  have em : f_X4_readEnd_20 FUEL 5 (0 : Int32) M = _ := em
  have g1 : Chg adC2 M (sI M 5 1 (i32 ((rc + 1 : Nat) : Int))) := (Chg.rf adC2 M).sI (Or.inr ⟨rfl, rfl⟩)
  have hX1 : CX (sI M 5 1 (i32 ((rc + 1 : Nat) : Int))) S A0 B := hX.cg (fun a j q => mI_sI_ne (by omega))
  have hT1 : CTk (sI M 5 1 (i32 ((rc + 1 : Nat) : Int))) tb n e := hT.cg (fun i => mI_sI_ne (by omega))
  have t := tk_b tb he
  obtain ⟨M2, e2, g2, k22⟩ := X9_advance (hR.chg2 g1).1 (hR.chg2 g1).2.2.2.2.2.2.2.2.2 hT1.2.2 t.2.2.2.1
  have et : mI M 2 3 = i32 (tkK tb n e) := hT.1
  refine ⟨M2, ?_, g1.tr (g2.mono (fun a j q => Or.inl (Or.inl q))), hX1.tk g2, k22, ?_⟩
  · unfold f_X4_readEnd
    rw [if_pos k5, r52, if_pos k2, et, h59, if_pos (by rfl), em]
    unfold f_X4_readEnd_20
    rw [if_pos k5, r53, if_pos ks, hsh.2.1, if_pos (by simp (disch := omega) only [↓reduceIte, add_i0, cast_add1, cast_sub1, toNat120, i32_lit, i32_neg, i32_add, i32_sub, i32_mul, i32_nat, i32_le, i32_lt, i32_eq, inB_i, Int.toNat_natCast, mI_sI_eq, mI_sI_ne, mR_sR_eq, mR_sR_ne, mI_sR, mR_sI, mK_sI, mN_sI, mn_sI, mJ_sI, mK_sR, mN_sR, mn_sR, mJ_sR, mI_wI, mR_wI, mK_wI, mN_wI, mn_wI, mJ_wI, ↓bnd_of, ↓bndX_r, ↓bndX_l, ↓ap_nr, bnd_of, bndX_r, bndX_l, if_true, if_false, ite_true, ite_false, not_true_eq_false, not_false_eq_true, Nat.reduceAdd, Nat.reduceMul, Nat.reduceEqDiff, Int.reduceToNat, Int.reduceNeg, Ilt_t, Ilt_f, Ile_t, Ile_f, Ieq_t, Ieq_f, Nlt_t, Nlt_f, Nle_t, Nle_f, Neq_t, Neq_f, or_true, true_or, or_false, false_or, and_true, true_and, and_false, false_and, ne_eq, or_self, and_self, decide_true, decide_false, Bool.false_eq_true]), h1, k_add1, ap_of, if_pos (by exact k5), mR_sI, r52, if_pos (by exact k2), bx e2]
    rfl
  · rw [g2.i (by unfold tkC; omega), mI_sI_eq]
theorem X4_endB (hS : S.ok) (hR : ARL M s S tb n) (hX : CX M S A0 B) (hb : ∀ l, B.sz l ≤ 100000) {e : Nat} (hT : CTk M tb n e) (h59 : tkK tb n e = 59) (hf : ¬ ∀ l, l < S.nl → B.sz l ≤ 120) : f_X4_readEnd 5 M = some (i32 0, sI M 5 5 (i32 2)) := by
  obtain ⟨hL, hc, hsl, hsh, s1, s2, r52, r53, r54, hTX⟩ := id hR
  have hnl := hS.2.1
  have k5 : mK M 5 = 5 := by simp only [hL.o]
  have k2 : mK M 2 = 10 := by simp only [hL.o]
  have em := (X4_end20 hS hR hX hb S.nl 0 FUEL (by omega) (by unfold FUEL; omega)).2 (fun q => hf (fun l h2 => q l (by omega) h2))
  have em : f_X4_readEnd_20 FUEL 5 (0 : Int32) M = _ := em
  have et : mI M 2 3 = i32 (tkK tb n e) := hT.1
  unfold f_X4_readEnd
  rw [if_pos k5, r52, if_pos k2, et, h59, if_pos (by rfl), em]
theorem X4_endN (hR : ARL M s S tb n) {e : Nat} (hT : CTk M tb n e) (h59 : tkK tb n e ≠ 59) : f_X4_readEnd 5 M = some (i32 0, sI M 5 5 (i32 1)) := by
  obtain ⟨hL, hc, hsl, hsh, s1, s2, r52, r53, r54, hTX⟩ := id hR
  have k5 : mK M 5 = 5 := by simp only [hL.o]
  have k2 : mK M 2 = 10 := by simp only [hL.o]
  have tkb := tkK_b tb hTX.2.2.2 n e
  have nk : ¬ (i32 (tkK tb n e) = i32 59) := i32_ne (by omega) (by omega) (by omega) (by omega) h59
  have et : mI M 2 3 = i32 (tkK tb n e) := hT.1
  unfold f_X4_readEnd
  rw [if_pos k5, r52, if_pos k2, et, if_neg (by exact nk)]
  exact X4_failz hL (i32 1)
theorem X4_read69 {dp : Nat → Nat} (hn : n ≤ 700) (hW : S.wf) (hV : VT S S dp) (hnf0 : 0 < S.nf) : ∀ (k i m : Nat) (M : Mem) (B : St) (e : Nat), n - e < k → n - e < m → i ≤ e → (i = 0 → tkK tb n e ≠ 0) → ARL M s S tb n → CX M S A0 B → mI M 5 1 = i32 B.rc → B.rc ≤ 30 → (∀ l, B.sz l ≤ 120) → CTk M tb n e → e ≤ n → ∃ x M', f_X4_read_69 m 5 (i32 i) M = some (i32 x, M') ∧ Chg adC2 M M' ∧ CC M' 21 S.fu A0 ∧ match adF S tb n k e B with
    | .inl y => x = y.1 ∧ mI M' 2 4 = i32 y.2
    | .inr B' => x = 0 ∧ CX M' S A0 B' ∧ mI M' 5 1 = i32 B'.rc := by
  have hS := hW.1
  have hnf := hS.1
  have hnl := hS.2.1
  intro k
  induction k with
  | zero => intro i m M B e hk; omega
  | succ k ih =>
    intro i m M B e hke hme hie hi0 hR hX h1 hrc hsz hT he
    obtain ⟨m, rfl⟩ : ∃ q, m = q + 1 := ⟨m - 1, by omega⟩
    obtain ⟨hL, hc, hsl, hsh, s1, s2, r52, r53, r54, hTX⟩ := id hR
    have hbt := hTX.2.2.2
    have tkb := tkK_b tb hbt n e
    have k5 : mK M 5 = 5 := by simp only [hL.o]
    have k2 : mK M 2 = 10 := by simp only [hL.o]
    have et : mI M 2 3 = i32 (tkK tb n e) := hT.1
    have lt : ¬ ((700 : Int32) < i32 (i : Int)) := by simp (disch := omega) only [↓reduceIte, add_i0, cast_add1, cast_sub1, toNat120, i32_lit, i32_neg, i32_add, i32_sub, i32_mul, i32_nat, i32_le, i32_lt, i32_eq, inB_i, Int.toNat_natCast, mI_sI_eq, mI_sI_ne, mR_sR_eq, mR_sR_ne, mI_sR, mR_sI, mK_sI, mN_sI, mn_sI, mJ_sI, mK_sR, mN_sR, mn_sR, mJ_sR, mI_wI, mR_wI, mK_wI, mN_wI, mn_wI, mJ_wI, ↓bnd_of, ↓bndX_r, ↓bndX_l, ↓ap_nr, bnd_of, bndX_r, bndX_l, if_true, if_false, ite_true, ite_false, not_true_eq_false, not_false_eq_true, Nat.reduceAdd, Nat.reduceMul, Nat.reduceEqDiff, Int.reduceToNat, Int.reduceNeg, Ilt_t, Ilt_f, Ile_t, Ile_f, Ieq_t, Ieq_f, Nlt_t, Nlt_f, Nle_t, Nle_f, Neq_t, Neq_f, or_true, true_or, or_false, false_or, and_true, true_and, and_false, false_and, ne_eq, or_self, and_self, decide_true, decide_false, Bool.false_eq_true]
    unfold adF
    by_cases c0 : tkK tb n e = 0
    · rw [if_pos c0]
      have ni : ¬ (i32 (i : Int) = i32 0) := i32_ne (by omega) (by omega) (by omega) (by omega) (by
        intro q
        exact hi0 (by omega) c0)
      refine ⟨0, M, ?_, Chg.rf _ M, hX.1, rfl, hX, h1⟩
      unfold f_X4_read_69
      rw [if_neg lt, if_pos k5, r52, if_pos k2, et, c0, if_pos (by rfl), if_neg (by exact ni)]
      rfl
    · rw [if_neg c0]
      have n0 : ¬ (i32 (tkK tb n e) = i32 0) := i32_ne (by omega) (by omega) (by omega) (by omega) c0
      by_cases c30 : 30 ≤ B.rc
      · rw [if_pos c30]
        have eb := X4_canBegin hS hR hT (f := 0) hnf0
        have eb : f_X4_canBegin 5 (0 : Int32) M = _ := eb
        have nlt : ¬ (i32 (B.rc : Int) < (30 : Int32)) := by simp (disch := omega) only [↓reduceIte, add_i0, cast_add1, cast_sub1, toNat120, i32_lit, i32_neg, i32_add, i32_sub, i32_mul, i32_nat, i32_le, i32_lt, i32_eq, inB_i, Int.toNat_natCast, mI_sI_eq, mI_sI_ne, mR_sR_eq, mR_sR_ne, mI_sR, mR_sI, mK_sI, mN_sI, mn_sI, mJ_sI, mK_sR, mN_sR, mn_sR, mJ_sR, mI_wI, mR_wI, mK_wI, mN_wI, mn_wI, mJ_wI, ↓bnd_of, ↓bndX_r, ↓bndX_l, ↓ap_nr, bnd_of, bndX_r, bndX_l, if_true, if_false, ite_true, ite_false, not_true_eq_false, not_false_eq_true, Nat.reduceAdd, Nat.reduceMul, Nat.reduceEqDiff, Int.reduceToNat, Int.reduceNeg, Ilt_t, Ilt_f, Ile_t, Ile_f, Ieq_t, Ieq_f, Nlt_t, Nlt_f, Nle_t, Nle_f, Neq_t, Neq_f, or_true, true_or, or_false, false_or, and_true, true_and, and_false, false_and, ne_eq, or_self, and_self, decide_true, decide_false, Bool.false_eq_true]
        by_cases cb : canB S tb n 0 e
        · rw [if_pos cb] at eb
          rw [if_pos cb]
          have nz : ¬ (i32 1 = i32 0) := i32_ne (by omega) (by omega) (by omega) (by omega) (by omega)
          refine ⟨2, M, ?_, Chg.rf _ M, hX.1, rfl, hT.2.1⟩
          unfold f_X4_read_69
          rw [if_neg lt, if_pos k5, r52, if_pos k2, et, if_neg (by exact n0), h1, if_neg nlt, bx eb, if_neg (by exact nz)]
          rfl
        · rw [if_neg cb] at eb
          rw [if_neg cb]
          refine ⟨1, M, ?_, Chg.rf _ M, hX.1, rfl, hT.2.1⟩
          unfold f_X4_read_69
          rw [if_neg lt, if_pos k5, r52, if_pos k2, et, if_neg (by exact n0), h1, if_neg nlt, bx eb, if_pos (by rfl)]
          rfl
      · rw [if_neg c30]
        have ylt : i32 (B.rc : Int) < (30 : Int32) := by simp (disch := omega) only [↓reduceIte, add_i0, cast_add1, cast_sub1, toNat120, i32_lit, i32_neg, i32_add, i32_sub, i32_mul, i32_nat, i32_le, i32_lt, i32_eq, inB_i, Int.toNat_natCast, mI_sI_eq, mI_sI_ne, mR_sR_eq, mR_sR_ne, mI_sR, mR_sI, mK_sI, mN_sI, mn_sI, mJ_sI, mK_sR, mN_sR, mn_sR, mJ_sR, mI_wI, mR_wI, mK_wI, mN_wI, mn_wI, mJ_wI, ↓bnd_of, ↓bndX_r, ↓bndX_l, ↓ap_nr, bnd_of, bndX_r, bndX_l, if_true, if_false, ite_true, ite_false, not_true_eq_false, not_false_eq_true, Nat.reduceAdd, Nat.reduceMul, Nat.reduceEqDiff, Int.reduceToNat, Int.reduceNeg, Ilt_t, Ilt_f, Ile_t, Ile_f, Ieq_t, Ieq_f, Nlt_t, Nlt_f, Nle_t, Nle_f, Neq_t, Neq_f, or_true, true_or, or_false, false_or, and_true, true_and, and_false, false_and, ne_eq, or_self, and_self, decide_true, decide_false, Bool.false_eq_true]
        obtain ⟨x1, M1, e1, a1⟩ := X4_readFields (A0 := A0) hn hW hV 4 0 (by omega) M B (-1) 0 e hR hX hT he (fun l => by have := hsz l; omega) (Or.inl ⟨rfl, rfl⟩) (by omega) (by omega)
        have e1 : f_X4_readFields 6 5 (-1 : Int32) (0 : Int32) (0 : Int32) (0 : Int32) M = some (x1, M1) := e1
        have a1 : ARes M M1 S tb n A0 B x1 (rcF S tb n 4 (-1) 0 0 e) := a1
        have o1 := rcF_ok (tb := tb) (n := n) hW hV hbt 4 0 (by omega) (-1) 0 e (Or.inl ⟨rfl, rfl⟩) (by omega) (by omega) he
        have o1 : RdP S n e 0 (One S (scJ S (-1) 0) 0) (rcF S tb n 4 (-1) 0 0 e) := o1
        have st : f_X4_read_69 (m + 1) 5 (i32 (i : Int)) M = (if x1 = 0 then f_X4_read_139 5 M1 else if mK M1 5 = 5 then (bnd (f_X4_readEnd 5 M1) fun r11 M10 => if r11 = 0 then f_X4_read_139 5 M10 else f_X4_read_69 m 5 (i32 ((i + 1 : Nat) : Int)) M10) else none) := by
          conv => lhs; unfold f_X4_read_69
          rw [if_neg lt, if_pos k5, r52, if_pos k2, et, if_neg (by exact n0), h1, if_pos ylt, bx e1, k_add1]
        rw [st]
        generalize rcF S tb n 4 (-1) 0 0 e = y at a1 o1
        match y, a1, o1 with
        | .inl y, a1, o1 =>
          obtain ⟨b1, b2, b3, b4, b5⟩ := a1
          have hL1 := hL.all b1
          have k51 : mK M1 5 = 5 := by simp only [hL1.o]
          refine ⟨y.1, M1, ?_, b1.mono adC_2, b2, rfl, b5⟩
          rw [b3, if_pos (by rfl)]
          unfold f_X4_read_139
          rw [if_pos k51, b4]
        | .inr p, a1, o1 =>
          obtain ⟨b1, b2, b3, b4, b5⟩ := a1
          obtain ⟨o2, o3, o4, o5⟩ := o1
          have hR1 := hR.chg b1
          have hL1 := hR1.1
          have k51 : mK M1 5 = 5 := by simp only [hL1.o]
          have nz : ¬ (i32 1 = i32 0) := i32_ne (by omega) (by omega) (by omega) (by omega) (by omega)
          have h11 : mI M1 5 1 = i32 B.rc := by rw [b1.i (by unfold adC tkC; omega)]; exact h1
          have hb1 : ∀ l, (B.apL p.2).sz l ≤ 100000 := fun l => by
            have := hsz l
            have q := cnE_le (l := l) p.2
            have := o4.2
            rw [apL_sz]
            omega
          rw [b3, if_neg (by exact nz), if_pos k51]
          show ∃ x M', _ ∧ Chg adC2 M M' ∧ CC M' 21 S.fu A0 ∧ match (if tkK tb n p.1 = 59 then (if fitS S.nl (B.apL p.2).inc then adF S tb n k (tkE tb n p.1) (B.apL p.2).inc else .inl (2, tkB tb n p.1)) else .inl (1, tkB tb n p.1) : (Int × Nat) ⊕ St) with
            | .inl y => x = y.1 ∧ mI M' 2 4 = i32 y.2
            | .inr B' => x = 0 ∧ CX M' S A0 B' ∧ mI M' 5 1 = i32 B'.rc
          have bad : ∀ v : Int, f_X4_readEnd 5 M1 = some (i32 0, sI M1 5 5 (i32 v)) → (bnd (f_X4_readEnd 5 M1) fun r11 M10 => if r11 = 0 then f_X4_read_139 5 M10 else f_X4_read_69 m 5 (i32 ((i + 1 : Nat) : Int)) M10) = some (i32 v, sI M1 5 5 (i32 v)) := fun v hv => by
            rw [bx hv, if_pos (by rfl)]
            unfold f_X4_read_139
            rw [if_pos (by exact k51), mI_sI_eq]
          have fr : ∀ v : Int, Chg adC2 M (sI M1 5 5 (i32 v)) ∧ CC (sI M1 5 5 (i32 v)) 21 S.fu A0 ∧ mI (sI M1 5 5 (i32 v)) 2 4 = i32 (tkB tb n p.1) := fun v => by
            have := ares_fail b4 b5 v
            exact ⟨(b1.mono adC_2).tr (this.1.mono adC_2), this.2.1, this.2.2.2.2⟩
          by_cases c59 : tkK tb n p.1 = 59
          · rw [if_pos c59]
            by_cases cf : fitS S.nl (B.apL p.2).inc
            · rw [if_pos cf]
              obtain ⟨M2, e2, g2, x2, k22, w2⟩ := X4_endY hS hR1 b5 hb1 b4 o3 h11 c59 cf.2
              have go := tk_go hbt o3 (by omega)
              obtain ⟨x3, M3, e3, g3, c3, d3⟩ := ih (i + 1) m M2 (B.apL p.2).inc (tkE tb n p.1) (by omega) (by omega) (by omega) (by omega) (hR1.chg2 g2) x2 (by
                rw [w2]
                show _ = i32 (((B.apL p.2).rc + 1 : Nat) : Int)
                rw [apL_rc]) cf.1 (fun l => by
                by_cases c : l < S.nl
                · exact cf.2 l c
                · show (B.apL p.2).sz l ≤ 120
                  rw [apL_sz, cnE_ge (by omega) _ o4.1]
                  exact hsz l) k22 go.2.1
              refine ⟨x3, M3, ?_, (b1.mono adC_2).tr (g2.tr g3), c3, d3⟩
              rw [bx e2, if_neg (by exact nz), e3]
            · rw [if_neg cf]
              have eB := X4_endB hS hR1 b5 hb1 b4 c59 (fun q => cf ⟨by show (B.apL p.2).rc + 1 ≤ 30; rw [apL_rc]; omega, q⟩)
              exact ⟨2, _, bad 2 eB, (fr 2).1, (fr 2).2.1, rfl, (fr 2).2.2⟩
          · rw [if_neg c59]
            have eN := X4_endN hR1 b4 c59
            exact ⟨1, _, bad 1 eN, (fr 1).1, (fr 1).2.1, rfl, (fr 1).2.2⟩
end
