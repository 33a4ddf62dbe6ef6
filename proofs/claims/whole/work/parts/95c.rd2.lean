/-! reads, on both sides -/
section
variable {M : Mem} {s : Nat} {S : Sc} {A : St} {set : Int}
theorem X11_isWrong (hS : S.ok) (hV : CV M s S A) (h8 : mR M 1 8 = s) : ∃ M', f_X11_isWrong 1 M = some (if (chk S A).1 = 0 then i32 0 else i32 1, M') ∧ Scr M M' := by
  obtain ⟨M1, e1, g1, hK1, f0, f1, f2⟩ := X1_run hS hV
  have hb := chkF_b S A hV.2.2.2.2.1.1 S.nl 0
  have hb2 : 0 ≤ (chk S A).1 ∧ (chk S A).1 ≤ 5 := ⟨hb.1, hb.2.1⟩
  have hL := hV.1
  refine ⟨M1, ?_, g1⟩
  simp (disch := omega) only [↓reduceIte, add_i0, cast_add1, cast_sub1, toNat120, i32_lit, i32_neg, i32_add, i32_sub, i32_mul, i32_nat, i32_le, i32_lt, i32_eq, inB_i, Int.toNat_natCast, mI_sI_eq, mI_sI_ne, mR_sR_eq, mR_sR_ne, mI_sR, mR_sI, mK_sI, mN_sI, mn_sI, mJ_sI, mK_sR, mN_sR, mn_sR, mJ_sR, mI_wI, mR_wI, mK_wI, mN_wI, mn_wI, mJ_wI, ↓bnd_of, ↓bndX_r, ↓bndX_l, ↓ap_nr, bnd_of, bndX_r, bndX_l, if_true, if_false, ite_true, ite_false, not_true_eq_false, not_false_eq_true, Nat.reduceAdd, Nat.reduceMul, Nat.reduceEqDiff, Int.reduceToNat, Int.reduceNeg, Ilt_t, Ilt_f, Ile_t, Ile_f, Ieq_t, Ieq_f, Nlt_t, Nlt_f, Nle_t, Nle_f, Neq_t, Neq_f, or_true, true_or, or_false, false_or, and_true, true_and, and_false, false_and, ne_eq, or_self, and_self, decide_true, decide_false, Bool.false_eq_true, f_X11_isWrong, hL.o, h8, ↓bx e1]
  (first | done | with_reducible rfl | ((repeat' split) <;> (first | with_reducible rfl | (exfalso; omega) | skip)))
theorem X8_has (hV : CV M s S A) (h6 : mR M 8 6 = 18) {l : Nat} (hl : l < 8) (e : Int) (e1 : -2147483648 ≤ e) (e2 : e ≤ 2147483647) : f_X8_has 8 (i32 l) (i32 e) M = some (if 0 ≤ e ∧ e < A.sz l then i32 1 else i32 0, M) := by
  obtain ⟨hL, hc, hs, hC, hA, hr, -⟩ := hV
  have hcol := hc.2.2.2.2.2.2.2.2.2.2
  simp only [Nat.reduceSub] at hcol
  have a1 := hA.2.1
  have bz := hA.1.2.2.2.1 l
  simp (disch := omega) only [↓reduceIte, add_i0, cast_add1, cast_sub1, toNat120, i32_lit, i32_neg, i32_add, i32_sub, i32_mul, i32_nat, i32_le, i32_lt, i32_eq, inB_i, Int.toNat_natCast, mI_sI_eq, mI_sI_ne, mR_sR_eq, mR_sR_ne, mI_sR, mR_sI, mK_sI, mN_sI, mn_sI, mJ_sI, mK_sR, mN_sR, mn_sR, mJ_sR, mI_wI, mR_wI, mK_wI, mN_wI, mn_wI, mJ_wI, ↓bnd_of, ↓bndX_r, ↓bndX_l, ↓ap_nr, bnd_of, bndX_r, bndX_l, if_true, if_false, ite_true, ite_false, not_true_eq_false, not_false_eq_true, Nat.reduceAdd, Nat.reduceMul, Nat.reduceEqDiff, Int.reduceToNat, Int.reduceNeg, Ilt_t, Ilt_f, Ile_t, Ile_f, Ieq_t, Ieq_f, Nlt_t, Nlt_f, Nle_t, Nle_f, Neq_t, Neq_f, or_true, true_or, or_false, false_or, and_true, true_and, and_false, false_and, ne_eq, or_self, and_self, decide_true, decide_false, Bool.false_eq_true, f_X8_has, hL.o, h6, hcol, hc, a1]
  (first | done | with_reducible rfl | ((repeat' split) <;> (first | with_reducible rfl | (exfalso; omega) | skip)))
theorem X8_goTo2 (hS : S.ok) (r : Int) (r0 : 0 ≤ r) (r1 : r ≤ 2147483647) : ∀ (k j n : Nat) (M : Mem), j + k = S.nl → k < n → CV M s S A → mR M 8 5 = s → mR M 8 6 = 18 → (∀ l, l < j → mI M 10 l = i32 (firstFrom (A.rp l) r (A.sz l) 0 0)) → ∃ M', f_X8_goTo_2 n 8 (i32 r) (i32 j) M = some ((), M') ∧ Chg (fun a _ => a = 10) M M' ∧ ∀ l, l < S.nl → mI M' 10 l = i32 (firstFrom (A.rp l) r (A.sz l) 0 0) := by
  have hnl := hS.2.1
  intro k
  induction k with
  | zero =>
    intro j n M hj hn hV h5 h6 hp
    obtain ⟨n, rfl⟩ : ∃ m, n = m + 1 := ⟨n - 1, by omega⟩
    obtain ⟨hL, hc, hs, hC, hA, hr, -⟩ := hV
    have c1 := hC.2.1
    refine ⟨M, ?_, Chg.rf _ M, fun l hl => hp l (by omega)⟩
    simp (disch := omega) only [↓reduceIte, add_i0, cast_add1, cast_sub1, toNat120, i32_lit, i32_neg, i32_add, i32_sub, i32_mul, i32_nat, i32_le, i32_lt, i32_eq, inB_i, Int.toNat_natCast, mI_sI_eq, mI_sI_ne, mR_sR_eq, mR_sR_ne, mI_sR, mR_sI, mK_sI, mN_sI, mn_sI, mJ_sI, mK_sR, mN_sR, mn_sR, mJ_sR, mI_wI, mR_wI, mK_wI, mN_wI, mn_wI, mJ_wI, ↓bnd_of, ↓bndX_r, ↓bndX_l, ↓ap_nr, bnd_of, bndX_r, bndX_l, if_true, if_false, ite_true, ite_false, not_true_eq_false, not_false_eq_true, Nat.reduceAdd, Nat.reduceMul, Nat.reduceEqDiff, Int.reduceToNat, Int.reduceNeg, Ilt_t, Ilt_f, Ile_t, Ile_f, Ieq_t, Ieq_f, Nlt_t, Nlt_f, Nle_t, Nle_f, Neq_t, Neq_f, or_true, true_or, or_false, false_or, and_true, true_and, and_false, false_and, ne_eq, or_self, and_self, decide_true, decide_false, Bool.false_eq_true, f_X8_goTo_2, hL.o, h5, hs.o, c1]
  | succ k ih =>
    intro j n M hj hn hV h5 h6 hp
    obtain ⟨n, rfl⟩ : ∃ m, n = m + 1 := ⟨n - 1, by omega⟩
    have g : Chg (fun a _ => a = 10) M (sI M 10 j (i32 (firstFrom (A.rp j) r (A.sz j) 0 0))) := (Chg.rf _ M).sI rfl
    have gs := g.scr (fun a j q => by unfold ScI; omega)
    obtain ⟨M', q1, q2, q3⟩ := ih (j + 1) n _ (by omega) (by omega) (hV.scr gs) h5 h6 (fun l hl => by
      by_cases e : l = j
      · subst e; exact mI_sI_eq
      · have := hp l (by omega)
        simp (disch := omega) only [↓reduceIte, add_i0, cast_add1, cast_sub1, toNat120, i32_lit, i32_neg, i32_add, i32_sub, i32_mul, i32_nat, i32_le, i32_lt, i32_eq, inB_i, Int.toNat_natCast, mI_sI_eq, mI_sI_ne, mR_sR_eq, mR_sR_ne, mI_sR, mR_sI, mK_sI, mN_sI, mn_sI, mJ_sI, mK_sR, mN_sR, mn_sR, mJ_sR, mI_wI, mR_wI, mK_wI, mN_wI, mn_wI, mJ_wI, ↓bnd_of, ↓bndX_r, ↓bndX_l, ↓ap_nr, bnd_of, bndX_r, bndX_l, if_true, if_false, ite_true, ite_false, not_true_eq_false, not_false_eq_true, Nat.reduceAdd, Nat.reduceMul, Nat.reduceEqDiff, Int.reduceToNat, Int.reduceNeg, Ilt_t, Ilt_f, Ile_t, Ile_f, Ieq_t, Ieq_f, Nlt_t, Nlt_f, Nle_t, Nle_f, Neq_t, Neq_f, or_true, true_or, or_false, false_or, and_true, true_and, and_false, false_and, ne_eq, or_self, and_self, decide_true, decide_false, Bool.false_eq_true, e, this])
    refine ⟨M', ?_, g.tr q2, q3⟩
    rw [← q1]
    obtain ⟨hL, hc, hs, hC, hA, hr, -⟩ := hV
    have c1 := hC.2.1
    have e1 := X2_firstOf hc hA (l := j) (by omega) r r0 r1
    have hcol := hc.2.2.2.2.2.2.2.2.2.2
    simp only [Nat.reduceSub] at hcol
    simp (disch := omega) only [↓reduceIte, add_i0, cast_add1, cast_sub1, toNat120, i32_lit, i32_neg, i32_add, i32_sub, i32_mul, i32_nat, i32_le, i32_lt, i32_eq, inB_i, Int.toNat_natCast, mI_sI_eq, mI_sI_ne, mR_sR_eq, mR_sR_ne, mI_sR, mR_sI, mK_sI, mN_sI, mn_sI, mJ_sI, mK_sR, mN_sR, mn_sR, mJ_sR, mI_wI, mR_wI, mK_wI, mN_wI, mn_wI, mJ_wI, ↓bnd_of, ↓bndX_r, ↓bndX_l, ↓ap_nr, bnd_of, bndX_r, bndX_l, if_true, if_false, ite_true, ite_false, not_true_eq_false, not_false_eq_true, Nat.reduceAdd, Nat.reduceMul, Nat.reduceEqDiff, Int.reduceToNat, Int.reduceNeg, Ilt_t, Ilt_f, Ile_t, Ile_f, Ieq_t, Ieq_f, Nlt_t, Nlt_f, Nle_t, Nle_f, Neq_t, Neq_f, or_true, true_or, or_false, false_or, and_true, true_and, and_false, false_and, ne_eq, or_self, and_self, decide_true, decide_false, Bool.false_eq_true, f_X8_goTo_2, hL.o, h5, h6, hs.o, c1, hcol, hc, ↓bx e1]
theorem X8_goTo (hS : S.ok) (r : Int) (r0 : 0 ≤ r) (r1 : r ≤ 2147483647) (hV : CV M s S A) (h5 : mR M 8 5 = s) (h6 : mR M 8 6 = 18) : ∃ M', f_X8_goTo 8 (i32 r) M = some ((), M') ∧ Chg (fun a _ => a = 10) M M' ∧ ∀ l, l < S.nl → mI M' 10 l = i32 (firstFrom (A.rp l) r (A.sz l) 0 0) := by
  have hnl := hS.2.1
  exact X8_goTo2 hS r r0 r1 S.nl 0 FUEL M (by omega) (by unfold FUEL; omega) hV h5 h6 (fun l hl => by omega)
theorem X8_rs1 {c p i : Nat} {x : Int} {st r nx : Int32} (hL : CLay M) (hk6 : mK M s = 6) (h5 : mR M 8 5 = s) (h6 : mR M 8 6 = 18) (hc : ColLay M 21) (hc8 : c < 8) (hp : p + 1 < 120) (hp1 : mI M 10 c = i32 p) (hi : i < 960) (eh : f_X8_has 8 (i32 c) (i32 ((p + 1 : Nat) : Int)) (sI M 10 c (i32 ((p + 1 : Nat) : Int))) = some (i32 1, sI M 10 c (i32 ((p + 1 : Nat) : Int)))) (ex : mI M (21 + 4 * c + 1) (p + 1) = i32 x) (el : f_X5_leafAfter s st (i32 c) (i32 x) (sI M 10 c (i32 ((p + 1 : Nat) : Int))) = some (nx, sI M 10 c (i32 ((p + 1 : Nat) : Int)))) (n : Nat) : f_X8_countReads_28 (n + 1) 8 st r (i32 c) (i32 i) M = f_X8_countReads_28 n 8 st (r + 1) nx (i32 i + 1) (sI M 10 c (i32 ((p + 1 : Nat) : Int))) := by
  have hcol := hc.2.2.2.2.2.2.2.2.2.2
  simp only [Nat.reduceSub] at hcol
  simp (disch := omega) only [↓reduceIte, add_i0, cast_add1, cast_sub1, toNat120, i32_lit, i32_neg, i32_add, i32_sub, i32_mul, i32_nat, i32_le, i32_lt, i32_eq, inB_i, Int.toNat_natCast, mI_sI_eq, mI_sI_ne, mR_sR_eq, mR_sR_ne, mI_sR, mR_sI, mK_sI, mN_sI, mn_sI, mJ_sI, mK_sR, mN_sR, mn_sR, mJ_sR, mI_wI, mR_wI, mK_wI, mN_wI, mn_wI, mJ_wI, ↓bnd_of, ↓bndX_r, ↓bndX_l, ↓ap_nr, bnd_of, bndX_r, bndX_l, if_true, if_false, ite_true, ite_false, not_true_eq_false, not_false_eq_true, Nat.reduceAdd, Nat.reduceMul, Nat.reduceEqDiff, Int.reduceToNat, Int.reduceNeg, Ilt_t, Ilt_f, Ile_t, Ile_f, Ieq_t, Ieq_f, Nlt_t, Nlt_f, Nle_t, Nle_f, Neq_t, Neq_f, or_true, true_or, or_false, false_or, and_true, true_and, and_false, false_and, ne_eq, or_self, and_self, decide_true, decide_false, Bool.false_eq_true, f_X8_countReads_28, f_X8_countReads_100, hL.o, h5, h6, hp1, hcol, hc, hk6, ex, ↓bx eh, ↓bx el]
theorem X8_rs0 {c p i : Nat} {st r nx : Int32} (hL : CLay M) (hk6 : mK M s = 6) (h5 : mR M 8 5 = s) (h6 : mR M 8 6 = 18) (hc8 : c < 8) (hp : p < 120) (hp1 : mI M 10 c = i32 p) (hi : i < 960) (eh : f_X8_has 8 (i32 c) (i32 ((p + 1 : Nat) : Int)) (sI M 10 c (i32 ((p + 1 : Nat) : Int))) = some (i32 0, sI M 10 c (i32 ((p + 1 : Nat) : Int)))) (el : f_X5_leafAfter s st (i32 c) (i32 0) (sI M 10 c (i32 ((p + 1 : Nat) : Int))) = some (nx, sI M 10 c (i32 ((p + 1 : Nat) : Int)))) (n : Nat) : f_X8_countReads_28 (n + 1) 8 st r (i32 c) (i32 i) M = f_X8_countReads_28 n 8 st (r + 1) nx (i32 i + 1) (sI M 10 c (i32 ((p + 1 : Nat) : Int))) := by
  simp (disch := omega) only [↓reduceIte, add_i0, cast_add1, cast_sub1, toNat120, i32_lit, i32_neg, i32_add, i32_sub, i32_mul, i32_nat, i32_le, i32_lt, i32_eq, inB_i, Int.toNat_natCast, mI_sI_eq, mI_sI_ne, mR_sR_eq, mR_sR_ne, mI_sR, mR_sI, mK_sI, mN_sI, mn_sI, mJ_sI, mK_sR, mN_sR, mn_sR, mJ_sR, mI_wI, mR_wI, mK_wI, mN_wI, mn_wI, mJ_wI, ↓bnd_of, ↓bndX_r, ↓bndX_l, ↓ap_nr, bnd_of, bndX_r, bndX_l, if_true, if_false, ite_true, ite_false, not_true_eq_false, not_false_eq_true, Nat.reduceAdd, Nat.reduceMul, Nat.reduceEqDiff, Int.reduceToNat, Int.reduceNeg, Ilt_t, Ilt_f, Ile_t, Ile_f, Ieq_t, Ieq_f, Nlt_t, Nlt_f, Nle_t, Nle_f, Neq_t, Neq_f, or_true, true_or, or_false, false_or, and_true, true_and, and_false, false_and, ne_eq, or_self, and_self, decide_true, decide_false, Bool.false_eq_true, f_X8_countReads_28, f_X8_countReads_100, hL.o, h5, h6, hp1, hk6, ↓bx eh]
  rw [bx el]
theorem X8_reads28 (hW : S.wf) (hk : chkOk S A) (hset : isSetP S set) : ∀ (k : Nat) (c : Int) (ptr : Nat → Nat) (r i n : Nat) (M : Mem), (c = -1 ∨ (0 ≤ c ∧ RdI S A set c.toNat ptr)) → msr A ptr S.nl ≤ k → i + k ≤ 960 → k < n → CV M s S A → mR M 8 5 = s → mR M 8 6 = 18 → (∀ l, l < S.nl → mI M 10 l = i32 (ptr l)) → ∃ M', f_X8_countReads_28 n 8 (i32 set) (i32 r) (i32 c) (i32 i) M = some (i32 (rdF S A set k c ptr r), M') ∧ Scr M M' := by
  have hS := hW.1
  have hnl := hS.2.1
  intro k
  induction k with
  | zero =>
    intro c ptr r i n M hc hm hi hn hV h5 h6 hp
    obtain ⟨n, rfl⟩ : ∃ m, n = m + 1 := ⟨n - 1, by omega⟩
    refine ⟨M, ?_, Scr.rf M⟩
    rcases hc with hc | ⟨hc, hI⟩
    · subst hc
      unfold f_X8_countReads_28 rdF
      by_cases d : (960 : Int32) ≤ i32 i
      · rw [if_pos d]
      · rw [if_neg d, if_pos (by simp (disch := omega) only [↓reduceIte, add_i0, cast_add1, cast_sub1, toNat120, i32_lit, i32_neg, i32_add, i32_sub, i32_mul, i32_nat, i32_le, i32_lt, i32_eq, inB_i, Int.toNat_natCast, mI_sI_eq, mI_sI_ne, mR_sR_eq, mR_sR_ne, mI_sR, mR_sI, mK_sI, mN_sI, mn_sI, mJ_sI, mK_sR, mN_sR, mn_sR, mJ_sR, mI_wI, mR_wI, mK_wI, mN_wI, mn_wI, mJ_wI, ↓bnd_of, ↓bndX_r, ↓bndX_l, ↓ap_nr, bnd_of, bndX_r, bndX_l, if_true, if_false, ite_true, ite_false, not_true_eq_false, not_false_eq_true, Nat.reduceAdd, Nat.reduceMul, Nat.reduceEqDiff, Int.reduceToNat, Int.reduceNeg, Ilt_t, Ilt_f, Ile_t, Ile_f, Ieq_t, Ieq_f, Nlt_t, Nlt_f, Nle_t, Nle_f, Neq_t, Neq_f, or_true, true_or, or_false, false_or, and_true, true_and, and_false, false_and, ne_eq, or_self, and_self, decide_true, decide_false, Bool.false_eq_true])]
    · exfalso
      have h1 := hI.1
      have := (msr_up A ptr h1.2.2 S.nl).2 h1.1
      omega
  | succ k ih =>
    intro c ptr r i n M hc hm hi hn hV h5 h6 hp
    obtain ⟨n, rfl⟩ : ∃ m, n = m + 1 := ⟨n - 1, by omega⟩
    by_cases d : c = -1
    · subst d
      refine ⟨M, ?_, Scr.rf M⟩
      unfold f_X8_countReads_28 rdF
      rw [if_pos rfl]
      by_cases d : (960 : Int32) ≤ i32 i
      · rw [if_pos d]
      · rw [if_neg d, if_pos (by simp (disch := omega) only [↓reduceIte, add_i0, cast_add1, cast_sub1, toNat120, i32_lit, i32_neg, i32_add, i32_sub, i32_mul, i32_nat, i32_le, i32_lt, i32_eq, inB_i, Int.toNat_natCast, mI_sI_eq, mI_sI_ne, mR_sR_eq, mR_sR_ne, mI_sR, mR_sI, mK_sI, mN_sI, mn_sI, mJ_sI, mK_sR, mN_sR, mn_sR, mJ_sR, mI_wI, mR_wI, mK_wI, mN_wI, mn_wI, mJ_wI, ↓bnd_of, ↓bndX_r, ↓bndX_l, ↓ap_nr, bnd_of, bndX_r, bndX_l, if_true, if_false, ite_true, ite_false, not_true_eq_false, not_false_eq_true, Nat.reduceAdd, Nat.reduceMul, Nat.reduceEqDiff, Int.reduceToNat, Int.reduceNeg, Ilt_t, Ilt_f, Ile_t, Ile_f, Ieq_t, Ieq_f, Nlt_t, Nlt_f, Nle_t, Nle_f, Neq_t, Neq_f, or_true, true_or, or_false, false_or, and_true, true_and, and_false, false_and, ne_eq, or_self, and_self, decide_true, decide_false, Bool.false_eq_true])]
    · rcases hc with hc | ⟨hc, hI⟩
      · exact absurd hc d
      · obtain ⟨c, rfl⟩ : ∃ q : Nat, c = q := ⟨c.toNat, by omega⟩
        simp only [Int.toNat_natCast] at hI
        have hst := RdI.step hW hV.2.2.2.2.1.1 hk hI
        obtain ⟨⟨hcn, hbc, hpc⟩, -⟩ := hI
        have hz := hV.2.2.2.2.1.1.2.2.2.1 c
        have hms := (msr_up A ptr hpc S.nl).2 hcn
        have b3 := Sc.sr_b hS (S.fo c)
        have g : Scr M (sI M 10 c (i32 ((ptr c + 1 : Nat) : Int))) := (Scr.rf M).sI (by unfold ScI; omega)
        have hV1 := hV.scr g
        have eh := X8_has hV1 h6 (l := c) (by omega) ((ptr c + 1 : Nat) : Int) (by omega) (by omega)
        have el := X5_leafAfter hW hV1.2.2.1 hV1.2.2.2.1 hset hcn (rdX A c (ptr c + 1)) hst.1.1 hst.1.2
        obtain ⟨M', q1, q2⟩ := ih (S.nxt set c (rdX A c (ptr c + 1))) (upf ptr c (ptr c + 1)) (r + 1) (i + 1) n (sI M 10 c (i32 ((ptr c + 1 : Nat) : Int))) hst.2 (by omega) (by omega) (by omega) hV1 h5 h6 (fun l hl => by
          by_cases e : l = c
          · subst e; rw [upf_eq]; exact mI_sI_eq
          · rw [upf_ne _ _ e, ← hp l hl]; simp (disch := omega) only [↓reduceIte, add_i0, cast_add1, cast_sub1, toNat120, i32_lit, i32_neg, i32_add, i32_sub, i32_mul, i32_nat, i32_le, i32_lt, i32_eq, inB_i, Int.toNat_natCast, mI_sI_eq, mI_sI_ne, mR_sR_eq, mR_sR_ne, mI_sR, mR_sI, mK_sI, mN_sI, mn_sI, mJ_sI, mK_sR, mN_sR, mn_sR, mJ_sR, mI_wI, mR_wI, mK_wI, mN_wI, mn_wI, mJ_wI, ↓bnd_of, ↓bndX_r, ↓bndX_l, ↓ap_nr, bnd_of, bndX_r, bndX_l, if_true, if_false, ite_true, ite_false, not_true_eq_false, not_false_eq_true, Nat.reduceAdd, Nat.reduceMul, Nat.reduceEqDiff, Int.reduceToNat, Int.reduceNeg, Ilt_t, Ilt_f, Ile_t, Ile_f, Ieq_t, Ieq_f, Nlt_t, Nlt_f, Nle_t, Nle_f, Neq_t, Neq_f, or_true, true_or, or_false, false_or, and_true, true_and, and_false, false_and, ne_eq, or_self, and_self, decide_true, decide_false, Bool.false_eq_true, e])
        refine ⟨M', ?_, g.tr q2⟩
        have er : rdF S A set (k + 1) c ptr r = rdF S A set k (S.nxt set c (rdX A c (ptr c + 1))) (upf ptr c (ptr c + 1)) (r + 1) := by
          conv => lhs; unfold rdF
          rw [if_neg d, Int.toNat_natCast]
        rw [er, ← q1]
        have hc2 := hV.2.1
        have a2 := hV.2.2.2.2.1.2.2.1
        have hk6 : mK M s = 6 := hV.2.2.1.o.1
        have hp1 := hp c hcn
        rw [← k_add1 r, ← k_add1 i]
        by_cases d2 : ptr c + 1 < A.sz c
        · have ex : rdX A c (ptr c + 1) = A.rp c (ptr c + 1) := by unfold rdX; rw [if_pos d2]
          rw [ex] at el ⊢
          rw [if_pos (by omega)] at eh
          exact X8_rs1 hV.1 hk6 h5 h6 hc2 (by omega) (by omega) hp1 (by omega) eh (a2 c (ptr c + 1) (by omega) d2) el n
        · have ex : rdX A c (ptr c + 1) = 0 := by unfold rdX; rw [if_neg d2]
          rw [ex] at el ⊢
          rw [if_neg (by omega)] at eh
          exact X8_rs0 hV.1 hk6 h5 h6 (by omega) (by omega) hp1 (by omega) eh el n
/-- the first leaf of a set -/
theorem set_first (hS : S.ok) (hset : isSetP S set) : ∃ c : Nat, lowF (bt (i32 set)) 32 0 = c ∧ c < S.nl ∧ bt (i32 set) c = true ∧ ∀ i, i < c → bt (i32 set) i = false := by
  have hne : ∃ i, i < 32 ∧ bt (i32 set) i = true := by
    by_cases c : ∃ i, i < 32 ∧ bt (i32 set) i = true
    · exact c
    · exfalso
      have hz : i32 set = i32 0 := bt_ext (fun i hi => by
        rw [bt_zero]
        by_cases w : bt (i32 set) i = true
        · exact absurd ⟨i, hi, w⟩ c
        · simpa using w)
      have bp := pow8 hS.2.1
      have w1 := hset.1
      have w2 := hset.2
      rw [i32_eq (by omega) (by omega) (by omega) (by omega)] at hz
      omega
  obtain ⟨i, h1, h2⟩ := hne
  have := lowF_some (p := bt (i32 set)) (k := 32) (j := 0) ⟨i, by omega, by omega, h2⟩
  refine ⟨(lowF (bt (i32 set)) 32 0).toNat, by omega, ?_, this.2.2.1, fun i hi => this.2.2.2 i (by omega) (by omega)⟩
  exact set_lt hS hset (by omega) this.2.2.1
def a_reads (S : Sc) (A : St) (r set : Int) : Nat ⊕ Int32 := if 0 ≤ r ∧ r < A.rc then (if 0 < set ∧ set < 2 ^ S.nl then (if (chk S A).1 = 0 then .inr (i32 (rdF S A set 960 (lowF (bt (i32 set)) 32 0) (fst0 A r) 0)) else .inr (i32 (-1))) else .inl 2) else .inl 1
theorem c_reads (h : RO M s S A) (r : Int) (z1 : -2147483648 ≤ r) (z2 : r ≤ 2147483647) (z3 : -2147483648 ≤ set) (z4 : set ≤ 2147483647) : ∃ M', f_X11_reads 1 (i32 r) (i32 set) M = some (a_reads S A r set, M') ∧ Scr M M' := by
  obtain ⟨hW, hV, -, h8⟩ := h
  have hS := hW.1
  have hnl := hS.2.1
  have dc : Decidable (isSetP S set) := Classical.propDecidable _
  have hn := X11_needRecord hV r z1 z2
  have hn2 := X11_needSet hV h8 hS set z3 z4
  have hL := hV.1
  unfold a_reads
  by_cases d : 0 ≤ r ∧ r < A.rc
  · rw [if_pos d] at hn ⊢
    by_cases d2 : isSetP S set
    · rw [if_pos d2] at hn2
      rw [if_pos (show 0 < set ∧ set < 2 ^ S.nl from d2)]
      obtain ⟨M1, e1, g1⟩ := X11_isWrong hS hV h8
      have hV1 := hV.scr g1
      have hL1 := hV1.1
      have h81 : mR M1 1 8 = s := by rw [g1.r (by unfold ScR; omega)]; exact h8
      by_cases d3 : (chk S A).1 = 0
      · rw [if_pos d3] at e1
        simp only [d3, if_true]
        have hk := (chk_ok S A).mp d3
        have g2 : Scr M1 (sR (sR M1 8 5 s) 8 6 18) := ((Scr.rf M1).sR (by unfold ScR; omega)).sR (by unfold ScR; omega)
        have hV2 := hV1.scr g2
        have r5 : mR (sR (sR M1 8 5 s) 8 6 18) 8 5 = s := by simp (disch := omega) only [↓reduceIte, add_i0, cast_add1, cast_sub1, toNat120, i32_lit, i32_neg, i32_add, i32_sub, i32_mul, i32_nat, i32_le, i32_lt, i32_eq, inB_i, Int.toNat_natCast, mI_sI_eq, mI_sI_ne, mR_sR_eq, mR_sR_ne, mI_sR, mR_sI, mK_sI, mN_sI, mn_sI, mJ_sI, mK_sR, mN_sR, mn_sR, mJ_sR, mI_wI, mR_wI, mK_wI, mN_wI, mn_wI, mJ_wI, ↓bnd_of, ↓bndX_r, ↓bndX_l, ↓ap_nr, bnd_of, bndX_r, bndX_l, if_true, if_false, ite_true, ite_false, not_true_eq_false, not_false_eq_true, Nat.reduceAdd, Nat.reduceMul, Nat.reduceEqDiff, Int.reduceToNat, Int.reduceNeg, Ilt_t, Ilt_f, Ile_t, Ile_f, Ieq_t, Ieq_f, Nlt_t, Nlt_f, Nle_t, Nle_f, Neq_t, Neq_f, or_true, true_or, or_false, false_or, and_true, true_and, and_false, false_and, ne_eq, or_self, and_self, decide_true, decide_false, Bool.false_eq_true]
        have r6 : mR (sR (sR M1 8 5 s) 8 6 18) 8 6 = 18 := by simp (disch := omega) only [↓reduceIte, add_i0, cast_add1, cast_sub1, toNat120, i32_lit, i32_neg, i32_add, i32_sub, i32_mul, i32_nat, i32_le, i32_lt, i32_eq, inB_i, Int.toNat_natCast, mI_sI_eq, mI_sI_ne, mR_sR_eq, mR_sR_ne, mI_sR, mR_sI, mK_sI, mN_sI, mn_sI, mJ_sI, mK_sR, mN_sR, mn_sR, mJ_sR, mI_wI, mR_wI, mK_wI, mN_wI, mn_wI, mJ_wI, ↓bnd_of, ↓bndX_r, ↓bndX_l, ↓ap_nr, bnd_of, bndX_r, bndX_l, if_true, if_false, ite_true, ite_false, not_true_eq_false, not_false_eq_true, Nat.reduceAdd, Nat.reduceMul, Nat.reduceEqDiff, Int.reduceToNat, Int.reduceNeg, Ilt_t, Ilt_f, Ile_t, Ile_f, Ieq_t, Ieq_f, Nlt_t, Nlt_f, Nle_t, Nle_f, Neq_t, Neq_f, or_true, true_or, or_false, false_or, and_true, true_and, and_false, false_and, ne_eq, or_self, and_self, decide_true, decide_false, Bool.false_eq_true]
        obtain ⟨M3, e3, c3, p3⟩ := X8_goTo hS r d.1 (by omega) hV2 r5 r6
        have g3 := c3.scr (fun a j q => by unfold ScI; omega)
        obtain ⟨c, hc1, hc2, hc3, hc4⟩ := set_first hS d2
        have hst := RdI.start (set := set) hW hV.2.2.2.2.1.1 hk d.1 d.2 hc2 hc3 hc4
        have el := X11_lowestBit (M := M3) (i32 set)
        rw [hc1] at el ⊢
        have hms := msr_le A hV.2.2.2.2.1.1 (fst0 A r) S.nl
        obtain ⟨M4, e4, g4⟩ := X8_reads28 hW hk d2 960 c (fst0 A r) 0 0 FUEL M3 (Or.inr ⟨by omega, by rw [Int.toNat_natCast]; exact hst⟩) (by omega) (by omega) (by unfold FUEL; omega) (hV2.scr g3) (by rw [c3.r]; exact r5) (by rw [c3.r]; exact r6) (fun l hl => by rw [p3 l hl, (fst0_b hk d.1 d.2 hl).1])
        refine ⟨M4, ?_, g1.tr (g2.tr (g3.tr g4))⟩
        have hmn := hV1.2.2.2.2.2.2.2.2
        have hs8 := hV1.2.2.2.2.2.2.2.1
        have e5 : f_X8_countReads 8 s 18 (i32 r) (i32 set) M1 = some (i32 (rdF S A set 960 c (fst0 A r) 0), M4) := by
          rw [← e4]
          simp (disch := omega) only [↓reduceIte, add_i0, cast_add1, cast_sub1, toNat120, i32_lit, i32_neg, i32_add, i32_sub, i32_mul, i32_nat, i32_le, i32_lt, i32_eq, inB_i, Int.toNat_natCast, mI_sI_eq, mI_sI_ne, mR_sR_eq, mR_sR_ne, mI_sR, mR_sI, mK_sI, mN_sI, mn_sI, mJ_sI, mK_sR, mN_sR, mn_sR, mJ_sR, mI_wI, mR_wI, mK_wI, mN_wI, mn_wI, mJ_wI, ↓bnd_of, ↓bndX_r, ↓bndX_l, ↓ap_nr, bnd_of, bndX_r, bndX_l, if_true, if_false, ite_true, ite_false, not_true_eq_false, not_false_eq_true, Nat.reduceAdd, Nat.reduceMul, Nat.reduceEqDiff, Int.reduceToNat, Int.reduceNeg, Ilt_t, Ilt_f, Ile_t, Ile_f, Ieq_t, Ieq_f, Nlt_t, Nlt_f, Nle_t, Nle_f, Neq_t, Neq_f, or_true, true_or, or_false, false_or, and_true, true_and, and_false, false_and, ne_eq, or_self, and_self, decide_true, decide_false, Bool.false_eq_true, f_X8_countReads, hL1.o, okrB_sI, okrB_sR, okB1, ↓bx e3, ↓bx el]
          rfl
        simp (disch := omega) only [↓reduceIte, add_i0, cast_add1, cast_sub1, toNat120, i32_lit, i32_neg, i32_add, i32_sub, i32_mul, i32_nat, i32_le, i32_lt, i32_eq, inB_i, Int.toNat_natCast, mI_sI_eq, mI_sI_ne, mR_sR_eq, mR_sR_ne, mI_sR, mR_sI, mK_sI, mN_sI, mn_sI, mJ_sI, mK_sR, mN_sR, mn_sR, mJ_sR, mI_wI, mR_wI, mK_wI, mN_wI, mn_wI, mJ_wI, ↓bnd_of, ↓bndX_r, ↓bndX_l, ↓ap_nr, bnd_of, bndX_r, bndX_l, if_true, if_false, ite_true, ite_false, not_true_eq_false, not_false_eq_true, Nat.reduceAdd, Nat.reduceMul, Nat.reduceEqDiff, Int.reduceToNat, Int.reduceNeg, Ilt_t, Ilt_f, Ile_t, Ile_f, Ieq_t, Ieq_f, Nlt_t, Nlt_f, Nle_t, Nle_f, Neq_t, Neq_f, or_true, true_or, or_false, false_or, and_true, true_and, and_false, false_and, ne_eq, or_self, and_self, decide_true, decide_false, Bool.false_eq_true, f_X11_reads, hL.o, ↓bxX hn, ↓bxX hn2, ↓bx e1, hL1.o, h81, ↓bx e5]
      · rw [if_neg d3] at e1
        simp only [d3, if_false]
        refine ⟨M1, ?_, g1⟩
        simp (disch := omega) only [↓reduceIte, add_i0, cast_add1, cast_sub1, toNat120, i32_lit, i32_neg, i32_add, i32_sub, i32_mul, i32_nat, i32_le, i32_lt, i32_eq, inB_i, Int.toNat_natCast, mI_sI_eq, mI_sI_ne, mR_sR_eq, mR_sR_ne, mI_sR, mR_sI, mK_sI, mN_sI, mn_sI, mJ_sI, mK_sR, mN_sR, mn_sR, mJ_sR, mI_wI, mR_wI, mK_wI, mN_wI, mn_wI, mJ_wI, ↓bnd_of, ↓bndX_r, ↓bndX_l, ↓ap_nr, bnd_of, bndX_r, bndX_l, if_true, if_false, ite_true, ite_false, not_true_eq_false, not_false_eq_true, Nat.reduceAdd, Nat.reduceMul, Nat.reduceEqDiff, Int.reduceToNat, Int.reduceNeg, Ilt_t, Ilt_f, Ile_t, Ile_f, Ieq_t, Ieq_f, Nlt_t, Nlt_f, Nle_t, Nle_f, Neq_t, Neq_f, or_true, true_or, or_false, false_or, and_true, true_and, and_false, false_and, ne_eq, or_self, and_self, decide_true, decide_false, Bool.false_eq_true, f_X11_reads, hL.o, ↓bxX hn, ↓bxX hn2, ↓bx e1]
    · rw [if_neg d2] at hn2
      rw [if_neg (show ¬ (0 < set ∧ set < 2 ^ S.nl) from d2)]
      refine ⟨M, ?_, Scr.rf M⟩
      simp (disch := omega) only [↓reduceIte, add_i0, cast_add1, cast_sub1, toNat120, i32_lit, i32_neg, i32_add, i32_sub, i32_mul, i32_nat, i32_le, i32_lt, i32_eq, inB_i, Int.toNat_natCast, mI_sI_eq, mI_sI_ne, mR_sR_eq, mR_sR_ne, mI_sR, mR_sI, mK_sI, mN_sI, mn_sI, mJ_sI, mK_sR, mN_sR, mn_sR, mJ_sR, mI_wI, mR_wI, mK_wI, mN_wI, mn_wI, mJ_wI, ↓bnd_of, ↓bndX_r, ↓bndX_l, ↓ap_nr, bnd_of, bndX_r, bndX_l, if_true, if_false, ite_true, ite_false, not_true_eq_false, not_false_eq_true, Nat.reduceAdd, Nat.reduceMul, Nat.reduceEqDiff, Int.reduceToNat, Int.reduceNeg, Ilt_t, Ilt_f, Ile_t, Ile_f, Ieq_t, Ieq_f, Nlt_t, Nlt_f, Nle_t, Nle_f, Neq_t, Neq_f, or_true, true_or, or_false, false_or, and_true, true_and, and_false, false_and, ne_eq, or_self, and_self, decide_true, decide_false, Bool.false_eq_true, f_X11_reads, hL.o, ↓bxX hn, ↓bxL hn2]
  · rw [if_neg d] at hn ⊢
    refine ⟨M, ?_, Scr.rf M⟩
    simp (disch := omega) only [↓reduceIte, add_i0, cast_add1, cast_sub1, toNat120, i32_lit, i32_neg, i32_add, i32_sub, i32_mul, i32_nat, i32_le, i32_lt, i32_eq, inB_i, Int.toNat_natCast, mI_sI_eq, mI_sI_ne, mR_sR_eq, mR_sR_ne, mI_sR, mR_sI, mK_sI, mN_sI, mn_sI, mJ_sI, mK_sR, mN_sR, mn_sR, mJ_sR, mI_wI, mR_wI, mK_wI, mN_wI, mn_wI, mJ_wI, ↓bnd_of, ↓bndX_r, ↓bndX_l, ↓ap_nr, bnd_of, bndX_r, bndX_l, if_true, if_false, ite_true, ite_false, not_true_eq_false, not_false_eq_true, Nat.reduceAdd, Nat.reduceMul, Nat.reduceEqDiff, Int.reduceToNat, Int.reduceNeg, Ilt_t, Ilt_f, Ile_t, Ile_f, Ieq_t, Ieq_f, Nlt_t, Nlt_f, Nle_t, Nle_f, Neq_t, Neq_f, or_true, true_or, or_false, false_or, and_true, true_and, and_false, false_and, ne_eq, or_self, and_self, decide_true, decide_false, Bool.false_eq_true, f_X11_reads, hL.o, ↓bxL hn]
theorem firstR_eq (hk : chkOk S A) {r : Int} (h0 : 0 ≤ r) (h1 : r < A.rc) {l : Nat} (hl : l < S.nl) : firstR A l r = fst0 A r l := by
  have := fst0_b hk h0 h1 hl
  unfold firstR
  rw [this.1, if_neg (by omega)]
theorem X12_reads54 (hW : S.wf) (hk : chkOk S A) : ∀ (k : Nat) (c : Int) (ptr : Nat → Nat) (r n : Nat) (M : Mem), (c = -1 ∨ (0 ≤ c ∧ RdI S A set c.toNat ptr)) → msr A ptr S.nl ≤ k → k < n → RV M S A → (∀ l, l < S.nl → mI M 155 l = i32 (ptr l)) → ∃ M', f_X12_readsOf_54 n 134 (i32 set) (i32 r) (i32 c) M = some (i32 (rdF S A set k c ptr r), M') ∧ Chg (fun a _ => a = 155) M M' := by
  have hS := hW.1
  have hnl := hS.2.1
  intro k
  induction k with
  | zero =>
    intro c ptr r n M hc hm hn hV hp
    obtain ⟨n, rfl⟩ : ∃ m, n = m + 1 := ⟨n - 1, by omega⟩
    refine ⟨M, ?_, Chg.rf _ M⟩
    rcases hc with hc | ⟨hc, hI⟩
    · subst hc
      unfold rdF
      simp (disch := omega) only [↓reduceIte, add_i0, cast_add1, cast_sub1, toNat120, i32_lit, i32_neg, i32_add, i32_sub, i32_mul, i32_nat, i32_le, i32_lt, i32_eq, inB_i, Int.toNat_natCast, mI_sI_eq, mI_sI_ne, mR_sR_eq, mR_sR_ne, mI_sR, mR_sI, mK_sI, mN_sI, mn_sI, mJ_sI, mK_sR, mN_sR, mn_sR, mJ_sR, mI_wI, mR_wI, mK_wI, mN_wI, mn_wI, mJ_wI, ↓bnd_of, ↓bndX_r, ↓bndX_l, ↓ap_nr, bnd_of, bndX_r, bndX_l, if_true, if_false, ite_true, ite_false, not_true_eq_false, not_false_eq_true, Nat.reduceAdd, Nat.reduceMul, Nat.reduceEqDiff, Int.reduceToNat, Int.reduceNeg, Ilt_t, Ilt_f, Ile_t, Ile_f, Ieq_t, Ieq_f, Nlt_t, Nlt_f, Nle_t, Nle_f, Neq_t, Neq_f, or_true, true_or, or_false, false_or, and_true, true_and, and_false, false_and, ne_eq, or_self, and_self, decide_true, decide_false, Bool.false_eq_true, f_X12_readsOf_54]
    · exfalso
      have h1 := hI.1
      have := (msr_up A ptr h1.2.2 S.nl).2 h1.1
      omega
  | succ k ih =>
    intro c ptr r n M hc hm hn hV hp
    obtain ⟨n, rfl⟩ : ∃ m, n = m + 1 := ⟨n - 1, by omega⟩
    by_cases d : c = -1
    · subst d
      refine ⟨M, ?_, Chg.rf _ M⟩
      unfold rdF
      simp (disch := omega) only [↓reduceIte, add_i0, cast_add1, cast_sub1, toNat120, i32_lit, i32_neg, i32_add, i32_sub, i32_mul, i32_nat, i32_le, i32_lt, i32_eq, inB_i, Int.toNat_natCast, mI_sI_eq, mI_sI_ne, mR_sR_eq, mR_sR_ne, mI_sR, mR_sI, mK_sI, mN_sI, mn_sI, mJ_sI, mK_sR, mN_sR, mn_sR, mJ_sR, mI_wI, mR_wI, mK_wI, mN_wI, mn_wI, mJ_wI, ↓bnd_of, ↓bndX_r, ↓bndX_l, ↓ap_nr, bnd_of, bndX_r, bndX_l, if_true, if_false, ite_true, ite_false, not_true_eq_false, not_false_eq_true, Nat.reduceAdd, Nat.reduceMul, Nat.reduceEqDiff, Int.reduceToNat, Int.reduceNeg, Ilt_t, Ilt_f, Ile_t, Ile_f, Ieq_t, Ieq_f, Nlt_t, Nlt_f, Nle_t, Nle_f, Neq_t, Neq_f, or_true, true_or, or_false, false_or, and_true, true_and, and_false, false_and, ne_eq, or_self, and_self, decide_true, decide_false, Bool.false_eq_true, f_X12_readsOf_54]
    · rcases hc with hc | ⟨hc, hI⟩
      · exact absurd hc d
      · obtain ⟨c, rfl⟩ : ∃ q : Nat, c = q := ⟨c.toNat, by omega⟩
        simp only [Int.toNat_natCast] at hI
        have hst := RdI.step hW hV.2.2.1 hk hI
        obtain ⟨⟨hcn, hbc, hpc⟩, -⟩ := hI
        have hz := hV.2.2.1.2.2.2.1 c
        have hms := (msr_up A ptr hpc S.nl).2 hcn
        have b3 := Sc.sr_b hS (S.fo c)
        have g : Chg (fun a _ => a = 155) M (sI M 155 c (i32 ((ptr c + 1 : Nat) : Int))) := (Chg.rf _ M).sI rfl
        have gs := g.scr (fun a j q => by unfold ScI; omega)
        have hV1 := hV.scr hS gs
        have el := X12_nextOf hW hV1 set hcn hbc (rdX A c (ptr c + 1)) hst.1.1 hst.1.2
        obtain ⟨M', q1, q2⟩ := ih (S.nxt set c (rdX A c (ptr c + 1))) (upf ptr c (ptr c + 1)) (r + 1) n (sI M 155 c (i32 ((ptr c + 1 : Nat) : Int))) hst.2 (by omega) (by omega) hV1 (fun l hl => by
          by_cases e : l = c
          · subst e; rw [upf_eq]; exact mI_sI_eq
          · rw [upf_ne _ _ e, ← hp l hl]; simp (disch := omega) only [↓reduceIte, add_i0, cast_add1, cast_sub1, toNat120, i32_lit, i32_neg, i32_add, i32_sub, i32_mul, i32_nat, i32_le, i32_lt, i32_eq, inB_i, Int.toNat_natCast, mI_sI_eq, mI_sI_ne, mR_sR_eq, mR_sR_ne, mI_sR, mR_sI, mK_sI, mN_sI, mn_sI, mJ_sI, mK_sR, mN_sR, mn_sR, mJ_sR, mI_wI, mR_wI, mK_wI, mN_wI, mn_wI, mJ_wI, ↓bnd_of, ↓bndX_r, ↓bndX_l, ↓ap_nr, bnd_of, bndX_r, bndX_l, if_true, if_false, ite_true, ite_false, not_true_eq_false, not_false_eq_true, Nat.reduceAdd, Nat.reduceMul, Nat.reduceEqDiff, Int.reduceToNat, Int.reduceNeg, Ilt_t, Ilt_f, Ile_t, Ile_f, Ieq_t, Ieq_f, Nlt_t, Nlt_f, Nle_t, Nle_f, Neq_t, Neq_f, or_true, true_or, or_false, false_or, and_true, true_and, and_false, false_and, ne_eq, or_self, and_self, decide_true, decide_false, Bool.false_eq_true, e])
        refine ⟨M', ?_, g.tr q2⟩
        have er : rdF S A set (k + 1) c ptr r = rdF S A set k (S.nxt set c (rdX A c (ptr c + 1))) (upf ptr c (ptr c + 1)) (r + 1) := by
          conv => lhs; unfold rdF
          rw [if_neg d, Int.toNat_natCast]
        rw [er, ← q1]
        have hL := hV.1
        have hp1 := hp c hcn
        have a1 := hV.2.2.2.1
        by_cases d2 : ptr c + 1 < A.sz c
        · have ex : rdX A c (ptr c + 1) = A.rp c (ptr c + 1) := by unfold rdX; rw [if_pos d2]
          rw [ex] at el ⊢
          have e2 := X12_repAt hV1.1 hV1.2.2 (l := c) (j := ptr c + 1) (by omega) d2
          simp (disch := omega) only [↓reduceIte, add_i0, cast_add1, cast_sub1, toNat120, i32_lit, i32_neg, i32_add, i32_sub, i32_mul, i32_nat, i32_le, i32_lt, i32_eq, inB_i, Int.toNat_natCast, mI_sI_eq, mI_sI_ne, mR_sR_eq, mR_sR_ne, mI_sR, mR_sI, mK_sI, mN_sI, mn_sI, mJ_sI, mK_sR, mN_sR, mn_sR, mJ_sR, mI_wI, mR_wI, mK_wI, mN_wI, mn_wI, mJ_wI, ↓bnd_of, ↓bndX_r, ↓bndX_l, ↓ap_nr, bnd_of, bndX_r, bndX_l, if_true, if_false, ite_true, ite_false, not_true_eq_false, not_false_eq_true, Nat.reduceAdd, Nat.reduceMul, Nat.reduceEqDiff, Int.reduceToNat, Int.reduceNeg, Ilt_t, Ilt_f, Ile_t, Ile_f, Ieq_t, Ieq_f, Nlt_t, Nlt_f, Nle_t, Nle_f, Neq_t, Neq_f, or_true, true_or, or_false, false_or, and_true, true_and, and_false, false_and, ne_eq, or_self, and_self, decide_true, decide_false, Bool.false_eq_true, f_X12_readsOf_54, f_X12_readsOf_108, hL.o, hp1, a1, ↓bx e2, ↓bx el]
        · have ex : rdX A c (ptr c + 1) = 0 := by unfold rdX; rw [if_neg d2]
          rw [ex] at el ⊢
          simp (disch := omega) only [↓reduceIte, add_i0, cast_add1, cast_sub1, toNat120, i32_lit, i32_neg, i32_add, i32_sub, i32_mul, i32_nat, i32_le, i32_lt, i32_eq, inB_i, Int.toNat_natCast, mI_sI_eq, mI_sI_ne, mR_sR_eq, mR_sR_ne, mI_sR, mR_sI, mK_sI, mN_sI, mn_sI, mJ_sI, mK_sR, mN_sR, mn_sR, mJ_sR, mI_wI, mR_wI, mK_wI, mN_wI, mn_wI, mJ_wI, ↓bnd_of, ↓bndX_r, ↓bndX_l, ↓ap_nr, bnd_of, bndX_r, bndX_l, if_true, if_false, ite_true, ite_false, not_true_eq_false, not_false_eq_true, Nat.reduceAdd, Nat.reduceMul, Nat.reduceEqDiff, Int.reduceToNat, Int.reduceNeg, Ilt_t, Ilt_f, Ile_t, Ile_f, Ieq_t, Ieq_f, Nlt_t, Nlt_f, Nle_t, Nle_f, Neq_t, Neq_f, or_true, true_or, or_false, false_or, and_true, true_and, and_false, false_and, ne_eq, or_self, and_self, decide_true, decide_false, Bool.false_eq_true, f_X12_readsOf_54, f_X12_readsOf_108, hL.o, hp1, a1, ↓bx el]
theorem X12_reads39 (hS : S.ok) {c : Nat} (hc2 : c < S.nl) (hc3 : bt (i32 set) c = true) (hc4 : ∀ i, i < c → bt (i32 set) i = false) : ∀ (k j n : Nat), j + k = c → k < n → f_X12_readsOf_39 n 134 (i32 set) (i32 0) (i32 j) M = f_X12_readsOf_54 FUEL 134 (i32 set) (i32 (0 : Nat)) (i32 c) M := by
  have hnl := hS.2.1
  intro k
  induction k with
  | zero =>
    intro j n hj hn
    obtain ⟨n, rfl⟩ : ∃ m, n = m + 1 := ⟨n - 1, by omega⟩
    have : j = c := by omega
    subst this
    have e := X12_isOf (M := M) (i32 set) (i := j) (by omega)
    rw [if_pos hc3] at e
    simp (disch := omega) only [↓reduceIte, add_i0, cast_add1, cast_sub1, toNat120, i32_lit, i32_neg, i32_add, i32_sub, i32_mul, i32_nat, i32_le, i32_lt, i32_eq, inB_i, Int.toNat_natCast, mI_sI_eq, mI_sI_ne, mR_sR_eq, mR_sR_ne, mI_sR, mR_sI, mK_sI, mN_sI, mn_sI, mJ_sI, mK_sR, mN_sR, mn_sR, mJ_sR, mI_wI, mR_wI, mK_wI, mN_wI, mn_wI, mJ_wI, ↓bnd_of, ↓bndX_r, ↓bndX_l, ↓ap_nr, bnd_of, bndX_r, bndX_l, if_true, if_false, ite_true, ite_false, not_true_eq_false, not_false_eq_true, Nat.reduceAdd, Nat.reduceMul, Nat.reduceEqDiff, Int.reduceToNat, Int.reduceNeg, Ilt_t, Ilt_f, Ile_t, Ile_f, Ieq_t, Ieq_f, Nlt_t, Nlt_f, Nle_t, Nle_f, Neq_t, Neq_f, or_true, true_or, or_false, false_or, and_true, true_and, and_false, false_and, ne_eq, or_self, and_self, decide_true, decide_false, Bool.false_eq_true, f_X12_readsOf_39, ↓bx e]
    rfl
  | succ k ih =>
    intro j n hj hn
    obtain ⟨n, rfl⟩ : ∃ m, n = m + 1 := ⟨n - 1, by omega⟩
    have e := X12_isOf (M := M) (i32 set) (i := j) (by omega)
    rw [if_neg (by rw [hc4 j (by omega)]; decide)] at e
    rw [← ih (j + 1) n (by omega) (by omega)]
    simp (disch := omega) only [↓reduceIte, add_i0, cast_add1, cast_sub1, toNat120, i32_lit, i32_neg, i32_add, i32_sub, i32_mul, i32_nat, i32_le, i32_lt, i32_eq, inB_i, Int.toNat_natCast, mI_sI_eq, mI_sI_ne, mR_sR_eq, mR_sR_ne, mI_sR, mR_sI, mK_sI, mN_sI, mn_sI, mJ_sI, mK_sR, mN_sR, mn_sR, mJ_sR, mI_wI, mR_wI, mK_wI, mN_wI, mn_wI, mJ_wI, ↓bnd_of, ↓bndX_r, ↓bndX_l, ↓ap_nr, bnd_of, bndX_r, bndX_l, if_true, if_false, ite_true, ite_false, not_true_eq_false, not_false_eq_true, Nat.reduceAdd, Nat.reduceMul, Nat.reduceEqDiff, Int.reduceToNat, Int.reduceNeg, Ilt_t, Ilt_f, Ile_t, Ile_f, Ieq_t, Ieq_f, Nlt_t, Nlt_f, Nle_t, Nle_f, Neq_t, Neq_f, or_true, true_or, or_false, false_or, and_true, true_and, and_false, false_and, ne_eq, or_self, and_self, decide_true, decide_false, Bool.false_eq_true, f_X12_readsOf_39, ↓bx e]
theorem X12_reads5 (hS : S.ok) (r : Int) (r0 : 0 ≤ r) (r1 : r ≤ 2147483647) : ∀ (k j n : Nat) (M : Mem), j + k = S.nl → k < n → RV M S A → (∀ l, l < j → mI M 155 l = i32 (firstR A l r)) → ∃ M', f_X12_readsOf_5 n 134 (i32 r) (i32 set) (i32 0) (i32 j) M = f_X12_readsOf_39 FUEL 134 (i32 set) (i32 0) (i32 (0 : Nat)) M' ∧ Chg (fun a _ => a = 155) M M' ∧ ∀ l, l < S.nl → mI M' 155 l = i32 (firstR A l r) := by
  have hnl := hS.2.1
  intro k
  induction k with
  | zero =>
    intro j n M hj hn hV hp
    obtain ⟨n, rfl⟩ : ∃ m, n = m + 1 := ⟨n - 1, by omega⟩
    have hL := hV.1
    have c1 := hV.2.1.2.1
    refine ⟨M, ?_, Chg.rf _ M, fun l hl => hp l (by omega)⟩
    simp (disch := omega) only [↓reduceIte, add_i0, cast_add1, cast_sub1, toNat120, i32_lit, i32_neg, i32_add, i32_sub, i32_mul, i32_nat, i32_le, i32_lt, i32_eq, inB_i, Int.toNat_natCast, mI_sI_eq, mI_sI_ne, mR_sR_eq, mR_sR_ne, mI_sR, mR_sI, mK_sI, mN_sI, mn_sI, mJ_sI, mK_sR, mN_sR, mn_sR, mJ_sR, mI_wI, mR_wI, mK_wI, mN_wI, mn_wI, mJ_wI, ↓bnd_of, ↓bndX_r, ↓bndX_l, ↓ap_nr, bnd_of, bndX_r, bndX_l, if_true, if_false, ite_true, ite_false, not_true_eq_false, not_false_eq_true, Nat.reduceAdd, Nat.reduceMul, Nat.reduceEqDiff, Int.reduceToNat, Int.reduceNeg, Ilt_t, Ilt_f, Ile_t, Ile_f, Ieq_t, Ieq_f, Nlt_t, Nlt_f, Nle_t, Nle_f, Neq_t, Neq_f, or_true, true_or, or_false, false_or, and_true, true_and, and_false, false_and, ne_eq, or_self, and_self, decide_true, decide_false, Bool.false_eq_true, f_X12_readsOf_5, hL.o, c1]
    rfl
  | succ k ih =>
    intro j n M hj hn hV hp
    obtain ⟨n, rfl⟩ : ∃ m, n = m + 1 := ⟨n - 1, by omega⟩
    have hL := hV.1
    have c1 := hV.2.1.2.1
    have e1 := X12_firstOf hL hV.2.2 (l := j) (by omega) r r0 r1
    have g : Chg (fun a _ => a = 155) M (sI M 155 j (i32 (firstR A j r))) := (Chg.rf _ M).sI rfl
    have gs := g.scr (fun a j q => by unfold ScI; omega)
    obtain ⟨M', q1, q2, q3⟩ := ih (j + 1) n _ (by omega) (by omega) (hV.scr hS gs) (fun l hl => by
      by_cases e : l = j
      · subst e; exact mI_sI_eq
      · have := hp l (by omega)
        simp (disch := omega) only [↓reduceIte, add_i0, cast_add1, cast_sub1, toNat120, i32_lit, i32_neg, i32_add, i32_sub, i32_mul, i32_nat, i32_le, i32_lt, i32_eq, inB_i, Int.toNat_natCast, mI_sI_eq, mI_sI_ne, mR_sR_eq, mR_sR_ne, mI_sR, mR_sI, mK_sI, mN_sI, mn_sI, mJ_sI, mK_sR, mN_sR, mn_sR, mJ_sR, mI_wI, mR_wI, mK_wI, mN_wI, mn_wI, mJ_wI, ↓bnd_of, ↓bndX_r, ↓bndX_l, ↓ap_nr, bnd_of, bndX_r, bndX_l, if_true, if_false, ite_true, ite_false, not_true_eq_false, not_false_eq_true, Nat.reduceAdd, Nat.reduceMul, Nat.reduceEqDiff, Int.reduceToNat, Int.reduceNeg, Ilt_t, Ilt_f, Ile_t, Ile_f, Ieq_t, Ieq_f, Nlt_t, Nlt_f, Nle_t, Nle_f, Neq_t, Neq_f, or_true, true_or, or_false, false_or, and_true, true_and, and_false, false_and, ne_eq, or_self, and_self, decide_true, decide_false, Bool.false_eq_true, e, this])
    refine ⟨M', ?_, g.tr q2, q3⟩
    rw [← q1]
    simp (disch := omega) only [↓reduceIte, add_i0, cast_add1, cast_sub1, toNat120, i32_lit, i32_neg, i32_add, i32_sub, i32_mul, i32_nat, i32_le, i32_lt, i32_eq, inB_i, Int.toNat_natCast, mI_sI_eq, mI_sI_ne, mR_sR_eq, mR_sR_ne, mI_sR, mR_sI, mK_sI, mN_sI, mn_sI, mJ_sI, mK_sR, mN_sR, mn_sR, mJ_sR, mI_wI, mR_wI, mK_wI, mN_wI, mn_wI, mJ_wI, ↓bnd_of, ↓bndX_r, ↓bndX_l, ↓ap_nr, bnd_of, bndX_r, bndX_l, if_true, if_false, ite_true, ite_false, not_true_eq_false, not_false_eq_true, Nat.reduceAdd, Nat.reduceMul, Nat.reduceEqDiff, Int.reduceToNat, Int.reduceNeg, Ilt_t, Ilt_f, Ile_t, Ile_f, Ieq_t, Ieq_f, Nlt_t, Nlt_f, Nle_t, Nle_f, Neq_t, Neq_f, or_true, true_or, or_false, false_or, and_true, true_and, and_false, false_and, ne_eq, or_self, and_self, decide_true, decide_false, Bool.false_eq_true, f_X12_readsOf_5, hL.o, c1, ↓bx e1]
theorem r_reads (hW : S.wf) (hV : RV M S A) (r : Int) (z1 : -2147483648 ≤ r) (z2 : r ≤ 2147483647) (z3 : -2147483648 ≤ set) (z4 : set ≤ 2147483647) : ∃ v M', f_X12_reads 134 (i32 r) (i32 set) M = some (v, M') ∧ RA M M' (a_reads S A r set) v := by
  generalize ha : a_reads S A r set = ans
  unfold f_X12_reads
  refine ref_start2 hW hV (fun M0 g0 hV0 hc0 => ?_)
  have hS := hW.1
  have hnl := hS.2.1
  have dc : Decidable (isSetP S set) := Classical.propDecidable _
  have hn := X12_isRecord hV0 r z1 z2
  have hn2 := X12_isSet hV0 hS set z3 z4
  have hf := X12_fail hV0.1 1
  have hf2 := X12_fail hV0.1 2
  have hL := hV0.1
  have hb := chkF_b S A hV.2.2.1 S.nl 0
  have hb2 : 0 ≤ (chk S A).1 ∧ (chk S A).1 ≤ 5 := ⟨hb.1, hb.2.1⟩
  unfold a_reads at ha
  by_cases d : 0 ≤ r ∧ r < A.rc
  · rw [if_pos d] at hn ha
    by_cases d2 : isSetP S set
    · rw [if_pos d2] at hn2
      rw [if_pos (show 0 < set ∧ set < 2 ^ S.nl from d2)] at ha
      have e1 := X12_checked hW hV0
      have gw := wrM_scr M0 (chk S A).2.1 (chk S A).2.2
      have f0 : mI (wrM M0 (chk S A).2.1 (chk S A).2.2) 134 2 = i32 0 := by unfold wrM; simp (disch := omega) only [↓reduceIte, add_i0, cast_add1, cast_sub1, toNat120, i32_lit, i32_neg, i32_add, i32_sub, i32_mul, i32_nat, i32_le, i32_lt, i32_eq, inB_i, Int.toNat_natCast, mI_sI_eq, mI_sI_ne, mR_sR_eq, mR_sR_ne, mI_sR, mR_sI, mK_sI, mN_sI, mn_sI, mJ_sI, mK_sR, mN_sR, mn_sR, mJ_sR, mI_wI, mR_wI, mK_wI, mN_wI, mn_wI, mJ_wI, ↓bnd_of, ↓bndX_r, ↓bndX_l, ↓ap_nr, bnd_of, bndX_r, bndX_l, if_true, if_false, ite_true, ite_false, not_true_eq_false, not_false_eq_true, Nat.reduceAdd, Nat.reduceMul, Nat.reduceEqDiff, Int.reduceToNat, Int.reduceNeg, Ilt_t, Ilt_f, Ile_t, Ile_f, Ieq_t, Ieq_f, Nlt_t, Nlt_f, Nle_t, Nle_f, Neq_t, Neq_f, or_true, true_or, or_false, false_or, and_true, true_and, and_false, false_and, ne_eq, or_self, and_self, decide_true, decide_false, Bool.false_eq_true, hc0]
      have hV1 := hV0.scr hS gw
      have hL1 := hV1.1
      generalize wrM M0 (chk S A).2.1 (chk S A).2.2 = M1 at e1 gw f0 hV1 hL1
      by_cases d3 : (chk S A).1 = 0
      · rw [if_pos d3] at ha
        have hk := (chk_ok S A).mp d3
        obtain ⟨c, hc1, hc2, hc3, hc4⟩ := set_first hS d2
        rw [hc1] at ha
        have hst := RdI.start (set := set) hW hV.2.2.1 hk d.1 d.2 hc2 hc3 hc4
        have hms := msr_le A hV.2.2.1 (fst0 A r) S.nl
        obtain ⟨M2, e2, g2, p2⟩ := X12_reads5 (set := set) hS r d.1 (by omega) S.nl 0 FUEL M1 (by omega) (by unfold FUEL; omega) hV1 (fun l hl => by omega)
        have g2s := g2.scr (fun a j q => by unfold ScI; omega)
        have e3 := X12_reads39 (M := M2) hS hc2 hc3 hc4 c 0 FUEL (by omega) (by unfold FUEL; omega)
        obtain ⟨M4, e4, g4⟩ := X12_reads54 hW hk 960 c (fst0 A r) 0 FUEL M2 (Or.inr ⟨by omega, by rw [Int.toNat_natCast]; exact hst⟩) (by omega) (by unfold FUEL; omega) (hV1.scr hS g2s) (fun l hl => by rw [p2 l hl, firstR_eq hk d.1 d.2 hl])
        have g4s := g4.scr (fun a j q => by unfold ScI; omega)
        have e5 : f_X12_readsOf 134 (i32 r) (i32 set) M1 = some (i32 (rdF S A set 960 c (fst0 A r) 0), M4) := by
          rw [← e4, ← e3, ← e2]
          rfl
        subst ha
        refine ⟨_, M4, ?_, RA_2 (gw.tr (g2s.tr g4s)) (by rw [g4.i (by omega), g2.i (by omega)]; exact f0) _⟩
        rw [d3] at e1
        simp (disch := omega) only [↓reduceIte, add_i0, cast_add1, cast_sub1, toNat120, i32_lit, i32_neg, i32_add, i32_sub, i32_mul, i32_nat, i32_le, i32_lt, i32_eq, inB_i, Int.toNat_natCast, mI_sI_eq, mI_sI_ne, mR_sR_eq, mR_sR_ne, mI_sR, mR_sI, mK_sI, mN_sI, mn_sI, mJ_sI, mK_sR, mN_sR, mn_sR, mJ_sR, mI_wI, mR_wI, mK_wI, mN_wI, mn_wI, mJ_wI, ↓bnd_of, ↓bndX_r, ↓bndX_l, ↓ap_nr, bnd_of, bndX_r, bndX_l, if_true, if_false, ite_true, ite_false, not_true_eq_false, not_false_eq_true, Nat.reduceAdd, Nat.reduceMul, Nat.reduceEqDiff, Int.reduceToNat, Int.reduceNeg, Ilt_t, Ilt_f, Ile_t, Ile_f, Ieq_t, Ieq_f, Nlt_t, Nlt_f, Nle_t, Nle_f, Neq_t, Neq_f, or_true, true_or, or_false, false_or, and_true, true_and, and_false, false_and, ne_eq, or_self, and_self, decide_true, decide_false, Bool.false_eq_true, hL.o, ↓bx hn, ↓bx hn2, ↓bx e1, hL1.o, ↓bx e5]
      · rw [if_neg d3] at ha
        subst ha
        refine ⟨_, M1, ?_, RA_2 gw f0 _⟩
        simp (disch := omega) only [↓reduceIte, add_i0, cast_add1, cast_sub1, toNat120, i32_lit, i32_neg, i32_add, i32_sub, i32_mul, i32_nat, i32_le, i32_lt, i32_eq, inB_i, Int.toNat_natCast, mI_sI_eq, mI_sI_ne, mR_sR_eq, mR_sR_ne, mI_sR, mR_sI, mK_sI, mN_sI, mn_sI, mJ_sI, mK_sR, mN_sR, mn_sR, mJ_sR, mI_wI, mR_wI, mK_wI, mN_wI, mn_wI, mJ_wI, ↓bnd_of, ↓bndX_r, ↓bndX_l, ↓ap_nr, bnd_of, bndX_r, bndX_l, if_true, if_false, ite_true, ite_false, not_true_eq_false, not_false_eq_true, Nat.reduceAdd, Nat.reduceMul, Nat.reduceEqDiff, Int.reduceToNat, Int.reduceNeg, Ilt_t, Ilt_f, Ile_t, Ile_f, Ieq_t, Ieq_f, Nlt_t, Nlt_f, Nle_t, Nle_f, Neq_t, Neq_f, or_true, true_or, or_false, false_or, and_true, true_and, and_false, false_and, ne_eq, or_self, and_self, decide_true, decide_false, Bool.false_eq_true, hL.o, ↓bx hn, ↓bx hn2, ↓bx e1]
    · rw [if_neg d2] at hn2
      rw [if_neg (show ¬ (0 < set ∧ set < 2 ^ S.nl) from d2)] at ha
      subst ha
      refine ⟨_, _, ?_, RA_f 2 (i32 0)⟩
      simp (disch := omega) only [↓reduceIte, add_i0, cast_add1, cast_sub1, toNat120, i32_lit, i32_neg, i32_add, i32_sub, i32_mul, i32_nat, i32_le, i32_lt, i32_eq, inB_i, Int.toNat_natCast, mI_sI_eq, mI_sI_ne, mR_sR_eq, mR_sR_ne, mI_sR, mR_sI, mK_sI, mN_sI, mn_sI, mJ_sI, mK_sR, mN_sR, mn_sR, mJ_sR, mI_wI, mR_wI, mK_wI, mN_wI, mn_wI, mJ_wI, ↓bnd_of, ↓bndX_r, ↓bndX_l, ↓ap_nr, bnd_of, bndX_r, bndX_l, if_true, if_false, ite_true, ite_false, not_true_eq_false, not_false_eq_true, Nat.reduceAdd, Nat.reduceMul, Nat.reduceEqDiff, Int.reduceToNat, Int.reduceNeg, Ilt_t, Ilt_f, Ile_t, Ile_f, Ieq_t, Ieq_f, Nlt_t, Nlt_f, Nle_t, Nle_f, Neq_t, Neq_f, or_true, true_or, or_false, false_or, and_true, true_and, and_false, false_and, ne_eq, or_self, and_self, decide_true, decide_false, Bool.false_eq_true, hL.o, ↓bx hn, ↓bx hn2, hf2]
      rfl
  · rw [if_neg d] at hn ha
    subst ha
    refine ⟨_, _, ?_, RA_f 1 (i32 0)⟩
    simp (disch := omega) only [↓reduceIte, add_i0, cast_add1, cast_sub1, toNat120, i32_lit, i32_neg, i32_add, i32_sub, i32_mul, i32_nat, i32_le, i32_lt, i32_eq, inB_i, Int.toNat_natCast, mI_sI_eq, mI_sI_ne, mR_sR_eq, mR_sR_ne, mI_sR, mR_sI, mK_sI, mN_sI, mn_sI, mJ_sI, mK_sR, mN_sR, mn_sR, mJ_sR, mI_wI, mR_wI, mK_wI, mN_wI, mn_wI, mJ_wI, ↓bnd_of, ↓bndX_r, ↓bndX_l, ↓ap_nr, bnd_of, bndX_r, bndX_l, if_true, if_false, ite_true, ite_false, not_true_eq_false, not_false_eq_true, Nat.reduceAdd, Nat.reduceMul, Nat.reduceEqDiff, Int.reduceToNat, Int.reduceNeg, Ilt_t, Ilt_f, Ile_t, Ile_f, Ieq_t, Ieq_f, Nlt_t, Nlt_f, Nle_t, Nle_f, Neq_t, Neq_f, or_true, true_or, or_false, false_or, and_true, true_and, and_false, false_and, ne_eq, or_self, and_self, decide_true, decide_false, Bool.false_eq_true, hL.o, ↓bx hn, hf]
    rfl
end
