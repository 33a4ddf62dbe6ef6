/-! add in the reference: a record is read -/
def brC (a j : Nat) : Prop := apC a j ∨ rdR a j
def BRL (M : Mem) (S : Sc) (tb : Nat → Int) (n : Nat) : Prop := RLay M ∧ RS0 M S ∧ TXr M tb n
def BRes (M M' : Mem) (tb : Nat → Int) (n : Nat) (B : St) (x : Rd) : Prop := Chg brC M M' ∧ match x with
  | .inl y => RBad M' y.1 y.2
  | .inr p => RTk M' tb n p.1 ∧ mI M' 134 12 = i32 0 ∧ RX M' (B.apL p.2)
section
variable {M M' : Mem} {S : Sc} {tb : Nat → Int} {n : Nat} {B : St}
theorem BRL.chg (h : BRL M S tb n) (g : Chg brC M M') : BRL M' S tb n := ⟨h.1.all g, h.2.1.chg g (fun a j q => by unfold brC apC rdR at q; omega), h.2.2.chg g (by unfold brC apC rdR; omega) (fun i => by unfold brC apC rdR; omega)⟩
theorem tkR_br (a j : Nat) (q : tkR a j) : brC a j := Or.inr (tkR_rd a j q)
theorem rdR_br (a j : Nat) (q : rdR a j) : brC a j := Or.inr q
theorem apC_br (a j : Nat) (q : apC a j) : brC a j := Or.inl q
theorem RX.tk (h : RX M B) (g : Chg tkR M M') : RX M' B := h.cg (fun j => g.i (by unfold tkR; omega)) (fun j => g.i (by unfold tkR; omega))
theorem bad.tk (h : mI M 134 12 = i32 0) (g : Chg tkR M M') : mI M' 134 12 = i32 0 := by rw [g.i (by unfold tkR; omega)]; exact h
theorem RTk.ap {e : Nat} (h : RTk M tb n e) (g : Chg apC M M') : RTk M' tb n e := by
  have q : ∀ j, mI M' 134 j = mI M 134 j := fun j => g.i (by unfold apC; omega)
  obtain ⟨h1, h2, h3, h4, h5⟩ := h
  exact ⟨by rw [q]; exact h1, by rw [q]; exact h2, by rw [q]; exact h3, by rw [q]; exact h4, fun w => by rw [q]; exact h5 w⟩
theorem bad.ap (h : mI M 134 12 = i32 0) (g : Chg apC M M') : mI M' 134 12 = i32 0 := by rw [g.i (by unfold apC; omega)]; exact h
theorem RBad.nz {f : Int} {b : Nat} (h : RBad M f b) : ¬ (mI M 134 12 = i32 0) := by
  obtain ⟨h1, -, h3, h4⟩ := h
  rw [h1]
  exact i32_ne (by omega) (by omega) (by omega) (by omega) (by omega)
theorem step_br (hR : BRL M S tb n) (hX : RX M B) (hb : mI M 134 12 = i32 0) {e : Nat} (he : e ≤ n) (hk : RTk M tb n e) : ∃ M1, f_X12_stepOn 134 M = some ((), M1) ∧ Chg brC M M1 ∧ BRL M1 S tb n ∧ RX M1 B ∧ RTk M1 tb n (tkE tb n e) ∧ mI M1 134 12 = i32 0 := by
  have t := tk_b tb he
  obtain ⟨M1, e1, g1, k1⟩ := X12_stepOn hR.1 hR.2.2 hk.2.2.2.1 t.2.2.2.1
  exact ⟨M1, e1, g1.mono tkR_br, hR.chg (g1.mono tkR_br), hX.tk g1, k1, bad.tk hb g1⟩
/-- what the call for a group does -/
def HKb (S : Sc) (tb : Nat → Int) (n : Nat) (kF : Nat → Int32 → Int32 → Int32 → Mem → Option (Unit × Mem)) (sub : Nat → Int → Int → Nat → Rd) (f : Nat) : Prop := ∀ (M : Mem) (B : St) (r : Int) (e : Nat), BRL M S tb n → RX M B → mI M 134 12 = i32 0 → RTk M tb n e → e ≤ n → (∀ l, B.sz l + 8 * (n - e) ≤ 100000) → 0 ≤ r → r ≤ 9 → ∃ M', kF 134 (i32 f) (i32 r) (i32 (S.sd f)) M = some ((), M') ∧ BRes M M' tb n B (sub f r (S.sd f) e)
def HKn (S : Sc) (kF : Nat → Int32 → Int32 → Int32 → Mem → Option (Unit × Mem)) : Prop := ∀ (M : Mem) (f : Int) (b : Nat) (x r d : Int32), RLay M → RS0 M S → RBad M f b → kF 134 x r d M = some ((), M)
theorem X12_readItem {kF : Nat → Int32 → Int32 → Int32 → Mem → Option (Unit × Mem)} {sub : Nat → Int → Int → Nat → Rd} {f : Nat} (hW : S.wf) (hf : f < S.nf) (hk : S.lf f = -1 → HKb S tb n kF sub f) (hn : HKn S kF) (ho : S.lf f = -1 → HOk S n sub f) {r : Int} (r0 : 0 ≤ r) (r9 : r ≤ 9) {e : Nat} (hR : BRL M S tb n) (hX : RX M B) (hb : mI M 134 12 = i32 0) (hT : RTk M tb n e) (he : e ≤ n) (hz : ∀ l, B.sz l + 8 * (n - e) ≤ 100000) : ∃ M', f_X12_readItem kF 134 (i32 f) (i32 r) (i32 (S.sd f)) M = some ((), M') ∧ BRes M M' tb n B (rdIt S tb n sub f r (S.sd f) e) := by
  obtain ⟨hL, hR0, hTX⟩ := id hR
  have hS := hW.1
  have hnf := hS.1
  have hnl := hS.2.1
  have lb := hS.2.2.2.2.1 f
  have sb := hS.2.2.2.2.2.1 f
  have hbt := hTX.2.2.2
  have r17 : mR M 134 17 = 141 := by simp only [hL.o]
  have k141 : mK M 141 = 21 := by simp only [hL.o]
  have n141 : mN M 141 = 48 := by simp only [hL.o]
  have inf : inB (i32 (f : Int)) 48 = true := by simp (disch := omega) only [↓reduceIte, add_i0, cast_add1, cast_sub1, toNat120, i32_lit, i32_neg, i32_add, i32_sub, i32_mul, i32_nat, i32_le, i32_lt, i32_eq, inB_i, Int.toNat_natCast, mI_sI_eq, mI_sI_ne, mR_sR_eq, mR_sR_ne, mI_sR, mR_sI, mK_sI, mN_sI, mn_sI, mJ_sI, mK_sR, mN_sR, mn_sR, mJ_sR, mI_wI, mR_wI, mK_wI, mN_wI, mn_wI, mJ_wI, ↓bnd_of, ↓bndX_r, ↓bndX_l, ↓ap_nr, bnd_of, bndX_r, bndX_l, if_true, if_false, ite_true, ite_false, not_true_eq_false, not_false_eq_true, Nat.reduceAdd, Nat.reduceMul, Nat.reduceEqDiff, Int.reduceToNat, Int.reduceNeg, Ilt_t, Ilt_f, Ile_t, Ile_f, Ieq_t, Ieq_f, Nlt_t, Nlt_f, Nle_t, Nle_f, Neq_t, Neq_f, or_true, true_or, or_false, false_or, and_true, true_and, and_false, false_and, ne_eq, or_self, and_self, decide_true, decide_false, Bool.false_eq_true]
  have el : mI M 141 f = i32 (S.lf f) := hR0.2.2.2.2.1 f hf
  unfold f_X12_readItem
  rw [if_pos hL.k, r17, if_pos k141, n141, if_pos inf, nat_i (by omega), el]
  unfold rdIt
  by_cases q : S.lf f = -1
  · rw [if_pos q, q, if_pos (by rfl)]
    by_cases k : tkK tb n e = 40
    · rw [if_pos k]
      have go := tk_go hbt he (by omega)
      obtain ⟨M1, e1, g1, hT1⟩ := X12_markY hL hTX hT he hb 40 (by omega) (by omega) k
      have e1 : f_X12_mark 134 (40 : Int32) M = _ := e1
      have gb1 := g1.mono tkR_br
      have hR1 := hR.chg gb1
      have hb1 := bad.tk hb g1
      obtain ⟨M2, e2, a2⟩ := hk q M1 B r (tkE tb n e) hR1 (hX.tk g1) hb1 hT1 go.2.1 (fun l => by have := hz l; omega) r0 r9
      have o2 := ho q r (tkE tb n e) r0 r9 go.2.1
      have hR2 := hR1.chg a2.1
      rw [bx e1, if_pos hR1.1.k, bx e2, if_pos hR2.1.k]
      revert a2 o2
      generalize sub f r (S.sd f) (tkE tb n e) = y
      intro a2 o2
      match y, a2, o2 with
      | .inl y, a2, o2 =>
        have e3 := X12_markN hR2.1 a2.2 (41 : Int32)
        refine ⟨M2, ?_, gb1.tr a2.1, a2.2⟩
        rw [bx e3]
      | .inr p, a2, o2 =>
        obtain ⟨b1, b2, b3, b4⟩ := a2
        by_cases k41 : tkK tb n p.1 = 41
        · obtain ⟨M3, e3, g3, hT3⟩ := X12_markY hR2.1 hR2.2.2 b2 o2.2.1 b3 41 (by omega) (by omega) k41
          have e3 : f_X12_mark 134 (41 : Int32) M2 = _ := e3
          have ex : rbd (.inr p) (fun e2 => if tkK tb n e2 = 41 then .inr (tkE tb n e2, []) else .inl (1, tkB tb n e2)) = .inr (tkE tb n p.1, p.2 ++ []) := rbd_rr (q := (tkE tb n p.1, [])) (if_pos k41)
          rw [ex]
          refine ⟨M3, ?_, gb1.tr (b1.tr (g3.mono tkR_br)), hT3, bad.tk b3 g3, ?_⟩
          · rw [bx e3]
          · show RX M3 (B.apL (p.2 ++ []))
            rw [List.append_nil]
            exact b4.tk g3
        · obtain ⟨M3, e3, g3, b5⟩ := X12_markF hR2.1 hR2.2.2 b2 o2.2.1 b3 41 (by omega) (by omega) k41
          have e3 : f_X12_mark 134 (41 : Int32) M2 = _ := e3
          have ex : rbd (.inr p) (fun e2 => if tkK tb n e2 = 41 then .inr (tkE tb n e2, []) else .inl (1, tkB tb n e2)) = .inl (1, tkB tb n p.1) := rbd_rl (if_neg k41)
          rw [ex]
          refine ⟨M3, ?_, gb1.tr (b1.tr (g3.mono rdR_br)), b5⟩
          rw [bx e3]
    · rw [if_neg k]
      obtain ⟨M1, e1, g1, b1⟩ := X12_markF hL hTX hT he hb 40 (by omega) (by omega) k
      have e1 : f_X12_mark 134 (40 : Int32) M = _ := e1
      have hR1 := hR.chg (g1.mono rdR_br)
      have e2 := hn M1 1 (tkB tb n e) (i32 f) (i32 r) (i32 (S.sd f)) hR1.1 hR1.2.1 b1
      have e3 := X12_markN hR1.1 b1 (41 : Int32)
      refine ⟨M1, ?_, g1.mono rdR_br, b1⟩
      rw [bx e1, if_pos hR1.1.k, bx e2, if_pos hR1.1.k, bx e3]
  · have nq : ¬ (i32 (S.lf f) = i32 (-1)) := i32_ne (by omega) (by omega) (by omega) (by omega) q
    rw [if_neg q, if_neg (by exact nq)]
    have w := hW.2.2.2.2.2.1 f hf q
    have nfb := nfS_b tb n e
    by_cases k : nfS tb n e = 0
    · rw [if_pos k]
      have nb := nmS_b tb k hbt
      obtain ⟨M1, e1, g1, hT1⟩ := X12_readNumberY hL hTX hT he hb 0 (by omega) (by omega) k nb.1
      have e1 : f_X12_readNumber 134 (0 : Int32) M = _ := e1
      have gb1 := g1.mono tkR_br
      have hR1 := hR.chg gb1
      have hL1 := hR1.1
      have hb1 := bad.tk hb g1
      obtain ⟨l, hl⟩ : ∃ l : Nat, S.lf f = l := ⟨(S.lf f).toNat, by omega⟩
      have ll : (S.lf f).toNat = l := by omega
      obtain ⟨M2, e2, g2, x2⟩ := X12_append (nl := S.nl) (l := l) (r := r) (d := S.sd f) (v := nmS tb n e) hL1 (hX.tk g1) hnl ⟨by show l < S.nl; omega, ⟨r0, r9⟩, sb, by show 0 ≤ nmS tb n e ∧ nmS tb n e ≤ 999; omega⟩ (by have := hz l; omega)
      have r171 : mR M1 134 17 = 141 := by simp only [hL1.o]
      have k1411 : mK M1 141 = 21 := by simp only [hL1.o]
      have n1411 : mN M1 141 = 48 := by simp only [hL1.o]
      have el1 : mI M1 141 f = i32 (l : Int) := by rw [← hl]; exact hR1.2.1.2.2.2.2.1 f hf
      rw [ll]
      refine ⟨M2, ?_, gb1.tr (g2.mono apC_br), hT1.ap g2, bad.ap hb1 g2, x2⟩
      rw [bx e1, if_pos hL1.k, hb1, if_pos (by rfl), r171, if_pos k1411, n1411, if_pos inf, el1, bx e2]
    · rw [if_neg k]
      obtain ⟨M1, e1, g1, b1⟩ := X12_readNumberF hL hTX hT he hb 0 (by omega) (by omega) (Or.inl k)
      have e1 : f_X12_readNumber 134 (0 : Int32) M = _ := e1
      rw [if_pos (show nfS tb n e ≠ 0 from k)] at b1
      have hR1 := hR.chg (g1.mono rdR_br)
      refine ⟨M1, ?_, g1.mono rdR_br, b1⟩
      rw [bx e1, if_pos hR1.1.k, if_neg (by exact b1.nz)]
theorem X12_many70 {kF : Nat → Int32 → Int32 → Int32 → Mem → Option (Unit × Mem)} (hL : RLay M) {f : Int} {b : Nat} (h : RBad M f b) : f_X12_readMany_70 kF 134 M = some ((), M) := by
  unfold f_X12_readMany_70
  rw [if_pos hL.k, bx (X12_markN hL h _)]
theorem X12_many25b {kF : Nat → Int32 → Int32 → Int32 → Mem → Option (Unit × Mem)} (hL : RLay M) {f : Int} {b : Nat} (h : RBad M f b) (m : Nat) (x r d v : Int32) : f_X12_readMany_25 kF (m + 1) 134 x r d v M = some ((), M) := by
  unfold f_X12_readMany_25
  rw [if_pos hL.k, if_neg (by exact h.nz), X12_many70 hL h]
theorem X12_many25 {kF : Nat → Int32 → Int32 → Int32 → Mem → Option (Unit × Mem)} {sub : Nat → Int → Int → Nat → Rd} {f : Nat} (hn7 : n ≤ 700) (hW : S.wf) (hf : f < S.nf) (hk : S.lf f = -1 → HKb S tb n kF sub f) (hn : HKn S kF) (ho : S.lf f = -1 → HOk S n sub f) {r dd : Int} (hdd : S.sd f = dd + 1) (r0 : 0 ≤ r) (r9 : r ≤ 9) : ∀ (k i m : Nat) (M : Mem) (B : St) (e : Nat), n - e < k → n - e + 1 < m → BRL M S tb n → RX M B → mI M 134 12 = i32 0 → RTk M tb n e → e ≤ n → (∀ l, B.sz l + 8 * (n - e) ≤ 100000) → ∃ M', f_X12_readMany_25 kF m 134 (i32 f) (i32 r) (i32 dd) (i32 (if i = 0 then 1 else 0)) M = some ((), M') ∧ BRes M M' tb n B (rdIs S tb n sub f r dd k i e) := by
  have hS := hW.1
  have hnf := hS.1
  have rb := hS.2.2.2.2.2.2.1 f
  intro k
  induction k with
  | zero => intro i m M B e hk; omega
  | succ k ih =>
    intro i m M B e hke hme hR hX hb hT he hz
    obtain ⟨m, rfl⟩ : ∃ q, m = q + 1 := ⟨m - 1, by omega⟩
    obtain ⟨hL, hR0, hTX⟩ := id hR
    have hbt := hTX.2.2.2
    have em := X12_isMarked hL hTX hT he hb 93 (by omega) (by omega)
    have em : f_X12_isMarked 134 (93 : Int32) M = _ := em
    unfold rdIs
    by_cases c : tkK tb n e = 93
    · rw [if_pos c] at em ⊢
      obtain ⟨M1, e1, g1, hT1⟩ := X12_markY hL hTX hT he hb 93 (by omega) (by omega) c
      have e1 : f_X12_mark 134 (93 : Int32) M = _ := e1
      have nz : ¬ (i32 1 = i32 0) := i32_ne (by omega) (by omega) (by omega) (by omega) (by omega)
      refine ⟨M1, ?_, g1.mono tkR_br, hT1, bad.tk hb g1, hX.tk g1⟩
      unfold f_X12_readMany_25
      rw [if_pos hL.k, hb, if_pos (by rfl), bx em, if_neg (by exact nz)]
      unfold f_X12_readMany_70
      rw [if_pos hL.k, bx e1]
    · rw [if_neg c] at em ⊢
      have rr : 0 ≤ (if i = 0 then r else S.sr f) ∧ (if i = 0 then r else S.sr f) ≤ 9 := by split <;> omega
      obtain ⟨M1, e1, a1⟩ := X12_readItem hW hf hk hn ho rr.1 rr.2 hR hX hb hT he hz
      have o1 := rdIt_ok (tb := tb) hW hbt hf ho rr.1 rr.2 he
      rw [hdd] at a1 o1 e1
      have r19 : mR M 134 19 = 143 := by simp only [hL.o]
      have k143 : mK M 143 = 21 := by simp only [hL.o]
      have n143 : mN M 143 = 48 := by simp only [hL.o]
      have inf : inB (i32 (f : Int)) 48 = true := by simp (disch := omega) only [↓reduceIte, add_i0, cast_add1, cast_sub1, toNat120, i32_lit, i32_neg, i32_add, i32_sub, i32_mul, i32_nat, i32_le, i32_lt, i32_eq, inB_i, Int.toNat_natCast, mI_sI_eq, mI_sI_ne, mR_sR_eq, mR_sR_ne, mI_sR, mR_sI, mK_sI, mN_sI, mn_sI, mJ_sI, mK_sR, mN_sR, mn_sR, mJ_sR, mI_wI, mR_wI, mK_wI, mN_wI, mn_wI, mJ_wI, ↓bnd_of, ↓bndX_r, ↓bndX_l, ↓ap_nr, bnd_of, bndX_r, bndX_l, if_true, if_false, ite_true, ite_false, not_true_eq_false, not_false_eq_true, Nat.reduceAdd, Nat.reduceMul, Nat.reduceEqDiff, Int.reduceToNat, Int.reduceNeg, Ilt_t, Ilt_f, Ile_t, Ile_f, Ieq_t, Ieq_f, Nlt_t, Nlt_f, Nle_t, Nle_f, Neq_t, Neq_f, or_true, true_or, or_false, false_or, and_true, true_and, and_false, false_and, ne_eq, or_self, and_self, decide_true, decide_false, Bool.false_eq_true]
      have er : mI M 143 f = i32 (S.sr f) := hR0.2.2.2.2.2.2.1 f hf
      have tail : ∀ v : Int32, v = i32 (if i = 0 then r else S.sr f) → f_X12_readMany_58 kF (f_X12_readMany_25 kF m) 134 (i32 f) (i32 r) (i32 dd) 134 (i32 f) v M = f_X12_readMany_25 kF m 134 (i32 f) (i32 r) (i32 dd) (0 : Int32) M1 := fun v hv => by
        subst hv
        unfold f_X12_readMany_58
        rw [if_pos hL.k, show i32 dd + (1 : Int32) = i32 (dd + 1) from i32_add _ 1, bx e1]
      have st : f_X12_readMany_25 kF (m + 1) 134 (i32 f) (i32 r) (i32 dd) (i32 (if i = 0 then 1 else 0)) M = f_X12_readMany_25 kF m 134 (i32 f) (i32 r) (i32 dd) (0 : Int32) M1 := by
        conv => lhs; unfold f_X12_readMany_25
        rw [if_pos hL.k, hb, if_pos (by rfl), bx em, if_pos (by rfl)]
        by_cases i0 : i = 0
        · have nz : ¬ (i32 1 = i32 0) := i32_ne (by omega) (by omega) (by omega) (by omega) (by omega)
          rw [if_pos i0, if_neg (by exact nz)]
          exact tail _ (by rw [if_pos i0])
        · rw [if_neg i0, if_pos (by rfl), if_pos hL.k, r19, if_pos k143, n143, if_pos inf, nat_i (by omega)]
          exact tail _ (by rw [if_neg i0]; exact er)
      rw [st]
      revert a1 o1
      generalize rdIt S tb n sub f (if i = 0 then r else S.sr f) (dd + 1) e = y
      intro a1 o1
      match y, a1, o1 with
      | .inl y, a1, o1 =>
        obtain ⟨m, rfl⟩ : ∃ q, m = q + 1 := ⟨m - 1, by omega⟩
        have hR1 := hR.chg a1.1
        exact ⟨M1, X12_many25b hR1.1 a1.2 m _ _ _ _, a1⟩
      | .inr p, a1, o1 =>
        obtain ⟨b1, b2, b3, b4⟩ := a1
        obtain ⟨o2, o3, o4, o5⟩ := o1
        obtain ⟨M2, e2, a2⟩ := ih (i + 1) m M1 (B.apL p.2) p.1 (by omega) (by omega) (hR.chg b1) b4 b3 b2 o3 (fun l => by
          have := hz l
          have q := cnE_le (l := l) p.2
          have := o4.2
          rw [apL_sz]
          omega)
        rw [if_neg (by omega)] at e2
        have e2 : f_X12_readMany_25 kF m 134 (i32 f) (i32 r) (i32 dd) (0 : Int32) M1 = _ := e2
        refine ⟨M2, e2, ?_⟩
        revert a2
        generalize hy : rdIs S tb n sub f r dd k (i + 1) p.1 = z
        intro a2
        match z, hy, a2 with
        | .inl z, hy, a2 =>
          rw [rbd_rl hy]
          exact ⟨b1.tr a2.1, a2.2⟩
        | .inr z, hy, a2 =>
          rw [rbd_rr hy]
          obtain ⟨d1, d2, d3, d4⟩ := a2
          refine ⟨b1.tr d1, d2, d3, ?_⟩
          show RX M2 (B.apL (p.2 ++ z.2))
          rw [apL_app]
          exact d4
theorem X12_rv3b {kF : Nat → Int32 → Int32 → Int32 → Mem → Option (Unit × Mem)} (hL : RLay M) {f : Int} {b : Nat} (h : RBad M f b) (m : Nat) (g r d j : Int32) : f_X12_readValues_3 kF (m + 1) 134 g r d j M = some ((), M) := by
  have r23 : mR M 134 23 = 147 := by simp only [hL.o]
  have k147 : mK M 147 = 21 := by simp only [hL.o]
  have n147 : mN M 147 = 3 := by simp only [hL.o]
  unfold f_X12_readValues_3
  rw [if_pos hL.k, r23, if_pos k147, n147, if_pos (by decide), if_neg (c := mI M 134 12 = 0) (by exact h.nz)]
  split <;> rfl
theorem HKn_rv (S : Sc) (k : Nat) : HKn S (f_X12_readValues (k + 1)) := fun M f b x r d hL _ h => by
  obtain ⟨m, hm⟩ : ∃ m, FUEL = m + 1 := ⟨FUEL - 1, by unfold FUEL; omega⟩
  show f_X12_readValues_o (f_X12_readValues k) 134 x r d M = _
  unfold f_X12_readValues_o
  rw [hm]
  exact X12_rv3b hL h m _ _ _ _
theorem X12_rfield {kF : Nat → Int32 → Int32 → Int32 → Mem → Option (Unit × Mem)} {k3 : Nat → Int32 → Int32 → Int32 → Int32 → Mem → Option (Unit × Mem)} {sub : Nat → Int → Int → Nat → Rd} {f : Nat} (hn7 : n ≤ 700) (hW : S.wf) (hf : f < S.nf) (hk : S.lf f = -1 → HKb S tb n kF sub f) (hn : HKn S kF) (ho : S.lf f = -1 → HOk S n sub f) {g r : Int} (hg : S.gr f = g) (r0 : 0 ≤ r) (r9 : r ≤ 9) {e : Nat} (hR : BRL M S tb n) (hX : RX M B) (hb : mI M 134 12 = i32 0) (hT : RTk M tb n e) (he : e ≤ n) (hz : ∀ l, B.sz l + 8 * (n - e) ≤ 100000) : ∃ M', (if i32 (S.kd f) = (2 : Int32) then (bnd (f_X12_readMany kF 134 (i32 f) (i32 r) (i32 (S.dg g)) M) fun _ M22 => f_X12_readValues_117 kF k3 134 (i32 g) (i32 r) (i32 (S.dg g)) (i32 f) M22) else if i32 (S.kd f) = (1 : Int32) then (bnd (f_X12_isMarked 134 (45 : Int32) M) fun r14 M13 => if r14 = 0 then f_X12_readValues_92 kF k3 134 (i32 g) (i32 r) (i32 (S.dg g)) (i32 f) M13 else if mK M13 134 = 13 then (bnd (f_X12_stepOn 134 M13) fun _ M17 => if mK M17 134 = 13 then (bnd (f_X12_lackIn 134 (i32 f) (i32 r) (i32 (S.dg g)) M17) fun _ M20 => f_X12_readValues_117 kF k3 134 (i32 g) (i32 r) (i32 (S.dg g)) (i32 f) M20) else none) else none) else f_X12_readValues_92 kF k3 134 (i32 g) (i32 r) (i32 (S.dg g)) (i32 f) M) = k3 134 (i32 g) (i32 r) (i32 (S.dg g)) (i32 ((f + 1 : Nat) : Int)) M' ∧ BRes M M' tb n B (rdFd S tb n sub f r (S.dg g) e) := by
  obtain ⟨hL, hR0, hTX⟩ := id hR
  have hS := hW.1
  have hnf := hS.1
  have hnl := hS.2.1
  have kb := hS.2.2.1 f
  have hbt := hTX.2.2.2
  have hsd : S.sd f = S.dg g + (if S.kd f = 0 then 0 else 1) := by rw [← hg]; exact hW.2.1 f hf
  have db : 0 ≤ S.dg g ∧ S.dg g ≤ 9 := by
    unfold Sc.dg
    split
    · omega
    · exact hS.2.2.2.2.2.1 _
  have r15 : mR M 134 15 = 139 := by simp only [hL.o]
  have k139 : mK M 139 = 21 := by simp only [hL.o]
  have n139 : mN M 139 = 48 := by simp only [hL.o]
  have inf : inB (i32 (f : Int)) 48 = true := by simp (disch := omega) only [↓reduceIte, add_i0, cast_add1, cast_sub1, toNat120, i32_lit, i32_neg, i32_add, i32_sub, i32_mul, i32_nat, i32_le, i32_lt, i32_eq, inB_i, Int.toNat_natCast, mI_sI_eq, mI_sI_ne, mR_sR_eq, mR_sR_ne, mI_sR, mR_sI, mK_sI, mN_sI, mn_sI, mJ_sI, mK_sR, mN_sR, mn_sR, mJ_sR, mI_wI, mR_wI, mK_wI, mN_wI, mn_wI, mJ_wI, ↓bnd_of, ↓bndX_r, ↓bndX_l, ↓ap_nr, bnd_of, bndX_r, bndX_l, if_true, if_false, ite_true, ite_false, not_true_eq_false, not_false_eq_true, Nat.reduceAdd, Nat.reduceMul, Nat.reduceEqDiff, Int.reduceToNat, Int.reduceNeg, Ilt_t, Ilt_f, Ile_t, Ile_f, Ieq_t, Ieq_f, Nlt_t, Nlt_f, Nle_t, Nle_f, Neq_t, Neq_f, or_true, true_or, or_false, false_or, and_true, true_and, and_false, false_and, ne_eq, or_self, and_self, decide_true, decide_false, Bool.false_eq_true]
  have ek : mI M 139 f = i32 (S.kd f) := hR0.2.2.1 f hf
  have item : S.kd f ≠ 2 → ¬ (S.kd f = 1 ∧ tkK tb n e = 45) → ∃ M', f_X12_readValues_92 kF k3 134 (i32 g) (i32 r) (i32 (S.dg g)) (i32 f) M = k3 134 (i32 g) (i32 r) (i32 (S.dg g)) (i32 ((f + 1 : Nat) : Int)) M' ∧ BRes M M' tb n B (rdFd S tb n sub f r (S.dg g) e) := fun q2 q45 => by
    obtain ⟨M1, e1, a1⟩ := X12_readItem hW hf hk hn ho r0 r9 hR hX hb hT he hz
    have hd : S.dg g + (if S.kd f = 1 then 1 else 0) = S.sd f := by
      rw [hsd]
      by_cases c : S.kd f = 0
      · rw [if_pos c, if_neg (by omega)]
      · rw [if_neg c, if_pos (by omega)]
    have ex : rdFd S tb n sub f r (S.dg g) e = rdIt S tb n sub f r (S.sd f) e := by
      unfold rdFd
      rw [if_neg q2, if_neg q45, hd]
    rw [ex]
    refine ⟨M1, ?_, a1⟩
    unfold f_X12_readValues_92
    rw [if_pos hL.k, r15, if_pos k139, n139, if_pos inf, nat_i (by omega), ek]
    by_cases q1 : S.kd f = 1
    · rw [if_pos q1] at hd
      rw [q1, if_pos (by rfl)]
      unfold f_X12_readValues_113
      rw [if_pos hL.k, show i32 (S.dg g) + (1 : Int32) = i32 (S.dg g + 1) from i32_add _ 1, hd, bx e1, f_X12_readValues_117, k_add1]
    · rw [if_neg q1, Int.add_zero] at hd
      have n1 : ¬ (i32 (S.kd f) = i32 1) := i32_ne (by omega) (by omega) (by omega) (by omega) q1
      rw [if_neg (by exact n1)]
      unfold f_X12_readValues_113
      rw [if_pos hL.k, show i32 (S.dg g) + (0 : Int32) = i32 (S.dg g) from add_i0 _, hd, bx e1, f_X12_readValues_117, k_add1]
  by_cases q2 : S.kd f = 2
  · have hd : S.sd f = S.dg g + 1 := by rw [if_neg (by omega)] at hsd; exact hsd
    rw [if_pos (by rw [q2]; rfl)]
    unfold rdFd
    rw [if_pos q2]
    by_cases k91 : tkK tb n e = 91
    · rw [if_pos k91]
      have go := tk_go hbt he (by omega)
      have tb1 := tk_b tb go.2.1
      obtain ⟨M1, e1, g1, hT1⟩ := X12_markY hL hTX hT he hb 91 (by omega) (by omega) k91
      have e1 : f_X12_mark 134 (91 : Int32) M = _ := e1
      have gb1 := g1.mono tkR_br
      have hR1 := hR.chg gb1
      have hL1 := hR1.1
      have hb1 := bad.tk hb g1
      have hX1 := hX.tk g1
      have em := X12_isMarked hL1 hR1.2.2 hT1 go.2.1 hb1 93 (by omega) (by omega)
      have em : f_X12_isMarked 134 (93 : Int32) M1 = _ := em
      obtain ⟨mm, hmm⟩ : ∃ m, FUEL = m + 1 := ⟨FUEL - 1, by unfold FUEL; omega⟩
      have nz : ¬ (i32 1 = i32 0) := i32_ne (by omega) (by omega) (by omega) (by omega) (by omega)
      by_cases k93 : tkK tb n (tkE tb n e) = 93
      · rw [if_pos k93] at em ⊢
        obtain ⟨M2, e2, g2, x2⟩ := X12_lackIn hS (f := f) (by omega) r0 r9 db.1 db.2 hL1 hR1.2.1 hX1 (fun l => by have := hz l; omega)
        have gb2 := g2.mono apC_br
        have hR2 := hR1.chg gb2
        have hT2 := hT1.ap g2
        have hb2 := bad.ap hb1 g2
        have em2 := X12_isMarked hR2.1 hR2.2.2 hT2 go.2.1 hb2 93 (by omega) (by omega)
        have em2 : f_X12_isMarked 134 (93 : Int32) M2 = _ := em2
        rw [if_pos k93] at em2
        obtain ⟨M3, e3, g3, hT3⟩ := X12_markY hR2.1 hR2.2.2 hT2 go.2.1 hb2 93 (by omega) (by omega) k93
        have e3 : f_X12_mark 134 (93 : Int32) M2 = _ := e3
        have ei : f_X12_readMany kF 134 (i32 f) (i32 r) (i32 (S.dg g)) M = some ((), M3) := by
          unfold f_X12_readMany
          rw [if_pos hL.k, bx e1, if_pos hL1.k, bx em, if_neg (by exact nz), if_pos hL1.k, bx e2]
          unfold f_X12_readMany_22
          rw [hmm]
          unfold f_X12_readMany_25
          rw [if_pos hR2.1.k, hb2, if_pos (by rfl), bx em2, if_neg (by exact nz)]
          unfold f_X12_readMany_70
          rw [if_pos hR2.1.k, bx e3]
        refine ⟨M3, ?_, gb1.tr (gb2.tr (g3.mono tkR_br)), hT3, bad.tk hb2 g3, x2.tk g3⟩
        rw [bx ei, f_X12_readValues_117, k_add1]
      · rw [if_neg k93] at em ⊢
        obtain ⟨M2, e2, a2⟩ := X12_many25 hn7 hW hf hk hn ho hd r0 r9 (n + 1) 0 FUEL M1 B (tkE tb n e) (by omega) (by unfold FUEL; omega) hR1 hX1 hb1 hT1 go.2.1 (fun l => by have := hz l; omega)
        rw [if_pos rfl] at e2
        have e2 : f_X12_readMany_25 kF FUEL 134 (i32 f) (i32 r) (i32 (S.dg g)) (1 : Int32) M1 = _ := e2
        have ei : f_X12_readMany kF 134 (i32 f) (i32 r) (i32 (S.dg g)) M = some ((), M2) := by
          unfold f_X12_readMany
          rw [if_pos hL.k, bx e1, if_pos hL1.k, bx em, if_pos (by rfl)]
          exact e2
        refine ⟨M2, ?_, gb1.tr a2.1, a2.2⟩
        rw [bx ei, f_X12_readValues_117, k_add1]
    · rw [if_neg k91]
      obtain ⟨M1, e1, g1, b1⟩ := X12_markF hL hTX hT he hb 91 (by omega) (by omega) k91
      have e1 : f_X12_mark 134 (91 : Int32) M = _ := e1
      have hR1 := hR.chg (g1.mono rdR_br)
      have em := X12_isMarkedN hR1.1 b1 (93 : Int32)
      obtain ⟨mm, hmm⟩ : ∃ m, FUEL = m + 1 := ⟨FUEL - 1, by unfold FUEL; omega⟩
      have ei : f_X12_readMany kF 134 (i32 f) (i32 r) (i32 (S.dg g)) M = some ((), M1) := by
        unfold f_X12_readMany
        rw [if_pos hL.k, bx e1, if_pos hR1.1.k, bx em, if_pos (by rfl)]
        unfold f_X12_readMany_22
        rw [hmm]
        exact X12_many25b hR1.1 b1 mm _ _ _ _
      refine ⟨M1, ?_, g1.mono rdR_br, b1⟩
      rw [bx ei, f_X12_readValues_117, k_add1]
  · have n2 : ¬ (i32 (S.kd f) = i32 2) := i32_ne (by omega) (by omega) (by omega) (by omega) q2
    rw [if_neg (by exact n2)]
    by_cases q1 : S.kd f = 1
    · rw [if_pos (by rw [q1]; rfl)]
      have em := X12_isMarked hL hTX hT he hb 45 (by omega) (by omega)
      have em : f_X12_isMarked 134 (45 : Int32) M = _ := em
      by_cases k45 : tkK tb n e = 45
      · rw [if_pos k45] at em
        have nz : ¬ (i32 1 = i32 0) := i32_ne (by omega) (by omega) (by omega) (by omega) (by omega)
        obtain ⟨M1, e1, g1, hR1, hX1, hT1, hb1⟩ := step_br hR hX hb he hT
        obtain ⟨M2, e2, g2, x2⟩ := X12_lackIn hS (f := f) (by omega) r0 r9 db.1 db.2 hR1.1 hR1.2.1 hX1 (fun l => by have := hz l; omega)
        have ex : rdFd S tb n sub f r (S.dg g) e = .inr (tkE tb n e, lackE S f r (S.dg g) S.nl 0) := by
          unfold rdFd
          rw [if_neg q2, if_pos ⟨q1, k45⟩]
        rw [ex]
        refine ⟨M2, ?_, g1.tr (g2.mono apC_br), hT1.ap g2, bad.ap hb1 g2, x2⟩
        rw [bx em, if_neg (by exact nz), if_pos hL.k, bx e1, if_pos hR1.1.k, bx e2, f_X12_readValues_117, k_add1]
      · rw [if_neg k45] at em
        rw [bx em, if_pos (by rfl)]
        exact item q2 (fun u => k45 u.2)
    · have n1 : ¬ (i32 (S.kd f) = i32 1) := i32_ne (by omega) (by omega) (by omega) (by omega) q1
      rw [if_neg (by exact n1)]
      exact item q2 (fun u => q1 u.1)
theorem X12_rfields {kF : Nat → Int32 → Int32 → Int32 → Mem → Option (Unit × Mem)} {sub : Nat → Int → Int → Nat → Rd} {g r : Int} (hn7 : n ≤ 700) (hW : S.wf) (g0 : -1 ≤ g) (g16 : g < 16) (hk : ∀ f, f < S.nf → S.gr f = g → S.lf f = -1 → HKb S tb n kF sub f) (hn : HKn S kF) (ho : ∀ f, f < S.nf → S.gr f = g → S.lf f = -1 → HOk S n sub f) (r0 : 0 ≤ r) (r9 : r ≤ 9) : ∀ (k j m : Nat) (M : Mem) (B : St) (e : Nat), j + k = S.nf → k < m → BRL M S tb n → RX M B → mI M 134 12 = i32 0 → RTk M tb n e → e ≤ n → (∀ l, B.sz l + 8 * (n - e) ≤ 100000) → ∃ M', f_X12_readValues_3 kF m 134 (i32 g) (i32 r) (i32 (S.dg g)) (i32 j) M = some ((), M') ∧ BRes M M' tb n B (rdFs S tb n sub g r (S.dg g) k j e) := by
  have hS := hW.1
  have hnf := hS.1
  have c0 : (0 : Int32).toNatClampNeg = 0 := by decide
  intro k
  induction k with
  | zero =>
    intro j m M B e hj hm hR hX hb hT he hz
    obtain ⟨m, rfl⟩ : ∃ q, m = q + 1 := ⟨m - 1, by omega⟩
    obtain ⟨hL, hR0, hTX⟩ := id hR
    have r23 : mR M 134 23 = 147 := by simp only [hL.o]
    have k147 : mK M 147 = 21 := by simp only [hL.o]
    have n147 : mN M 147 = 3 := by simp only [hL.o]
    refine ⟨M, ?_, Chg.rf _ M, hT, hb, hX⟩
    unfold f_X12_readValues_3
    rw [if_pos hL.k, r23, if_pos k147, n147, if_pos (by decide), c0, hR0.1, if_pos (by simp (disch := omega) only [↓reduceIte, add_i0, cast_add1, cast_sub1, toNat120, i32_lit, i32_neg, i32_add, i32_sub, i32_mul, i32_nat, i32_le, i32_lt, i32_eq, inB_i, Int.toNat_natCast, mI_sI_eq, mI_sI_ne, mR_sR_eq, mR_sR_ne, mI_sR, mR_sI, mK_sI, mN_sI, mn_sI, mJ_sI, mK_sR, mN_sR, mn_sR, mJ_sR, mI_wI, mR_wI, mK_wI, mN_wI, mn_wI, mJ_wI, ↓bnd_of, ↓bndX_r, ↓bndX_l, ↓ap_nr, bnd_of, bndX_r, bndX_l, if_true, if_false, ite_true, ite_false, not_true_eq_false, not_false_eq_true, Nat.reduceAdd, Nat.reduceMul, Nat.reduceEqDiff, Int.reduceToNat, Int.reduceNeg, Ilt_t, Ilt_f, Ile_t, Ile_f, Ieq_t, Ieq_f, Nlt_t, Nlt_f, Nle_t, Nle_f, Neq_t, Neq_f, or_true, true_or, or_false, false_or, and_true, true_and, and_false, false_and, ne_eq, or_self, and_self, decide_true, decide_false, Bool.false_eq_true])]
  | succ k ih =>
    intro j m M B e hj hm hR hX hb hT he hz
    obtain ⟨m, rfl⟩ : ∃ q, m = q + 1 := ⟨m - 1, by omega⟩
    obtain ⟨hL, hR0, hTX⟩ := id hR
    have r23 : mR M 134 23 = 147 := by simp only [hL.o]
    have k147 : mK M 147 = 21 := by simp only [hL.o]
    have n147 : mN M 147 = 3 := by simp only [hL.o]
    have r16 : mR M 134 16 = 140 := by simp only [hL.o]
    have k140 : mK M 140 = 21 := by simp only [hL.o]
    have n140 : mN M 140 = 48 := by simp only [hL.o]
    have r15 : mR M 134 15 = 139 := by simp only [hL.o]
    have k139 : mK M 139 = 21 := by simp only [hL.o]
    have n139 : mN M 139 = 48 := by simp only [hL.o]
    have hjf : j < S.nf := by omega
    have inj : inB (i32 (j : Int)) 48 = true := by simp (disch := omega) only [↓reduceIte, add_i0, cast_add1, cast_sub1, toNat120, i32_lit, i32_neg, i32_add, i32_sub, i32_mul, i32_nat, i32_le, i32_lt, i32_eq, inB_i, Int.toNat_natCast, mI_sI_eq, mI_sI_ne, mR_sR_eq, mR_sR_ne, mI_sR, mR_sI, mK_sI, mN_sI, mn_sI, mJ_sI, mK_sR, mN_sR, mn_sR, mJ_sR, mI_wI, mR_wI, mK_wI, mN_wI, mn_wI, mJ_wI, ↓bnd_of, ↓bndX_r, ↓bndX_l, ↓ap_nr, bnd_of, bndX_r, bndX_l, if_true, if_false, ite_true, ite_false, not_true_eq_false, not_false_eq_true, Nat.reduceAdd, Nat.reduceMul, Nat.reduceEqDiff, Int.reduceToNat, Int.reduceNeg, Ilt_t, Ilt_f, Ile_t, Ile_f, Ieq_t, Ieq_f, Nlt_t, Nlt_f, Nle_t, Nle_f, Neq_t, Neq_f, or_true, true_or, or_false, false_or, and_true, true_and, and_false, false_and, ne_eq, or_self, and_self, decide_true, decide_false, Bool.false_eq_true]
    have lt : ¬ (i32 (S.nf : Int) ≤ i32 (j : Int)) := by simp (disch := omega) only [↓reduceIte, add_i0, cast_add1, cast_sub1, toNat120, i32_lit, i32_neg, i32_add, i32_sub, i32_mul, i32_nat, i32_le, i32_lt, i32_eq, inB_i, Int.toNat_natCast, mI_sI_eq, mI_sI_ne, mR_sR_eq, mR_sR_ne, mI_sR, mR_sI, mK_sI, mN_sI, mn_sI, mJ_sI, mK_sR, mN_sR, mn_sR, mJ_sR, mI_wI, mR_wI, mK_wI, mN_wI, mn_wI, mJ_wI, ↓bnd_of, ↓bndX_r, ↓bndX_l, ↓ap_nr, bnd_of, bndX_r, bndX_l, if_true, if_false, ite_true, ite_false, not_true_eq_false, not_false_eq_true, Nat.reduceAdd, Nat.reduceMul, Nat.reduceEqDiff, Int.reduceToNat, Int.reduceNeg, Ilt_t, Ilt_f, Ile_t, Ile_f, Ieq_t, Ieq_f, Nlt_t, Nlt_f, Nle_t, Nle_f, Neq_t, Neq_f, or_true, true_or, or_false, false_or, and_true, true_and, and_false, false_and, ne_eq, or_self, and_self, decide_true, decide_false, Bool.false_eq_true]
    have eg : mI M 140 j = i32 (S.gr j) := hR0.2.2.2.1 j hjf
    have ek : mI M 139 j = i32 (S.kd j) := hR0.2.2.1 j hjf
    have gb := hS.2.2.2.1 j
    have hbt := hTX.2.2.2
    by_cases q : S.gr j = g
    · have ei : rdFs S tb n sub g r (S.dg g) (k + 1) j e = rbd (rdFd S tb n sub j r (S.dg g) e) (fun e2 => rdFs S tb n sub g r (S.dg g) k (j + 1) e2) := by
        conv => lhs; unfold rdFs
        rw [if_pos q]
      rw [ei]
      obtain ⟨M1, e1, a1⟩ := X12_rfield (k3 := f_X12_readValues_3 kF m) hn7 hW hjf (hk j hjf q) hn (ho j hjf q) q r0 r9 hR hX hb hT he hz
      have o1 := rdFd_ok (tb := tb) hW hbt hjf (ho j hjf q) r0 r9 he
      rw [q] at o1
      have st : f_X12_readValues_3 kF (m + 1) 134 (i32 g) (i32 r) (i32 (S.dg g)) (i32 j) M = f_X12_readValues_3 kF m 134 (i32 g) (i32 r) (i32 (S.dg g)) (i32 ((j + 1 : Nat) : Int)) M1 := by
        rw [← e1]
        conv => lhs; unfold f_X12_readValues_3
        rw [if_pos hL.k, r23, if_pos k147, n147, if_pos (by decide), c0, hR0.1, if_neg lt, hb, if_pos (by rfl), r16, if_pos k140, n140, if_pos inj, nat_i (by omega), eg, if_pos (by rw [q]), r15, if_pos k139, n139, if_pos inj, ek]
      rw [st]
      revert a1 o1
      generalize rdFd S tb n sub j r (S.dg g) e = y
      intro a1 o1
      match y, a1, o1 with
      | .inl y, a1, o1 =>
        obtain ⟨m, rfl⟩ : ∃ q, m = q + 1 := ⟨m - 1, by omega⟩
        have hR1 := hR.chg a1.1
        exact ⟨M1, X12_rv3b hR1.1 a1.2 m _ _ _ _, a1⟩
      | .inr p, a1, o1 =>
        obtain ⟨b1, b2, b3, b4⟩ := a1
        obtain ⟨o2, o3, o4, o5⟩ := o1
        obtain ⟨M2, e2, a2⟩ := ih (j + 1) m M1 (B.apL p.2) p.1 (by omega) (by omega) (hR.chg b1) b4 b3 b2 o3 (fun l => by
          have := hz l
          have q := cnE_le (l := l) p.2
          have := o4.2
          rw [apL_sz]
          omega)
        refine ⟨M2, e2, ?_⟩
        revert a2
        generalize hy : rdFs S tb n sub g r (S.dg g) k (j + 1) p.1 = z
        intro a2
        match z, hy, a2 with
        | .inl z, hy, a2 =>
          rw [rbd_rl hy]
          exact ⟨b1.tr a2.1, a2.2⟩
        | .inr z, hy, a2 =>
          rw [rbd_rr hy]
          obtain ⟨d1, d2, d3, d4⟩ := a2
          refine ⟨b1.tr d1, d2, d3, ?_⟩
          show RX M2 (B.apL (p.2 ++ z.2))
          rw [apL_app]
          exact d4
    · have ei : rdFs S tb n sub g r (S.dg g) (k + 1) j e = rdFs S tb n sub g r (S.dg g) k (j + 1) e := by
        conv => lhs; unfold rdFs
        rw [if_neg q]
      rw [ei]
      obtain ⟨M2, e2, a2⟩ := ih (j + 1) m M B e (by omega) (by omega) hR hX hb hT he hz
      refine ⟨M2, ?_, a2⟩
      rw [← e2]
      have ng : ¬ (i32 (S.gr j) = i32 g) := i32_ne (by omega) (by omega) (by omega) (by omega) q
      conv => lhs; unfold f_X12_readValues_3
      rw [if_pos hL.k, r23, if_pos k147, n147, if_pos (by decide), c0, hR0.1, if_neg lt, hb, if_pos (by rfl), r16, if_pos k140, n140, if_pos inj, nat_i (by omega), eg, if_neg ng, f_X12_readValues_117, k_add1]
theorem X12_readValues {dp : Nat → Nat} (hn7 : n ≤ 700) (hW : S.wf) (hV : VT S S dp) : ∀ (k d : Nat), k + d = 4 → ∀ (M : Mem) (B : St) (g r : Int) (e : Nat), BRL M S tb n → RX M B → mI M 134 12 = i32 0 → RTk M tb n e → e ≤ n → (∀ l, B.sz l + 8 * (n - e) ≤ 100000) → InD S dp g d → 0 ≤ r → r ≤ 9 → ∃ M', f_X12_readValues (k + 2) 134 (i32 g) (i32 r) (i32 (S.dg g)) M = some ((), M') ∧ BRes M M' tb n B (rcF S tb n k g r (S.dg g) e) := by
  intro k
  induction k with
  | zero =>
    intro d hd M B g r e hR hX hb hT he hz hI
    have := hI.le hW hV
    omega
  | succ k ih =>
    intro d hd M B g r e hR hX hb hT he hz hI r0 r9
    have hnf := hW.1.1
    have hbt := hR.2.2.2.2.2
    have gb : -1 ≤ g ∧ g < 16 := by
      rcases hI with ⟨h1, h2⟩ | ⟨p, h1, h2, h3, h4⟩
      · omega
      · omega
    have e1 : ∀ f : Nat, S.dg (f : Int) = S.sd f := fun f => by
      unfold Sc.dg
      rw [if_neg (by omega), Int.toNat_natCast]
    exact X12_rfields (kF := f_X12_readValues (k + 2)) (sub := fun f => rcF S tb n k (f : Int)) (g := g) hn7 hW gb.1 gb.2 (fun f hf hg hlf M B r e hR hX hb hT he hz r0 r9 => by
      have hdf := hI.sub hV hf hg
      have := ih (d + 1) (by omega) M B f r e hR hX hb hT he hz (Or.inr ⟨f, hf, rfl, hlf, by omega⟩) r0 r9
      rw [e1] at this
      exact this) (HKn_rv S (k + 1)) (fun f hf hg hlf r e r0 r9 he => by
      have hdf := hI.sub hV hf hg
      have := rcF_ok (tb := tb) (n := n) hW hV hbt k (d + 1) (by omega) (f : Int) r e (Or.inr ⟨f, hf, rfl, hlf, by omega⟩) r0 r9 he
      rw [e1] at this
      exact this) r0 r9 S.nf 0 FUEL M B e (by omega) (by unfold FUEL; omega) hR hX hb hT he hz
end
