/-! add in the reference -/
def br2 (a j : Nat) : Prop := brC a j ∨ (a = 134 ∧ j = 30)
section
variable {M M' : Mem} {S : Sc} {tb : Nat → Int} {n : Nat} {B : St} {dp : Nat → Nat}
theorem BRL.chg2 (h : BRL M S tb n) (g : Chg br2 M M') : BRL M' S tb n := ⟨h.1.all g, h.2.1.chg g (fun a j q => by unfold br2 brC apC rdR at q; omega), h.2.2.chg g (by unfold br2 brC apC rdR; omega) (fun i => by unfold br2 brC apC rdR; omega)⟩
theorem br_2 (a j : Nat) (q : brC a j) : br2 a j := Or.inl q
theorem RBad.i30 {f : Int} {b : Nat} (h : RBad M f b) (x : Int32) : RBad (sI M 134 30 x) f b := ⟨by rw [mI_sI_ne (by omega)]; exact h.1, by rw [mI_sI_ne (by omega)]; exact h.2.1, h.2.2⟩
/-- nothing more is read once something is wrong -/
theorem X12_add63b {f : Int} {b : Nat} (hL : RLay M) (h : RBad M f b) (m : Nat) : f_X12_add_63 (m + 1) 134 M = f_X12_add_156 134 M := by
  unfold f_X12_add_63
  rw [if_pos hL.k, if_neg (by exact h.nz)]
theorem X12_add147b {f : Int} {b : Nat} (hL : RLay M) (h : RBad M f b) (m : Nat) : f_X12_add_147 (f_X12_add_63 (m + 1)) 134 M = f_X12_add_156 134 M := by
  unfold f_X12_add_147
  rw [if_pos hL.k, bx (X12_markN hL h _), X12_add63b hL h]
theorem X12_add102b {f : Int} {b : Nat} (hL : RLay M) (hR : RS0 M S) (h : RBad M f b) (m : Nat) : ∃ M', f_X12_add_102 (f_X12_add_63 (m + 1)) 134 M = f_X12_add_156 134 M' ∧ Chg br2 M M' ∧ RBad M' f b := by
  have e1 := HKn_rv S 5 M f b (-1 : Int32) (0 : Int32) (0 : Int32) hL hR h
  have g : Chg br2 M (sI M 134 30 (mI M 134 30 + (1 : Int32))) := (Chg.rf _ M).sI (Or.inr ⟨rfl, rfl⟩)
  have h1 := h.i30 (mI M 134 30 + (1 : Int32))
  have hL1 := hL.all g
  refine ⟨_, ?_, g, h1⟩
  unfold f_X12_add_102
  rw [if_pos hL.k, bx e1, if_pos hL.k, ap_of, if_pos hL1.k, if_neg (by exact h1.nz)]
  exact X12_add147b hL1 h1 m
theorem X12_mayBegin (hS : S.ok) (hnf0 : 0 < S.nf) (hR : BRL M S tb n) {e : Nat} (hb : mI M 134 12 = i32 0) (hT : RTk M tb n e) (he : e ≤ n) : f_X12_mayBegin 134 M = some (if canB S tb n 0 e then i32 1 else i32 0, M) := by
  obtain ⟨hL, hR0, hTX⟩ := id hR
  have hbt := hTX.2.2.2
  have kb := hS.2.2.1 0
  have lb := hS.2.2.2.2.1 0
  have tkb := tkK_b tb hbt n e
  have c0 : (0 : Int32).toNatClampNeg = 0 := by decide
  have r15 : mR M 134 15 = 139 := by simp only [hL.o]
  have k139 : mK M 139 = 21 := by simp only [hL.o]
  have n139 : mN M 139 = 48 := by simp only [hL.o]
  have r17 : mR M 134 17 = 141 := by simp only [hL.o]
  have k141 : mK M 141 = 21 := by simp only [hL.o]
  have n141 : mN M 141 = 48 := by simp only [hL.o]
  have in0 : inB (0 : Int32) 48 = true := by decide
  have ek : mI M 139 0 = i32 (S.kd 0) := hR0.2.2.1 0 hnf0
  have el : mI M 141 0 = i32 (S.lf 0) := hR0.2.2.2.2.1 0 hnf0
  have m91 := X12_isMarked hL hTX hT he hb 91 (by omega) (by omega)
  have m91 : f_X12_isMarked 134 (91 : Int32) M = _ := m91
  have m45 := X12_isMarked hL hTX hT he hb 45 (by omega) (by omega)
  have m45 : f_X12_isMarked 134 (45 : Int32) M = _ := m45
  have m40 := X12_isMarked hL hTX hT he hb 40 (by omega) (by omega)
  have m40 : f_X12_isMarked 134 (40 : Int32) M = _ := m40
  have nz : ¬ (i32 1 = i32 0) := i32_ne (by omega) (by omega) (by omega) (by omega) (by omega)
  have zz : ∀ (c : Prop) [Decidable c], zB (if c then i32 1 else i32 0) = true := fun c _ => by
    by_cases u : c
    · rw [if_pos u]; decide
    · rw [if_neg u]; decide
  have e51 : f_X12_mayBegin_51 134 M = some (if (S.lf 0 = -1 ∧ tkK tb n e = 40) ∨ (S.lf 0 ≠ -1 ∧ tkK tb n e = 2) then i32 1 else i32 0, M) := by
    unfold f_X12_mayBegin_51
    rw [if_pos hL.k, r17, if_pos k141, n141, if_pos in0, c0, el]
    by_cases q : S.lf 0 = -1
    · rw [if_pos (by rw [q]; rfl), bx m40, if_pos (zz _)]
      by_cases w : tkK tb n e = 40
      · rw [if_pos w, if_pos (Or.inl ⟨q, w⟩)]
      · rw [if_neg w, if_neg (by omega)]
    · have nq : ¬ (i32 (S.lf 0) = i32 (-1)) := i32_ne (by omega) (by omega) (by omega) (by omega) q
      rw [if_neg (by exact nq), hT.1]
      by_cases w : tkK tb n e = 2
      · have w2 : rkK tb n e = 2 := tkb.2.2.2.2.2.2.2.1.mp w
        rw [if_pos (Or.inr ⟨q, w⟩), w2, if_pos (by rfl)]
        rfl
      · have w2 : rkK tb n e ≠ 2 := fun u => w (tkb.2.2.2.2.2.2.2.1.mpr u)
        have nw : ¬ (i32 (rkK tb n e) = i32 2) := i32_ne (by omega) (by omega) (by omega) (by omega) w2
        rw [if_neg (show ¬ ((S.lf 0 = -1 ∧ tkK tb n e = 40) ∨ (S.lf 0 ≠ -1 ∧ tkK tb n e = 2)) by omega), if_neg (by exact nw)]
        rfl
  unfold f_X12_mayBegin
  rw [if_pos hL.k, r15, if_pos k139, n139, if_pos in0, c0, ek]
  by_cases q : S.kd 0 = 2
  · rw [if_pos (by rw [q]; rfl)]
    unfold f_X12_mayBegin_29
    rw [if_pos hL.k, r15, if_pos k139, n139, if_pos in0, c0, ek, if_pos (by rw [q]; rfl)]
    unfold f_X12_mayBegin_47
    rw [if_pos hL.k, bx m91, if_pos (zz _)]
    by_cases w : tkK tb n e = 91
    · rw [if_pos w, if_pos (show canB S tb n 0 e from Or.inl ⟨q, w⟩)]
    · rw [if_neg w, if_neg (show ¬ canB S tb n 0 e from fun u => by
        rcases u with u | u
        · exact w u.2
        · exact u.1 q)]
  · have nq : ¬ (i32 (S.kd 0) = i32 2) := i32_ne (by omega) (by omega) (by omega) (by omega) q
    rw [if_neg (by exact nq)]
    have last : ∀ (h : ¬ (S.kd 0 = 1 ∧ tkK tb n e = 45)), f_X12_mayBegin_51 134 M = some (if canB S tb n 0 e then i32 1 else i32 0, M) := fun h => by
      rw [e51]
      by_cases u : (S.lf 0 = -1 ∧ tkK tb n e = 40) ∨ (S.lf 0 ≠ -1 ∧ tkK tb n e = 2)
      · rw [if_pos u, if_pos (show canB S tb n 0 e from Or.inr ⟨q, Or.inr u⟩)]
      · rw [if_neg u, if_neg (show ¬ canB S tb n 0 e from fun v => by
          rcases v with v | v
          · exact q v.1
          · rcases v.2 with v | v
            · exact h v
            · exact u v)]
    by_cases p : S.kd 0 = 1
    · rw [if_pos (by rw [p]; rfl), bx m45]
      by_cases w : tkK tb n e = 45
      · rw [if_pos w, if_neg (by exact nz)]
        unfold f_X12_mayBegin_29
        rw [if_pos hL.k, r15, if_pos k139, n139, if_pos in0, c0, ek, if_neg (by exact nq)]
        unfold f_X12_mayBegin_47
        rw [if_pos hL.k, bx m45, if_pos (zz _), if_pos w, if_pos (show canB S tb n 0 e from Or.inr ⟨q, Or.inl ⟨p, w⟩⟩)]
      · rw [if_neg w, if_pos (by rfl)]
        exact last (fun u => w u.2)
    · have np : ¬ (i32 (S.kd 0) = i32 1) := i32_ne (by omega) (by omega) (by omega) (by omega) p
      rw [if_neg (by exact np)]
      exact last (fun u => p u.1)
theorem X12_add63 (hn7 : n ≤ 700) (hW : S.wf) (hV : VT S S dp) (hnf0 : 0 < S.nf) : ∀ (k m : Nat) (M : Mem) (B : St) (e : Nat), n - e < k → n - e < m → BRL M S tb n → RX M B → mI M 134 12 = i32 0 → RTk M tb n e → mI M 134 30 = i32 B.rc → B.rc ≤ 30 → (∀ l, B.sz l ≤ 120) → e ≤ n → ∃ M', f_X12_add_63 m 134 M = f_X12_add_156 134 M' ∧ Chg br2 M M' ∧ match adF S tb n k e B with
    | .inl y => RBad M' y.1 y.2
    | .inr B' => mI M' 134 12 = i32 0 ∧ RX M' B' ∧ mI M' 134 30 = i32 B'.rc := by
  have hS := hW.1
  have hnl := hS.2.1
  intro k
  induction k with
  | zero => intro m M B e hk; omega
  | succ k ih =>
    intro m M B e hke hme hR hX hb hT h30 hrc hsz he
    obtain ⟨m, rfl⟩ : ∃ q, m = q + 1 := ⟨m - 1, by omega⟩
    obtain ⟨hL, hR0, hTX⟩ := id hR
    have hbt := hTX.2.2.2
    have tkb := tkK_b tb hbt n e
    have e8 : mI M 134 8 = i32 (rkK tb n e) := hT.1
    unfold adF
    by_cases c0 : tkK tb n e = 0
    · rw [if_pos c0]
      have r0 : rkK tb n e = 0 := tkb.2.2.2.2.2.1.mpr (tkb.2.2.1.mp c0)
      refine ⟨M, ?_, Chg.rf _ M, hb, hX, h30⟩
      conv => lhs; unfold f_X12_add_63
      rw [if_pos hL.k, hb, if_pos (by rfl), e8, r0, if_pos (by rfl)]
    · rw [if_neg c0]
      have go := tk_go hbt he c0
      obtain ⟨m, rfl⟩ : ∃ q, m = q + 1 := ⟨m - 1, by omega⟩
      have r0 : rkK tb n e ≠ 0 := fun u => c0 (tkb.2.2.1.mpr (tkb.2.2.2.2.2.1.mp u))
      have nr : ¬ (i32 (rkK tb n e) = i32 0) := i32_ne (by omega) (by omega) (by omega) (by omega) r0
      by_cases c30 : 30 ≤ B.rc
      · rw [if_pos c30]
        have e30 : B.rc = 30 := by omega
        have em := X12_mayBegin hS hnf0 hR hb hT he
        have nz : ¬ (i32 1 = i32 0) := i32_ne (by omega) (by omega) (by omega) (by omega) (by omega)
        have wr : ∀ v : Int, 1 ≤ v → v ≤ 4 → f_X12_add_63 (m + 1 + 1) 134 M = f_X12_add_99 (f_X12_add_63 (m + 1)) 134 134 (i32 v) M → ∃ M', f_X12_add_63 (m + 1 + 1) 134 M = f_X12_add_156 134 M' ∧ Chg br2 M M' ∧ RBad M' v (tkB tb n e) := fun v v1 v4 hv => by
          obtain ⟨M1, e1, g1, b1⟩ := X12_wrong hL hb hT.2.1 v v1 v4
          have gb1 := g1.mono rdR_br
          have hR1 := hR.chg gb1
          obtain ⟨M2, e2, g2, b2⟩ := X12_add102b (S := S) hR1.1 hR1.2.1 b1 m
          refine ⟨M2, ?_, (gb1.mono br_2).tr g2, b2⟩
          rw [hv]
          unfold f_X12_add_99
          rw [if_pos hL.k, bx e1, e2]
        by_cases cb : canB S tb n 0 e
        · rw [if_pos cb] at em
          rw [if_pos cb]
          refine wr 2 (by omega) (by omega) ?_
          conv => lhs; unfold f_X12_add_63
          rw [if_pos hL.k, hb, if_pos (by rfl), e8, if_neg (by exact nr), h30, e30, if_pos (by rfl), bx em, if_neg (by exact nz)]
          rfl
        · rw [if_neg cb] at em
          rw [if_neg cb]
          refine wr 1 (by omega) (by omega) ?_
          conv => lhs; unfold f_X12_add_63
          rw [if_pos hL.k, hb, if_pos (by rfl), e8, if_neg (by exact nr), h30, e30, if_pos (by rfl), bx em, if_pos (by rfl)]
          rfl
      · rw [if_neg c30]
        have n30 : ¬ (i32 (B.rc : Int) = i32 30) := i32_ne (by omega) (by omega) (by omega) (by omega) (by omega)
        have st : f_X12_add_63 (m + 1 + 1) 134 M = f_X12_add_102 (f_X12_add_63 (m + 1)) 134 M := by
          conv => lhs; unfold f_X12_add_63
          rw [if_pos hL.k, hb, if_pos (by rfl), e8, if_neg (by exact nr), h30, if_neg (by exact n30)]
        rw [st]
        obtain ⟨M1, e1, a1⟩ := X12_readValues (tb := tb) hn7 hW hV 4 0 (by omega) M B (-1) 0 e hR hX hb hT he (fun l => by have := hsz l; omega) (Or.inl ⟨rfl, rfl⟩) (by omega) (by omega)
        have e1 : f_X12_readValues 6 134 (-1 : Int32) (0 : Int32) (0 : Int32) M = some ((), M1) := e1
        have a1 : BRes M M1 tb n B (rcF S tb n 4 (-1) 0 0 e) := a1
        have o1 := rcF_ok (tb := tb) (n := n) hW hV hbt 4 0 (by omega) (-1) 0 e (Or.inl ⟨rfl, rfl⟩) (by omega) (by omega) he
        have o1 : RdP S n e 0 (One S (scJ S (-1) 0) 0) (rcF S tb n 4 (-1) 0 0 e) := o1
        have hR1 := hR.chg a1.1
        have hL1 := hR1.1
        have h301 : mI M1 134 30 = i32 B.rc := by rw [a1.1.i (by unfold brC apC rdR; omega)]; exact h30
        have x30 : mI M1 134 30 + (1 : Int32) = i32 ((B.rc + 1 : Nat) : Int) := by rw [h301, k_add1]
        obtain ⟨M2, em2⟩ : ∃ M2, sI M1 134 30 (i32 ((B.rc + 1 : Nat) : Int)) = M2 := ⟨_, rfl⟩
        have g2 : Chg (fun a j => a = 134 ∧ j = 30) M1 M2 := by rw [← em2]; exact (Chg.rf _ M1).sI ⟨rfl, rfl⟩
        have gb2 : Chg br2 M M2 := (a1.1.mono br_2).tr (g2.mono (fun a j q => Or.inr q))
        have hR2 := hR.chg2 gb2
        have hL2 := hR2.1
        have h302 : mI M2 134 30 = i32 ((B.rc + 1 : Nat) : Int) := by rw [← em2]; exact mI_sI_eq
        generalize rcF S tb n 4 (-1) 0 0 e = y at a1 o1
        match y, a1, o1 with
        | .inl y, a1, o1 =>
          have b2 : RBad M2 y.1 y.2 := by rw [← em2]; exact a1.2.i30 _
          refine ⟨M2, ?_, gb2, b2⟩
          unfold f_X12_add_102
          rw [if_pos hL.k, bx e1, if_pos hL1.k, x30, ap_of, em2, if_pos hL2.k, if_neg (by exact b2.nz)]
          exact X12_add147b hL2 b2 m
        | .inr p, a1, o1 =>
          obtain ⟨b1, b2, b3, b4⟩ := a1
          obtain ⟨o2, o3, o4, o5⟩ := o1
          have hb2 : mI M2 134 12 = i32 0 := by rw [g2.i (by omega)]; exact b3
          have hT2 : RTk M2 tb n p.1 := by
            obtain ⟨t1, t2, t3, t4, t5⟩ := b2
            exact ⟨by rw [g2.i (by omega)]; exact t1, by rw [g2.i (by omega)]; exact t2, by rw [g2.i (by omega)]; exact t3, by rw [g2.i (by omega)]; exact t4, fun w => by rw [g2.i (by omega)]; exact t5 w⟩
          have hX2 : RX M2 (B.apL p.2) := b4.cg (fun j => g2.i (by omega)) (fun j => g2.i (by omega))
          have em := X12_isMarked hL2 hR2.2.2 hT2 o3 hb2 59 (by omega) (by omega)
          have em : f_X12_isMarked 134 (59 : Int32) M2 = _ := em
          have nz : ¬ (i32 1 = i32 0) := i32_ne (by omega) (by omega) (by omega) (by omega) (by omega)
          show ∃ M', _ ∧ Chg br2 M M' ∧ match (if tkK tb n p.1 = 59 then (if fitS S.nl (B.apL p.2).inc then adF S tb n k (tkE tb n p.1) (B.apL p.2).inc else .inl (2, tkB tb n p.1)) else .inl (1, tkB tb n p.1) : (Int × Nat) ⊕ St) with
            | .inl y => RBad M' y.1 y.2
            | .inr B' => mI M' 134 12 = i32 0 ∧ RX M' B' ∧ mI M' 134 30 = i32 B'.rc
          have go2 : ∀ X : Option (Int32 × Mem), (bnd (f_X12_isMarked 134 (59 : Int32) M2) fun r9 M8 => if r9 = 0 then f_X12_add_147 (f_X12_add_63 (m + 1)) 134 M8 else if mK M8 134 = 13 then (bnd (f_X12_isTooMuch 134 M8) fun r13 M12 => if r13 = 0 then f_X12_add_147 (f_X12_add_63 (m + 1)) 134 M12 else if mK M12 134 = 13 then (bnd (f_X12_wrong 134 (2 : Int32) M12) fun _ M16 => f_X12_add_147 (f_X12_add_63 (m + 1)) 134 M16) else none) else none) = X → f_X12_add_102 (f_X12_add_63 (m + 1)) 134 M = X := fun X hX => by
            unfold f_X12_add_102
            rw [if_pos hL.k, bx e1, if_pos hL1.k, x30, ap_of, em2, if_pos hL2.k, hb2, if_pos (by rfl)]
            exact hX
          by_cases c59 : tkK tb n p.1 = 59
          · rw [if_pos c59] at em ⊢
            have szb : ∀ l, (B.apL p.2).sz l ≤ 2000000000 := fun l => by
              have := hsz l
              have q := cnE_le (l := l) p.2
              have := o4.2
              rw [apL_sz]
              omega
            have tm := X12_isTooMuch hS hL2 hR2.2.1 hX2 szb (rc := B.rc + 1) (by omega) h302
            by_cases cf : fitS S.nl (B.apL p.2).inc
            · rw [if_pos cf]
              have er := tm.1 ⟨by omega, cf.2⟩
              have go3 := tk_go hbt o3 (by omega)
              obtain ⟨M3, e3, g3, hT3⟩ := X12_markY hL2 hR2.2.2 hT2 o3 hb2 59 (by omega) (by omega) c59
              have e3 : f_X12_mark 134 (59 : Int32) M2 = _ := e3
              have gb3 : Chg br2 M2 M3 := g3.mono (fun a j q => Or.inl (tkR_br a j q))
              obtain ⟨M4, e4, g4, d4⟩ := ih (m + 1) M3 (B.apL p.2).inc (tkE tb n p.1) (by omega) (by omega) (hR2.chg2 gb3) (hX2.tk g3) (bad.tk hb2 g3) hT3 (by
                rw [g3.i (by unfold tkR; omega), h302]
                show _ = i32 (((B.apL p.2).rc + 1 : Nat) : Int)
                rw [apL_rc]) cf.1 (fun l => by
                by_cases c : l < S.nl
                · exact cf.2 l c
                · show (B.apL p.2).sz l ≤ 120
                  rw [apL_sz, cnE_ge (by omega) _ o4.1]
                  exact hsz l) go3.2.1
              refine ⟨M4, go2 _ ?_, gb2.tr (gb3.tr g4), d4⟩
              rw [bx em, if_neg (by exact nz), if_pos hL2.k, bx er, if_pos (by rfl)]
              unfold f_X12_add_147
              rw [if_pos hL2.k, bx e3, e4]
            · rw [if_neg cf]
              have er := tm.2 (fun q => cf ⟨by show (B.apL p.2).rc + 1 ≤ 30; rw [apL_rc]; exact q.1, q.2⟩)
              obtain ⟨M3, e3, g3, b3'⟩ := X12_wrong hL2 hb2 hT2.2.1 2 (by omega) (by omega)
              have e3 : f_X12_wrong 134 (2 : Int32) M2 = _ := e3
              have gb3 : Chg br2 M2 M3 := g3.mono (fun a j q => Or.inl (rdR_br a j q))
              refine ⟨M3, go2 _ ?_, gb2.tr gb3, b3'⟩
              rw [bx em, if_neg (by exact nz), if_pos hL2.k, bx er, if_neg (by exact nz), if_pos hL2.k, bx e3]
              exact X12_add147b (hL2.all gb3) b3' m
          · rw [if_neg c59] at em ⊢
            obtain ⟨M3, e3, g3, b3'⟩ := X12_markF hL2 hR2.2.2 hT2 o3 hb2 59 (by omega) (by omega) c59
            have e3 : f_X12_mark 134 (59 : Int32) M2 = _ := e3
            have gb3 : Chg br2 M2 M3 := g3.mono (fun a j q => Or.inl (rdR_br a j q))
            refine ⟨M3, go2 _ ?_, gb2.tr gb3, b3'⟩
            rw [bx em, if_pos (by rfl)]
            unfold f_X12_add_147
            rw [if_pos hL2.k, bx e3]
            exact X12_add63b (hL2.all gb3) b3' m
end
def rwI (a j : Nat) : Prop := (a = 134 ∧ (j = 2 ∨ (5 ≤ j ∧ j ≤ 14) ∨ j = 30 ∨ j = 31 ∨ j = 34 ∨ j = 35)) ∨ a = 138 ∨ (150 ≤ a ∧ a ≤ 154)
section
variable {M M' : Mem} {S : Sc} {t : Nat → Int} {z k : Nat} {A : St} {dp : Nat → Nat} {Bs : Nat → St}
theorem X12_add156b {f : Int} {b : Nat} (hL : RLay M) (h : RBad M f b) (hrow : RRow M 153 0 A) : ∃ M', f_X12_add_156 134 M = some (i32 f, M') ∧ Chg rwI M M' ∧ RE M' A ∧ mI M' 134 14 = i32 b ∧ mI M' 138 0 = mI M 138 0 + i32 1 ∧ mI M' 138 1 = mI M 138 1 ∧ (∀ j, mI M' 152 j = mI M 152 j) ∧ mI M' 134 31 = mI M 134 31 ∧ mI M' 134 2 = mI M 134 2 ∧ mI M' 134 5 = mI M 134 5 := by
  obtain ⟨M1, e1, g1, w1, w2⟩ := X12_endedF hL h
  have hL1 := hL.all g1
  have nz := h.nz
  have nf : ¬ (i32 f = i32 0) := by rw [← h.1]; exact nz
  have r32 : mR M1 134 32 = 153 := by simp only [hL1.o]
  have k153 : mK M1 153 = 21 := by simp only [hL1.o]
  have n153 : mN M1 153 = 969 := by simp only [hL1.o]
  obtain ⟨M2, e2, g2, q1, q2, q3⟩ := X12_unpack (a := 153) (off := 0) hL1 (by omega) (by omega) k153 (by omega) (by omega)
  have e2 : f_X12_unpack 134 153 (0 : Int32) M1 = _ := e2
  have hL2 := hL1.all g2
  have hE2 : RE M2 A := RE.of (hrow.cg (M' := M1) (a' := 153) (off' := 0) (fun i hi => g1.i (by unfold enR; omega))) q1 q2 q3
  have i12 : mI M2 134 12 = i32 f := by rw [g2.i (by unfold upC; omega), g1.i (by unfold enR; omega)]; exact h.1
  refine ⟨M2, ?_, (g1.mono (fun a j q => by unfold enR at q; unfold rwI; omega)).tr (g2.mono (fun a j q => by unfold upC at q; unfold rwI; omega)), hE2, ?_, ?_, ?_, fun j => ?_, ?_, ?_, ?_⟩
  · unfold f_X12_add_156
    rw [if_pos hL.k, bx e1, if_neg (by exact nf), if_pos hL1.k, r32, bx e2, if_pos hL2.k, i12]
  · rw [g2.i (by unfold upC; omega)]; exact w1
  · rw [g2.i (by unfold upC; omega)]; exact w2
  · rw [g2.i (by unfold upC; omega), g1.i (by unfold enR; omega)]
  · rw [g2.i (by unfold upC; omega), g1.i (by unfold enR; omega)]
  · rw [g2.i (by unfold upC; omega), g1.i (by unfold enR; omega)]
  · rw [g2.i (by unfold upC; omega), g1.i (by unfold enR; omega)]
  · rw [g2.i (by unfold upC; omega), g1.i (by unfold enR; omega)]
theorem X12_add156g {B : St} (hL : RLay M) (hb : mI M 134 12 = i32 0) (hE : RE M B) (hrow : RRow M 153 0 A) (hk : k ≤ 40) (h31 : mI M 134 31 = i32 k) (hac : ActsR M 152 k Bs) (hBs : Bs k = A) : ∃ M', f_X12_add_156 134 M = some (i32 0, M') ∧ Chg rwI M M' ∧ RE M' B ∧ mI M' 134 14 = i32 (-1) ∧ mI M' 138 0 = mI M 138 0 ∧ mI M' 138 1 = mI M 138 1 ∧ ActsR M' 152 (nK k) (bsK k Bs B) ∧ mI M' 134 31 = i32 (nK k) ∧ mI M' 134 2 = mI M 134 2 ∧ mI M' 134 5 = mI M 134 5 := by
  obtain ⟨M1, e1, g1, w1, w2⟩ := X12_ended0 hL hb
  have hL1 := hL.all g1
  have r33 : mR M1 134 33 = 154 := by simp only [hL1.o]
  have k154 : mK M1 154 = 21 := by simp only [hL1.o]
  have n154 : mN M1 154 = 969 := by simp only [hL1.o]
  have hE1 : RE M1 B := hE.cg (fun l q => g1.i (by unfold enR; omega)) (fun j => g1.i (by unfold enR; omega)) (g1.i (by unfold enR; omega))
  obtain ⟨M2, e2, g2, a1, a2, a3⟩ := X12_pack (a := 154) (off := 0) hL1 (by omega) (by omega) k154 (by omega) (by omega)
  have e2 : f_X12_pack 134 154 (0 : Int32) M1 = _ := e2
  have hrowB := RRow.of hE1 a1 a2 a3
  have hL2 := hL1.all g2
  have r32 : mR M2 134 32 = 153 := by simp only [hL2.o]
  have k153 : mK M2 153 = 21 := by simp only [hL2.o]
  have n153 : mN M2 153 = 969 := by simp only [hL2.o]
  obtain ⟨M3, e3, g3, b1, b2, b3⟩ := X12_unpack (a := 153) (off := 0) hL2 (by omega) (by omega) k153 (by omega) (by omega)
  have e3 : f_X12_unpack 134 153 (0 : Int32) M2 = _ := e3
  have hL3 := hL2.all g3
  have hE3 : RE M3 A := RE.of (hrow.cg (M' := M2) (a' := 153) (off' := 0) (fun i hi => by rw [g2.i (by unfold pkC; omega), g1.i (by unfold enR; omega)])) b1 b2 b3
  have h313 : mI M3 134 31 = i32 k := by rw [g3.i (by unfold upC; omega), g2.i (by unfold pkC; omega), g1.i (by unfold enR; omega)]; exact h31
  have hac3 : ActsR M3 152 k Bs := fun j hj => (hac j hj).cg (fun i hi => by rw [g3.i (by unfold upC; omega), g2.i (by unfold pkC; omega), g1.i (by unfold enR; omega)])
  obtain ⟨M4, e4, g4, c1, c2⟩ := keepR hL3 hE3 hk h313 hac3 hBs (A' := B)
  have hL4 := hL3.all g4
  have r334 : mR M4 134 33 = 154 := by simp only [hL4.o]
  have k1544 : mK M4 154 = 21 := by simp only [hL4.o]
  have n1544 : mN M4 154 = 969 := by simp only [hL4.o]
  obtain ⟨M5, e5, g5, d1, d2, d3⟩ := X12_unpack (a := 154) (off := 0) hL4 (by omega) (by omega) k1544 (by omega) (by omega)
  have e5 : f_X12_unpack 134 154 (0 : Int32) M4 = _ := e5
  have hE5 : RE M5 B := RE.of (hrowB.cg (M' := M4) (a' := 154) (off' := 0) (fun i hi => by rw [g4.i (by omega), g3.i (by unfold upC; omega)])) d1 d2 d3
  refine ⟨M5, ?_, (g1.mono (fun a j q => by unfold enR at q; unfold rwI; omega)).tr ((g2.mono (fun a j q => by unfold pkC at q; unfold rwI; omega)).tr ((g3.mono (fun a j q => by unfold upC at q; unfold rwI; omega)).tr ((g4.mono (fun a j q => by unfold rwI; omega)).tr (g5.mono (fun a j q => by unfold upC at q; unfold rwI; omega))))), hE5, ?_, ?_, ?_, fun j hj => ?_, ?_, ?_, ?_⟩
  · unfold f_X12_add_156
    rw [if_pos hL.k, bx e1, if_pos (by rfl), if_pos hL1.k, r33, bx e2, if_pos hL2.k, r32, bx e3, if_pos hL3.k, bx e4, if_pos hL4.k, r334, bx e5]
    rfl
  · rw [g5.i (by unfold upC; omega), g4.i (by omega), g3.i (by unfold upC; omega), g2.i (by unfold pkC; omega)]; exact w1
  · rw [g5.i (by unfold upC; omega), g4.i (by omega), g3.i (by unfold upC; omega), g2.i (by unfold pkC; omega)]; exact w2
  · rw [g5.i (by unfold upC; omega), g4.i (by omega), g3.i (by unfold upC; omega), g2.i (by unfold pkC; omega), g1.i (by unfold enR; omega)]
  · exact (c2 j hj).cg (fun i hi => g5.i (by unfold upC; omega))
  · rw [g5.i (by unfold upC; omega)]; exact c1
  · rw [g5.i (by unfold upC; omega), g4.i (by omega), g3.i (by unfold upC; omega), g2.i (by unfold pkC; omega), g1.i (by unfold enR; omega)]
  · rw [g5.i (by unfold upC; omega), g4.i (by omega), g3.i (by unfold upC; omega), g2.i (by unfold pkC; omega), g1.i (by unfold enR; omega)]
def RAft (M' : Mem) (A' : St) (n' : Nat) (Bs' : Nat → St) : Prop := RE M' A' ∧ mI M' 134 31 = i32 n' ∧ ActsR M' 152 n' Bs'
theorem r_add (hW : S.wf) (hV : RV M S A) (hVT : VT S S dp) (hT : TPr M t z) (hk : k ≤ 40) (h31 : mI M 134 31 = i32 k) (hac : ActsR M 152 k Bs) (hBs : Bs k = A) (n : Int) (n1 : -2147483648 ≤ n) (n2 : n ≤ 2147483647) : ∃ x M', f_X12_add 134 (i32 n) M = some (x, M') ∧ Chg rwI M M' ∧ (if 0 ≤ n ∧ n ≤ z then (mI M' 134 2 = i32 0 ∧ a_add S A t z n = .inr x ∧ mI M' 134 5 = i32 0 ∧ (if S.nf = 0 ∨ (chk S A).1 ≠ 0 then (RAft M' A k Bs ∧ mI M' 134 14 = mI M 134 14 ∧ mI M' 138 0 = mI M 138 0 ∧ mI M' 138 1 = mI M 138 1 + i32 1) else (mI M' 138 1 = mI M 138 1 ∧ match adR S t n.toNat A with
    | .inl y => RAft M' A k Bs ∧ mI M' 134 14 = i32 y.2 ∧ mI M' 138 0 = mI M 138 0 + i32 1
    | .inr B => RAft M' B (nK k) (bsK k Bs B) ∧ mI M' 134 14 = i32 (-1) ∧ mI M' 138 0 = mI M 138 0))) else (mI M' 134 2 = i32 1 ∧ Chg (fun a j => a = 134 ∧ j = 2) M M')) := by
  have hS := hW.1
  have hnf := hS.1
  have hnl := hS.2.1
  have hL := hV.1
  unfold a_add
  by_cases c : 0 ≤ n ∧ n ≤ z
  · simp only [c, and_self, if_true]
    obtain ⟨n, rfl⟩ : ∃ k : Nat, n = k := ⟨n.toNat, by omega⟩
    simp only [Int.toNat_natCast]
    obtain ⟨M1, e1, g1, x1, h6, hb, h5, h2⟩ := X12_beginY hL hT (n := n) (by omega)
    have hL1 := hL.all g1
    have hV1 : RV M1 S A := ⟨hL1, hV.2.1.chg g1 (fun a j q => by unfold bgR at q; omega), hV.2.2.cg (fun l q => g1.i (by unfold bgR; omega)) (fun j => g1.i (by unfold bgR; omega)) (g1.i (by unfold bgR; omega))⟩
    have ga1 : Chg rwI M M1 := g1.mono (fun a j q => by unfold bgR at q; unfold rwI; omega)
    have r23 : mR M1 134 23 = 147 := by simp only [hL1.o]
    have k147 : mK M1 147 = 21 := by simp only [hL1.o]
    have n147 : mN M1 147 = 3 := by simp only [hL1.o]
    have c0 : (0 : Int32).toNatClampNeg = 0 := by decide
    have c1 : (1 : Int32).toNatClampNeg = 1 := by decide
    have nz1 : ¬ (i32 1 = i32 0) := i32_ne (by omega) (by omega) (by omega) (by omega) (by omega)
    have ref : ∀ M2, Chg rwI M M2 → RE M2 A → mI M2 134 31 = i32 k → ActsR M2 152 k Bs → mI M2 134 2 = i32 0 → mI M2 134 5 = i32 0 → mI M2 134 14 = mI M 134 14 → (∀ j, mI M2 138 j = mI M 138 j) → ∃ M', f_X12_add_26 134 M2 = some (i32 (-1), M') ∧ Chg rwI M M' ∧ mI M' 134 2 = i32 0 ∧ mI M' 134 5 = i32 0 ∧ RAft M' A k Bs ∧ mI M' 134 14 = mI M 134 14 ∧ mI M' 138 0 = mI M 138 0 ∧ mI M' 138 1 = mI M 138 1 + i32 1 := fun M2 g2 hE2 w31 wac w2 w5 w14 w138 => by
      have hL2 := hL.all g2
      have r4 : mR M2 134 4 = 138 := by simp only [hL2.o]
      have k138 : mK M2 138 = 21 := by simp only [hL2.o]
      have n138 : mN M2 138 = 2 := by simp only [hL2.o]
      refine ⟨sI M2 138 1 (mI M2 138 1 + i32 1), ?_, g2.sI (by unfold rwI; omega), ?_, ?_, ⟨?_, ?_, fun j hj => ?_⟩, ?_, ?_, ?_⟩
      · unfold f_X12_add_26
        rw [if_pos hL2.k, r4, if_pos k138, n138, if_pos (by decide), c1, ap_of]
        rfl
      · rw [mI_sI_ne (by omega)]; exact w2
      · rw [mI_sI_ne (by omega)]; exact w5
      · exact hE2.cg (fun l q => mI_sI_ne (by omega)) (fun j => mI_sI_ne (by omega)) (mI_sI_ne (by omega))
      · rw [mI_sI_ne (by omega)]; exact w31
      · exact (wac j hj).cg (fun i hi => mI_sI_ne (by omega))
      · rw [mI_sI_ne (by omega)]; exact w14
      · rw [mI_sI_ne (by omega), w138]
      · rw [mI_sI_eq, w138]
    have w31 : mI M1 134 31 = i32 k := by rw [g1.i (by unfold bgR; omega)]; exact h31
    have wac : ActsR M1 152 k Bs := fun j hj => (hac j hj).cg (fun i hi => g1.i (by unfold bgR; omega))
    have w14 : mI M1 134 14 = mI M 134 14 := g1.i (by unfold bgR; omega)
    have w138 : ∀ j, mI M1 138 j = mI M 138 j := fun j => g1.i (by unfold bgR; omega)
    have st1 : ∀ X, (if i32 (S.nf : Int) = 0 then f_X12_add_26 134 M1 else bnd (f_X12_checked 134 M1) fun r10 M9 => if r10 = 0 then if mK M9 134 = 13 then bnd (f_X12_pack 134 (mR M9 134 32) (0 : Int32) M9) fun _ M13 => if mK M13 134 = 13 then bnd (f_X12_stepOn 134 M13) fun _ M16 => if mK M16 134 = 13 then if (mI M16 134 8) = 0 then bnd (f_X12_wrong 134 (1 : Int32) M16) fun _ M20 => f_X12_add_63 FUEL 134 M20 else f_X12_add_63 FUEL 134 M16 else none else none else none else f_X12_add_26 134 M9) = some X → f_X12_add 134 (i32 (n : Int)) M = some X := fun X hX => by
      unfold f_X12_add
      rw [if_pos hL.k, bx e1, if_neg (by exact nz1), if_pos hL1.k, r23, if_pos k147, n147, if_pos (by decide), c0, hV1.2.1.1]
      exact hX
    by_cases d : S.nf = 0
    · simp only [d, true_or, if_true]
      obtain ⟨M', e, r1, r2, r3, r4⟩ := ref M1 ga1 hV1.2.2 w31 wac h2 h5 w14 w138
      refine ⟨i32 (-1), M', st1 _ ?_, r1, r2, rfl, r3, r4⟩
      rw [d, if_pos (by rfl)]
      exact e
    · have nf0 : ¬ (i32 (S.nf : Int) = i32 0) := i32_ne (by omega) (by omega) (by omega) (by omega) (by omega)
      obtain ⟨M2, e2, s2, h22, g2⟩ := r_chk hW hV1 h2
      have hV2 := hV1.scr hS s2
      have hL2 := hV2.1
      have ga2 : Chg rwI M M2 := ga1.tr (g2.mono (fun a j q => by unfold rwI; omega))
      have hbk := chkF_b S A hV.2.2.1 S.nl 0
      have hb2 : 0 ≤ (chk S A).1 ∧ (chk S A).1 ≤ 5 := ⟨hbk.1, hbk.2.1⟩
      by_cases d2 : (chk S A).1 = 0
      · have nr : ¬ (S.nf = 0 ∨ (chk S A).1 ≠ 0) := by omega
        simp only [nr, if_false]
        rw [d2] at e2
        have r32 : mR M2 134 32 = 153 := by simp only [hL2.o]
        have k153 : mK M2 153 = 21 := by simp only [hL2.o]
        have n153 : mN M2 153 = 969 := by simp only [hL2.o]
        obtain ⟨M3, e3, g3, a1, a2, a3⟩ := X12_pack (a := 153) (off := 0) hL2 (by omega) (by omega) k153 (by omega) (by omega)
        have e3 : f_X12_pack 134 153 (0 : Int32) M2 = _ := e3
        have hrow := RRow.of hV2.2.2 a1 a2 a3
        have hL3 := hL2.all g3
        have fr3 : ∀ a j, a ≠ 153 → ¬ (a = 134 ∧ (j = 34 ∨ j = 35)) → mI M3 a j = mI M1 a j := fun a j q1 q2 => by rw [g3.i (by unfold pkC; omega), g2.i (by omega)]
        have hT3 : TXr M3 t n := ⟨by rw [fr3 _ _ (by omega) (by omega)]; exact x1.1, fun i hi => by rw [fr3 _ _ (by omega) (by omega)]; exact x1.2.1 i hi, x1.2.2⟩
        have h63 : mI M3 134 6 = i32 ((0 : Nat) : Int) := by rw [fr3 _ _ (by omega) (by omega)]; exact h6
        obtain ⟨M4, e4, g4, k4⟩ := X12_stepOn hL3 hT3 h63 (by omega)
        have hL4 := hL3.all g4
        have hR4 : BRL M4 S t n := ⟨hL4, (hV2.2.1.chg g3 (fun a j q => by unfold pkC at q; omega)).chg g4 (fun a j q => by unfold tkR at q; omega), hT3.tkr g4⟩
        have ga4 : Chg rwI M M4 := ga2.tr ((g3.mono (fun a j q => by unfold pkC at q; unfold rwI; omega)).tr (g4.mono (fun a j q => by unfold tkR at q; unfold rwI; omega)))
        have hb4 : mI M4 134 12 = i32 0 := by rw [g4.i (by unfold tkR; omega), fr3 _ _ (by omega) (by omega)]; exact hb
        have hE4 : RE M4 A := hV2.2.2.cg (fun l q => by rw [g4.i (by unfold tkR; omega), g3.i (by unfold pkC; omega)]) (fun j => by rw [g4.i (by unfold tkR; omega), g3.i (by unfold pkC; omega)]) (by rw [g4.i (by unfold tkR; omega), g3.i (by unfold pkC; omega)])
        have hrow4 : RRow M4 153 0 A := hrow.cg (fun i hi => g4.i (by unfold tkR; omega))
        have k4' : mI M4 134 8 = i32 (rkK t n 0) := k4.1
        have tkb := tkK_b t hT.2.2.2 n 0
        have hn7 := x1.2.2.1
        -- the rest, from where the text has ended or something is wrong
        have fin : ∀ M5, f_X12_add 134 (i32 (n : Int)) M = f_X12_add_156 134 M5 → Chg br2 M4 M5 → (match adR S t n A with
            | .inl y => RBad M5 y.1 y.2
            | .inr B' => mI M5 134 12 = i32 0 ∧ RX M5 B' ∧ mI M5 134 30 = i32 B'.rc) → ∃ x M', f_X12_add 134 (i32 (n : Int)) M = some (x, M') ∧ Chg rwI M M' ∧ mI M' 134 2 = i32 0 ∧ (match adR S t n A with
            | .inl y => Sum.inr (i32 y.1)
            | .inr _ => (.inr (i32 0) : Nat ⊕ Int32)) = .inr x ∧ mI M' 134 5 = i32 0 ∧ mI M' 138 1 = mI M 138 1 ∧ (match adR S t n A with
            | .inl y => RAft M' A k Bs ∧ mI M' 134 14 = i32 y.2 ∧ mI M' 138 0 = mI M 138 0 + i32 1
            | .inr B => RAft M' B (nK k) (bsK k Bs B) ∧ mI M' 134 14 = i32 (-1) ∧ mI M' 138 0 = mI M 138 0) := fun M5 est g5 m5 => by
          have hL5 := hL4.all g5
          have fr5 : ∀ a j, ¬ br2 a j → ¬ tkR a j → a ≠ 153 → ¬ (a = 134 ∧ (j = 34 ∨ j = 35)) → mI M5 a j = mI M1 a j := fun a j q1 q2 q3 q4 => by rw [g5.i q1, g4.i q2, fr3 _ _ q3 q4]
          have ga5 : Chg rwI M M5 := ga4.tr (g5.mono (fun a j q => by unfold br2 brC apC rdR at q; unfold rwI; omega))
          have hrow5 : RRow M5 153 0 A := hrow4.cg (fun i hi => g5.i (by unfold br2 brC apC rdR; omega))
          have i2 : mI M5 134 2 = i32 0 := by rw [fr5 _ _ (by unfold br2 brC apC rdR; omega) (by unfold tkR; omega) (by omega) (by omega)]; exact h2
          have i5 : mI M5 134 5 = i32 0 := by rw [fr5 _ _ (by unfold br2 brC apC rdR; omega) (by unfold tkR; omega) (by omega) (by omega)]; exact h5
          have i31 : mI M5 134 31 = i32 k := by rw [fr5 _ _ (by unfold br2 brC apC rdR; omega) (by unfold tkR; omega) (by omega) (by omega)]; exact w31
          have i138 : ∀ j, mI M5 138 j = mI M 138 j := fun j => by rw [fr5 _ _ (by unfold br2 brC apC rdR; omega) (by unfold tkR; omega) (by omega) (by omega)]; exact w138 j
          have i152 : ∀ j, mI M5 152 j = mI M1 152 j := fun j => fr5 _ _ (by unfold br2 brC apC rdR; omega) (by unfold tkR; omega) (by omega) (by omega)
          have ac5 : ActsR M5 152 k Bs := fun j hj => (wac j hj).cg (fun i hi => i152 _)
          have aok2 : match adR S t n A with
              | .inl y => True
              | .inr B' => B'.ok := by
            unfold adR
            by_cases u : tkK t n 0 = 0
            · rw [if_pos u]
              trivial
            · rw [if_neg u]
              have aok := adF_ok (tb := t) (n := n) hW hVT hT.2.2.2 (n + 1) 0 A (by omega) hV.2.2.1 (by
                intro l hl
                have ck := (chk_ok S A).mp d2
                exact (ck l hl).2.1)
              generalize adF S t n (n + 1) 0 A = v at aok
              match v, aok with
              | .inl y, _ => trivial
              | .inr B', h => exact h.1
          rw [est]
          generalize adR S t n A = w at m5 aok2
          match w, m5, aok2 with
          | .inl y, m5, _ =>
            obtain ⟨M6, e6, g6, q1, q2, q3, q4, q5, q6, q7, q8⟩ := X12_add156b hL5 m5 hrow5
            exact ⟨i32 y.1, M6, e6, ga5.tr g6, by rw [q7]; exact i2, rfl, by rw [q8]; exact i5, by rw [q4, i138], ⟨q1, by rw [q6]; exact i31, fun j hj => (ac5 j hj).cg (fun i hi => q5 _)⟩, q2, by rw [q3, i138]⟩
          | .inr B, m5, bok =>
            obtain ⟨b1, b2, b3⟩ := m5
            obtain ⟨M6, e6, g6, q1, q2, q3, q4, q5, q6, q7, q8⟩ := X12_add156g hL5 b1 (b2.re bok.2.2.2.1 bok.2.2.2.2 b3) hrow5 hk i31 ac5 hBs
            exact ⟨i32 0, M6, e6, ga5.tr g6, by rw [q7]; exact i2, rfl, by rw [q8]; exact i5, by rw [q4, i138], ⟨q1, q6, q5⟩, q2, by rw [q3, i138]⟩
        have st2 : (if (mI M4 134 8) = 0 then bnd (f_X12_wrong 134 (1 : Int32) M4) fun _ M20 => f_X12_add_63 FUEL 134 M20 else f_X12_add_63 FUEL 134 M4) = f_X12_add 134 (i32 (n : Int)) M := by
          refine Eq.symm ?_
          unfold f_X12_add
          rw [if_pos hL.k, bx e1, if_neg (by exact nz1), if_pos hL1.k, r23, if_pos k147, n147, if_pos (by decide), c0, hV1.2.1.1, if_neg (by exact nf0), bx e2, if_pos (by rfl), if_pos hL2.k, r32, bx e3, if_pos hL3.k, bx e4, if_pos hL4.k]
        have fin' : ∃ x M', f_X12_add 134 (i32 (n : Int)) M = some (x, M') ∧ Chg rwI M M' ∧ mI M' 134 2 = i32 0 ∧ (match adR S t n A with
            | .inl y => Sum.inr (i32 y.1)
            | .inr _ => (.inr (i32 0) : Nat ⊕ Int32)) = .inr x ∧ mI M' 134 5 = i32 0 ∧ mI M' 138 1 = mI M 138 1 ∧ (match adR S t n A with
            | .inl y => RAft M' A k Bs ∧ mI M' 134 14 = i32 y.2 ∧ mI M' 138 0 = mI M 138 0 + i32 1
            | .inr B => RAft M' B (nK k) (bsK k Bs B) ∧ mI M' 134 14 = i32 (-1) ∧ mI M' 138 0 = mI M 138 0) := by
          by_cases u : tkK t n 0 = 0
          · have r0 : rkK t n 0 = 0 := tkb.2.2.2.2.2.1.mpr (tkb.2.2.1.mp u)
            obtain ⟨M5, e5, g5, b5⟩ := X12_wrong hL4 hb4 k4.2.1 1 (by omega) (by omega)
            have e5 : f_X12_wrong 134 (1 : Int32) M4 = _ := e5
            have gb5 : Chg br2 M4 M5 := g5.mono (fun a j q => Or.inl (rdR_br a j q))
            obtain ⟨mm, hmm⟩ : ∃ m, FUEL = m + 1 := ⟨FUEL - 1, by unfold FUEL; omega⟩
            refine fin M5 ?_ gb5 ?_
            · rw [← st2, k4', r0, if_pos (by rfl), bx e5, hmm]
              exact X12_add63b (hL4.all gb5) b5 mm
            · unfold adR
              rw [if_pos u]
              exact b5
          · have r0 : rkK t n 0 ≠ 0 := fun v => u (tkb.2.2.1.mpr (tkb.2.2.2.2.2.1.mp v))
            have nr0 : ¬ (i32 (rkK t n 0) = i32 0) := i32_ne (by omega) (by omega) (by omega) (by omega) r0
            obtain ⟨M5, e5, g5, m5⟩ := X12_add63 (tb := t) hn7 hW hVT (by omega) (n + 1) FUEL M4 A 0 (by omega) (by unfold FUEL; omega) hR4 (RX.of hE4) hb4 k4 hE4.2.2.2 hV.2.2.1.2.2.2.2 hV.2.2.1.2.2.2.1 (by omega)
            refine fin M5 ?_ g5 ?_
            · rw [← st2, k4', if_neg (by exact nr0), e5]
            · unfold adR
              rw [if_neg u]
              exact m5
        obtain ⟨x, M', p1, p2, p3, p4, p5, p6, p7⟩ := fin'
        exact ⟨x, M', p1, p2, p3, p4, p5, p6, p7⟩
      · have yr : S.nf = 0 ∨ (chk S A).1 ≠ 0 := Or.inr d2
        simp only [yr, if_true]
        have nc : ¬ (i32 (chk S A).1 = i32 0) := i32_ne (by omega) (by omega) (by omega) (by omega) d2
        obtain ⟨M', e, r1, r2, r3, r4⟩ := ref M2 ga2 hV2.2.2 (by rw [g2.i (by omega)]; exact w31) (fun j hj => (wac j hj).cg (fun i hi => g2.i (by omega))) h22 (by rw [g2.i (by omega)]; exact h5) (by rw [g2.i (by omega)]; exact w14) (fun j => by rw [g2.i (by omega)]; exact w138 j)
        refine ⟨i32 (-1), M', st1 _ ?_, r1, r2, rfl, r3, r4⟩
        rw [if_neg (by exact nf0), bx e2, if_neg (by exact nc)]
        exact e
  · simp only [c, if_false]
    obtain ⟨M1, e1, g1, h2⟩ := X12_beginN hL hT n n1 n2 c
    refine ⟨i32 0, M1, ?_, g1.mono (fun a j q => by unfold rwI; omega), h2, g1⟩
    unfold f_X12_add
    rw [if_pos hL.k, bx e1, if_pos (by rfl)]
    rfl
end
