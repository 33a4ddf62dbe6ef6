/-! add in the class: a record is read -/
def ARes (M M' : Mem) (S : Sc) (tb : Nat → Int) (n : Nat) (A0 B : St) (r : Int32) (x : Rd) : Prop := Chg adC M M' ∧ CC M' 21 S.fu A0 ∧ match x with
  | .inl y => r = i32 0 ∧ mI M' 5 5 = i32 y.1 ∧ mI M' 2 4 = i32 y.2
  | .inr p => r = i32 1 ∧ CTk M' tb n p.1 ∧ CX M' S A0 (B.apL p.2)
abbrev canB (S : Sc) (tb : Nat → Int) (n f e : Nat) : Prop := (S.kd f = 2 ∧ tkK tb n e = 91) ∨ (S.kd f ≠ 2 ∧ ((S.kd f = 1 ∧ tkK tb n e = 45) ∨ (S.lf f = -1 ∧ tkK tb n e = 40) ∨ (S.lf f ≠ -1 ∧ tkK tb n e = 2)))
theorem rdFd_no {S : Sc} {tb : Nat → Int} {n f e : Nat} {sub : Nat → Int → Int → Nat → Rd} {r d : Int} (h : ¬ canB S tb n f e) : rdFd S tb n sub f r d e = .inl (1, tkB tb n e) := by
  unfold rdFd
  by_cases q : S.kd f = 2
  · rw [if_pos q, if_neg (fun w => h (Or.inl ⟨q, w⟩))]
  · rw [if_neg q, if_neg (fun w => h (Or.inr ⟨q, Or.inl w⟩))]
    unfold rdIt
    by_cases l : S.lf f = -1
    · rw [if_pos l, if_neg (fun w => h (Or.inr ⟨q, Or.inr (Or.inl ⟨l, w⟩)⟩))]
    · have k2 : tkK tb n e ≠ 2 := fun w => h (Or.inr ⟨q, Or.inr (Or.inr ⟨l, w⟩)⟩)
      have e1 : nfS tb n e = 1 := by
        unfold nfS
        rw [if_neg k2]
      rw [if_neg l, e1, if_neg (by omega)]
section
variable {M M' : Mem} {S : Sc} {s : Nat} {tb : Nat → Int} {n : Nat} {A0 B : St}
theorem ARes.tr {M1 : Mem} {r : Int32} {x : Rd} (g : Chg adC M M1) (h : ARes M1 M' S tb n A0 B r x) : ARes M M' S tb n A0 B r x := ⟨g.tr h.1, h.2⟩
theorem X4_failz (hL : CLay M) (k : Int32) : (bnd (f_X4_fail 5 k M) fun r M1 => if zB r = true then some (r, M1) else none) = some (i32 0, sI M 5 5 k) := by
  have k5 : mK M 5 = 5 := by simp only [hL.o]
  have e : f_X4_fail 5 k M = some (i32 0, sI M 5 5 k) := by
    unfold f_X4_fail
    rw [if_pos k5, ap_of]
    rfl
  rw [bx e, if_pos (by decide)]
theorem ares_fail {e : Nat} (hk : CTk M tb n e) (hX : CX M S A0 B) (y : Int) : ARes M (sI M 5 5 (i32 y)) S tb n A0 B (i32 0) (.inl (y, tkB tb n e)) := by
  have hX1 : CX (sI M 5 5 (i32 y)) S A0 B := hX.cg (fun a j q => mI_sI_ne (by omega))
  exact ⟨(Chg.rf adC M).sI (by unfold adC; omega), hX1.1, rfl, mI_sI_eq, by rw [mI_sI_ne (by omega)]; exact hk.2.1⟩
theorem X4_canBegin (hS : S.ok) (hR : ARL M s S tb n) {e f : Nat} (hk : CTk M tb n e) (hf : f < S.nf) : f_X4_canBegin 5 (i32 f) M = some (if canB S tb n f e then i32 1 else i32 0, M) := by
  obtain ⟨hL, hc, hsl, hsh, s1, s2, r52, r53, r54, hT⟩ := hR
  have hnf := hS.1
  have kb := hS.2.2.1 f
  have lb := hS.2.2.2.2.1 f
  have tkb := tkK_b tb hT.2.2.2 n e
  have k5 : mK M 5 = 5 := by simp only [hL.o]
  have k2 : mK M 2 = 10 := by simp only [hL.o]
  have ks : mK M s = 6 := by simp only [hsl.o]
  have r2 : mR M s 2 = s + 1 := by simp only [hsl.o]
  have ks1 : mK M (s + 1) = 21 := by simp only [hsl.o]
  have ns1 : mN M (s + 1) = 16 := by simp only [hsl.o]
  have r4 : mR M s 4 = s + 3 := by simp only [hsl.o]
  have ks3 : mK M (s + 3) = 21 := by simp only [hsl.o]
  have ns3 : mN M (s + 3) = 16 := by simp only [hsl.o]
  have inf : inB (i32 (f : Int)) 16 = true := by simp (disch := omega) only [↓reduceIte, add_i0, cast_add1, cast_sub1, toNat120, i32_lit, i32_neg, i32_add, i32_sub, i32_mul, i32_nat, i32_le, i32_lt, i32_eq, inB_i, Int.toNat_natCast, mI_sI_eq, mI_sI_ne, mR_sR_eq, mR_sR_ne, mI_sR, mR_sI, mK_sI, mN_sI, mn_sI, mJ_sI, mK_sR, mN_sR, mn_sR, mJ_sR, mI_wI, mR_wI, mK_wI, mN_wI, mn_wI, mJ_wI, ↓bnd_of, ↓bndX_r, ↓bndX_l, ↓ap_nr, bnd_of, bndX_r, bndX_l, if_true, if_false, ite_true, ite_false, not_true_eq_false, not_false_eq_true, Nat.reduceAdd, Nat.reduceMul, Nat.reduceEqDiff, Int.reduceToNat, Int.reduceNeg, Ilt_t, Ilt_f, Ile_t, Ile_f, Ieq_t, Ieq_f, Nlt_t, Nlt_f, Nle_t, Nle_f, Neq_t, Neq_f, or_true, true_or, or_false, false_or, and_true, true_and, and_false, false_and, ne_eq, or_self, and_self, decide_true, decide_false, Bool.false_eq_true]
  have ek : mI M (s + 1) f = i32 (S.kd f) := hsh.2.2.1 f hf
  have el : mI M (s + 3) f = i32 (S.lf f) := hsh.2.2.2.2.1 f hf
  have et : mI M 2 3 = i32 (tkK tb n e) := hk.1
  have e58 : f_X4_canBegin_58 5 (i32 f) M = some (if (S.lf f = -1 ∧ tkK tb n e = 40) ∨ (S.lf f ≠ -1 ∧ tkK tb n e = 2) then i32 1 else i32 0, M) := by
    unfold f_X4_canBegin_58
    rw [if_pos k5, r52, if_pos k2, r53, if_pos ks, r4, if_pos ks3, ns3, if_pos inf, nat_i (by omega), el, et]
    by_cases q : S.lf f = -1
    · rw [q, if_pos (by rfl)]
      unfold f_X4_canBegin_84
      by_cases w : tkK tb n e = 40
      · rw [w, if_pos (by rfl), if_pos (Or.inl ⟨rfl, rfl⟩)]
        rfl
      · have nw : ¬ (i32 (tkK tb n e) = i32 40) := i32_ne (by omega) (by omega) (by omega) (by omega) w
        rw [if_neg (by exact nw), if_neg (by omega)]
        rfl
    · have nq : ¬ (i32 (S.lf f) = i32 (-1)) := i32_ne (by omega) (by omega) (by omega) (by omega) q
      rw [if_neg (by exact nq)]
      unfold f_X4_canBegin_84
      by_cases w : tkK tb n e = 2
      · rw [w, if_pos (by rfl), if_pos (Or.inr ⟨q, rfl⟩)]
        rfl
      · have nw : ¬ (i32 (tkK tb n e) = i32 2) := i32_ne (by omega) (by omega) (by omega) (by omega) w
        rw [if_neg (by exact nw), if_neg (by omega)]
        rfl
  unfold f_X4_canBegin
  rw [if_pos k5, r53, if_pos ks, r2, if_pos ks1, ns1, if_pos inf, nat_i (by omega), ek, r52]
  by_cases q : S.kd f = 2
  · rw [if_pos (by rw [q]; rfl), if_pos k2, et]
    by_cases w : tkK tb n e = 91
    · rw [if_pos (show canB S tb n f e from Or.inl ⟨q, w⟩), w, if_pos (by rfl)]
      rfl
    · have nw : ¬ (i32 (tkK tb n e) = i32 91) := i32_ne (by omega) (by omega) (by omega) (by omega) w
      rw [if_neg (by exact nw), if_neg (show ¬ canB S tb n f e from fun u => by
        rcases u with u | u
        · exact w u.2
        · exact u.1 q)]
      rfl
  · have nq : ¬ (i32 (S.kd f) = i32 2) := i32_ne (by omega) (by omega) (by omega) (by omega) q
    rw [if_neg (by exact nq)]
    by_cases p : S.kd f = 1
    · rw [if_pos (by rw [p]; rfl), if_pos k2, et]
      by_cases w : tkK tb n e = 45
      · rw [if_pos (show canB S tb n f e from Or.inr ⟨q, Or.inl ⟨p, w⟩⟩), w, if_pos (by rfl)]
        rfl
      · have nw : ¬ (i32 (tkK tb n e) = i32 45) := i32_ne (by omega) (by omega) (by omega) (by omega) w
        rw [if_neg (by exact nw), e58]
        by_cases u : (S.lf f = -1 ∧ tkK tb n e = 40) ∨ (S.lf f ≠ -1 ∧ tkK tb n e = 2)
        · rw [if_pos u, if_pos (show canB S tb n f e from Or.inr ⟨q, Or.inr u⟩)]
        · rw [if_neg u, if_neg (show ¬ canB S tb n f e from fun v => by
            rcases v with v | v
            · exact q v.1
            · rcases v.2 with v | v
              · exact w v.2
              · exact u v)]
    · have np : ¬ (i32 (S.kd f) = i32 1) := i32_ne (by omega) (by omega) (by omega) (by omega) p
      rw [if_neg (by exact np), e58]
      by_cases u : (S.lf f = -1 ∧ tkK tb n e = 40) ∨ (S.lf f ≠ -1 ∧ tkK tb n e = 2)
      · rw [if_pos u, if_pos (show canB S tb n f e from Or.inr ⟨q, Or.inr u⟩)]
      · rw [if_neg u, if_neg (show ¬ canB S tb n f e from fun v => by
          rcases v with v | v
          · exact q v.1
          · rcases v.2 with v | v
            · exact p v.1
            · exact u v)]
theorem adv_ad (hR : ARL M s S tb n) (hX : CX M S A0 B) {e : Nat} (he : e ≤ n) (hk : CTk M tb n e) : ∃ M1, f_X9_advance 2 M = some ((), M1) ∧ Chg adC M M1 ∧ ARL M1 s S tb n ∧ CX M1 S A0 B ∧ CTk M1 tb n (tkE tb n e) := by
  have t := tk_b tb he
  obtain ⟨M1, e1, g1, k1⟩ := X9_advance hR.1 hR.2.2.2.2.2.2.2.2.2 hk.2.2 t.2.2.2.1
  exact ⟨M1, e1, g1.mono tkC_ad, hR.chg (g1.mono tkC_ad), hX.tk g1, k1⟩
/-- what the call for a group does -/
def HKa (s : Nat) (S : Sc) (tb : Nat → Int) (n : Nat) (A0 : St) (kF : Nat → Int32 → Int32 → Int32 → Int32 → Mem → Option (Int32 × Mem)) (sub : Nat → Int → Int → Nat → Rd) (f d : Nat) : Prop := ∀ (M : Mem) (B : St) (r : Int) (e : Nat), ARL M s S tb n → CX M S A0 B → CTk M tb n e → e ≤ n → (∀ l, B.sz l + 8 * (n - e) ≤ 100000) → 0 ≤ r → r ≤ 9 → ∃ x M', kF 5 (i32 f) (i32 ((d + 1 : Nat) : Int)) (i32 r) (i32 (S.sd f)) M = some (x, M') ∧ ARes M M' S tb n A0 B x (sub f r (S.sd f) e)
def HOk (S : Sc) (n : Nat) (sub : Nat → Int → Int → Nat → Rd) (f : Nat) : Prop := ∀ r e, 0 ≤ r → r ≤ 9 → e ≤ n → RdP S n e 0 (One S (scJ S (f : Int) 0) r) (sub f r (S.sd f) e)
theorem X4_readItem {kF : Nat → Int32 → Int32 → Int32 → Int32 → Mem → Option (Int32 × Mem)} {sub : Nat → Int → Int → Nat → Rd} {f d : Nat} (hW : S.wf) (hf : f < S.nf) (hd3 : d ≤ 3) (hk : S.lf f = -1 → HKa s S tb n A0 kF sub f d) (ho : S.lf f = -1 → HOk S n sub f) {r : Int} (r0 : 0 ≤ r) (r9 : r ≤ 9) {e : Nat} (hR : ARL M s S tb n) (hX : CX M S A0 B) (hT : CTk M tb n e) (he : e ≤ n) (hz : ∀ l, B.sz l + 8 * (n - e) ≤ 100000) : ∃ x M', f_X4_readItem kF 5 (i32 f) (i32 d) (i32 r) (i32 (S.sd f)) M = some (x, M') ∧ ARes M M' S tb n A0 B x (rdIt S tb n sub f r (S.sd f) e) := by
  obtain ⟨hL, hc, hsl, hsh, s1, s2, r52, r53, r54, hTX⟩ := id hR
  have hS := hW.1
  have hnf := hS.1
  have hnl := hS.2.1
  have lb := hS.2.2.2.2.1 f
  have sb := hS.2.2.2.2.2.1 f
  have hbt := hTX.2.2.2
  have tkb := tkK_b tb hbt n e
  have k5 : mK M 5 = 5 := by simp only [hL.o]
  have k2 : mK M 2 = 10 := by simp only [hL.o]
  have ks : mK M s = 6 := by simp only [hsl.o]
  have r4 : mR M s 4 = s + 3 := by simp only [hsl.o]
  have ks3 : mK M (s + 3) = 21 := by simp only [hsl.o]
  have ns3 : mN M (s + 3) = 16 := by simp only [hsl.o]
  have inf : inB (i32 (f : Int)) 16 = true := by simp (disch := omega) only [↓reduceIte, add_i0, cast_add1, cast_sub1, toNat120, i32_lit, i32_neg, i32_add, i32_sub, i32_mul, i32_nat, i32_le, i32_lt, i32_eq, inB_i, Int.toNat_natCast, mI_sI_eq, mI_sI_ne, mR_sR_eq, mR_sR_ne, mI_sR, mR_sI, mK_sI, mN_sI, mn_sI, mJ_sI, mK_sR, mN_sR, mn_sR, mJ_sR, mI_wI, mR_wI, mK_wI, mN_wI, mn_wI, mJ_wI, ↓bnd_of, ↓bndX_r, ↓bndX_l, ↓ap_nr, bnd_of, bndX_r, bndX_l, if_true, if_false, ite_true, ite_false, not_true_eq_false, not_false_eq_true, Nat.reduceAdd, Nat.reduceMul, Nat.reduceEqDiff, Int.reduceToNat, Int.reduceNeg, Ilt_t, Ilt_f, Ile_t, Ile_f, Ieq_t, Ieq_f, Nlt_t, Nlt_f, Nle_t, Nle_f, Neq_t, Neq_f, or_true, true_or, or_false, false_or, and_true, true_and, and_false, false_and, ne_eq, or_self, and_self, decide_true, decide_false, Bool.false_eq_true]
  have el : mI M (s + 3) f = i32 (S.lf f) := hsh.2.2.2.2.1 f hf
  have et : mI M 2 3 = i32 (tkK tb n e) := hT.1
  unfold f_X4_readItem
  rw [if_pos k5, r53, if_pos ks, r4, if_pos ks3, ns3, if_pos inf, nat_i (by omega), el, r52]
  unfold rdIt
  by_cases q : S.lf f = -1
  · rw [if_pos q, q, if_pos (by rfl), if_pos k2, et]
    by_cases k : tkK tb n e = 40
    · rw [if_pos k, k, if_pos (by rfl)]
      have go := tk_go hbt he (by omega)
      obtain ⟨M1, e1, g1, hR1, hX1, hT1⟩ := adv_ad hR hX he hT
      obtain ⟨x, M2, e2, a2⟩ := hk q M1 B r (tkE tb n e) hR1 hX1 hT1 go.2.1 (fun l => by have := hz l; omega) r0 r9
      have o2 := ho q r (tkE tb n e) r0 r9 go.2.1
      have k51 : mK M1 5 = 5 := by simp only [hR1.1.o]
      have e2 : kF 5 (i32 (f : Int)) (i32 (d : Int) + (1 : Int32)) (i32 r) (i32 (S.sd f)) M1 = some (x, M2) := by rw [k_add1]; exact e2
      rw [bx e1, if_pos k51, bx e2]
      revert a2 o2
      generalize sub f r (S.sd f) (tkE tb n e) = y
      intro a2 o2
      match y, a2, o2 with
      | .inl y, a2, o2 =>
        obtain ⟨b1, b2, b3, b4, b5⟩ := a2
        refine ⟨i32 0, M2, ?_, g1.tr b1, b2, rfl, b4, b5⟩
        rw [b3, if_pos (by rfl)]
        rfl
      | .inr p, a2, o2 =>
        obtain ⟨b1, b2, b3, b4, b5⟩ := a2
        have hR2 := hR1.chg b1
        have hL2 := hR2.1
        have k52 : mK M2 5 = 5 := by simp only [hL2.o]
        have k22 : mK M2 2 = 10 := by simp only [hL2.o]
        have r522 : mR M2 5 2 = 2 := hR2.2.2.2.2.2.2.1
        have nz : ¬ (i32 1 = i32 0) := i32_ne (by omega) (by omega) (by omega) (by omega) (by omega)
        have tkb2 := tkK_b tb hbt n p.1
        have et2 : mI M2 2 3 = i32 (tkK tb n p.1) := b4.1
        rw [b3, if_neg (by exact nz), if_pos k52, r522, if_pos k22, et2]
        by_cases k41 : tkK tb n p.1 = 41
        · obtain ⟨M3, e3, g3, hR3, hX3, hT3⟩ := adv_ad hR2 b5 o2.2.1 b4
          rw [k41, if_pos (by rfl), bx e3]
          have ex : rbd (.inr p) (fun e2 => if tkK tb n e2 = 41 then .inr (tkE tb n e2, []) else .inl (1, tkB tb n e2)) = .inr (tkE tb n p.1, p.2 ++ []) := rbd_rr (q := (tkE tb n p.1, [])) (if_pos k41)
          rw [ex]
          refine ⟨i32 1, M3, rfl, g1.tr (b1.tr g3), hX3.1, rfl, hT3, ?_⟩
          show CX M3 S A0 (B.apL (p.2 ++ []))
          rw [List.append_nil]
          exact hX3
        · have ex : rbd (.inr p) (fun e2 => if tkK tb n e2 = 41 then .inr (tkE tb n e2, []) else .inl (1, tkB tb n e2)) = .inl (1, tkB tb n p.1) := rbd_rl (if_neg k41)
          have nk : ¬ (i32 (tkK tb n p.1) = i32 41) := i32_ne (by omega) (by omega) (by omega) (by omega) k41
          rw [ex, if_neg (by exact nk), X4_failz hL2]
          have ff := ares_fail b4 b5 1
          exact ⟨i32 0, _, rfl, (g1.tr b1).tr ff.1, ff.2⟩
    · have nk : ¬ (i32 (tkK tb n e) = i32 40) := i32_ne (by omega) (by omega) (by omega) (by omega) k
      rw [if_neg k, if_neg (by exact nk), X4_failz hL]
      exact ⟨i32 0, _, rfl, ares_fail hT hX 1⟩
  · have nq : ¬ (i32 (S.lf f) = i32 (-1)) := i32_ne (by omega) (by omega) (by omega) (by omega) q
    rw [if_neg q, if_neg (by exact nq), if_pos k2]
    have w := hW.2.2.2.2.2.1 f hf q
    have enf := X9_numberFault hL hTX hT he
    have nfb := nfS_b tb n e
    rw [bx enf]
    by_cases k : nfS tb n e = 0
    · rw [if_pos k, k, if_pos (by rfl), if_pos k5, r52, if_pos k2]
      have enm := X9_number hL hTX hT he k
      have nb := nmS_b tb k hbt
      have go := tk_go hbt he (by omega)
      obtain ⟨l, hl⟩ : ∃ l : Nat, S.lf f = l := ⟨(S.lf f).toNat, by omega⟩
      have ll : (S.lf f).toNat = l := by omega
      rw [bx enm, if_pos k5, ll, hl]
      obtain ⟨M1, e1, g1, x1, t1⟩ := X4_stage (l := l) (r := r) (d := S.sd f) (v := nmS tb n e) hR hX hnl ⟨by show l < S.nl; omega, ⟨r0, r9⟩, sb, by show 0 ≤ nmS tb n e ∧ nmS tb n e ≤ 999; omega⟩ (by have := hz l; omega)
      have hR1 := hR.chg g1
      have hT1 := hT.cg t1
      have k51 : mK M1 5 = 5 := by simp only [hR1.1.o]
      have k21 : mK M1 2 = 10 := by simp only [hR1.1.o]
      have r521 : mR M1 5 2 = 2 := hR1.2.2.2.2.2.2.1
      obtain ⟨M2, e2, g2, hR2, hX2, hT2⟩ := adv_ad hR1 x1 he hT1
      rw [bx e1, if_pos k51, r521, if_pos k21, bx e2]
      exact ⟨i32 1, M2, rfl, g1.tr g2, hX2.1, rfl, hT2, hX2⟩
    · have nk : ¬ (i32 (nfS tb n e) = i32 0) := i32_ne (by omega) (by omega) (by omega) (by omega) k
      rw [if_neg k, if_neg (by exact nk), if_pos k5, X4_failz hL]
      exact ⟨i32 0, _, rfl, ares_fail hT hX _⟩
theorem X4_items {kF : Nat → Int32 → Int32 → Int32 → Int32 → Mem → Option (Int32 × Mem)} {sub : Nat → Int → Int → Nat → Rd} {f d : Nat} (hn : n ≤ 700) (hW : S.wf) (hf : f < S.nf) (hd3 : d ≤ 3) (hk : S.lf f = -1 → HKa s S tb n A0 kF sub f d) (ho : S.lf f = -1 → HOk S n sub f) {r dd : Int} (hdd : S.sd f = dd + 1) (r0 : 0 ≤ r) (r9 : r ≤ 9) : ∀ (k i m : Nat) (M : Mem) (B : St) (e : Nat), n - e < k → n - e < m → i ≤ e → ARL M s S tb n → CX M S A0 B → CTk M tb n e → e ≤ n → (∀ l, B.sz l + 8 * (n - e) ≤ 100000) → ∃ x M', f_X4_readItems_30 kF m 5 (i32 f) (i32 d) (i32 r) (i32 dd) (i32 i) M = some (x, M') ∧ ARes M M' S tb n A0 B x (rdIs S tb n sub f r dd k i e) := by
  have hS := hW.1
  have hnf := hS.1
  have rb := hS.2.2.2.2.2.2.1 f
  intro k
  induction k with
  | zero => intro i m M B e hk; omega
  | succ k ih =>
    intro i m M B e hke hme hie hR hX hT he hz
    obtain ⟨m, rfl⟩ : ∃ q, m = q + 1 := ⟨m - 1, by omega⟩
    obtain ⟨hL, hc, hsl, hsh, s1, s2, r52, r53, r54, hTX⟩ := id hR
    have hbt := hTX.2.2.2
    have tkb := tkK_b tb hbt n e
    have k5 : mK M 5 = 5 := by simp only [hL.o]
    have k2 : mK M 2 = 10 := by simp only [hL.o]
    have ks : mK M s = 6 := by simp only [hsl.o]
    have r6 : mR M s 6 = s + 5 := by simp only [hsl.o]
    have ks5 : mK M (s + 5) = 21 := by simp only [hsl.o]
    have ns5 : mN M (s + 5) = 16 := by simp only [hsl.o]
    have inf : inB (i32 (f : Int)) 16 = true := by simp (disch := omega) only [↓reduceIte, add_i0, cast_add1, cast_sub1, toNat120, i32_lit, i32_neg, i32_add, i32_sub, i32_mul, i32_nat, i32_le, i32_lt, i32_eq, inB_i, Int.toNat_natCast, mI_sI_eq, mI_sI_ne, mR_sR_eq, mR_sR_ne, mI_sR, mR_sI, mK_sI, mN_sI, mn_sI, mJ_sI, mK_sR, mN_sR, mn_sR, mJ_sR, mI_wI, mR_wI, mK_wI, mN_wI, mn_wI, mJ_wI, ↓bnd_of, ↓bndX_r, ↓bndX_l, ↓ap_nr, bnd_of, bndX_r, bndX_l, if_true, if_false, ite_true, ite_false, not_true_eq_false, not_false_eq_true, Nat.reduceAdd, Nat.reduceMul, Nat.reduceEqDiff, Int.reduceToNat, Int.reduceNeg, Ilt_t, Ilt_f, Ile_t, Ile_f, Ieq_t, Ieq_f, Nlt_t, Nlt_f, Nle_t, Nle_f, Neq_t, Neq_f, or_true, true_or, or_false, false_or, and_true, true_and, and_false, false_and, ne_eq, or_self, and_self, decide_true, decide_false, Bool.false_eq_true]
    have er : mI M (s + 5) f = i32 (S.sr f) := hsh.2.2.2.2.2.2.1 f hf
    have et : mI M 2 3 = i32 (tkK tb n e) := hT.1
    have lt : ¬ ((700 : Int32) < i32 (i : Int)) := by simp (disch := omega) only [↓reduceIte, add_i0, cast_add1, cast_sub1, toNat120, i32_lit, i32_neg, i32_add, i32_sub, i32_mul, i32_nat, i32_le, i32_lt, i32_eq, inB_i, Int.toNat_natCast, mI_sI_eq, mI_sI_ne, mR_sR_eq, mR_sR_ne, mI_sR, mR_sI, mK_sI, mN_sI, mn_sI, mJ_sI, mK_sR, mN_sR, mn_sR, mJ_sR, mI_wI, mR_wI, mK_wI, mN_wI, mn_wI, mJ_wI, ↓bnd_of, ↓bndX_r, ↓bndX_l, ↓ap_nr, bnd_of, bndX_r, bndX_l, if_true, if_false, ite_true, ite_false, not_true_eq_false, not_false_eq_true, Nat.reduceAdd, Nat.reduceMul, Nat.reduceEqDiff, Int.reduceToNat, Int.reduceNeg, Ilt_t, Ilt_f, Ile_t, Ile_f, Ieq_t, Ieq_f, Nlt_t, Nlt_f, Nle_t, Nle_f, Neq_t, Neq_f, or_true, true_or, or_false, false_or, and_true, true_and, and_false, false_and, ne_eq, or_self, and_self, decide_true, decide_false, Bool.false_eq_true]
    unfold rdIs
    by_cases c : tkK tb n e = 93
    · obtain ⟨M1, e1, g1, hR1, hX1, hT1⟩ := adv_ad hR hX he hT
      rw [if_pos c]
      refine ⟨i32 1, M1, ?_, g1, hX1.1, rfl, hT1, hX1⟩
      unfold f_X4_readItems_30
      rw [if_neg lt, if_pos k5, r52, if_pos k2, et, c, if_pos (by rfl)]
      unfold f_X4_readItems_89
      rw [if_pos k5, r52, if_pos k2, bx e1]
      rfl
    · rw [if_neg c]
      have nc : ¬ (i32 (tkK tb n e) = i32 93) := i32_ne (by omega) (by omega) (by omega) (by omega) c
      have rr : 0 ≤ (if i = 0 then r else S.sr f) ∧ (if i = 0 then r else S.sr f) ≤ 9 := by split <;> omega
      obtain ⟨x1, M1, e1, a1⟩ := X4_readItem hW hf hd3 hk ho rr.1 rr.2 hR hX hT he hz
      have o1 := rdIt_ok (tb := tb) hW hbt hf ho rr.1 rr.2 he
      rw [hdd] at a1 o1 e1
      have tail : ∀ v : Int32, v = i32 (if i = 0 then r else S.sr f) → f_X4_readItems_71 kF (f_X4_readItems_30 kF m) 5 (i32 f) (i32 d) (i32 r) (i32 dd) (i32 i) 5 (i32 f) (i32 d) v M = (if x1 = 0 then some ((0 : Int32), M1) else f_X4_readItems_30 kF m 5 (i32 f) (i32 d) (i32 r) (i32 dd) (i32 ((i + 1 : Nat) : Int)) M1) := fun v hv => by
        subst hv
        unfold f_X4_readItems_71
        rw [if_pos k5, show i32 dd + (1 : Int32) = i32 (dd + 1) from i32_add _ 1, bx e1, k_add1]
      have st : f_X4_readItems_30 kF (m + 1) 5 (i32 f) (i32 d) (i32 r) (i32 dd) (i32 i) M = (if x1 = 0 then some ((0 : Int32), M1) else f_X4_readItems_30 kF m 5 (i32 f) (i32 d) (i32 r) (i32 dd) (i32 ((i + 1 : Nat) : Int)) M1) := by
        conv => lhs; unfold f_X4_readItems_30
        rw [if_neg lt, if_pos k5, r52, if_pos k2, et, if_neg (by exact nc)]
        by_cases i0 : i = 0
        · rw [if_pos (by rw [i0]; rfl)]
          exact tail _ (by rw [if_pos i0])
        · have ni : ¬ (i32 (i : Int) = i32 0) := i32_ne (by omega) (by omega) (by omega) (by omega) (by omega)
          rw [if_neg (by exact ni), r53, if_pos ks, r6, if_pos ks5, ns5, if_pos inf, nat_i (by omega)]
          exact tail _ (by rw [if_neg i0]; exact er)
      rw [st]
      revert a1 o1
      generalize rdIt S tb n sub f (if i = 0 then r else S.sr f) (dd + 1) e = y
      intro a1 o1
      match y, a1, o1 with
      | .inl y, a1, o1 =>
        obtain ⟨b1, b2, b3, b4, b5⟩ := a1
        refine ⟨i32 0, M1, ?_, b1, b2, rfl, b4, b5⟩
        rw [b3, if_pos (by rfl)]
        rfl
      | .inr p, a1, o1 =>
        obtain ⟨b1, b2, b3, b4, b5⟩ := a1
        obtain ⟨o2, o3, o4, o5⟩ := o1
        have nz : ¬ (i32 1 = i32 0) := i32_ne (by omega) (by omega) (by omega) (by omega) (by omega)
        obtain ⟨x2, M2, e2, a2⟩ := ih (i + 1) m M1 (B.apL p.2) p.1 (by omega) (by omega) (by omega) (hR.chg b1) b5 b4 o3 (fun l => by
          have := hz l
          have q := cnE_le (l := l) p.2
          have := o4.2
          rw [apL_sz]
          omega)
        rw [b3, if_neg (by exact nz), e2]
        refine ⟨x2, M2, rfl, ?_⟩
        revert a2
        generalize hy : rdIs S tb n sub f r dd k (i + 1) p.1 = z
        intro a2
        match z, hy, a2 with
        | .inl z, hy, a2 =>
          rw [rbd_rl hy]
          exact a2.tr b1
        | .inr z, hy, a2 =>
          rw [rbd_rr hy]
          obtain ⟨d1, d2, d3, d4, d5⟩ := a2
          refine ⟨b1.tr d1, d2, d3, d4, ?_⟩
          show CX M2 S A0 (B.apL (p.2 ++ z.2))
          rw [apL_app]
          exact d5
theorem X4_readField {kF : Nat → Int32 → Int32 → Int32 → Int32 → Mem → Option (Int32 × Mem)} {sub : Nat → Int → Int → Nat → Rd} {f d : Nat} (hn : n ≤ 700) (hW : S.wf) (hf : f < S.nf) (hd3 : d ≤ 3) (hk : S.lf f = -1 → HKa s S tb n A0 kF sub f d) (ho : S.lf f = -1 → HOk S n sub f) {r : Int} (r0 : 0 ≤ r) (r9 : r ≤ 9) {e : Nat} (hR : ARL M s S tb n) (hX : CX M S A0 B) (hT : CTk M tb n e) (he : e ≤ n) (hz : ∀ l, B.sz l + 8 * (n - e) ≤ 100000) : ∃ x M', f_X4_readField kF 5 (i32 f) (i32 d) (i32 r) (i32 (S.dg (S.gr f))) M = some (x, M') ∧ ARes M M' S tb n A0 B x (rdFd S tb n sub f r (S.dg (S.gr f)) e) := by
  obtain ⟨hL, hc, hsl, hsh, s1, s2, r52, r53, r54, hTX⟩ := id hR
  have hS := hW.1
  have hnf := hS.1
  have hnl := hS.2.1
  have kb := hS.2.2.1 f
  have hbt := hTX.2.2.2
  have tkb := tkK_b tb hbt n e
  have hsd : S.sd f = S.dg (S.gr f) + (if S.kd f = 0 then 0 else 1) := hW.2.1 f hf
  have db : 0 ≤ S.dg (S.gr f) ∧ S.dg (S.gr f) ≤ 9 := by
    unfold Sc.dg
    split
    · omega
    · exact hS.2.2.2.2.2.1 _
  have k5 : mK M 5 = 5 := by simp only [hL.o]
  have k2 : mK M 2 = 10 := by simp only [hL.o]
  have ks : mK M s = 6 := by simp only [hsl.o]
  have r2 : mR M s 2 = s + 1 := by simp only [hsl.o]
  have ks1 : mK M (s + 1) = 21 := by simp only [hsl.o]
  have ns1 : mN M (s + 1) = 16 := by simp only [hsl.o]
  have inf : inB (i32 (f : Int)) 16 = true := by simp (disch := omega) only [↓reduceIte, add_i0, cast_add1, cast_sub1, toNat120, i32_lit, i32_neg, i32_add, i32_sub, i32_mul, i32_nat, i32_le, i32_lt, i32_eq, inB_i, Int.toNat_natCast, mI_sI_eq, mI_sI_ne, mR_sR_eq, mR_sR_ne, mI_sR, mR_sI, mK_sI, mN_sI, mn_sI, mJ_sI, mK_sR, mN_sR, mn_sR, mJ_sR, mI_wI, mR_wI, mK_wI, mN_wI, mn_wI, mJ_wI, ↓bnd_of, ↓bndX_r, ↓bndX_l, ↓ap_nr, bnd_of, bndX_r, bndX_l, if_true, if_false, ite_true, ite_false, not_true_eq_false, not_false_eq_true, Nat.reduceAdd, Nat.reduceMul, Nat.reduceEqDiff, Int.reduceToNat, Int.reduceNeg, Ilt_t, Ilt_f, Ile_t, Ile_f, Ieq_t, Ieq_f, Nlt_t, Nlt_f, Nle_t, Nle_f, Neq_t, Neq_f, or_true, true_or, or_false, false_or, and_true, true_and, and_false, false_and, ne_eq, or_self, and_self, decide_true, decide_false, Bool.false_eq_true]
  have ek : mI M (s + 1) f = i32 (S.kd f) := hsh.2.2.1 f hf
  have et : mI M 2 3 = i32 (tkK tb n e) := hT.1
  have eb := X4_canBegin hS hR hT hf
  have zz : ∀ {x : Int32} {M1 : Mem} {y : Rd} {N : Mem}, ARes N M1 S tb n A0 B x y → zB x = true := fun {x M1 y N} h => by
    match y, h with
    | .inl y, h => rw [h.2.2.1]; decide
    | .inr p, h => rw [h.2.2.1]; decide
  by_cases cb : canB S tb n f e
  · rw [if_pos cb] at eb
    have nz : ¬ (i32 1 = i32 0) := i32_ne (by omega) (by omega) (by omega) (by omega) (by omega)
    have st : f_X4_readField kF 5 (i32 f) (i32 d) (i32 r) (i32 (S.dg (S.gr f))) M = (if i32 (S.kd f) = 0 then (bnd (f_X4_readItem kF 5 (i32 f) (i32 d) (i32 r) (i32 (S.dg (S.gr f))) M) fun r23 M22 => if zB r23 = true then some (r23, M22) else none) else if i32 (S.kd f) = (2 : Int32) then (bnd (f_X4_readItems kF 5 (i32 f) (i32 d) (i32 r) (i32 (S.dg (S.gr f))) M) fun r21 M20 => if zB r21 = true then some (r21, M20) else none) else if i32 (tkK tb n e) = (45 : Int32) then (bnd (f_X9_advance 2 M) fun _ M13 => if mK M13 5 = 5 then (bnd (f_X4_putNone 5 (i32 f) (i32 r) (i32 (S.dg (S.gr f))) M13) fun _ M16 => some ((1 : Int32), M16)) else none) else (bnd (f_X4_readItem kF 5 (i32 f) (i32 d) (i32 r) (i32 (S.dg (S.gr f)) + (1 : Int32)) M) fun r19 M18 => if zB r19 = true then some (r19, M18) else none)) := by
      unfold f_X4_readField
      rw [if_pos k5, bx eb, if_neg (by exact nz), if_pos k5, r53, if_pos ks, r2, if_pos ks1, ns1, if_pos inf, nat_i (by omega), ek, r52, if_pos k2, et]
    rw [st]
    unfold rdFd
    by_cases q0 : S.kd f = 0
    · have hd : S.dg (S.gr f) = S.sd f := by rw [if_pos q0] at hsd; omega
      rw [if_neg (show ¬ S.kd f = 2 by omega), if_neg (show ¬ (S.kd f = 1 ∧ tkK tb n e = 45) by omega), if_neg (show ¬ S.kd f = 1 by omega), Int.add_zero, q0, if_pos (by rfl), hd]
      obtain ⟨x1, M1, e1, a1⟩ := X4_readItem hW hf hd3 hk ho r0 r9 hR hX hT he hz
      refine ⟨x1, M1, ?_, a1⟩
      rw [bx e1, if_pos (zz a1)]
    · have n0 : ¬ (i32 (S.kd f) = i32 0) := i32_ne (by omega) (by omega) (by omega) (by omega) q0
      rw [if_neg (by exact n0)]
      by_cases q2 : S.kd f = 2
      · have hd : S.sd f = S.dg (S.gr f) + 1 := by rw [if_neg q0] at hsd; exact hsd
        have k91 : tkK tb n e = 91 := by
          rcases cb with u | u
          · exact u.2
          · exact absurd q2 u.1
        rw [if_pos q2, if_pos k91, q2, if_pos (by rfl)]
        have go := tk_go hbt he (by omega)
        obtain ⟨M1, e1, g1, hR1, hX1, hT1⟩ := adv_ad hR hX he hT
        have k51 : mK M1 5 = 5 := by simp only [hR1.1.o]
        have k21 : mK M1 2 = 10 := by simp only [hR1.1.o]
        have r521 : mR M1 5 2 = 2 := hR1.2.2.2.2.2.2.1
        have et1 : mI M1 2 3 = i32 (tkK tb n (tkE tb n e)) := hT1.1
        have tkb1 := tkK_b tb hbt n (tkE tb n e)
        have tb1 := tk_b tb go.2.1
        by_cases k93 : tkK tb n (tkE tb n e) = 93
        · rw [if_pos k93]
          obtain ⟨M2, e2, g2, x2, t2⟩ := X4_putNone hS hf r0 r9 db.1 db.2 hR1 hX1 (fun l => by have := hz l; omega)
          have hR2 := hR1.chg g2
          have hT2 := hT1.cg t2
          obtain ⟨M3, e3, g3, hR3, hX3, hT3⟩ := adv_ad hR2 x2 go.2.1 hT2
          have k52 : mK M2 5 = 5 := by simp only [hR2.1.o]
          have k22 : mK M2 2 = 10 := by simp only [hR2.1.o]
          have r522 : mR M2 5 2 = 2 := hR2.2.2.2.2.2.2.1
          have et2 : mI M2 2 3 = i32 (tkK tb n (tkE tb n e)) := hT2.1
          have ei : f_X4_readItems kF 5 (i32 f) (i32 d) (i32 r) (i32 (S.dg (S.gr f))) M = some (i32 1, M3) := by
            obtain ⟨m, hm⟩ : ∃ m, FUEL = m + 1 := ⟨FUEL - 1, by unfold FUEL; omega⟩
            unfold f_X4_readItems
            rw [if_pos k5, r52, if_pos k2, bx e1, if_pos k51, r521, if_pos k21, et1, k93, if_pos (by rfl), bx e2]
            unfold f_X4_readItems_27
            rw [hm]
            unfold f_X4_readItems_30
            rw [if_neg (by decide), if_pos k52, r522, if_pos k22, et2, k93, if_pos (by rfl)]
            unfold f_X4_readItems_89
            rw [if_pos k52, r522, if_pos k22, bx e3]
            rfl
          refine ⟨i32 1, M3, ?_, g1.tr (g2.tr g3), hX3.1, rfl, hT3, hX3⟩
          rw [bx ei, if_pos (by decide)]
        · rw [if_neg k93]
          have n93 : ¬ (i32 (tkK tb n (tkE tb n e)) = i32 93) := i32_ne (by omega) (by omega) (by omega) (by omega) k93
          obtain ⟨x2, M2, e2, a2⟩ := X4_items hn hW hf hd3 hk ho hd r0 r9 (n + 1) 0 FUEL M1 B (tkE tb n e) (by omega) (by unfold FUEL; omega) (by omega) hR1 hX1 hT1 go.2.1 (fun l => by have := hz l; omega)
          have ei : f_X4_readItems kF 5 (i32 f) (i32 d) (i32 r) (i32 (S.dg (S.gr f))) M = some (x2, M2) := by
            rw [← e2]
            unfold f_X4_readItems
            rw [if_pos k5, r52, if_pos k2, bx e1, if_pos k51, r521, if_pos k21, et1, if_neg (by exact n93)]
            rfl
          refine ⟨x2, M2, ?_, a2.tr g1⟩
          rw [bx ei, if_pos (zz a2)]
      · have n2 : ¬ (i32 (S.kd f) = i32 2) := i32_ne (by omega) (by omega) (by omega) (by omega) q2
        have q1 : S.kd f = 1 := by omega
        rw [if_neg q2, if_neg (by exact n2)]
        by_cases k45 : tkK tb n e = 45
        · rw [if_pos (show S.kd f = 1 ∧ tkK tb n e = 45 from ⟨q1, k45⟩), k45, if_pos (by rfl)]
          have go := tk_go hbt he (by omega)
          obtain ⟨M1, e1, g1, hR1, hX1, hT1⟩ := adv_ad hR hX he hT
          have k51 : mK M1 5 = 5 := by simp only [hR1.1.o]
          obtain ⟨M2, e2, g2, x2, t2⟩ := X4_putNone hS hf r0 r9 db.1 db.2 hR1 hX1 (fun l => by have := hz l; omega)
          refine ⟨i32 1, M2, ?_, g1.tr g2, x2.1, rfl, hT1.cg t2, x2⟩
          rw [bx e1, if_pos k51, bx e2]
          rfl
        · have n45 : ¬ (i32 (tkK tb n e) = i32 45) := i32_ne (by omega) (by omega) (by omega) (by omega) k45
          have hd : S.dg (S.gr f) + 1 = S.sd f := by rw [if_neg q0] at hsd; exact hsd.symm
          rw [if_neg (show ¬ (S.kd f = 1 ∧ tkK tb n e = 45) from fun u => k45 u.2), if_neg (by exact n45), if_pos q1, show i32 (S.dg (S.gr f)) + (1 : Int32) = i32 (S.dg (S.gr f) + 1) from i32_add _ 1, hd]
          obtain ⟨x1, M1, e1, a1⟩ := X4_readItem hW hf hd3 hk ho r0 r9 hR hX hT he hz
          refine ⟨x1, M1, ?_, a1⟩
          rw [bx e1, if_pos (zz a1)]
  · rw [if_neg cb] at eb
    rw [rdFd_no cb]
    refine ⟨i32 0, sI M 5 5 (i32 1), ?_, ares_fail hT hX 1⟩
    unfold f_X4_readField
    rw [if_pos k5, bx eb, if_pos (by rfl), if_pos k5]
    exact X4_failz hL (i32 1)
theorem X4_fields {kF : Nat → Int32 → Int32 → Int32 → Int32 → Mem → Option (Int32 × Mem)} {sub : Nat → Int → Int → Nat → Rd} {d : Nat} {g : Int} (hn : n ≤ 700) (hW : S.wf) (g0 : -1 ≤ g) (g16 : g < 16) (hd3 : d ≤ 3) (hk : ∀ f, f < S.nf → S.gr f = g → S.lf f = -1 → HKa s S tb n A0 kF sub f d) (ho : ∀ f, f < S.nf → S.gr f = g → S.lf f = -1 → HOk S n sub f) {r : Int} (r0 : 0 ≤ r) (r9 : r ≤ 9) : ∀ (k j m : Nat) (M : Mem) (B : St) (e : Nat), j + k = S.nf → k < m → ARL M s S tb n → CX M S A0 B → CTk M tb n e → e ≤ n → (∀ l, B.sz l + 8 * (n - e) ≤ 100000) → ∃ x M', f_X4_readFields_14 kF m 5 (i32 g) (i32 d) (i32 r) (i32 (S.dg g)) (i32 j) M = some (x, M') ∧ ARes M M' S tb n A0 B x (rdFs S tb n sub g r (S.dg g) k j e) := by
  have hS := hW.1
  have hnf := hS.1
  intro k
  induction k with
  | zero =>
    intro j m M B e hj hm hR hX hT he hz
    obtain ⟨m, rfl⟩ : ∃ q, m = q + 1 := ⟨m - 1, by omega⟩
    obtain ⟨hL, hc, hsl, hsh, s1, s2, r52, r53, r54, hTX⟩ := id hR
    have k5 : mK M 5 = 5 := by simp only [hL.o]
    have ks : mK M s = 6 := by simp only [hsl.o]
    refine ⟨i32 1, M, ?_, Chg.rf _ M, hX.1, rfl, hT, hX⟩
    unfold f_X4_readFields_14
    rw [if_pos k5, r53, if_pos ks, hsh.1, if_pos (by simp (disch := omega) only [↓reduceIte, add_i0, cast_add1, cast_sub1, toNat120, i32_lit, i32_neg, i32_add, i32_sub, i32_mul, i32_nat, i32_le, i32_lt, i32_eq, inB_i, Int.toNat_natCast, mI_sI_eq, mI_sI_ne, mR_sR_eq, mR_sR_ne, mI_sR, mR_sI, mK_sI, mN_sI, mn_sI, mJ_sI, mK_sR, mN_sR, mn_sR, mJ_sR, mI_wI, mR_wI, mK_wI, mN_wI, mn_wI, mJ_wI, ↓bnd_of, ↓bndX_r, ↓bndX_l, ↓ap_nr, bnd_of, bndX_r, bndX_l, if_true, if_false, ite_true, ite_false, not_true_eq_false, not_false_eq_true, Nat.reduceAdd, Nat.reduceMul, Nat.reduceEqDiff, Int.reduceToNat, Int.reduceNeg, Ilt_t, Ilt_f, Ile_t, Ile_f, Ieq_t, Ieq_f, Nlt_t, Nlt_f, Nle_t, Nle_f, Neq_t, Neq_f, or_true, true_or, or_false, false_or, and_true, true_and, and_false, false_and, ne_eq, or_self, and_self, decide_true, decide_false, Bool.false_eq_true])]
    rfl
  | succ k ih =>
    intro j m M B e hj hm hR hX hT he hz
    obtain ⟨m, rfl⟩ : ∃ q, m = q + 1 := ⟨m - 1, by omega⟩
    obtain ⟨hL, hc, hsl, hsh, s1, s2, r52, r53, r54, hTX⟩ := id hR
    have k5 : mK M 5 = 5 := by simp only [hL.o]
    have ks : mK M s = 6 := by simp only [hsl.o]
    have r3 : mR M s 3 = s + 2 := by simp only [hsl.o]
    have k2 : mK M (s + 2) = 21 := by simp only [hsl.o]
    have n2 : mN M (s + 2) = 16 := by simp only [hsl.o]
    have hjf : j < S.nf := by omega
    have inj : inB (i32 (j : Int)) 16 = true := by simp (disch := omega) only [↓reduceIte, add_i0, cast_add1, cast_sub1, toNat120, i32_lit, i32_neg, i32_add, i32_sub, i32_mul, i32_nat, i32_le, i32_lt, i32_eq, inB_i, Int.toNat_natCast, mI_sI_eq, mI_sI_ne, mR_sR_eq, mR_sR_ne, mI_sR, mR_sI, mK_sI, mN_sI, mn_sI, mJ_sI, mK_sR, mN_sR, mn_sR, mJ_sR, mI_wI, mR_wI, mK_wI, mN_wI, mn_wI, mJ_wI, ↓bnd_of, ↓bndX_r, ↓bndX_l, ↓ap_nr, bnd_of, bndX_r, bndX_l, if_true, if_false, ite_true, ite_false, not_true_eq_false, not_false_eq_true, Nat.reduceAdd, Nat.reduceMul, Nat.reduceEqDiff, Int.reduceToNat, Int.reduceNeg, Ilt_t, Ilt_f, Ile_t, Ile_f, Ieq_t, Ieq_f, Nlt_t, Nlt_f, Nle_t, Nle_f, Neq_t, Neq_f, or_true, true_or, or_false, false_or, and_true, true_and, and_false, false_and, ne_eq, or_self, and_self, decide_true, decide_false, Bool.false_eq_true]
    have lt : ¬ (i32 (S.nf : Int) ≤ i32 (j : Int)) := by simp (disch := omega) only [↓reduceIte, add_i0, cast_add1, cast_sub1, toNat120, i32_lit, i32_neg, i32_add, i32_sub, i32_mul, i32_nat, i32_le, i32_lt, i32_eq, inB_i, Int.toNat_natCast, mI_sI_eq, mI_sI_ne, mR_sR_eq, mR_sR_ne, mI_sR, mR_sI, mK_sI, mN_sI, mn_sI, mJ_sI, mK_sR, mN_sR, mn_sR, mJ_sR, mI_wI, mR_wI, mK_wI, mN_wI, mn_wI, mJ_wI, ↓bnd_of, ↓bndX_r, ↓bndX_l, ↓ap_nr, bnd_of, bndX_r, bndX_l, if_true, if_false, ite_true, ite_false, not_true_eq_false, not_false_eq_true, Nat.reduceAdd, Nat.reduceMul, Nat.reduceEqDiff, Int.reduceToNat, Int.reduceNeg, Ilt_t, Ilt_f, Ile_t, Ile_f, Ieq_t, Ieq_f, Nlt_t, Nlt_f, Nle_t, Nle_f, Neq_t, Neq_f, or_true, true_or, or_false, false_or, and_true, true_and, and_false, false_and, ne_eq, or_self, and_self, decide_true, decide_false, Bool.false_eq_true]
    have eg : mI M (s + 2) j = i32 (S.gr j) := hsh.2.2.2.1 j hjf
    have gb := hS.2.2.2.1 j
    have hbt := hTX.2.2.2
    by_cases q : S.gr j = g
    · have ei : rdFs S tb n sub g r (S.dg g) (k + 1) j e = rbd (rdFd S tb n sub j r (S.dg g) e) (fun e2 => rdFs S tb n sub g r (S.dg g) k (j + 1) e2) := by
        conv => lhs; unfold rdFs
        rw [if_pos q]
      rw [ei]
      obtain ⟨x1, M1, e1, a1⟩ := X4_readField hn hW hjf hd3 (hk j hjf q) (ho j hjf q) r0 r9 hR hX hT he hz
      have o1 := rdFd_ok (tb := tb) hW hbt hjf (ho j hjf q) r0 r9 he
      rw [q] at e1 a1 o1
      have st : f_X4_readFields_14 kF (m + 1) 5 (i32 g) (i32 d) (i32 r) (i32 (S.dg g)) (i32 j) M = (if x1 = 0 then some ((0 : Int32), M1) else f_X4_readFields_14 kF m 5 (i32 g) (i32 d) (i32 r) (i32 (S.dg g)) (i32 ((j + 1 : Nat) : Int)) M1) := by
        conv => lhs; unfold f_X4_readFields_14
        rw [if_pos k5, r53, if_pos ks, hsh.1, if_neg lt, r3, if_pos k2, n2, if_pos inj, nat_i (by omega), eg, if_pos (by rw [q]), bx e1, f_X4_readFields_55, k_add1]
      rw [st]
      revert a1 o1
      generalize rdFd S tb n sub j r (S.dg g) e = y
      intro a1 o1
      match y, a1, o1 with
      | .inl y, a1, o1 =>
        obtain ⟨b1, b2, b3, b4, b5⟩ := a1
        refine ⟨i32 0, M1, ?_, b1, b2, rfl, b4, b5⟩
        rw [b3, if_pos (by rfl)]
        rfl
      | .inr p, a1, o1 =>
        obtain ⟨b1, b2, b3, b4, b5⟩ := a1
        obtain ⟨o2, o3, o4, o5⟩ := o1
        have nz : ¬ (i32 1 = i32 0) := i32_ne (by omega) (by omega) (by omega) (by omega) (by omega)
        obtain ⟨x2, M2, e2, a2⟩ := ih (j + 1) m M1 (B.apL p.2) p.1 (by omega) (by omega) (hR.chg b1) b5 b4 o3 (fun l => by
          have := hz l
          have q := cnE_le (l := l) p.2
          have := o4.2
          rw [apL_sz]
          omega)
        rw [b3, if_neg (by exact nz), e2]
        refine ⟨x2, M2, rfl, ?_⟩
        revert a2
        generalize hy : rdFs S tb n sub g r (S.dg g) k (j + 1) p.1 = z
        intro a2
        match z, hy, a2 with
        | .inl z, hy, a2 =>
          rw [rbd_rl hy]
          exact a2.tr b1
        | .inr z, hy, a2 =>
          rw [rbd_rr hy]
          obtain ⟨d1, d2, d3, d4, d5⟩ := a2
          refine ⟨b1.tr d1, d2, d3, d4, ?_⟩
          show CX M2 S A0 (B.apL (p.2 ++ z.2))
          rw [apL_app]
          exact d5
    · have ei : rdFs S tb n sub g r (S.dg g) (k + 1) j e = rdFs S tb n sub g r (S.dg g) k (j + 1) e := by
        conv => lhs; unfold rdFs
        rw [if_neg q]
      rw [ei]
      obtain ⟨x2, M2, e2, a2⟩ := ih (j + 1) m M B e (by omega) (by omega) hR hX hT he hz
      refine ⟨x2, M2, ?_, a2⟩
      rw [← e2]
      have ng : ¬ (i32 (S.gr j) = i32 g) := i32_ne (by omega) (by omega) (by omega) (by omega) q
      conv => lhs; unfold f_X4_readFields_14
      rw [if_pos k5, r53, if_pos ks, hsh.1, if_neg lt, r3, if_pos k2, n2, if_pos inj, nat_i (by omega), eg, if_neg ng, f_X4_readFields_55, k_add1]
theorem X4_readFields {dp : Nat → Nat} (hn : n ≤ 700) (hW : S.wf) (hV : VT S S dp) : ∀ (k d : Nat), k + d = 4 → ∀ (M : Mem) (B : St) (g r : Int) (e : Nat), ARL M s S tb n → CX M S A0 B → CTk M tb n e → e ≤ n → (∀ l, B.sz l + 8 * (n - e) ≤ 100000) → InD S dp g d → 0 ≤ r → r ≤ 9 → ∃ x M', f_X4_readFields (k + 2) 5 (i32 g) (i32 d) (i32 r) (i32 (S.dg g)) M = some (x, M') ∧ ARes M M' S tb n A0 B x (rcF S tb n k g r (S.dg g) e) := by
  intro k
  induction k with
  | zero =>
    intro d hd M B g r e hR hX hT he hz hI
    have := hI.le hW hV
    omega
  | succ k ih =>
    intro d hd M B g r e hR hX hT he hz hI r0 r9
    have hnf := hW.1.1
    have d3 := hI.le hW hV
    have hbt := hR.2.2.2.2.2.2.2.2.2.2.2.2
    have gb : -1 ≤ g ∧ g < 16 := by
      rcases hI with ⟨h1, h2⟩ | ⟨p, h1, h2, h3, h4⟩
      · omega
      · omega
    have e1 : ∀ f : Nat, S.dg (f : Int) = S.sd f := fun f => by
      unfold Sc.dg
      rw [if_neg (by omega), Int.toNat_natCast]
    obtain ⟨x, M1, e2, a⟩ := X4_fields (kF := f_X4_readFields (k + 2)) (sub := fun f => rcF S tb n k (f : Int)) (d := d) (g := g) (A0 := A0) hn hW gb.1 gb.2 d3 (fun f hf hg hlf M B r e hR hX hT he hz r0 r9 => by
      have hdf := hI.sub hV hf hg
      have := ih (d + 1) (by omega) M B f r e hR hX hT he hz (Or.inr ⟨f, hf, rfl, hlf, by omega⟩) r0 r9
      rw [e1] at this
      exact this) (fun f hf hg hlf r e r0 r9 he => by
      have hdf := hI.sub hV hf hg
      have := rcF_ok (tb := tb) (n := n) hW hV hbt k (d + 1) (by omega) (f : Int) r e (Or.inr ⟨f, hf, rfl, hlf, by omega⟩) r0 r9 he
      rw [e1] at this
      exact this) r0 r9 S.nf 0 FUEL M B e (by omega) (by unfold FUEL; omega) hR hX hT he hz
    refine ⟨x, M1, ?_, a⟩
    rw [← e2]
    show f_X4_readFields_o (f_X4_readFields (k + 2)) 5 (i32 g) (i32 d) (i32 r) (i32 (S.dg g)) M = _
    unfold f_X4_readFields_o
    rw [if_pos (by simp (disch := omega) only [↓reduceIte, add_i0, cast_add1, cast_sub1, toNat120, i32_lit, i32_neg, i32_add, i32_sub, i32_mul, i32_nat, i32_le, i32_lt, i32_eq, inB_i, Int.toNat_natCast, mI_sI_eq, mI_sI_ne, mR_sR_eq, mR_sR_ne, mI_sR, mR_sI, mK_sI, mN_sI, mn_sI, mJ_sI, mK_sR, mN_sR, mn_sR, mJ_sR, mI_wI, mR_wI, mK_wI, mN_wI, mn_wI, mJ_wI, ↓bnd_of, ↓bndX_r, ↓bndX_l, ↓ap_nr, bnd_of, bndX_r, bndX_l, if_true, if_false, ite_true, ite_false, not_true_eq_false, not_false_eq_true, Nat.reduceAdd, Nat.reduceMul, Nat.reduceEqDiff, Int.reduceToNat, Int.reduceNeg, Ilt_t, Ilt_f, Ile_t, Ile_f, Ieq_t, Ieq_f, Nlt_t, Nlt_f, Nle_t, Nle_f, Neq_t, Neq_f, or_true, true_or, or_false, false_or, and_true, true_and, and_false, false_and, ne_eq, or_self, and_self, decide_true, decide_false, Bool.false_eq_true])]
    rfl
end
