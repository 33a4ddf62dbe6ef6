/-! schema, view in the reference: behind the name -/
def rfS (kF : Nat → Int32 → Int32 → Mem → Option (Unit × Mem)) (d f : Nat) (M8 : Mem) : Option (Unit × Mem) := bnd (f_X12_isMarked 134 (123 : Int32) M8) fun r13 M12 => if r13 = 0 then if mK M12 134 = 13 then bnd (f_X12_isMarked 134 (59 : Int32) M12) fun r17 M16 => if r17 = 0 then if mK M16 134 = 13 then bnd (f_X12_wrong 134 (1 : Int32) M16) fun _ M20 => f_X12_readField_216 kF 134 (i32 d) (i32 f) (i32 ((32 + f : Nat) : Int)) r13 M20 else none else f_X12_readField_216 kF 134 (i32 d) (i32 f) (i32 ((32 + f : Nat) : Int)) r13 M16 else none else f_X12_readField_216 kF 134 (i32 d) (i32 f) (i32 ((32 + f : Nat) : Int)) r13 M12
section
variable {M M' : Mem} {S T : Sc} {vw : Bool} {tb : Nat → Int} {n : Nat} {g : Int} {d f : Nat} {dp : Nat → Nat} {kF : Nat → Int32 → Int32 → Mem → Option (Unit × Mem)}
theorem X12_rf272b (hL : RLay M) {x : Int} {y : Nat} (h : RBad M x y) (a b c v6 : Int32) : f_X12_readField_272 kF 134 a b c v6 M = some ((), M) := by
  unfold f_X12_readField_272
  rw [if_pos hL.k, if_neg (by exact h.nz)]
theorem X12_leafThere (hL : RLay M) {v : Nat} (hf : f < 16) (hv : mI M 145 (32 + f) = i32 (v : Int)) (v15 : v ≤ 15) : f_X12_isLeafThere 134 (i32 ((32 + f : Nat) : Int)) M = some (if mI M 141 v = i32 (-1) then i32 0 else i32 1, M) := by
  have r21 : mR M 134 21 = 145 := by simp only [hL.o]
  have k145 : mK M 145 = 21 := by simp only [hL.o]
  have n145 : mN M 145 = 48 := by simp only [hL.o]
  have r17 : mR M 134 17 = 141 := by simp only [hL.o]
  have k141 : mK M 141 = 21 := by simp only [hL.o]
  have n141 : mN M 141 = 48 := by simp only [hL.o]
  have inf : inB (i32 ((32 + f : Nat) : Int)) 48 = true := by simp (disch := omega) only [↓reduceIte, add_i0, cast_add1, cast_sub1, toNat120, i32_lit, i32_neg, i32_add, i32_sub, i32_mul, i32_nat, i32_le, i32_lt, i32_eq, inB_i, Int.toNat_natCast, mI_sI_eq, mI_sI_ne, mR_sR_eq, mR_sR_ne, mI_sR, mR_sI, mK_sI, mN_sI, mn_sI, mJ_sI, mK_sR, mN_sR, mn_sR, mJ_sR, mI_wI, mR_wI, mK_wI, mN_wI, mn_wI, mJ_wI, ↓bnd_of, ↓bndX_r, ↓bndX_l, ↓ap_nr, bnd_of, bndX_r, bndX_l, if_true, if_false, ite_true, ite_false, not_true_eq_false, not_false_eq_true, Nat.reduceAdd, Nat.reduceMul, Nat.reduceEqDiff, Int.reduceToNat, Int.reduceNeg, Ilt_t, Ilt_f, Ile_t, Ile_f, Ieq_t, Ieq_f, Nlt_t, Nlt_f, Nle_t, Nle_f, Neq_t, Neq_f, or_true, true_or, or_false, false_or, and_true, true_and, and_false, false_and, ne_eq, or_self, and_self, decide_true, decide_false, Bool.false_eq_true]
  have inv : inB (i32 (v : Int)) 48 = true := by simp (disch := omega) only [↓reduceIte, add_i0, cast_add1, cast_sub1, toNat120, i32_lit, i32_neg, i32_add, i32_sub, i32_mul, i32_nat, i32_le, i32_lt, i32_eq, inB_i, Int.toNat_natCast, mI_sI_eq, mI_sI_ne, mR_sR_eq, mR_sR_ne, mI_sR, mR_sI, mK_sI, mN_sI, mn_sI, mJ_sI, mK_sR, mN_sR, mn_sR, mJ_sR, mI_wI, mR_wI, mK_wI, mN_wI, mn_wI, mJ_wI, ↓bnd_of, ↓bndX_r, ↓bndX_l, ↓ap_nr, bnd_of, bndX_r, bndX_l, if_true, if_false, ite_true, ite_false, not_true_eq_false, not_false_eq_true, Nat.reduceAdd, Nat.reduceMul, Nat.reduceEqDiff, Int.reduceToNat, Int.reduceNeg, Ilt_t, Ilt_f, Ile_t, Ile_f, Ieq_t, Ieq_f, Nlt_t, Nlt_f, Nle_t, Nle_f, Neq_t, Neq_f, or_true, true_or, or_false, false_or, and_true, true_and, and_false, false_and, ne_eq, or_self, and_self, decide_true, decide_false, Bool.false_eq_true]
  unfold f_X12_isLeafThere
  rw [if_pos hL.k, r21, if_pos k145, n145, if_pos inf, r17, if_pos k141, nat_i (k := 32 + f) (by omega), hv, n141, if_pos inv, nat_i (k := v) (by omega)]
  by_cases c : mI M 141 v = i32 (-1)
  · rw [if_pos c, if_pos (by exact c)]
    rfl
  · rw [if_neg c, if_neg (by exact c)]
    rfl
theorem X12_rf245b (hL : RLay M) {x : Int} {y : Nat} (h : RBad M x y) (hf : f < 16) {v : Int} (v0 : -1 ≤ v) (v15 : v ≤ 15) (hv : mI M 145 (32 + f) = i32 v) (a b v6 : Int32) : f_X12_readField_245 kF 134 a b (i32 ((32 + f : Nat) : Int)) v6 M = some ((), M) := by
  have r21 : mR M 134 21 = 145 := by simp only [hL.o]
  have k145 : mK M 145 = 21 := by simp only [hL.o]
  have n145 : mN M 145 = 48 := by simp only [hL.o]
  have inf : inB (i32 ((32 + f : Nat) : Int)) 48 = true := by simp (disch := omega) only [↓reduceIte, add_i0, cast_add1, cast_sub1, toNat120, i32_lit, i32_neg, i32_add, i32_sub, i32_mul, i32_nat, i32_le, i32_lt, i32_eq, inB_i, Int.toNat_natCast, mI_sI_eq, mI_sI_ne, mR_sR_eq, mR_sR_ne, mI_sR, mR_sI, mK_sI, mN_sI, mn_sI, mJ_sI, mK_sR, mN_sR, mn_sR, mJ_sR, mI_wI, mR_wI, mK_wI, mN_wI, mn_wI, mJ_wI, ↓bnd_of, ↓bndX_r, ↓bndX_l, ↓ap_nr, bnd_of, bndX_r, bndX_l, if_true, if_false, ite_true, ite_false, not_true_eq_false, not_false_eq_true, Nat.reduceAdd, Nat.reduceMul, Nat.reduceEqDiff, Int.reduceToNat, Int.reduceNeg, Ilt_t, Ilt_f, Ile_t, Ile_f, Ieq_t, Ieq_f, Nlt_t, Nlt_f, Nle_t, Nle_f, Neq_t, Neq_f, or_true, true_or, or_false, false_or, and_true, true_and, and_false, false_and, ne_eq, or_self, and_self, decide_true, decide_false, Bool.false_eq_true]
  unfold f_X12_readField_245
  rw [if_pos hL.k, r21, if_pos k145, n145, if_pos inf, nat_i (k := 32 + f) (by omega), hv]
  by_cases c : v = -1
  · rw [if_pos (by rw [c]; rfl), X12_rf272b hL h]
  · obtain ⟨p, rfl⟩ : ∃ p : Nat, v = p := ⟨v.toNat, by omega⟩
    have nv : ¬ (i32 (p : Int) = i32 (-1)) := i32_ne (by omega) (by omega) (by omega) (by omega) c
    rw [if_neg (by exact nv), bx (X12_leafThere hL hf hv (by omega)), if_pos hL.k, bx (X12_wrongN hL h _), X12_rf272b hL h, ite_self]
theorem X12_rf216b (hL : RLay M) {x : Int} {y : Nat} (h : RBad M x y) (hf : f < 16) {v : Int} (v0 : -1 ≤ v) (v15 : v ≤ 15) (hv : mI M 145 (32 + f) = i32 v) (a b v6 : Int32) : f_X12_readField_216 kF 134 a b (i32 ((32 + f : Nat) : Int)) v6 M = some ((), M) := by
  have r24 : mR M 134 24 = 148 := by simp only [hL.o]
  have k148 : mK M 148 = 21 := by simp only [hL.o]
  have n148 : mN M 148 = 3 := by simp only [hL.o]
  have e245 := X12_rf245b (kF := kF) hL h hf v0 v15 hv a b v6
  have e240 : f_X12_readField_240 kF 134 a b (i32 ((32 + f : Nat) : Int)) v6 M = some ((), M) := by
    unfold f_X12_readField_240
    rw [if_pos hL.k, bx (X12_wrongN hL h _), e245]
  unfold f_X12_readField_216
  by_cases c6 : v6 = 0
  · rw [if_pos c6, if_pos hL.k, r24, if_pos k148, n148, if_pos (by decide), e240, e245, ite_self]
  · rw [if_neg c6, e240, e245, ite_self]
/-- what is behind the name -/
theorem X12_rsign {e : Nat} (hR : SRL M S vw tb n) (tr : RTr M T vw) (hT : T.ok) (hf : f < T.nf) (hd : d ≤ 3) (hb : mI M 134 12 = i32 0) (he : e ≤ n) (hk : RTk M tb n e) (htw : vw = true → T.tw f < S.nf) : match shG vw S tb n T g d f e with
    | .inl y => ∃ M', rfS kF d f M = some ((), M') ∧ Chg shR M M' ∧ RBad M' y.1 y.2
    | .inr r => if tkK tb n e = 59 then (∃ M', rfS kF d f M = some ((), M') ∧ Chg shR M M' ∧ RTk M' tb n r.1 ∧ mI M' 134 12 = i32 0 ∧ RTr M' r.2.1 vw) else (∃ M', rfS kF d f M = (bnd (kF 134 (i32 f) (i32 ((d + 1 : Nat) : Int)) M') fun _ M7 => if mK M7 134 = 13 then bnd (f_X12_mark 134 (125 : Int32) M7) fun _ M10 => some ((), M10) else none) ∧ Chg shR M M' ∧ RTk M' tb n r.1 ∧ mI M' 134 12 = i32 0 ∧ RTr M' r.2.1 vw) := by
  obtain ⟨hL, hTX, h26, hv⟩ := id hR
  have hnT := hT.1
  have hnl := hT.2.1
  have hbt := hTX.2.2.2
  have t := tk_b tb he
  have twb := hT.2.2.2.2.2.2.2.2.2.1 f
  have f16 : f < 16 := by omega
  have m123 := X12_isMarked hL hTX hk he hb 123 (by omega) (by omega)
  have m123 : f_X12_isMarked 134 (123 : Int32) M = _ := m123
  have m59 := X12_isMarked hL hTX hk he hb 59 (by omega) (by omega)
  have m59 : f_X12_isMarked 134 (59 : Int32) M = _ := m59
  have nz1 : ¬ (i32 1 = i32 0) := i32_ne (by omega) (by omega) (by omega) (by omega) (by omega)
  have r21 : mR M 134 21 = 145 := by simp only [hL.o]
  have k145 : mK M 145 = 21 := by simp only [hL.o]
  have n145 : mN M 145 = 48 := by simp only [hL.o]
  have r24 : mR M 134 24 = 148 := by simp only [hL.o]
  have k148 : mK M 148 = 21 := by simp only [hL.o]
  have n148 : mN M 148 = 3 := by simp only [hL.o]
  have t2 : (2 : Int32).toNatClampNeg = 2 := by decide
  have inf : inB (i32 ((32 + f : Nat) : Int)) 48 = true := by simp (disch := omega) only [↓reduceIte, add_i0, cast_add1, cast_sub1, toNat120, i32_lit, i32_neg, i32_add, i32_sub, i32_mul, i32_nat, i32_le, i32_lt, i32_eq, inB_i, Int.toNat_natCast, mI_sI_eq, mI_sI_ne, mR_sR_eq, mR_sR_ne, mI_sR, mR_sI, mK_sI, mN_sI, mn_sI, mJ_sI, mK_sR, mN_sR, mn_sR, mJ_sR, mI_wI, mR_wI, mK_wI, mN_wI, mn_wI, mJ_wI, ↓bnd_of, ↓bndX_r, ↓bndX_l, ↓ap_nr, bnd_of, bndX_r, bndX_l, if_true, if_false, ite_true, ite_false, not_true_eq_false, not_false_eq_true, Nat.reduceAdd, Nat.reduceMul, Nat.reduceEqDiff, Int.reduceToNat, Int.reduceNeg, Ilt_t, Ilt_f, Ile_t, Ile_f, Ieq_t, Ieq_f, Nlt_t, Nlt_f, Nle_t, Nle_f, Neq_t, Neq_f, or_true, true_or, or_false, false_or, and_true, true_and, and_false, false_and, ne_eq, or_self, and_self, decide_true, decide_false, Bool.false_eq_true]
  -- the twin as it stands there
  obtain ⟨v, ev, vb, hvv⟩ : ∃ v : Int, mI M 145 (32 + f) = i32 v ∧ (-1 ≤ v ∧ v ≤ 15) ∧ ((vw = true ∧ v = T.tw f) ∨ (vw = false ∧ v = -1)) := by
    have := tr.2.2.2.2.2.2.2.2.2 f hf
    cases vw
    · exact ⟨-1, this, by omega, Or.inr ⟨rfl, rfl⟩⟩
    · exact ⟨T.tw f, this, twb, Or.inl ⟨rfl, rfl⟩⟩
  have vt : ∀ P : Prop, (vw = true ∧ T.tw f ≠ -1 ∧ P) ↔ (v ≠ -1 ∧ (v = T.tw f → P)) := fun P => by
    rcases hvv with ⟨e1, e2⟩ | ⟨e1, e2⟩
    · rw [e1, e2]
      exact ⟨fun h => ⟨h.2.1, fun _ => h.2.2⟩, fun h => ⟨rfl, h.1, h.2 rfl⟩⟩
    · rw [e1, e2]
      exact ⟨fun h => absurd h.1 (by decide), fun h => absurd rfl h.1⟩
  have vtw : v ≠ -1 → v = T.tw f ∧ vw = true := fun u => by
    rcases hvv with ⟨e1, e2⟩ | ⟨e1, e2⟩
    · exact ⟨e2, e1⟩
    · exact absurd e2 u
  -- wrong: the rest does nothing
  have wrg : ∀ (k : Int) (a b v6 : Int32), 1 ≤ k → k ≤ 4 → ∃ M', f_X12_wrong 134 (i32 k) M = some ((), M') ∧ Chg shR M M' ∧ RBad M' k (tkB tb n e) ∧ f_X12_readField_216 kF 134 a b (i32 ((32 + f : Nat) : Int)) v6 M' = some ((), M') ∧ f_X12_readField_245 kF 134 a b (i32 ((32 + f : Nat) : Int)) v6 M' = some ((), M') ∧ f_X12_readField_272 kF 134 a b (i32 ((32 + f : Nat) : Int)) v6 M' = some ((), M') := fun k a b v6 k1 k4 => by
    obtain ⟨M1, e1, g1, b1⟩ := X12_wrong hL hb hk.2.1 k k1 k4
    have gs := g1.mono rd_shr
    have hL1 := hL.all gs
    have ev1 : mI M1 145 (32 + f) = i32 v := by rw [g1.i (by unfold rdR; omega)]; exact ev
    exact ⟨M1, e1, gs, b1, X12_rf216b hL1 b1 f16 vb.1 vb.2 ev1 _ _ _, X12_rf245b hL1 b1 f16 vb.1 vb.2 ev1 _ _ _, X12_rf272b hL1 b1 _ _ _ _⟩
  -- the twin's leaf or group
  have e245 : ∀ (v6 : Int) (a b : Int32), v6 = 0 ∨ v6 = 1 → f_X12_readField_245 kF 134 a b (i32 ((32 + f : Nat) : Int)) (i32 v6) M = (if v ≠ -1 ∧ ((S.lf v.toNat = -1 ∧ v6 = 0) ∨ (S.lf v.toNat ≠ -1 ∧ v6 = 1)) then (bnd (f_X12_wrong 134 (3 : Int32) M) fun _ M9 => f_X12_readField_272 kF 134 a b (i32 ((32 + f : Nat) : Int)) (i32 v6) M9) else f_X12_readField_272 kF 134 a b (i32 ((32 + f : Nat) : Int)) (i32 v6) M) := fun v6 a b h6 => by
    unfold f_X12_readField_245
    rw [if_pos hL.k, r21, if_pos k145, n145, if_pos inf, nat_i (k := 32 + f) (by omega), ev]
    by_cases c : v = -1
    · rw [if_pos (by rw [c]; rfl), if_neg (fun u => u.1 c)]
    · obtain ⟨w1, w2⟩ := vtw c
      obtain ⟨hR0, hSo⟩ := hv w2
      have hS16 := hSo.1
      have hvs : v < S.nf := by rw [w1]; exact htw w2
      obtain ⟨p, hp⟩ : ∃ p : Nat, v = p := ⟨v.toNat, by omega⟩
      have nv : ¬ (i32 v = i32 (-1)) := i32_ne (by omega) (by omega) (by omega) (by omega) c
      have lb := hSo.2.2.2.2.1 p
      have el : mI M 141 p = i32 (S.lf p) := hR0.2.2.2.2.1 p (by omega)
      have pt : v.toNat = p := by omega
      rw [hp] at ev
      have lt := X12_leafThere hL f16 ev (by omega)
      rw [el] at lt
      by_cases l1 : S.lf p = -1
      · rw [if_pos (by rw [l1])] at lt
        rw [if_neg (by exact nv), bx lt, if_pos hL.k, pt]
        rcases h6 with h | h
        · rw [h, if_pos rfl, if_pos ⟨c, Or.inl ⟨l1, rfl⟩⟩]
        · have n01 : ¬ (i32 0 = i32 1) := i32_ne (by omega) (by omega) (by omega) (by omega) (by omega)
          rw [h, if_neg n01, if_neg (fun u => by
            rcases u.2 with w | w
            · omega
            · exact w.1 l1)]
      · have nl : ¬ (i32 (S.lf p) = i32 (-1)) := i32_ne (by omega) (by omega) (by omega) (by omega) l1
        rw [if_neg nl] at lt
        rw [if_neg (by exact nv), bx lt, if_pos hL.k, pt]
        rcases h6 with h | h
        · have n10 : ¬ (i32 1 = i32 0) := nz1
          rw [h, if_neg n10, if_neg (fun u => by
            rcases u.2 with w | w
            · exact l1 w.1
            · omega)]
        · rw [h, if_pos rfl, if_pos ⟨c, Or.inr ⟨l1, rfl⟩⟩]
  have go : ∃ M3, f_X12_stepOn 134 M = some ((), M3) ∧ Chg tkR M M3 ∧ RTk M3 tb n (tkE tb n e) := X12_stepOn hL hTX hk.2.2.2.1 t.2.2.2.1
  obtain ⟨M3, e3, g3, k3⟩ := go
  have gs3 : Chg shR M M3 := g3.mono tk_shr
  have hL3 := hL.all gs3
  have tr3 := tr.rd (g3.mono tkR_rd)
  have hb3 := bad.tk hb g3
  unfold shG
  by_cases k59 : tkK tb n e = 59
  · have n123 : tkK tb n e ≠ 123 := by omega
    rw [if_neg n123] at m123
    rw [if_pos k59] at m59
    have st : rfS kF d f M = f_X12_readField_216 kF 134 (i32 d) (i32 f) (i32 ((32 + f : Nat) : Int)) (i32 0) M := by
      unfold rfS
      rw [bx m123, if_pos (by rfl), if_pos hL.k, bx m59, if_neg (by exact nz1)]
    rw [if_pos k59]
    by_cases l8 : 8 ≤ T.nl
    · rw [if_pos l8]
      obtain ⟨M1, e1, g1, b1, -, e5, -⟩ := wrg 2 (i32 d) (i32 f) (i32 0) (by omega) (by omega)
      have e1 : f_X12_wrong 134 (2 : Int32) M = _ := e1
      refine ⟨M1, ?_, g1, b1⟩
      have l8' : T.nl = 8 := by omega
      rw [st]
      unfold f_X12_readField_216
      rw [if_pos (by rfl), if_pos hL.k, r24, if_pos k148, n148, if_pos (by decide), t2, tr.2.1, l8', if_pos (by rfl)]
      unfold f_X12_readField_240
      rw [if_pos hL.k, bx e1, e5]
    · rw [if_neg l8]
      have n8 : ¬ (i32 (T.nl : Int) = i32 8) := i32_ne (by omega) (by omega) (by omega) (by omega) (by omega)
      have st2 : rfS kF d f M = f_X12_readField_245 kF 134 (i32 d) (i32 f) (i32 ((32 + f : Nat) : Int)) (i32 0) M := by
        rw [st]
        unfold f_X12_readField_216
        rw [if_pos (by rfl), if_pos hL.k, r24, if_pos k148, n148, if_pos (by decide), t2, tr.2.1, if_neg (by exact n8)]
      rw [e245 0 _ _ (Or.inl rfl)] at st2
      by_cases c3 : vw = true ∧ T.tw f ≠ -1 ∧ S.lf (T.tw f).toNat = -1
      · rw [if_pos c3]
        have c4 := (vt _).mp c3
        have w1 := (vtw c4.1).1
        obtain ⟨M1, e1, g1, b1, -, -, e6⟩ := wrg 3 (i32 d) (i32 f) (i32 0) (by omega) (by omega)
        have e1 : f_X12_wrong 134 (3 : Int32) M = _ := e1
        refine ⟨M1, ?_, g1, b1⟩
        rw [st2, if_pos ⟨c4.1, Or.inl ⟨by rw [w1]; exact c4.2 w1, rfl⟩⟩, bx e1, e6]
      · rw [if_neg c3]
        show if tkK tb n e = 59 then _ else _
        rw [if_pos k59]
        have c4 : ¬ (v ≠ -1 ∧ ((S.lf v.toNat = -1 ∧ (0 : Int) = 0) ∨ (S.lf v.toNat ≠ -1 ∧ (0 : Int) = 1))) := fun u => by
          rcases u.2 with w | w
          · exact c3 ((vt _).mpr ⟨u.1, fun h => by rw [← h]; exact w.1⟩)
          · omega
        have r243 : mR M3 134 24 = 148 := by simp only [hL3.o]
        have k1483 : mK M3 148 = 21 := by simp only [hL3.o]
        have n1483 : mN M3 148 = 3 := by simp only [hL3.o]
        have r173 : mR M3 134 17 = 141 := by simp only [hL3.o]
        have k1413 : mK M3 141 = 21 := by simp only [hL3.o]
        have n1413 : mN M3 141 = 48 := by simp only [hL3.o]
        have e148 : mI (sI M3 141 (32 + f) (i32 (T.nl : Int))) 148 2 + (1 : Int32) = i32 ((T.nl + 1 : Nat) : Int) := by rw [mI_sI_ne (by omega), tr3.2.1, k_add1]
        refine ⟨sI (sI M3 141 (32 + f) (i32 (T.nl : Int))) 148 2 (i32 ((T.nl + 1 : Nat) : Int)), ?_, (gs3.sI (by unfold shR; omega)).sI (by unfold shR; omega), k3.cg (fun j => by rw [mI_sI_ne (by omega), mI_sI_ne (by omega)]), by rw [mI_sI_ne (by omega), mI_sI_ne (by omega)]; exact hb3, ?_⟩
        · rw [st2, if_neg c4]
          unfold f_X12_readField_272
          rw [if_pos hL.k, hb, if_pos (by rfl), bx e3, if_pos (by rfl), if_pos hL3.k, r243, if_pos k1483, n1483, if_pos (by decide), r173, if_pos k1413, n1413, if_pos inf, t2, tr3.2.1, nat_i (k := 32 + f) (by omega), ap_of, if_pos (by exact hL3.k), mR_sI, r243, if_pos (by exact k1483), mN_sI, n1483, if_pos (by decide), e148, ap_of]
        · obtain ⟨d0, d1, d2, d3, d4, d5, d6, d7, d8, d9⟩ := tr3
          have q : ∀ a j, ¬ (a = 141 ∧ j = 32 + f) → ¬ (a = 148 ∧ j = 2) → mI (sI (sI M3 141 (32 + f) (i32 (T.nl : Int))) 148 2 (i32 ((T.nl + 1 : Nat) : Int))) a j = mI M3 a j := fun a j h1 h2 => by rw [mI_sI_ne (by omega), mI_sI_ne (by omega)]
          refine ⟨by rw [q _ _ (by omega) (by omega)]; exact d0, mI_sI_eq, fun f' h => by rw [q _ _ (by omega) (by omega)]; exact d2 f' h, fun f' h => by rw [q _ _ (by omega) (by omega)]; exact d3 f' h, fun f' h => ?_, fun f' h => by rw [q _ _ (by omega) (by omega)]; exact d5 f' h, fun f' h => by rw [q _ _ (by omega) (by omega)]; exact d6 f' h, fun f' h => by rw [q _ _ (by omega) (by omega)]; exact d7 f' h, fun f' i h hi => by rw [q _ _ (by omega) (by omega)]; exact d8 f' i h hi, fun f' h => by rw [q _ _ (by omega) (by omega)]; exact d9 f' h⟩
          show _ = i32 (upf T.lf f (T.nl : Int) f')
          by_cases c : f' = f
          · rw [c, upf_eq, mI_sI_ne (by omega), mI_sI_eq]
          · rw [upf_ne _ _ c, q _ _ (by omega) (by omega)]; exact d4 f' h
  · rw [if_neg k59]
    rw [if_neg k59] at m59
    by_cases k123 : tkK tb n e = 123
    · rw [if_pos k123] at m123
      rw [if_pos k123]
      have st : rfS kF d f M = f_X12_readField_216 kF 134 (i32 d) (i32 f) (i32 ((32 + f : Nat) : Int)) (i32 1) M := by
        unfold rfS
        rw [bx m123, if_neg (by exact nz1)]
      by_cases d3 : 3 ≤ d
      · rw [if_pos d3]
        obtain ⟨M1, e1, g1, b1, -, e5, -⟩ := wrg 2 (i32 d) (i32 f) (i32 1) (by omega) (by omega)
        have e1 : f_X12_wrong 134 (2 : Int32) M = _ := e1
        refine ⟨M1, ?_, g1, b1⟩
        have d3' : d = 3 := by omega
        rw [st]
        unfold f_X12_readField_216
        rw [if_neg (by exact nz1), if_pos (by rw [d3']; rfl)]
        unfold f_X12_readField_240
        rw [if_pos hL.k, bx e1, e5]
      · rw [if_neg d3]
        have nd3 : ¬ (i32 (d : Int) = i32 3) := i32_ne (by omega) (by omega) (by omega) (by omega) (by omega)
        have st2 : rfS kF d f M = f_X12_readField_245 kF 134 (i32 d) (i32 f) (i32 ((32 + f : Nat) : Int)) (i32 1) M := by
          rw [st]
          unfold f_X12_readField_216
          rw [if_neg (by exact nz1), if_neg (by exact nd3)]
        rw [e245 1 _ _ (Or.inr rfl)] at st2
        by_cases c3 : vw = true ∧ T.tw f ≠ -1 ∧ S.lf (T.tw f).toNat ≠ -1
        · rw [if_pos c3]
          have c4 := (vt _).mp c3
          have w1 := (vtw c4.1).1
          obtain ⟨M1, e1, g1, b1, -, -, e6⟩ := wrg 3 (i32 d) (i32 f) (i32 1) (by omega) (by omega)
          have e1 : f_X12_wrong 134 (3 : Int32) M = _ := e1
          refine ⟨M1, ?_, g1, b1⟩
          rw [st2, if_pos ⟨c4.1, Or.inr ⟨by rw [w1]; exact c4.2 w1, rfl⟩⟩, bx e1, e6]
        · rw [if_neg c3]
          show if tkK tb n e = 59 then _ else _
          rw [if_neg k59]
          have c4 : ¬ (v ≠ -1 ∧ ((S.lf v.toNat = -1 ∧ (1 : Int) = 0) ∨ (S.lf v.toNat ≠ -1 ∧ (1 : Int) = 1))) := fun u => by
            rcases u.2 with w | w
            · omega
            · exact c3 ((vt _).mpr ⟨u.1, fun h => by rw [← h]; exact w.1⟩)
          refine ⟨M3, ?_, gs3, k3, hb3, tr3⟩
          rw [st2, if_neg c4]
          unfold f_X12_readField_272
          rw [if_pos hL.k, hb, if_pos (by rfl), bx e3, if_neg (by exact nz1), if_pos hL3.k, k_add1]
    · rw [if_neg k123] at m123
      rw [if_neg k123]
      obtain ⟨M1, e1, g1, b1, e4, -, -⟩ := wrg 1 (i32 d) (i32 f) (i32 0) (by omega) (by omega)
      have e1 : f_X12_wrong 134 (1 : Int32) M = _ := e1
      refine ⟨M1, ?_, g1, b1⟩
      unfold rfS
      rw [bx m123, if_pos (by rfl), if_pos hL.k, bx m59, if_pos (by rfl), if_pos hL.k, bx e1, e4]
end
