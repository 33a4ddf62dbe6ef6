/-! schema, view in the class: the text is read -/
def shC (q a j : Nat) : Prop := tkC a j ∨ (a = 4 ∧ 4 ≤ j) ∨ (q ≤ a ∧ a ≤ q + 11)
def SHL (M : Mem) (q s : Nat) (S : Sc) (vw : Bool) (tb : Nat → Int) (n : Nat) : Prop := CLay M ∧ ShLay M q ∧ 88 ≤ q ∧ q ≤ 112 ∧ mR M 4 0 = 2 ∧ mR M 4 1 = q ∧ mR M 4 2 = s ∧ mI M 4 3 = i32 (if vw = true then 1 else 0) ∧ TXc M tb n ∧ (vw = true → ShLay M s ∧ CSh M s S ∧ S.ok ∧ 88 ≤ s ∧ s ≤ 112 ∧ (s + 11 < q ∨ q + 11 < s))
section
variable {M M' : Mem} {S T : Sc} {s q : Nat} {vw : Bool} {tb : Nat → Int} {n : Nat} {g : Int} {d f : Nat} {dp : Nat → Nat}
theorem CSh.away {P : Nat → Nat → Prop} (h : CSh M s S) (g : Chg P M M') (hP : ∀ a j, P a j → a < s ∨ s + 11 < a) : CSh M' s S := by
  have e0 : ∀ j, mI M' s j = mI M s j := fun j => g.i (fun x => by have := hP s j x; omega)
  have e1 : ∀ i j, i ≤ 11 → mI M' (s + i) j = mI M (s + i) j := fun i j q => g.i (fun x => by have := hP (s + i) j x; omega)
  unfold CSh at h ⊢
  simp only [e0, e1 1 _ (by omega), e1 2 _ (by omega), e1 3 _ (by omega), e1 4 _ (by omega), e1 5 _ (by omega), e1 6 _ (by omega), e1 7 _ (by omega), e1 8 _ (by omega), e1 9 _ (by omega), e1 10 _ (by omega), e1 11 _ (by omega)]
  exact h
theorem SHL.chg (h : SHL M q s S vw tb n) (g : Chg (shC q) M M') : SHL M' q s S vw tb n := by
  obtain ⟨h1, h2, h3, h4, h5, h6, h7, h8, h9, h10⟩ := h
  refine ⟨h1.all g, h2.all g, h3, h4, by rw [g.r]; exact h5, by rw [g.r]; exact h6, by rw [g.r]; exact h7, by rw [g.i (by unfold shC tkC; omega)]; exact h8, h9.chg g (by unfold shC tkC; omega) (fun i => by unfold shC tkC; omega), fun v => ?_⟩
  obtain ⟨b1, b2, b3, b4, b5, b6⟩ := h10 v
  exact ⟨b1.all g, b2.away g (fun a j x => by unfold shC tkC at x; omega), b3, b4, b5, b6⟩
theorem CSh.tk (h : CSh M q T) (q1 : 88 ≤ q) (g : Chg tkC M M') : CSh M' q T := h.away g (fun a j x => by unfold tkC at x; omega)
theorem tk_sh (q a j : Nat) (h : tkC a j) : shC q a j := Or.inl h
theorem adv_sh (hR : SHL M q s S vw tb n) (hC : CSh M q T) {e : Nat} (he : e ≤ n) (hk : CTk M tb n e) : ∃ M1, f_X9_advance 2 M = some ((), M1) ∧ Chg (shC q) M M1 ∧ SHL M1 q s S vw tb n ∧ CSh M1 q T ∧ CTk M1 tb n (tkE tb n e) ∧ ∀ j, mI M1 4 j = mI M 4 j := by
  have t := tk_b tb he
  obtain ⟨M1, e1, g1, k1⟩ := X9_advance hR.1 hR.2.2.2.2.2.2.2.2.1 hk.2.2 t.2.2.2.1
  exact ⟨M1, e1, g1.mono (tk_sh q), hR.chg (g1.mono (tk_sh q)), hC.tk hR.2.2.1 g1, k1, fun j => g1.i (by unfold tkC; omega)⟩
theorem CSh_twi0 {v : Int} (hC : CSh M q T) (h : T.tw f = v) : CSh M q (T.twi f v) := by
  obtain ⟨c0, c1, c2, c3, c4, c5, c6, c7, c8, c9, c10, c11, c12⟩ := hC
  refine ⟨c0, c1, c2, c3, c4, c5, c6, c7, c8, c9, c10, fun f' hf' => ?_, c12⟩
  show _ = i32 (upf T.tw f v f')
  by_cases c : f' = f
  · rw [c, upf_eq, ← h, ← c]; exact c11 f' hf'
  · rw [upf_ne _ _ c]; exact c11 f' hf'
theorem X6_findTwin (hR : SHL M q s S vw tb n) (hC : CSh M q T) (hT : T.ok) (hf : f < T.nf) (hg : -1 ≤ g) (hgf : g < f) (h4 : mI M 4 4 = i32 g) (htw : T.tw f = -1) : ∃ M', f_X6_findTwin 4 (i32 f) M = some (if vw = true ∧ ¬ seeO S T g (twV vw S T g f) (T.kd f) then i32 0 else i32 1, M') ∧ Chg (fun a _ => a = q + 10) M M' ∧ CSh M' q (T.twi f (twV vw S T g f)) := by
  obtain ⟨hL, hq, q1, q2, r40, r41, r42, h43, hTX, hv⟩ := hR
  have hnf := hT.1
  have k4 : mK M 4 = 7 := by simp only [hL.o]
  have kq : mK M q = 6 := by simp only [hq.o]
  have r11 : mR M q 11 = q + 10 := by simp only [hq.o]
  have k10 : mK M (q + 10) = 21 := by simp only [hq.o]
  have n10 : mN M (q + 10) = 16 := by simp only [hq.o]
  have r2 : mR M q 2 = q + 1 := by simp only [hq.o]
  have k1 : mK M (q + 1) = 21 := by simp only [hq.o]
  have n1 : mN M (q + 1) = 16 := by simp only [hq.o]
  have inf : inB (i32 (f : Int)) 16 = true := by simp (disch := omega) only [↓reduceIte, add_i0, cast_add1, cast_sub1, toNat120, i32_lit, i32_neg, i32_add, i32_sub, i32_mul, i32_nat, i32_le, i32_lt, i32_eq, inB_i, Int.toNat_natCast, mI_sI_eq, mI_sI_ne, mR_sR_eq, mR_sR_ne, mI_sR, mR_sI, mK_sI, mN_sI, mn_sI, mJ_sI, mK_sR, mN_sR, mn_sR, mJ_sR, mI_wI, mR_wI, mK_wI, mN_wI, mn_wI, mJ_wI, ↓bnd_of, ↓bndX_r, ↓bndX_l, ↓ap_nr, bnd_of, bndX_r, bndX_l, if_true, if_false, ite_true, ite_false, not_true_eq_false, not_false_eq_true, Nat.reduceAdd, Nat.reduceMul, Nat.reduceEqDiff, Int.reduceToNat, Int.reduceNeg, Ilt_t, Ilt_f, Ile_t, Ile_f, Ieq_t, Ieq_f, Nlt_t, Nlt_f, Nle_t, Nle_f, Neq_t, Neq_f, or_true, true_or, or_false, false_or, and_true, true_and, and_false, false_and, ne_eq, or_self, and_self, decide_true, decide_false, Bool.false_eq_true]
  have nf := nat_i (k := f) (by omega)
  cases vw
  · rw [if_neg (by decide)] at h43
    have ev : twV false S T g f = (f : Int) := by
      unfold twV
      rw [if_neg (by decide)]
    rw [ev, if_neg (fun u => absurd u.1 (by decide))]
    refine ⟨sI M (q + 10) f (i32 (f : Int)), ?_, (Chg.rf _ M).sI rfl, CSh_twi hC⟩
    unfold f_X6_findTwin
    rw [if_pos k4, h43, if_pos (by rfl), r41, if_pos kq, r11, if_pos k10, n10, if_pos inf, nf, ap_of]
    rfl
  · rw [if_pos rfl] at h43
    obtain ⟨hs, hCs, hSo, s1, s2, hsq⟩ := hv rfl
    have hnS := hSo.1
    have nz : ¬ (i32 1 = i32 0) := i32_ne (by omega) (by omega) (by omega) (by omega) (by omega)
    have tb0 := hT.2.2.2.2.2.2.2.2.2.1
    have kb := hT.2.2.1 f
    have ctb : -1 ≤ ctG T g ∧ ctG T g ≤ 15 := by
      unfold ctG
      split
      · omega
      · exact tb0 _
    -- up to where the group's twin is known
    have st : f_X6_findTwin 4 (i32 f) M = f_X6_findTwin_43 4 (i32 f) (i32 (ctG T g)) M := by
      unfold f_X6_findTwin ctG
      rw [if_pos k4, h43, if_neg (by exact nz), h4]
      by_cases c : g = -1
      · rw [if_pos c, if_pos (by rw [c]; rfl)]
        rfl
      · obtain ⟨p, hp⟩ : ∃ p : Nat, g = p := ⟨g.toNat, by omega⟩
        have ng : ¬ (i32 g = i32 (-1)) := i32_ne (by omega) (by omega) (by omega) (by omega) c
        have inp : inB (i32 (p : Int)) 16 = true := by simp (disch := omega) only [↓reduceIte, add_i0, cast_add1, cast_sub1, toNat120, i32_lit, i32_neg, i32_add, i32_sub, i32_mul, i32_nat, i32_le, i32_lt, i32_eq, inB_i, Int.toNat_natCast, mI_sI_eq, mI_sI_ne, mR_sR_eq, mR_sR_ne, mI_sR, mR_sI, mK_sI, mN_sI, mn_sI, mJ_sI, mK_sR, mN_sR, mn_sR, mJ_sR, mI_wI, mR_wI, mK_wI, mN_wI, mn_wI, mJ_wI, ↓bnd_of, ↓bndX_r, ↓bndX_l, ↓ap_nr, bnd_of, bndX_r, bndX_l, if_true, if_false, ite_true, ite_false, not_true_eq_false, not_false_eq_true, Nat.reduceAdd, Nat.reduceMul, Nat.reduceEqDiff, Int.reduceToNat, Int.reduceNeg, Ilt_t, Ilt_f, Ile_t, Ile_f, Ieq_t, Ieq_f, Nlt_t, Nlt_f, Nle_t, Nle_f, Neq_t, Neq_f, or_true, true_or, or_false, false_or, and_true, true_and, and_false, false_and, ne_eq, or_self, and_self, decide_true, decide_false, Bool.false_eq_true]
        have et := hC.2.2.2.2.2.2.2.2.2.2.2.1 p (by omega)
        rw [if_neg c, if_neg (by exact ng), r41, if_pos kq, r11, if_pos k10, n10, hp, if_pos inp, nat_i (by omega), et, Int.toNat_natCast]
    rw [st]
    by_cases c : g ≠ -1 ∧ ctG T g = -1
    · have ev : twV true S T g f = -1 := by
        unfold twV
        rw [if_pos rfl, if_pos c]
      rw [ev, if_neg (fun u => u.2 (Or.inl c))]
      have ng : ¬ (i32 g = i32 (-1)) := i32_ne (by omega) (by omega) (by omega) (by omega) c.1
      refine ⟨M, ?_, Chg.rf _ M, CSh_twi0 hC htw⟩
      unfold f_X6_findTwin_43
      rw [if_pos k4, h4, if_neg (by exact ng), c.2, if_pos (by rfl)]
      rfl
    · have ev : twV true S T g f = fnF S T (ctG T g) f S.nf 0 := by
        unfold twV
        rw [if_pos rfl, if_neg c]
      have st2 : f_X6_findTwin_43 4 (i32 f) (i32 (ctG T g)) M = f_X6_findTwin_59 4 (i32 f) (i32 (ctG T g)) M := by
        unfold f_X6_findTwin_43
        rw [if_pos k4, h4]
        by_cases u : g = -1
        · rw [if_pos (by rw [u]; rfl)]
        · have ng : ¬ (i32 g = i32 (-1)) := i32_ne (by omega) (by omega) (by omega) (by omega) u
          have nc : ¬ (i32 (ctG T g) = i32 (-1)) := i32_ne (by omega) (by omega) (by omega) (by omega) (fun w => c ⟨u, w⟩)
          rw [if_neg (by exact ng), if_neg (by exact nc)]
      have en := X5_fieldNamed ctb.1 ctb.2 hs hq hCs hC hSo hT hf
      have vb := fnF_b S T (ctG T g) f S.nf 0
      rw [st2, ev]
      generalize fnF S T (ctG T g) f S.nf 0 = v at en vb
      have ks : mK M s = 6 := by simp only [hs.o]
      have rs2 : mR M s 2 = s + 1 := by simp only [hs.o]
      have ks1 : mK M (s + 1) = 21 := by simp only [hs.o]
      have ns1 : mN M (s + 1) = 16 := by simp only [hs.o]
      have ek : mI (sI M (q + 10) f (i32 v)) (q + 1) f = i32 (T.kd f) := by rw [mI_sI_ne (by omega)]; exact hC.2.2.1 f hf
      have st3 : f_X6_findTwin_59 4 (i32 f) (i32 (ctG T g)) M = (if i32 v = (-1 : Int32) then (if i32 (T.kd f) = 0 then some ((0 : Int32), sI M (q + 10) f (i32 v)) else some ((1 : Int32), sI M (q + 10) f (i32 v))) else if inB (i32 v) 16 = true then (if (mI (sI M (q + 10) f (i32 v)) (s + 1) (i32 v).toNatClampNeg) = i32 (T.kd f) then f_X6_findTwin_142 (sI M (q + 10) f (i32 v)) else if (mI (sI M (q + 10) f (i32 v)) (s + 1) (i32 v).toNatClampNeg) = 0 then (if i32 (T.kd f) = (1 : Int32) then f_X6_findTwin_142 (sI M (q + 10) f (i32 v)) else some ((0 : Int32), sI M (q + 10) f (i32 v))) else some ((0 : Int32), sI M (q + 10) f (i32 v))) else none) := by
        unfold f_X6_findTwin_59
        rw [if_pos k4, r42, if_pos ks, r41, bx en, if_pos k4, r41, if_pos kq, r11, if_pos k10, n10, if_pos inf, nf, ap_of, if_pos (by exact k4), mR_sI, r41, if_pos (by exact kq), r2, if_pos (by exact k1), mN_sI, n1, if_pos inf, ek, r42, if_pos (show mK (sI M (q + 10) f (i32 v)) s = 6 from ks), rs2, if_pos (show mK (sI M (q + 10) f (i32 v)) (s + 1) = 21 from ks1), ns1]
      rw [st3]
      refine ⟨sI M (q + 10) f (i32 v), ?_, (Chg.rf _ M).sI rfl, CSh_twi hC⟩
      by_cases v1 : v = -1
      · rw [if_pos (by rw [v1]; rfl)]
        by_cases w0 : T.kd f = 0
        · rw [if_pos (by rw [w0]; rfl), if_pos ⟨rfl, fun u => by
            rcases u with u | u | u
            · exact c u
            · exact u.2 w0
            · exact u.1 v1⟩]
          rfl
        · have nw : ¬ (i32 (T.kd f) = i32 0) := i32_ne (by omega) (by omega) (by omega) (by omega) w0
          rw [if_neg (by exact nw), if_neg (fun u => u.2 (Or.inr (Or.inl ⟨v1, w0⟩)))]
          rfl
      · have vv : 0 ≤ v ∧ v < S.nf := by
          rcases vb with h | h
          · exact absurd h v1
          · omega
        obtain ⟨m, rfl⟩ : ∃ m : Nat, v = m := ⟨v.toNat, by omega⟩
        have nv : ¬ (i32 (m : Int) = i32 (-1)) := i32_ne (by omega) (by omega) (by omega) (by omega) v1
        have inm : inB (i32 (m : Int)) 16 = true := by simp (disch := omega) only [↓reduceIte, add_i0, cast_add1, cast_sub1, toNat120, i32_lit, i32_neg, i32_add, i32_sub, i32_mul, i32_nat, i32_le, i32_lt, i32_eq, inB_i, Int.toNat_natCast, mI_sI_eq, mI_sI_ne, mR_sR_eq, mR_sR_ne, mI_sR, mR_sI, mK_sI, mN_sI, mn_sI, mJ_sI, mK_sR, mN_sR, mn_sR, mJ_sR, mI_wI, mR_wI, mK_wI, mN_wI, mn_wI, mJ_wI, ↓bnd_of, ↓bndX_r, ↓bndX_l, ↓ap_nr, bnd_of, bndX_r, bndX_l, if_true, if_false, ite_true, ite_false, not_true_eq_false, not_false_eq_true, Nat.reduceAdd, Nat.reduceMul, Nat.reduceEqDiff, Int.reduceToNat, Int.reduceNeg, Ilt_t, Ilt_f, Ile_t, Ile_f, Ieq_t, Ieq_f, Nlt_t, Nlt_f, Nle_t, Nle_f, Neq_t, Neq_f, or_true, true_or, or_false, false_or, and_true, true_and, and_false, false_and, ne_eq, or_self, and_self, decide_true, decide_false, Bool.false_eq_true]
        have sk := hSo.2.2.1 m
        have es : mI (sI M (q + 10) f (i32 (m : Int))) (s + 1) m = i32 (S.kd m) := by rw [mI_sI_ne (by omega)]; exact hCs.2.2.1 m (by omega)
        rw [if_neg (by exact nv), if_pos inm, nat_i (by omega), es]
        by_cases a1 : S.kd m = T.kd f
        · rw [if_pos (by rw [a1]), if_neg (fun u => u.2 (Or.inr (Or.inr ⟨v1, Or.inl (by rw [Int.toNat_natCast]; exact a1)⟩)))]
          rfl
        · have na : ¬ (i32 (S.kd m) = i32 (T.kd f)) := i32_ne (by omega) (by omega) (by omega) (by omega) a1
          rw [if_neg na]
          by_cases a2 : S.kd m = 0
          · rw [if_pos (by rw [a2]; rfl)]
            by_cases a3 : T.kd f = 1
            · rw [if_pos (by rw [a3]; rfl), if_neg (fun u => u.2 (Or.inr (Or.inr ⟨v1, Or.inr ⟨by rw [Int.toNat_natCast]; exact a2, a3⟩⟩)))]
              rfl
            · have n3 : ¬ (i32 (T.kd f) = i32 1) := i32_ne (by omega) (by omega) (by omega) (by omega) a3
              rw [if_neg (by exact n3), if_pos ⟨rfl, fun u => by
                rcases u with u | u | u
                · exact c u
                · exact v1 u.1
                · rw [Int.toNat_natCast] at u
                  rcases u.2 with w | w
                  · exact a1 w
                  · exact a3 w.2⟩]
              rfl
          · have n2 : ¬ (i32 (S.kd m) = i32 0) := i32_ne (by omega) (by omega) (by omega) (by omega) a2
            rw [if_neg (by exact n2), if_pos ⟨rfl, fun u => by
              rcases u with u | u | u
              · exact c u
              · exact v1 u.1
              · rw [Int.toNat_natCast] at u
                rcases u.2 with w | w
                · exact a1 w
                · exact a2 w.1⟩]
            rfl
/-- what is behind the name -/
theorem X6_leafGroup (hR : SHL M q s S vw tb n) (hC : CSh M q T) (hT : T.ok) (hf : f < T.nf) (hd : d ≤ 3) (h4 : mI M 4 4 = i32 g) (h5 : mI M 4 5 = i32 d) (htw : vw = true → T.tw f < S.nf) {e : Nat} (hk : CTk M tb n e) : ∃ x M', f_X6_readLeafOrGroup 4 (i32 f) M = some (i32 x, M') ∧ Chg (shC q) M M' ∧ (∀ j, mI M' 2 j = mI M 2 j) ∧ match shG vw S tb n T g d f e with
    | .inl y => x = y.1 ∧ y.2 = tkB tb n e
    | .inr r => x = 0 ∧ r.1 = tkE tb n e ∧ CSh M' q r.2.1 ∧ mI M' 4 4 = i32 r.2.2.1 ∧ mI M' 4 5 = i32 r.2.2.2 := by
  obtain ⟨hL, hq, q1, q2, r40, r41, r42, h43, hTX, hv⟩ := id hR
  have hnf := hT.1
  have tkb := tkK_b tb hTX.2.2.2 n e
  have k4 : mK M 4 = 7 := by simp only [hL.o]
  have k2 : mK M 2 = 10 := by simp only [hL.o]
  have kq : mK M q = 6 := by simp only [hq.o]
  have r11 : mR M q 11 = q + 10 := by simp only [hq.o]
  have k10 : mK M (q + 10) = 21 := by simp only [hq.o]
  have n10 : mN M (q + 10) = 16 := by simp only [hq.o]
  have inf : inB (i32 (f : Int)) 16 = true := by simp (disch := omega) only [↓reduceIte, add_i0, cast_add1, cast_sub1, toNat120, i32_lit, i32_neg, i32_add, i32_sub, i32_mul, i32_nat, i32_le, i32_lt, i32_eq, inB_i, Int.toNat_natCast, mI_sI_eq, mI_sI_ne, mR_sR_eq, mR_sR_ne, mI_sR, mR_sI, mK_sI, mN_sI, mn_sI, mJ_sI, mK_sR, mN_sR, mn_sR, mJ_sR, mI_wI, mR_wI, mK_wI, mN_wI, mn_wI, mJ_wI, ↓bnd_of, ↓bndX_r, ↓bndX_l, ↓ap_nr, bnd_of, bndX_r, bndX_l, if_true, if_false, ite_true, ite_false, not_true_eq_false, not_false_eq_true, Nat.reduceAdd, Nat.reduceMul, Nat.reduceEqDiff, Int.reduceToNat, Int.reduceNeg, Ilt_t, Ilt_f, Ile_t, Ile_f, Ieq_t, Ieq_f, Nlt_t, Nlt_f, Nle_t, Nle_f, Neq_t, Neq_f, or_true, true_or, or_false, false_or, and_true, true_and, and_false, false_and, ne_eq, or_self, and_self, decide_true, decide_false, Bool.false_eq_true]
  have nz : ¬ (i32 1 = i32 0) := i32_ne (by omega) (by omega) (by omega) (by omega) (by omega)
  have twb := hT.2.2.2.2.2.2.2.2.2.1 f
  have hnl := hT.2.1
  -- the twin as the code sees it
  obtain ⟨v, ev, vb, est⟩ : ∃ v : Int, ((vw = true ∧ v = T.tw f) ∨ (vw = false ∧ v = -1)) ∧ (-1 ≤ v ∧ v ≤ 15 ∧ (v ≠ -1 → vw = true ∧ v < S.nf)) ∧ f_X6_readLeafOrGroup 4 (i32 f) M = f_X6_readLeafOrGroup_20 4 (i32 f) (i32 v) M := by
    cases vw
    · rw [if_neg (by decide)] at h43
      refine ⟨-1, Or.inr ⟨rfl, rfl⟩, ⟨by omega, by omega, fun u => absurd rfl u⟩, ?_⟩
      unfold f_X6_readLeafOrGroup
      rw [if_pos k4, h43, if_pos (by rfl)]
      rfl
    · rw [if_pos rfl] at h43
      refine ⟨T.tw f, Or.inl ⟨rfl, rfl⟩, ⟨twb.1, twb.2, fun _ => ⟨rfl, htw rfl⟩⟩, ?_⟩
      unfold f_X6_readLeafOrGroup
      rw [if_pos k4, h43, if_neg (by exact nz), r41, if_pos kq, r11, if_pos k10, n10, if_pos inf, nat_i (by omega), hC.2.2.2.2.2.2.2.2.2.2.2.1 f hf]
  rw [est]
  have et : mI M 2 3 = i32 (tkK tb n e) := hk.1
  -- what the twin says of leaf or group
  have look : ∀ M1 : Mem, Chg (shC q) M M1 → v ≠ -1 → mK M1 4 = 7 ∧ mK M1 (mR M1 4 2) = 6 ∧ mK M1 (mR M1 (mR M1 4 2) 4) = 21 ∧ inB (i32 v) (mN M1 (mR M1 (mR M1 4 2) 4)) = true ∧ mI M1 (mR M1 (mR M1 4 2) 4) (i32 v).toNatClampNeg = i32 (S.lf v.toNat) ∧ S.ok := fun M1 g1 u => by
    obtain ⟨vt, vs⟩ := vb.2.2 u
    have hR1 := hR.chg g1
    obtain ⟨hs, hCs, hSo, s1, s2, hsq⟩ := hR1.2.2.2.2.2.2.2.2.2 vt
    have hnS := hSo.1
    have r421 : mR M1 4 2 = s := hR1.2.2.2.2.2.2.1
    have ks : mK M1 s = 6 := by simp only [hs.o]
    have rs4 : mR M1 s 4 = s + 3 := by simp only [hs.o]
    have ks3 : mK M1 (s + 3) = 21 := by simp only [hs.o]
    have ns3 : mN M1 (s + 3) = 16 := by simp only [hs.o]
    obtain ⟨m, rfl⟩ : ∃ m : Nat, v = m := ⟨v.toNat, by omega⟩
    have k41 : mK M1 4 = 7 := by simp only [hR1.1.o]
    rw [r421, rs4, ns3, Int.toNat_natCast, nat_i (by omega)]
    exact ⟨k41, ks, ks3, by simp (disch := omega) only [↓reduceIte, add_i0, cast_add1, cast_sub1, toNat120, i32_lit, i32_neg, i32_add, i32_sub, i32_mul, i32_nat, i32_le, i32_lt, i32_eq, inB_i, Int.toNat_natCast, mI_sI_eq, mI_sI_ne, mR_sR_eq, mR_sR_ne, mI_sR, mR_sI, mK_sI, mN_sI, mn_sI, mJ_sI, mK_sR, mN_sR, mn_sR, mJ_sR, mI_wI, mR_wI, mK_wI, mN_wI, mn_wI, mJ_wI, ↓bnd_of, ↓bndX_r, ↓bndX_l, ↓ap_nr, bnd_of, bndX_r, bndX_l, if_true, if_false, ite_true, ite_false, not_true_eq_false, not_false_eq_true, Nat.reduceAdd, Nat.reduceMul, Nat.reduceEqDiff, Int.reduceToNat, Int.reduceNeg, Ilt_t, Ilt_f, Ile_t, Ile_f, Ieq_t, Ieq_f, Nlt_t, Nlt_f, Nle_t, Nle_f, Neq_t, Neq_f, or_true, true_or, or_false, false_or, and_true, true_and, and_false, false_and, ne_eq, or_self, and_self, decide_true, decide_false, Bool.false_eq_true], hCs.2.2.2.2.1 m (by omega), hSo⟩
  have vt : ∀ P : Prop, (vw = true ∧ T.tw f ≠ -1 ∧ P) ↔ (v ≠ -1 ∧ (v = T.tw f → P)) := fun P => by
    rcases ev with ⟨e1, e2⟩ | ⟨e1, e2⟩
    · rw [e1, e2]
      exact ⟨fun h => ⟨h.2.1, fun _ => h.2.2⟩, fun h => ⟨rfl, h.1, h.2 rfl⟩⟩
    · rw [e1, e2]
      exact ⟨fun h => absurd h.1 (by decide), fun h => absurd rfl h.1⟩
  have vtw : v ≠ -1 → v = T.tw f := fun u => by
    rcases ev with ⟨e1, e2⟩ | ⟨e1, e2⟩
    · exact e2
    · exact absurd e2 u
  unfold shG
  by_cases k59 : tkK tb n e = 59
  · rw [if_pos k59]
    by_cases l8 : 8 ≤ T.nl
    · rw [if_pos l8]
      refine ⟨2, M, ?_, Chg.rf _ M, fun j => rfl, rfl, rfl⟩
      unfold f_X6_readLeafOrGroup_20
      rw [if_pos k4, r40, if_pos k2, et, if_pos (by rw [k59]; rfl), r41, if_pos kq, hC.2.1, if_neg (by simp (disch := omega) only [↓reduceIte, add_i0, cast_add1, cast_sub1, toNat120, i32_lit, i32_neg, i32_add, i32_sub, i32_mul, i32_nat, i32_le, i32_lt, i32_eq, inB_i, Int.toNat_natCast, mI_sI_eq, mI_sI_ne, mR_sR_eq, mR_sR_ne, mI_sR, mR_sI, mK_sI, mN_sI, mn_sI, mJ_sI, mK_sR, mN_sR, mn_sR, mJ_sR, mI_wI, mR_wI, mK_wI, mN_wI, mn_wI, mJ_wI, ↓bnd_of, ↓bndX_r, ↓bndX_l, ↓ap_nr, bnd_of, bndX_r, bndX_l, if_true, if_false, ite_true, ite_false, not_true_eq_false, not_false_eq_true, Nat.reduceAdd, Nat.reduceMul, Nat.reduceEqDiff, Int.reduceToNat, Int.reduceNeg, Ilt_t, Ilt_f, Ile_t, Ile_f, Ieq_t, Ieq_f, Nlt_t, Nlt_f, Nle_t, Nle_f, Neq_t, Neq_f, or_true, true_or, or_false, false_or, and_true, true_and, and_false, false_and, ne_eq, or_self, and_self, decide_true, decide_false, Bool.false_eq_true])]
      rfl
    · rw [if_neg l8]
      obtain ⟨M1, e1, g1, c1⟩ := X5_makeLeaf (q := q) hT hf (by omega) hq hC
      have gs1 : Chg (shC q) M M1 := g1.mono (fun a j h => Or.inr (Or.inr h))
      have st : f_X6_readLeafOrGroup_20 4 (i32 f) (i32 v) M = (if i32 v = (-1 : Int32) then some ((0 : Int32), M1) else if mK M1 4 = 7 then if mK M1 (mR M1 4 2) = 6 then if mK M1 (mR M1 (mR M1 4 2) 4) = 21 then if inB (i32 v) (mN M1 (mR M1 (mR M1 4 2) 4)) = true then if (mI M1 (mR M1 (mR M1 4 2) 4) (i32 v).toNatClampNeg) = (-1 : Int32) then some ((3 : Int32), M1) else some ((0 : Int32), M1) else none else none else none else none) := by
        unfold f_X6_readLeafOrGroup_20
        rw [if_pos k4, r40, if_pos k2, et, if_pos (by rw [k59]; rfl), r41, if_pos kq, hC.2.1, if_pos (by simp (disch := omega) only [↓reduceIte, add_i0, cast_add1, cast_sub1, toNat120, i32_lit, i32_neg, i32_add, i32_sub, i32_mul, i32_nat, i32_le, i32_lt, i32_eq, inB_i, Int.toNat_natCast, mI_sI_eq, mI_sI_ne, mR_sR_eq, mR_sR_ne, mI_sR, mR_sI, mK_sI, mN_sI, mn_sI, mJ_sI, mK_sR, mN_sR, mn_sR, mJ_sR, mI_wI, mR_wI, mK_wI, mN_wI, mn_wI, mJ_wI, ↓bnd_of, ↓bndX_r, ↓bndX_l, ↓ap_nr, bnd_of, bndX_r, bndX_l, if_true, if_false, ite_true, ite_false, not_true_eq_false, not_false_eq_true, Nat.reduceAdd, Nat.reduceMul, Nat.reduceEqDiff, Int.reduceToNat, Int.reduceNeg, Ilt_t, Ilt_f, Ile_t, Ile_f, Ieq_t, Ieq_f, Nlt_t, Nlt_f, Nle_t, Nle_f, Neq_t, Neq_f, or_true, true_or, or_false, false_or, and_true, true_and, and_false, false_and, ne_eq, or_self, and_self, decide_true, decide_false, Bool.false_eq_true]), bx e1]
      rw [st]
      have m2 : ∀ j, mI M1 2 j = mI M 2 j := fun j => g1.i (by omega)
      have m4 : ∀ j, mI M1 4 j = mI M 4 j := fun j => g1.i (by omega)
      by_cases u : v = -1
      · rw [if_pos (by rw [u]; rfl), if_neg (fun w => ((vt _).mp w).1 u)]
        exact ⟨0, M1, rfl, gs1, m2, rfl, rfl, c1, by rw [m4]; exact h4, by rw [m4]; exact h5⟩
      · obtain ⟨z1, z2, z3, z4, z5, z6⟩ := look M1 gs1 u
        have nv : ¬ (i32 v = i32 (-1)) := i32_ne (by omega) (by omega) (by omega) (by omega) u
        have lb := z6.2.2.2.2.1 v.toNat
        rw [if_neg (by exact nv), if_pos z1, if_pos z2, if_pos z3, if_pos z4, z5]
        by_cases l1 : S.lf v.toNat = -1
        · rw [if_pos (by rw [l1]; rfl), if_pos ((vt _).mpr ⟨u, fun w => by rw [← w]; exact l1⟩)]
          exact ⟨3, M1, rfl, gs1, m2, rfl, rfl⟩
        · have nl : ¬ (i32 (S.lf v.toNat) = i32 (-1)) := i32_ne (by omega) (by omega) (by omega) (by omega) l1
          rw [if_neg (by exact nl), if_neg (fun w => l1 (by
            have := ((vt _).mp w).2 (vtw u)
            rw [← vtw u] at this
            exact this))]
          exact ⟨0, M1, rfl, gs1, m2, rfl, rfl, c1, by rw [m4]; exact h4, by rw [m4]; exact h5⟩
  · have n59 : ¬ (i32 (tkK tb n e) = i32 59) := i32_ne (by omega) (by omega) (by omega) (by omega) k59
    rw [if_neg k59]
    by_cases k123 : tkK tb n e = 123
    · rw [if_pos k123]
      by_cases d3 : 3 ≤ d
      · rw [if_pos d3]
        refine ⟨2, M, ?_, Chg.rf _ M, fun j => rfl, rfl, rfl⟩
        unfold f_X6_readLeafOrGroup_20
        rw [if_pos k4, r40, if_pos k2, et, if_neg (by exact n59), if_pos (by rw [k123]; rfl), h5, if_neg (by simp (disch := omega) only [↓reduceIte, add_i0, cast_add1, cast_sub1, toNat120, i32_lit, i32_neg, i32_add, i32_sub, i32_mul, i32_nat, i32_le, i32_lt, i32_eq, inB_i, Int.toNat_natCast, mI_sI_eq, mI_sI_ne, mR_sR_eq, mR_sR_ne, mI_sR, mR_sI, mK_sI, mN_sI, mn_sI, mJ_sI, mK_sR, mN_sR, mn_sR, mJ_sR, mI_wI, mR_wI, mK_wI, mN_wI, mn_wI, mJ_wI, ↓bnd_of, ↓bndX_r, ↓bndX_l, ↓ap_nr, bnd_of, bndX_r, bndX_l, if_true, if_false, ite_true, ite_false, not_true_eq_false, not_false_eq_true, Nat.reduceAdd, Nat.reduceMul, Nat.reduceEqDiff, Int.reduceToNat, Int.reduceNeg, Ilt_t, Ilt_f, Ile_t, Ile_f, Ieq_t, Ieq_f, Nlt_t, Nlt_f, Nle_t, Nle_f, Neq_t, Neq_f, or_true, true_or, or_false, false_or, and_true, true_and, and_false, false_and, ne_eq, or_self, and_self, decide_true, decide_false, Bool.false_eq_true])]
        rfl
      · rw [if_neg d3]
        have e5 : mI (sI M 4 4 (i32 (f : Int))) 4 5 + (1 : Int32) = i32 ((d + 1 : Nat) : Int) := by rw [mI_sI_ne (by omega), h5, k_add1]
        obtain ⟨M1, em⟩ : ∃ M1, sI (sI M 4 4 (i32 (f : Int))) 4 5 (i32 ((d + 1 : Nat) : Int)) = M1 := ⟨_, rfl⟩
        have g1 : Chg (fun a j => a = 4 ∧ 4 ≤ j) M M1 := by
          rw [← em]
          exact ((Chg.rf _ M).sI ⟨rfl, by omega⟩).sI ⟨rfl, by omega⟩
        have gs1 : Chg (shC q) M M1 := g1.mono (fun a j h => Or.inr (Or.inl h))
        have m2 : ∀ j, mI M1 2 j = mI M 2 j := fun j => g1.i (by omega)
        have c1 : CSh M1 q T := hC.away g1 (fun a j x => by omega)
        have w4 : mI M1 4 4 = i32 (f : Int) := by rw [← em, mI_sI_ne (by omega), mI_sI_eq]
        have w5 : mI M1 4 5 = i32 ((d + 1 : Nat) : Int) := by rw [← em, mI_sI_eq]
        have st : f_X6_readLeafOrGroup_20 4 (i32 f) (i32 v) M = (if i32 v = (-1 : Int32) then some ((0 : Int32), M1) else if mK M1 4 = 7 then if mK M1 (mR M1 4 2) = 6 then if mK M1 (mR M1 (mR M1 4 2) 4) = 21 then if inB (i32 v) (mN M1 (mR M1 (mR M1 4 2) 4)) = true then if (mI M1 (mR M1 (mR M1 4 2) 4) (i32 v).toNatClampNeg) = (-1 : Int32) then some ((0 : Int32), M1) else some ((3 : Int32), M1) else none else none else none else none) := by
          unfold f_X6_readLeafOrGroup_20
          rw [if_pos k4, r40, if_pos k2, et, if_neg (by exact n59), if_pos (by rw [k123]; rfl), h5, if_pos (by simp (disch := omega) only [↓reduceIte, add_i0, cast_add1, cast_sub1, toNat120, i32_lit, i32_neg, i32_add, i32_sub, i32_mul, i32_nat, i32_le, i32_lt, i32_eq, inB_i, Int.toNat_natCast, mI_sI_eq, mI_sI_ne, mR_sR_eq, mR_sR_ne, mI_sR, mR_sI, mK_sI, mN_sI, mn_sI, mJ_sI, mK_sR, mN_sR, mn_sR, mJ_sR, mI_wI, mR_wI, mK_wI, mN_wI, mn_wI, mJ_wI, ↓bnd_of, ↓bndX_r, ↓bndX_l, ↓ap_nr, bnd_of, bndX_r, bndX_l, if_true, if_false, ite_true, ite_false, not_true_eq_false, not_false_eq_true, Nat.reduceAdd, Nat.reduceMul, Nat.reduceEqDiff, Int.reduceToNat, Int.reduceNeg, Ilt_t, Ilt_f, Ile_t, Ile_f, Ieq_t, Ieq_f, Nlt_t, Nlt_f, Nle_t, Nle_f, Neq_t, Neq_f, or_true, true_or, or_false, false_or, and_true, true_and, and_false, false_and, ne_eq, or_self, and_self, decide_true, decide_false, Bool.false_eq_true]), ap_of, if_pos (by exact k4), e5, ap_of, em]
        rw [st]
        by_cases u : v = -1
        · rw [if_pos (by rw [u]; rfl), if_neg (fun w => ((vt _).mp w).1 u)]
          exact ⟨0, M1, rfl, gs1, m2, rfl, rfl, c1, w4, w5⟩
        · obtain ⟨z1, z2, z3, z4, z5, z6⟩ := look M1 gs1 u
          have nv : ¬ (i32 v = i32 (-1)) := i32_ne (by omega) (by omega) (by omega) (by omega) u
          have lb := z6.2.2.2.2.1 v.toNat
          rw [if_neg (by exact nv), if_pos z1, if_pos z2, if_pos z3, if_pos z4, z5]
          by_cases l1 : S.lf v.toNat = -1
          · rw [if_pos (by rw [l1]; rfl), if_neg (fun w => by
              have := ((vt _).mp w).2 (vtw u)
              rw [← vtw u] at this
              exact this l1)]
            exact ⟨0, M1, rfl, gs1, m2, rfl, rfl, c1, w4, w5⟩
          · have nl : ¬ (i32 (S.lf v.toNat) = i32 (-1)) := i32_ne (by omega) (by omega) (by omega) (by omega) l1
            rw [if_neg (by exact nl), if_pos ((vt _).mpr ⟨u, fun w => by rw [← w]; exact l1⟩)]
            exact ⟨3, M1, rfl, gs1, m2, rfl, rfl⟩
    · have n123 : ¬ (i32 (tkK tb n e) = i32 123) := i32_ne (by omega) (by omega) (by omega) (by omega) k123
      rw [if_neg k123]
      refine ⟨1, M, ?_, Chg.rf _ M, fun j => rfl, rfl, rfl⟩
      unfold f_X6_readLeafOrGroup_20
      rw [if_pos k4, r40, if_pos k2, et, if_neg (by exact n59), if_neg (by exact n123)]
      rfl
end
