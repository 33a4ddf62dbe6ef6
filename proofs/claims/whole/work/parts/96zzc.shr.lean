/-! schema, view in the reference: all the fields -/
/-- the text has been read up to e2, what it says of the fields so far stands there -/
def SOk (Q : Nat → Prop) (M' : Mem) (S : Sc) (vw : Bool) (tb : Nat → Int) (n e : Nat) (T : Sc) (g : Int) (d : Nat) : Prop := ∃ e2 T2 dp2, e < e2 ∧ e2 ≤ n ∧ RTk M' tb n e2 ∧ mI M' 134 12 = i32 0 ∧ RTr M' T2 vw ∧ BI S vw T2 g d dp2 ∧ T.nf < T2.nf ∧ (∀ p, p < T.nf → T2.gr p = T.gr p) ∧ Q e2 ∧ ∀ K, n - e < K → ∃ K2, n - e2 < K2 ∧ shF vw S tb n K e T g d = shF vw S tb n K2 e2 T2 g d
def SBad (M' : Mem) (S : Sc) (vw : Bool) (tb : Nat → Int) (n e : Nat) (T : Sc) (g : Int) (d : Nat) : Prop := ∃ y : Int × Nat, RBad M' y.1 y.2 ∧ ∀ K, n - e < K → shF vw S tb n K e T g d = .inl y
section
variable {M M' : Mem} {S T : Sc} {vw : Bool} {tb : Nat → Int} {n : Nat} {g : Int} {d f : Nat} {dp : Nat → Nat} {kF : Nat → Int32 → Int32 → Mem → Option (Unit × Mem)}
theorem shF_rd {e K : Nat} (h0 : ¬ (tkK tb n e = 0 ∧ g = -1 ∧ 0 < T.nf)) (h1 : ¬ (tkK tb n e = 125 ∧ g ≠ -1 ∧ g + 1 ≠ T.nf)) : shF vw S tb n (K + 1) e T g d = match shRd vw S tb n T g d e with
    | .inl y => .inl y
    | .inr r => shF vw S tb n K r.1 r.2.1 r.2.2.1 r.2.2.2 := by
  have kb := kwF_b tb n e
  conv => lhs; unfold shF
  by_cases c0 : tkK tb n e = 0
  · have kn : kwF tb n e = -1 := Decidable.byContradiction (fun u => by have := kb.2.2 u; omega)
    rw [if_pos c0, if_neg (fun u => h0 ⟨c0, u.1, u.2⟩)]
    unfold shRd
    rw [if_pos kn]
  · rw [if_neg c0]
    by_cases c1 : tkK tb n e = 125
    · have kn : kwF tb n e = -1 := Decidable.byContradiction (fun u => by have := kb.2.2 u; omega)
      rw [if_pos c1, if_pos (Decidable.byContradiction (fun u => h1 ⟨c1, fun w => u (Or.inl w), fun w => u (Or.inr w)⟩))]
      unfold shRd
      rw [if_pos kn]
    · rw [if_neg c1]
      cases shRd vw S tb n T g d e <;> rfl
def HKs (S : Sc) (vw : Bool) (tb : Nat → Int) (n : Nat) (kF : Nat → Int32 → Int32 → Mem → Option (Unit × Mem)) (d : Nat) : Prop := ∀ (M : Mem) (e : Nat) (T : Sc) (f : Nat) (dp : Nat → Nat), SRL M S vw tb n → RTr M T vw → BI S vw T (f : Int) (d + 1) dp → f + 1 = T.nf → RTk M tb n e → mI M 134 12 = i32 0 → e ≤ n → ∃ M', kF 134 (i32 f) (i32 ((d + 1 : Nat) : Int)) M = some ((), M') ∧ Chg shR M M' ∧ (SBad M' S vw tb n e T (f : Int) (d + 1) ∨ SOk (fun e2 => tkK tb n e2 = 125) M' S vw tb n e T (f : Int) (d + 1))
theorem X12_readFieldS (hk : d < 3 → HKs S vw tb n kF d) (hR : SRL M S vw tb n) (tr : RTr M T vw) (hB : BI S vw T g d dp) {e : Nat} (he : e ≤ n) (hT : RTk M tb n e) (hb : mI M 134 12 = i32 0) (h0 : ¬ (tkK tb n e = 0 ∧ g = -1 ∧ 0 < T.nf)) (h1 : ¬ (tkK tb n e = 125 ∧ g ≠ -1 ∧ g + 1 ≠ T.nf)) : ∃ M', f_X12_readField kF 134 (i32 g) (i32 d) M = some ((), M') ∧ Chg shR M M' ∧ (SBad M' S vw tb n e T g d ∨ SOk (fun _ => True) M' S vw tb n e T g d) := by
  obtain ⟨hL, hTX, h26, hv⟩ := id hR
  have hbt := hTX.2.2.2
  have kb := kwF_b tb n e
  have gb := hB.g16
  have hTo := hB.1
  have hnf := hTo.1
  have d3 : d ≤ 3 := hB.2.2.2.2.2.2.2.2.2.1
  have t2 : (2 : Int32).toNatClampNeg = 2 := by decide
  have hsb : SB S vw := fun w => (hv w).2
  have ew := X12_whichK hL hTX hT he hb
  have r0 : mR M 134 0 = 135 := by simp only [hL.o]
  -- once something is wrong
  have e35b : ∀ N, RLay N → (∀ (x : Int) (y : Nat), RBad N x y → ∀ a b c : Int32, f_X12_readField_35 kF 134 a b c N = some ((), N) ∧ f_X12_readField_19 kF 134 a b c N = some ((), N)) := fun N hN x y h a b c => by
    have e35 : f_X12_readField_35 kF 134 a b c N = some ((), N) := by
      unfold f_X12_readField_35
      rw [if_pos hN.k, if_neg (by exact h.nz)]
    have r23 : mR N 134 23 = 147 := by simp only [hN.o]
    have k147 : mK N 147 = 21 := by simp only [hN.o]
    have n147 : mN N 147 = 3 := by simp only [hN.o]
    refine ⟨e35, ?_⟩
    unfold f_X12_readField_19
    rw [if_pos hN.k, r23, if_pos k147, n147, if_pos (by decide), bx (X12_wrongN hN h _), e35, ite_self]
  -- what the specification says of it
  have spec : ∀ y : Int × Nat, shRd vw S tb n T g d e = .inl y → ∀ M', RBad M' y.1 y.2 → SBad M' S vw tb n e T g d := fun y hy M' hM => ⟨y, hM, fun K hK => by
    obtain ⟨K, rfl⟩ : ∃ q, K = q + 1 := ⟨K - 1, by omega⟩
    rw [shF_rd h0 h1, hy]⟩
  by_cases c1 : kwF tb n e = -1
  · obtain ⟨M1, e1, g1, b1⟩ := X12_wrong hL hb hT.2.1 1 (by omega) (by omega)
    have e1 : f_X12_wrong 134 (1 : Int32) M = _ := e1
    have hL1 := hL.all g1
    refine ⟨M1, ?_, g1.mono rd_shr, Or.inl (spec (1, tkB tb n e) (by unfold shRd; rw [if_pos c1]) M1 b1)⟩
    unfold f_X12_readField
    rw [if_pos hL.k, r0, bx ew, if_pos (by rw [c1]; rfl), if_pos hL.k, bx e1, (e35b M1 hL1 _ _ b1 _ _ _).2]
  · have nk : ¬ (i32 (kwF tb n e) = i32 (-1)) := i32_ne (by omega) (by omega) (by omega) (by omega) c1
    have r23 : mR M 134 23 = 147 := by simp only [hL.o]
    have k147 : mK M 147 = 21 := by simp only [hL.o]
    have n147 : mN M 147 = 3 := by simp only [hL.o]
    by_cases c2 : 16 ≤ T.nf
    · obtain ⟨M1, e1, g1, b1⟩ := X12_wrong hL hb hT.2.1 2 (by omega) (by omega)
      have e1 : f_X12_wrong 134 (2 : Int32) M = _ := e1
      have hL1 := hL.all g1
      have n16 : T.nf = 16 := by omega
      refine ⟨M1, ?_, g1.mono rd_shr, Or.inl (spec (2, tkB tb n e) (by unfold shRd; rw [if_neg c1, if_pos c2]) M1 b1)⟩
      unfold f_X12_readField
      rw [if_pos hL.k, r0, bx ew, if_neg (by exact nk)]
      unfold f_X12_readField_19
      rw [if_pos hL.k, r23, if_pos k147, n147, if_pos (by decide), t2, tr.1, n16, if_pos (by rfl), bx e1, (e35b M1 hL1 _ _ b1 _ _ _).1]
    · have n16 : ¬ (i32 (T.nf : Int) = i32 16) := i32_ne (by omega) (by omega) (by omega) (by omega) (by omega)
      obtain ⟨M1, e1, g1, to1, q1⟩ := X12_open (kF := kF) (d := d) hL hb tr hTo (by omega) (w := kwF tb n e) (by omega) (by omega) gb.1 gb.2
      have hR1 := hR.chg g1
      have hT1 : RTk M1 tb n e := hT.cg q1
      have hb1 : mI M1 134 12 = i32 0 := by rw [q1]; exact hb
      have go := tk_go hbt he (by have := kb.2.2 c1; omega)
      obtain ⟨M2, e2, g2, hT2⟩ := X12_stepOn hR1.1 hR1.2.1 hT1.2.2.2.1 go.2.1
      have gs2 : Chg shR M1 M2 := g2.mono tk_shr
      have hR2 := hR1.chg gs2
      have hb2 := bad.tk hb1 g2
      have to2 : RTo M2 (T.opn (kwF tb n e) g) vw T.nf := by
        have q : ∀ a j, 139 ≤ a → mI M2 a j = mI M1 a j := fun a j h => g2.i (by unfold tkR; omega)
        obtain ⟨x0, x1, x2, x3, x4, x5, x6, x7, x8, x9⟩ := to1
        exact ⟨by rw [q _ _ (by omega)]; exact x0, by rw [q _ _ (by omega)]; exact x1, fun f h => by rw [q _ _ (by omega)]; exact x2 f h, fun f h => by rw [q _ _ (by omega)]; exact x3 f h, fun f h => by rw [q _ _ (by omega)]; exact x4 f h, fun f h => by rw [q _ _ (by omega)]; exact x5 f h, fun f h => by rw [q _ _ (by omega)]; exact x6 f h, fun f h => by rw [q _ _ (by omega)]; exact x7 f h, fun f i h hi => by rw [q _ _ (by omega)]; exact x8 f i h hi, fun f h => by rw [q _ _ (by omega)]; exact x9 f h⟩
      have hT0 := opn_ok hB (by omega) (w := kwF tb n e) (by omega) (by omega)
      obtain ⟨M3, e3, g3, r3⟩ := X12_readName (T := T.opn (kwF tb n e) g) (f := T.nf) (g := g) hR2 to2 hT0 rfl (upf_eq _ _ _) (upf_eq _ _ _) hb2 go.2.1 hT2
      have hR3 := hR2.chg g3
      have gs3 : Chg shR M M3 := g1.tr (gs2.tr g3)
      have st : f_X12_readField kF 134 (i32 g) (i32 d) M = (if (mI M3 134 12) = 0 then rfS kF d T.nf M3 else some ((), M3)) := by
        unfold f_X12_readField
        rw [if_pos hL.k, r0, bx ew, if_neg (by exact nk)]
        unfold f_X12_readField_19
        rw [if_pos hL.k, r23, if_pos k147, n147, if_pos (by decide), t2, tr.1, if_neg (by exact n16), e1]
        unfold rfK rfS
        rw [bx e2, if_pos hR2.1.k, bx e3, if_pos hR3.1.k]
      rw [st]
      have spec2 : ∀ y : Int × Nat, shN vw S tb n (T.opn (kwF tb n e) g) g d T.nf (tkE tb n e) = .inl y → ∀ M', RBad M' y.1 y.2 → SBad M' S vw tb n e T g d := fun y hy M' hM => spec y (by unfold shRd; rw [if_neg c1, if_neg c2]; exact hy) M' hM
      by_cases c3 : tkK tb n (tkE tb n e) = 1
      · simp only [if_pos c3] at r3
        by_cases c4 : tkE tb n (tkE tb n e) - tkB tb n (tkE tb n e) ≤ 4
        · simp only [if_pos c4] at r3
          by_cases c5 : vw = true ∧ ¬ seeO S (shT1 tb n (T.opn (kwF tb n e) g) T.nf (tkE tb n e)) g (twV vw S (shT1 tb n (T.opn (kwF tb n e) g) T.nf (tkE tb n e)) g T.nf) ((T.opn (kwF tb n e) g).kd T.nf)
          · rw [if_pos c5] at r3
            refine ⟨M3, by rw [if_neg (by exact r3.nz)], gs3, Or.inl (spec2 (3, tkB tb n (tkE tb n e)) (by unfold shN; rw [if_pos c3, if_pos c4, if_pos c5]) M3 r3)⟩
          · rw [if_neg c5] at r3
            by_cases c6 : fnF (shT2 vw S tb n (T.opn (kwF tb n e) g) g T.nf (tkE tb n e)) (shT2 vw S tb n (T.opn (kwF tb n e) g) g T.nf (tkE tb n e)) g T.nf T.nf 0 ≠ -1
            · rw [if_pos c6] at r3
              refine ⟨M3, by rw [if_neg (by exact r3.nz)], gs3, Or.inl (spec2 (4, tkB tb n (tkE tb n e)) (by unfold shN; rw [if_pos c3, if_pos c4, if_neg c5, if_pos c6]) M3 r3)⟩
            · rw [if_neg c6] at r3
              obtain ⟨k3, b3, tr3, ok3⟩ := r3
              have go1 := tk_go hbt go.2.1 (by omega)
              have eN : shN vw S tb n (T.opn (kwF tb n e) g) g d T.nf (tkE tb n e) = shG vw S tb n (shT2 vw S tb n (T.opn (kwF tb n e) g) g T.nf (tkE tb n e)) g d T.nf (tkE tb n (tkE tb n e)) := by
                unfold shN
                rw [if_pos c3, if_pos c4, if_neg c5, if_neg c6]
              have eR : shRd vw S tb n T g d e = shG vw S tb n (shT2 vw S tb n (T.opn (kwF tb n e) g) g T.nf (tkE tb n e)) g d T.nf (tkE tb n (tkE tb n e)) := by
                unfold shRd
                rw [if_neg c1, if_neg c2, eN]
              have tv := twV_b (T := shT1 tb n (T.opn (kwF tb n e) g) T.nf (tkE tb n e)) (g := g) hsb (f := T.nf) (by omega)
              have tw2 : (shT2 vw S tb n (T.opn (kwF tb n e) g) g T.nf (tkE tb n e)).tw T.nf = twV vw S (shT1 tb n (T.opn (kwF tb n e) g) T.nf (tkE tb n e)) g T.nf := upf_eq _ _ _
              have s5 := X12_rsign (kF := kF) (T := shT2 vw S tb n (T.opn (kwF tb n e) g) g T.nf (tkE tb n e)) (f := T.nf) (g := g) (d := d) hR3 tr3 ok3 (by show T.nf < T.nf + 1; omega) d3 b3 go1.2.1 k3 (fun w => by
                rw [tw2]
                rcases tv.2.2 w with u | u
                · exact u
                · rw [u]; omega)
              have o5 := shRd_ok (n := n) hsb hbt hB he
              have gr2 : ∀ p, p < T.nf → (shT2 vw S tb n (T.opn (kwF tb n e) g) g T.nf (tkE tb n e)).gr p = T.gr p := fun p hp => by
                show upf T.gr T.nf g p = T.gr p
                exact upf_ne _ _ (by omega)
              have grn : (shT2 vw S tb n (T.opn (kwF tb n e) g) g T.nf (tkE tb n e)).gr T.nf = g := upf_eq _ _ _
              rw [eR] at o5
              have spec3 : ∀ K, n - e < K → ∃ K2, K = K2 + 1 ∧ shF vw S tb n K e T g d = match shG vw S tb n (shT2 vw S tb n (T.opn (kwF tb n e) g) g T.nf (tkE tb n e)) g d T.nf (tkE tb n (tkE tb n e)) with
                  | .inl y => .inl y
                  | .inr r => shF vw S tb n K2 r.1 r.2.1 r.2.2.1 r.2.2.2 := fun K hK => by
                obtain ⟨K, rfl⟩ : ∃ q, K = q + 1 := ⟨K - 1, by omega⟩
                exact ⟨K, rfl, by rw [shF_rd h0 h1, eR]⟩
              rw [if_pos (by exact b3)]
              -- which sign it is
              by_cases k59 : tkK tb n (tkE tb n (tkE tb n e)) = 59
              · have fm : shG vw S tb n (shT2 vw S tb n (T.opn (kwF tb n e) g) g T.nf (tkE tb n e)) g d T.nf (tkE tb n (tkE tb n e)) = _ := rfl
                generalize hy : shG vw S tb n (shT2 vw S tb n (T.opn (kwF tb n e) g) g T.nf (tkE tb n e)) g d T.nf (tkE tb n (tkE tb n e)) = y at s5 o5 spec3
                match y, hy, s5, o5, spec3 with
                | .inl y, hy, s5, o5, spec3 =>
                  obtain ⟨M5, e5, g5, b5⟩ := s5
                  exact ⟨M5, e5, gs3.tr g5, Or.inl (spec y (by rw [eR, hy]) M5 b5)⟩
                | .inr r, hy, s5, o5, spec3 =>
                  have s5 : if tkK tb n (tkE tb n (tkE tb n e)) = 59 then _ else _ := s5
                  rw [if_pos k59] at s5
                  obtain ⟨M5, e5, g5, k5, b5, tr5⟩ := s5
                  obtain ⟨o6, o7, o8, o9⟩ := o5
                  -- a leaf: the group stays open
                  unfold shG at hy
                  rw [if_pos k59] at hy
                  split at hy
                  · cases hy
                  · split at hy
                    · cases hy
                    · have hr : r = (tkE tb n (tkE tb n (tkE tb n e)), (shT2 vw S tb n (T.opn (kwF tb n e) g) g T.nf (tkE tb n e)).lea T.nf, g, d) := by injection hy with hy; exact hy.symm
                      subst hr
                      refine ⟨M5, e5, gs3.tr g5, Or.inr ⟨_, _, _, o6, o7, k5, b5, tr5, o9, ?_, fun p hp => gr2 p hp, trivial, fun K hK => ?_⟩⟩
                      · show T.nf < T.nf + 1
                        omega
                      · obtain ⟨K2, hK2, hs⟩ := spec3 K hK
                        have o6' : e < tkE tb n (tkE tb n (tkE tb n e)) := o6
                        have o7' : tkE tb n (tkE tb n (tkE tb n e)) ≤ n := o7
                        exact ⟨K2, by show n - tkE tb n (tkE tb n (tkE tb n e)) < K2; omega, hs⟩
              · generalize hy : shG vw S tb n (shT2 vw S tb n (T.opn (kwF tb n e) g) g T.nf (tkE tb n e)) g d T.nf (tkE tb n (tkE tb n e)) = y at s5 o5 spec3
                match y, hy, s5, o5, spec3 with
                | .inl y, hy, s5, o5, spec3 =>
                  obtain ⟨M5, e5, g5, b5⟩ := s5
                  exact ⟨M5, e5, gs3.tr g5, Or.inl (spec y (by rw [eR, hy]) M5 b5)⟩
                | .inr r, hy, s5, o5, spec3 =>
                  have s5 : if tkK tb n (tkE tb n (tkE tb n e)) = 59 then _ else _ := s5
                  rw [if_neg k59] at s5
                  obtain ⟨M5, e5, g5, k5, b5, tr5⟩ := s5
                  obtain ⟨o6, o7, o8, o9⟩ := o5
                  unfold shG at hy
                  rw [if_neg k59] at hy
                  split at hy
                  · split at hy
                    · cases hy
                    · next d3' =>
                      split at hy
                      · cases hy
                      · have hr : r = (tkE tb n (tkE tb n (tkE tb n e)), shT2 vw S tb n (T.opn (kwF tb n e) g) g T.nf (tkE tb n e), (T.nf : Int), d + 1) := by injection hy with hy; exact hy.symm
                        subst hr
                        have hR5 := hR3.chg g5
                        obtain ⟨M6, e6, g6, r6⟩ := hk (by omega) M5 _ _ T.nf _ hR5 tr5 o9 rfl k5 b5 o7
                        have hR6 := hR5.chg g6
                        have gs6 : Chg shR M M6 := gs3.tr (g5.tr g6)
                        have o6' : e < tkE tb n (tkE tb n (tkE tb n e)) := o6
                        have o7' : tkE tb n (tkE tb n (tkE tb n e)) ≤ n := o7
                        rcases r6 with ⟨y, b6, s6⟩ | ⟨e6', T6, dp6, z1, z2, z3, z4, z5, z6, z7, z8, z9, z10⟩
                        · refine ⟨M6, ?_, gs6, Or.inl ⟨y, b6, fun K hK => ?_⟩⟩
                          · rw [e5, bx e6, if_pos hR6.1.k, bx (X12_markN hR6.1 b6 _)]
                          · obtain ⟨K2, hK2, hs⟩ := spec3 K hK
                            rw [hs]
                            exact s6 K2 (by show n - tkE tb n (tkE tb n (tkE tb n e)) < K2; omega)
                        · have z1' : tkE tb n (tkE tb n (tkE tb n e)) < e6' := z1
                          have z7' : T.nf + 1 < T6.nf := z7
                          obtain ⟨M7, e7, g7, k7⟩ := X12_markY hR6.1 hR6.2.1 z3 z2 z4 125 (by omega) (by omega) z9
                          have e7 : f_X12_mark 134 (125 : Int32) M6 = _ := e7
                          have go6 := tk_go hbt z2 (by omega)
                          have grt : T6.gr T.nf = g := by rw [z8 T.nf (by show T.nf < T.nf + 1; omega)]; exact grn
                          have cl := z6.close (p := T.nf) rfl (by omega)
                          rw [grt, show d + 1 - 1 = d by omega] at cl
                          refine ⟨M7, ?_, gs6.tr (g7.mono tk_shr), Or.inr ⟨tkE tb n e6', T6, dp6, by omega, go6.2.1, k7, bad.tk z4 g7, z5.rd (g7.mono tkR_rd), cl, by omega, fun p hp => ?_, trivial, fun K hK => ?_⟩⟩
                          · rw [e5, bx e6, if_pos hR6.1.k, bx e7]
                          · rw [z8 p (by show p < T.nf + 1; omega)]
                            exact gr2 p hp
                          · obtain ⟨K2, hK2, hs⟩ := spec3 K hK
                            obtain ⟨K3, hK3, hs3⟩ := z10 K2 (by show n - tkE tb n (tkE tb n (tkE tb n e)) < K2; omega)
                            obtain ⟨K3, rfl⟩ : ∃ q, K3 = q + 1 := ⟨K3 - 1, by omega⟩
                            refine ⟨K3, by omega, ?_⟩
                            rw [hs]
                            show shF vw S tb n K2 (tkE tb n (tkE tb n (tkE tb n e))) (shT2 vw S tb n (T.opn (kwF tb n e) g) g T.nf (tkE tb n e)) (T.nf : Int) (d + 1) = _
                            rw [hs3]
                            conv => lhs; unfold shF
                            rw [if_neg (by omega), if_pos z9, if_neg (by omega), Int.toNat_natCast, grt, show d + 1 - 1 = d by omega]
                  · cases hy
        · simp only [if_neg c4] at r3
          refine ⟨M3, by rw [if_neg (by exact r3.nz)], gs3, Or.inl (spec2 (2, tkB tb n (tkE tb n e)) (by unfold shN; rw [if_pos c3, if_neg c4]) M3 r3)⟩
      · simp only [if_neg c3] at r3
        refine ⟨M3, by rw [if_neg (by exact r3.nz)], gs3, Or.inl (spec2 (1, tkB tb n (tkE tb n e)) (by unfold shN; rw [if_neg c3]) M3 r3)⟩
theorem X12_fields6 (hk : d < 3 → HKs S vw tb n kF d) : ∀ (k m e : Nat) (T : Sc) (dp : Nat → Nat) (M : Mem), n - e < k → n - e + 1 < m → SRL M S vw tb n → RTr M T vw → BI S vw T g d dp → 0 < T.nf → e ≤ n → RTk M tb n e → mI M 134 12 = i32 0 → ∃ M', f_X12_readFields_6 kF m 134 (i32 g) (i32 d) M = some ((), M') ∧ Chg shR M M' ∧ (SBad M' S vw tb n e T g d ∨ (tkK tb n e = (if g = -1 then 0 else 125) ∧ M' = M) ∨ SOk (fun e2 => tkK tb n e2 = if g = -1 then 0 else 125) M' S vw tb n e T g d) := by
  intro k
  induction k with
  | zero => intro m e T dp M hk; omega
  | succ k ih =>
    intro m e T dp M hke hme hR tr hB hn0 he hT hb
    obtain ⟨m, rfl⟩ : ∃ q, m = q + 1 := ⟨m - 1, by omega⟩
    obtain ⟨hL, hTX, h26, hv⟩ := id hR
    have hbt := hTX.2.2.2
    have tkb := tkK_b tb hbt n e
    have gb := hB.g16
    have hnf := hB.1.1
    have c125 : tkK tb n e = 125 ↔ tkK tb n e = 125 := Iff.rfl
    -- does it go on
    by_cases stop : tkK tb n e = (if g = -1 then 0 else 125)
    · refine ⟨M, ?_, Chg.rf _ M, Or.inr (Or.inl ⟨stop, rfl⟩)⟩
      unfold f_X12_readFields_6
      rw [if_pos hL.k, hb, if_pos (by rfl)]
      by_cases c : g = -1
      · rw [if_pos c] at stop
        have r0 : rkK tb n e = 0 := tkb.2.2.2.2.2.1.mpr (tkb.2.2.1.mp stop)
        rw [if_pos (by rw [c]; rfl), hT.1, r0, if_pos (by rfl)]
      · rw [if_neg c] at stop
        have ng : ¬ (i32 g = i32 (-1)) := i32_ne (by omega) (by omega) (by omega) (by omega) c
        have em := X12_isMarked hL hTX hT he hb 125 (by omega) (by omega)
        have em : f_X12_isMarked 134 (125 : Int32) M = _ := em
        rw [if_pos stop] at em
        have nz : ¬ (i32 1 = i32 0) := i32_ne (by omega) (by omega) (by omega) (by omega) (by omega)
        rw [if_neg (by exact ng), bx em, if_neg (by exact nz)]
    · have st : f_X12_readFields_6 kF (m + 1) 134 (i32 g) (i32 d) M = f_X12_readFields_37 kF (f_X12_readFields_6 kF m) 134 (i32 g) (i32 d) M := by
        conv => lhs; unfold f_X12_readFields_6
        rw [if_pos hL.k, hb, if_pos (by rfl)]
        by_cases c : g = -1
        · rw [if_pos c] at stop
          have r0 : rkK tb n e ≠ 0 := fun u => stop (tkb.2.2.1.mpr (tkb.2.2.2.2.2.1.mp u))
          have nr : ¬ (i32 (rkK tb n e) = i32 0) := i32_ne (by omega) (by omega) (by omega) (by omega) r0
          rw [if_pos (by rw [c]; rfl), hT.1, if_neg (by exact nr)]
        · rw [if_neg c] at stop
          have ng : ¬ (i32 g = i32 (-1)) := i32_ne (by omega) (by omega) (by omega) (by omega) c
          have em := X12_isMarked hL hTX hT he hb 125 (by omega) (by omega)
          have em : f_X12_isMarked 134 (125 : Int32) M = _ := em
          rw [if_neg stop] at em
          rw [if_neg (by exact ng), bx em, if_pos (by rfl)]
      rw [st]
      obtain ⟨M1, e1, g1, r1⟩ := X12_readFieldS hk hR tr hB he hT hb (fun u => stop (by rw [if_pos u.2.1]; exact u.1)) (fun u => stop (by rw [if_neg u.2.1]; exact u.1))
      have hR1 := hR.chg g1
      have st2 : f_X12_readFields_37 kF (f_X12_readFields_6 kF m) 134 (i32 g) (i32 d) M = f_X12_readFields_6 kF m 134 (i32 g) (i32 d) M1 := by
        unfold f_X12_readFields_37
        rw [if_pos hL.k, bx e1]
      rw [st2]
      rcases r1 with ⟨y, b1, s1⟩ | ⟨e2, T2, dp2, z1, z2, z3, z4, z5, z6, z7, z8, z9, z10⟩
      · obtain ⟨m, rfl⟩ : ∃ q, m = q + 1 := ⟨m - 1, by omega⟩
        refine ⟨M1, ?_, g1, Or.inl ⟨y, b1, s1⟩⟩
        unfold f_X12_readFields_6
        rw [if_pos hR1.1.k, if_neg (by exact b1.nz)]
      · obtain ⟨M2, e2', g2, r2⟩ := ih m e2 T2 dp2 M1 (by omega) (by omega) hR1 z5 z6 (by omega) z2 z3 z4
        refine ⟨M2, e2', g1.tr g2, ?_⟩
        rcases r2 with ⟨y, b2, s2⟩ | ⟨s2, m2⟩ | ⟨e3, T3, dp3, y1, y2, y3, y4, y5, y6, y7, y8, y9, y10⟩
        · refine Or.inl ⟨y, b2, fun K hK => ?_⟩
          obtain ⟨K2, hK2, hs⟩ := z10 K hK
          rw [hs]
          exact s2 K2 hK2
        · subst m2
          exact Or.inr (Or.inr ⟨e2, T2, dp2, z1, z2, z3, z4, z5, z6, z7, z8, s2, z10⟩)
        · refine Or.inr (Or.inr ⟨e3, T3, dp3, by omega, y2, y3, y4, y5, y6, by omega, fun p hp => ?_, y9, fun K hK => ?_⟩)
          · rw [y8 p (by omega), z8 p hp]
          · obtain ⟨K2, hK2, hs⟩ := z10 K hK
            obtain ⟨K3, hK3, hs3⟩ := y10 K2 hK2
            exact ⟨K3, hK3, by rw [hs, hs3]⟩
theorem X12_fieldsO (hn7 : n ≤ 700) (hk : d < 3 → HKs S vw tb n kF d) {e : Nat} (hR : SRL M S vw tb n) (tr : RTr M T vw) (hB : BI S vw T g d dp) (hg : (g = -1 ∧ T.nf = 0) ∨ g + 1 = T.nf) (he : e ≤ n) (hT : RTk M tb n e) (hb : mI M 134 12 = i32 0) : ∃ M', f_X12_readFields_o kF 134 (i32 g) (i32 d) M = some ((), M') ∧ Chg shR M M' ∧ (SBad M' S vw tb n e T g d ∨ SOk (fun e2 => tkK tb n e2 = if g = -1 then 0 else 125) M' S vw tb n e T g d) := by
  have hL := hR.1
  have gb := hB.g16
  obtain ⟨M1, e1, g1, r1⟩ := X12_readFieldS hk hR tr hB he hT hb (fun u => by omega) (fun u => by omega)
  have hR1 := hR.chg g1
  have st : f_X12_readFields_o kF 134 (i32 g) (i32 d) M = f_X12_readFields_6 kF FUEL 134 (i32 g) (i32 d) M1 := by
    unfold f_X12_readFields_o
    rw [if_pos hL.k, bx e1]
  rw [st]
  rcases r1 with ⟨y, b1, s1⟩ | ⟨e2, T2, dp2, z1, z2, z3, z4, z5, z6, z7, z8, z9, z10⟩
  · obtain ⟨m, hm⟩ : ∃ m, FUEL = m + 1 := ⟨FUEL - 1, by unfold FUEL; omega⟩
    refine ⟨M1, ?_, g1, Or.inl ⟨y, b1, s1⟩⟩
    rw [hm]
    unfold f_X12_readFields_6
    rw [if_pos hR1.1.k, if_neg (by exact b1.nz)]
  · obtain ⟨M2, e2', g2, r2⟩ := X12_fields6 hk (n + 1) FUEL e2 T2 dp2 M1 (by omega) (by unfold FUEL; omega) hR1 z5 z6 (by omega) z2 z3 z4
    refine ⟨M2, e2', g1.tr g2, ?_⟩
    rcases r2 with ⟨y, b2, s2⟩ | ⟨s2, m2⟩ | ⟨e3, T3, dp3, y1, y2, y3, y4, y5, y6, y7, y8, y9, y10⟩
    · refine Or.inl ⟨y, b2, fun K hK => ?_⟩
      obtain ⟨K2, hK2, hs⟩ := z10 K hK
      rw [hs]
      exact s2 K2 hK2
    · subst m2
      exact Or.inr ⟨e2, T2, dp2, z1, z2, z3, z4, z5, z6, z7, z8, s2, z10⟩
    · refine Or.inr ⟨e3, T3, dp3, by omega, y2, y3, y4, y5, y6, by omega, fun p hp => ?_, y9, fun K hK => ?_⟩
      · rw [y8 p (by omega), z8 p hp]
      · obtain ⟨K2, hK2, hs⟩ := z10 K hK
        obtain ⟨K3, hK3, hs3⟩ := y10 K2 hK2
        exact ⟨K3, hK3, by rw [hs, hs3]⟩
theorem HKs_rf (hn7 : n ≤ 700) : ∀ (k d : Nat), k + d = 3 → HKs S vw tb n (f_X12_readFields (k + 2)) d := by
  intro k
  induction k with
  | zero =>
    intro d hd M e T f dp hR tr hB hf hT hb he
    obtain ⟨M', e1, g1, r1⟩ := X12_fieldsO (kF := f_X12_readFields 1) (d := d + 1) (g := (f : Int)) hn7 (fun h => by omega) hR tr hB (Or.inr (by omega)) he hT hb
    refine ⟨M', e1, g1, ?_⟩
    rcases r1 with r | r
    · exact Or.inl r
    · have ng : ¬ ((f : Int) = -1) := by omega
      simp only [if_neg ng] at r
      exact Or.inr r
  | succ k ih =>
    intro d hd M e T f dp hR tr hB hf hT hb he
    obtain ⟨M', e1, g1, r1⟩ := X12_fieldsO (kF := f_X12_readFields (k + 2)) (d := d + 1) (g := (f : Int)) hn7 (fun _ => ih (d + 1) (by omega)) hR tr hB (Or.inr (by omega)) he hT hb
    refine ⟨M', e1, g1, ?_⟩
    rcases r1 with r | r
    · exact Or.inl r
    · have ng : ¬ ((f : Int) = -1) := by omega
      simp only [if_neg ng] at r
      exact Or.inr r
end
