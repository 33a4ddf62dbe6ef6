/-! schema, view: one field of the text -/
def ctG (T : Sc) (g : Int) : Int := if g = -1 then -1 else T.tw g.toNat
def twV (vw : Bool) (S T : Sc) (g : Int) (f : Nat) : Int := if vw = true then (if g ≠ -1 ∧ ctG T g = -1 then -1 else fnF S T (ctG T g) f S.nf 0) else (f : Int)
abbrev seeO (S T : Sc) (g v w : Int) : Prop := (g ≠ -1 ∧ ctG T g = -1) ∨ (v = -1 ∧ w ≠ 0) ∨ (v ≠ -1 ∧ (S.kd v.toNat = w ∨ (S.kd v.toNat = 0 ∧ w = 1)))
def shG (vw : Bool) (S : Sc) (tb : Nat → Int) (n : Nat) (T : Sc) (g : Int) (d f e : Nat) : (Int × Nat) ⊕ (Nat × Sc × Int × Nat) := if tkK tb n e = 59 then (if 8 ≤ T.nl then .inl (2, tkB tb n e) else if vw = true ∧ T.tw f ≠ -1 ∧ S.lf (T.tw f).toNat = -1 then .inl (3, tkB tb n e) else .inr (tkE tb n e, T.lea f, g, d)) else if tkK tb n e = 123 then (if 3 ≤ d then .inl (2, tkB tb n e) else if vw = true ∧ T.tw f ≠ -1 ∧ S.lf (T.tw f).toNat ≠ -1 then .inl (3, tkB tb n e) else .inr (tkE tb n e, T, (f : Int), d + 1)) else .inl (1, tkB tb n e)
def shT1 (tb : Nat → Int) (n : Nat) (T : Sc) (f e : Nat) : Sc := T.nam f (tkE tb n e - tkB tb n e) (tkB tb n e) tb
def shT2 (vw : Bool) (S : Sc) (tb : Nat → Int) (n : Nat) (T : Sc) (g : Int) (f e : Nat) : Sc := (shT1 tb n T f e).twi f (twV vw S (shT1 tb n T f e) g f)
def shN (vw : Bool) (S : Sc) (tb : Nat → Int) (n : Nat) (T : Sc) (g : Int) (d f e : Nat) : (Int × Nat) ⊕ (Nat × Sc × Int × Nat) := if tkK tb n e = 1 then (if tkE tb n e - tkB tb n e ≤ 4 then (if vw = true ∧ ¬ seeO S (shT1 tb n T f e) g (twV vw S (shT1 tb n T f e) g f) (T.kd f) then .inl (3, tkB tb n e) else if fnF (shT2 vw S tb n T g f e) (shT2 vw S tb n T g f e) g f f 0 ≠ -1 then .inl (4, tkB tb n e) else shG vw S tb n (shT2 vw S tb n T g f e) g d f (tkE tb n e)) else .inl (2, tkB tb n e)) else .inl (1, tkB tb n e)
def shRd (vw : Bool) (S : Sc) (tb : Nat → Int) (n : Nat) (T : Sc) (g : Int) (d e : Nat) : (Int × Nat) ⊕ (Nat × Sc × Int × Nat) := if kwF tb n e = -1 then .inl (1, tkB tb n e) else if 16 ≤ T.nf then .inl (2, tkB tb n e) else shN vw S tb n (T.opn (kwF tb n e) g) g d T.nf (tkE tb n e)
def shF (vw : Bool) (S : Sc) (tb : Nat → Int) (n : Nat) : Nat → Nat → Sc → Int → Nat → (Int × Nat) ⊕ Sc
  | 0, e, _, _, _ => .inl (1, tkB tb n e)
  | k + 1, e, T, g, d => if tkK tb n e = 0 then (if g = -1 ∧ 0 < T.nf then .inr T else .inl (1, tkB tb n e)) else if tkK tb n e = 125 then (if g = -1 ∨ g + 1 = T.nf then .inl (1, tkB tb n e) else shF vw S tb n k (tkE tb n e) T (T.gr g.toNat) (d - 1)) else match shRd vw S tb n T g d e with
    | .inl y => .inl y
    | .inr r => shF vw S tb n k r.1 r.2.1 r.2.2.1 r.2.2.2
/-- the schema that a view is of -/
def SB (S : Sc) (vw : Bool) : Prop := vw = true → S.ok
section
variable {S T : Sc} {vw : Bool} {g : Int} {d : Nat} {dp : Nat → Nat} {tb : Nat → Int} {n : Nat}
theorem opn_ok (h : BI S vw T g d dp) (h16 : T.nf < 16) {w : Int} (w0 : 0 ≤ w) (w2 : w ≤ 2) : (T.opn w g).ok := by
  have gb := h.g16
  obtain ⟨h1, h2, h3, h4, h5, h6, h7, h8, h9, h10, h11, h12, h13⟩ := h
  obtain ⟨o1, o2, o3, o4, o5, o6, o7, o8, o9, o10, o11⟩ := id h1
  have gl : 0 ≤ T.dg g ∧ T.dg g ≤ d ∧ 0 ≤ T.lv g ∧ T.lv g ≤ d := by
    rcases h9 with q | ⟨p, q1, q2, q3, q4, q5⟩
    · unfold Sc.dg Sc.lv
      rw [if_pos q.1, if_pos q.1]
      omega
    · have e : g.toNat = p := by omega
      have s := h12 p q1
      have t1 := o6 p
      have t2 := o7 p
      unfold Sc.dg Sc.lv
      rw [if_neg (by omega), if_neg (by omega), e]
      omega
  clear h9
  have wd : 0 ≤ (if w = 0 then (0 : Int) else 1) ∧ (if w = 0 then (0 : Int) else 1) ≤ 1 := by split <;> omega
  have wr : 0 ≤ (if w = 2 then (1 : Int) else 0) ∧ (if w = 2 then (1 : Int) else 0) ≤ 1 := by split <;> omega
  have U : ∀ (c : Nat → Int) (v : Int) (P : Int → Prop), P v → (∀ f, P (c f)) → ∀ f, P (upf c T.nf v f) := fun c v P hv hc f => by
    unfold upf
    split
    · exact hv
    · exact hc f
  refine ⟨by show T.nf + 1 ≤ 16; omega, o2, U _ _ (fun x => 0 ≤ x ∧ x ≤ 2) ⟨w0, w2⟩ o3, fun f => ?_, U _ _ (fun x => -1 ≤ x ∧ x ≤ 7) (by omega) o5, U _ _ (fun x => 0 ≤ x ∧ x ≤ 9) (by omega) o6, U _ _ (fun x => 0 ≤ x ∧ x ≤ 9) (by omega) o7, U _ _ (fun x => 0 ≤ x ∧ x ≤ 4) (by omega) o8, o9, U _ _ (fun x => -1 ≤ x ∧ x ≤ 15) (by omega) o10, fun l hl => ?_⟩
  · show -1 ≤ upf T.gr T.nf g f ∧ upf T.gr T.nf g f < f
    unfold upf
    split
    · next e => subst e; exact gb
    · exact o4 f
  · have := o11 l hl
    show T.fo l < T.nf + 1 ∧ upf T.lf T.nf (-1) (T.fo l) = l
    rw [upf_ne _ _ (by omega)]
    exact ⟨by omega, this.2⟩
theorem nam_ok (h : T.ok) {f L b : Nat} (hL : L ≤ 4) (hb : ∀ i, 0 ≤ tb i ∧ tb i ≤ 255) : (T.nam f L b tb).ok := by
  obtain ⟨o1, o2, o3, o4, o5, o6, o7, o8, o9, o10, o11⟩ := h
  refine ⟨o1, o2, o3, o4, o5, o6, o7, fun f' => ?_, fun i => ?_, o10, o11⟩
  · show 0 ≤ upf T.ln f (L : Int) f' ∧ upf T.ln f (L : Int) f' ≤ 4
    unfold upf
    split
    · omega
    · exact o8 f'
  · show 0 ≤ (if 4 * f ≤ i ∧ i < 4 * f + L then tb (b + (i - 4 * f)) else T.nm i) ∧ (if 4 * f ≤ i ∧ i < 4 * f + L then tb (b + (i - 4 * f)) else T.nm i) ≤ 255
    split
    · exact hb _
    · exact o9 i
theorem twi_ok (h : T.ok) {f : Nat} {v : Int} (v0 : -1 ≤ v) (v1 : v ≤ 15) : (T.twi f v).ok := by
  obtain ⟨o1, o2, o3, o4, o5, o6, o7, o8, o9, o10, o11⟩ := h
  refine ⟨o1, o2, o3, o4, o5, o6, o7, o8, o9, fun f' => ?_, o11⟩
  show -1 ≤ upf T.tw f v f' ∧ upf T.tw f v f' ≤ 15
  unfold upf
  split
  · omega
  · exact o10 f'
theorem twV_b (hS : SB S vw) {f : Nat} (hf : f < 16) : -1 ≤ twV vw S T g f ∧ twV vw S T g f ≤ 15 ∧ (vw = true → twV vw S T g f < S.nf ∨ twV vw S T g f = -1) := by
  unfold twV
  cases vw
  · rw [if_neg (by decide)]
    exact ⟨by omega, by omega, fun h => absurd h (by decide)⟩
  · rw [if_pos rfl]
    have hn := (hS rfl).1
    by_cases c : g ≠ -1 ∧ ctG T g = -1
    · rw [if_pos c]
      exact ⟨by omega, by omega, fun _ => Or.inr rfl⟩
    · rw [if_neg c]
      rcases fnF_b S T (ctG T g) f S.nf 0 with h | h
      · rw [h]; exact ⟨by omega, by omega, fun _ => Or.inr rfl⟩
      · exact ⟨by omega, by omega, fun _ => Or.inl (by omega)⟩
/-- a field that is read leaves all in order -/
theorem shRd_ok (hS : SB S vw) (hb : ∀ i, 0 ≤ tb i ∧ tb i ≤ 255) (h : BI S vw T g d dp) {e : Nat} (he : e ≤ n) : match shRd vw S tb n T g d e with
    | .inl y => 1 ≤ y.1 ∧ y.1 ≤ 4
    | .inr r => e < r.1 ∧ r.1 ≤ n ∧ r.2.1.nf = T.nf + 1 ∧ BI S vw r.2.1 r.2.2.1 r.2.2.2 (upf dp T.nf d) := by
  have kb := kwF_b tb n e
  have gb := h.g16
  unfold shRd
  by_cases c1 : kwF tb n e = -1
  · rw [if_pos c1]
    exact ⟨by show (1 : Int) ≤ 1; omega, by show (1 : Int) ≤ 4; omega⟩
  · rw [if_neg c1]
    by_cases c2 : 16 ≤ T.nf
    · rw [if_pos c2]
      exact ⟨by show (1 : Int) ≤ 2; omega, by show (2 : Int) ≤ 4; omega⟩
    · rw [if_neg c2]
      have go := tk_go hb he (by have := kb.2.2 c1; omega)
      unfold shN
      by_cases c3 : tkK tb n (tkE tb n e) = 1
      · rw [if_pos c3]
        have go1 := tk_go hb go.2.1 (by omega)
        by_cases c4 : tkE tb n (tkE tb n e) - tkB tb n (tkE tb n e) ≤ 4
        · rw [if_pos c4]
          generalize hT0 : T.opn (kwF tb n e) g = T0
          have hv := twV_b (T := shT1 tb n T0 T.nf (tkE tb n e)) (g := g) hS (f := T.nf) (by omega)
          have kd0 : T0.kd T.nf = kwF tb n e := by rw [← hT0]; exact upf_eq _ _ _
          rw [kd0]
          by_cases c5 : vw = true ∧ ¬ seeO S (shT1 tb n T0 T.nf (tkE tb n e)) g (twV vw S (shT1 tb n T0 T.nf (tkE tb n e)) g T.nf) (kwF tb n e)
          · rw [if_pos c5]
            exact ⟨by show (1 : Int) ≤ 3; omega, by show (3 : Int) ≤ 4; omega⟩
          · rw [if_neg c5]
            by_cases c6 : fnF (shT2 vw S tb n T0 g T.nf (tkE tb n e)) (shT2 vw S tb n T0 g T.nf (tkE tb n e)) g T.nf T.nf 0 ≠ -1
            · rw [if_pos c6]
              exact ⟨by show (1 : Int) ≤ 4; omega, by show (4 : Int) ≤ 4; omega⟩
            · rw [if_neg c6]
              -- the twin is as it must be
              have hv2 : if vw = true then (-1 ≤ twV vw S (shT1 tb n T0 T.nf (tkE tb n e)) g T.nf ∧ twV vw S (shT1 tb n T0 T.nf (tkE tb n e)) g T.nf < S.nf ∧ twV vw S (shT1 tb n T0 T.nf (tkE tb n e)) g T.nf ≤ 15 ∧ (twV vw S (shT1 tb n T0 T.nf (tkE tb n e)) g T.nf ≠ -1 → (S.kd (twV vw S (shT1 tb n T0 T.nf (tkE tb n e)) g T.nf).toNat = 2 ↔ kwF tb n e = 2) ∧ S.gr (twV vw S (shT1 tb n T0 T.nf (tkE tb n e)) g T.nf).toNat = if g = -1 then -1 else T.tw g.toNat)) else twV vw S (shT1 tb n T0 T.nf (tkE tb n e)) g T.nf = T.nf := by
                cases vw
                · rw [if_neg (by decide)]
                  rfl
                · rw [if_pos rfl]
                  have se : seeO S (shT1 tb n T0 T.nf (tkE tb n e)) g (twV true S (shT1 tb n T0 T.nf (tkE tb n e)) g T.nf) (kwF tb n e) := Decidable.byContradiction (fun u => c5 ⟨rfl, u⟩)
                  have ct : ctG (shT1 tb n T0 T.nf (tkE tb n e)) g = if g = -1 then -1 else T.tw g.toNat := by
                    unfold ctG
                    by_cases u : g = -1
                    · rw [if_pos u, if_pos u]
                    · rw [if_neg u, if_neg u, ← hT0]
                      show upf T.tw T.nf (-1) g.toNat = _
                      rw [upf_ne _ _ (by omega)]
                  refine ⟨hv.1, ?_, hv.2.1, fun u => ⟨?_, ?_⟩⟩
                  · rcases hv.2.2 rfl with q | q
                    · exact q
                    · rw [q]; omega
                  · rcases se with q | q | q
                    · exfalso
                      apply u
                      unfold twV
                      rw [if_pos rfl, if_pos q]
                    · exact absurd q.1 u
                    · constructor
                      · intro w2
                        rcases q.2 with r | r
                        · omega
                        · omega
                      · intro w2
                        rcases q.2 with r | r
                        · omega
                        · omega
                  · rw [← ct]
                    unfold twV at u ⊢
                    rw [if_pos rfl] at u ⊢
                    by_cases q : g ≠ -1 ∧ ctG (shT1 tb n T0 T.nf (tkE tb n e)) g = -1
                    · rw [if_pos q] at u
                      exact absurd rfl u
                    · rw [if_neg q] at u ⊢
                      rcases fnF_b S (shT1 tb n T0 T.nf (tkE tb n e)) (ctG (shT1 tb n T0 T.nf (tkE tb n e)) g) T.nf S.nf 0 with r | r
                      · exact absurd r u
                      · exact r.2.2
              have tb2 := tk_b tb go1.2.1
              have nl2 : (shT2 vw S tb n T0 g T.nf (tkE tb n e)).nl = T.nl := by rw [← hT0]; rfl
              have fl : ∀ c, (if c = true then (shT2 vw S tb n T0 g T.nf (tkE tb n e)).lea T.nf else shT2 vw S tb n T0 g T.nf (tkE tb n e)) = T.fin (kwF tb n e) g (tkE tb n (tkE tb n e) - tkB tb n (tkE tb n e)) (tkB tb n (tkE tb n e)) tb (twV vw S (shT1 tb n T0 T.nf (tkE tb n e)) g T.nf) c := fun c => by rw [← hT0]; cases c <;> rfl
              unfold shG
              by_cases k59 : tkK tb n (tkE tb n (tkE tb n e)) = 59
              · rw [if_pos k59, nl2]
                have go2 := tk_go hb go1.2.1 (by omega)
                by_cases l8 : 8 ≤ T.nl
                · rw [if_pos l8]
                  exact ⟨by show (1 : Int) ≤ 2; omega, by show (2 : Int) ≤ 4; omega⟩
                · rw [if_neg l8]
                  by_cases v3 : vw = true ∧ (shT2 vw S tb n T0 g T.nf (tkE tb n e)).tw T.nf ≠ -1 ∧ S.lf ((shT2 vw S tb n T0 g T.nf (tkE tb n e)).tw T.nf).toNat = -1
                  · rw [if_pos v3]
                    exact ⟨by show (1 : Int) ≤ 3; omega, by show (3 : Int) ≤ 4; omega⟩
                  · rw [if_neg v3]
                    have bi := h.field (c := true) (w := kwF tb n e) (L := tkE tb n (tkE tb n e) - tkB tb n (tkE tb n e)) (b := tkB tb n (tkE tb n e)) (tb := tb) (v := twV vw S (shT1 tb n T0 T.nf (tkE tb n e)) g T.nf) (by omega) (by omega) (by omega) c4 hb hv2 (by rw [if_pos rfl]; omega)
                    rw [← fl true, if_pos rfl, if_pos rfl, if_pos rfl] at bi
                    exact ⟨by show e < tkE tb n (tkE tb n (tkE tb n e)); omega, go2.2.1, by rw [← hT0]; rfl, bi⟩
              · rw [if_neg k59]
                by_cases k123 : tkK tb n (tkE tb n (tkE tb n e)) = 123
                · rw [if_pos k123]
                  have go2 := tk_go hb go1.2.1 (by omega)
                  by_cases d3 : 3 ≤ d
                  · rw [if_pos d3]
                    exact ⟨by show (1 : Int) ≤ 2; omega, by show (2 : Int) ≤ 4; omega⟩
                  · rw [if_neg d3]
                    by_cases v3 : vw = true ∧ (shT2 vw S tb n T0 g T.nf (tkE tb n e)).tw T.nf ≠ -1 ∧ S.lf ((shT2 vw S tb n T0 g T.nf (tkE tb n e)).tw T.nf).toNat ≠ -1
                    · rw [if_pos v3]
                      exact ⟨by show (1 : Int) ≤ 3; omega, by show (3 : Int) ≤ 4; omega⟩
                    · rw [if_neg v3]
                      have bi := h.field (c := false) (w := kwF tb n e) (L := tkE tb n (tkE tb n e) - tkB tb n (tkE tb n e)) (b := tkB tb n (tkE tb n e)) (tb := tb) (v := twV vw S (shT1 tb n T0 T.nf (tkE tb n e)) g T.nf) (by omega) (by omega) (by omega) c4 hb hv2 (by rw [if_neg (by decide)]; omega)
                      rw [← fl false, if_neg (by decide), if_neg (by decide), if_neg (by decide)] at bi
                      exact ⟨by show e < tkE tb n (tkE tb n (tkE tb n e)); omega, go2.2.1, by rw [← hT0]; rfl, bi⟩
                · rw [if_neg k123]
                  exact ⟨by show (1 : Int) ≤ 1; omega, by show (1 : Int) ≤ 4; omega⟩
        · rw [if_neg c4]
          exact ⟨by show (1 : Int) ≤ 2; omega, by show (2 : Int) ≤ 4; omega⟩
      · rw [if_neg c3]
        exact ⟨by show (1 : Int) ≤ 1; omega, by show (1 : Int) ≤ 4; omega⟩
theorem shF_ok (hS : SB S vw) (hb : ∀ i, 0 ≤ tb i ∧ tb i ≤ 255) : ∀ (k e : Nat) (T : Sc) (g : Int) (d : Nat) (dp : Nat → Nat), BI S vw T g d dp → e ≤ n → match shF vw S tb n k e T g d with
    | .inl y => 1 ≤ y.1 ∧ y.1 ≤ 4
    | .inr T' => 0 < T'.nf ∧ ∃ d dp, BI S vw T' (-1) d dp := by
  intro k
  induction k with
  | zero =>
    intro e T g d dp h he
    exact ⟨by show (1 : Int) ≤ 1; omega, by show (1 : Int) ≤ 4; omega⟩
  | succ k ih =>
    intro e T g d dp h he
    have t := tk_b tb he
    have gb := h.g16
    unfold shF
    by_cases c0 : tkK tb n e = 0
    · rw [if_pos c0]
      by_cases c : g = -1 ∧ 0 < T.nf
      · rw [if_pos c]
        obtain ⟨c1, c2⟩ := c
        subst c1
        exact ⟨c2, d, dp, h⟩
      · rw [if_neg c]
        exact ⟨by show (1 : Int) ≤ 1; omega, by show (1 : Int) ≤ 4; omega⟩
    · rw [if_neg c0]
      by_cases c1 : tkK tb n e = 125
      · rw [if_pos c1]
        by_cases c : g = -1 ∨ g + 1 = T.nf
        · rw [if_pos c]
          exact ⟨by show (1 : Int) ≤ 1; omega, by show (1 : Int) ≤ 4; omega⟩
        · rw [if_neg c]
          obtain ⟨p, hp⟩ : ∃ p : Nat, g = p := ⟨g.toNat, by omega⟩
          rw [hp, Int.toNat_natCast]
          exact ih (tkE tb n e) T (T.gr p) (d - 1) dp (h.close hp (by omega)) t.2.2.2.1
      · rw [if_neg c1]
        have o := shRd_ok (n := n) hS hb h he
        generalize shRd vw S tb n T g d e = y at o
        match y, o with
        | .inl y, o => exact o
        | .inr r, o => exact ih r.1 r.2.1 r.2.2.1 r.2.2.2 _ o.2.2.2 o.2.1
end
