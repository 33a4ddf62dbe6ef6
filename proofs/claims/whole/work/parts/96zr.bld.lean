/-! schema, view: fields read one after the other -/
def Sc.opn (T : Sc) (w g : Int) : Sc := ((T.nf + 1, T.nl), upf T.kd T.nf w, upf T.gr T.nf g, upf T.lf T.nf (-1), upf T.sd T.nf (T.dg g + (if w = 0 then 0 else 1)), upf T.sr T.nf (T.lv g + (if w = 2 then 1 else 0)), upf T.ln T.nf 0, T.nm, upf T.tw T.nf (-1), T.fo)
def Sc.nam (T : Sc) (f L b : Nat) (tb : Nat → Int) : Sc := ((T.nf, T.nl), T.kd, T.gr, T.lf, T.sd, T.sr, upf T.ln f (L : Int), fun i => if 4 * f ≤ i ∧ i < 4 * f + L then tb (b + (i - 4 * f)) else T.nm i, T.tw, T.fo)
def Sc.twi (T : Sc) (f : Nat) (v : Int) : Sc := ((T.nf, T.nl), T.kd, T.gr, T.lf, T.sd, T.sr, T.ln, T.nm, upf T.tw f v, T.fo)
def Sc.lea (T : Sc) (f : Nat) : Sc := ((T.nf, T.nl + 1), T.kd, T.gr, upf T.lf f (T.nl : Int), T.sd, T.sr, T.ln, T.nm, T.tw, upf T.fo T.nl f)
def T00 : Sc := ((0, 0), fun _ => 0, fun _ => -1, fun _ => -1, fun _ => 0, fun _ => 0, fun _ => 0, fun _ => 0, fun _ => -1, fun _ => 0)
theorem upF_cg {gr gr' : Nat → Int} {p : Nat → Bool} (hg : ∀ f : Nat, -1 ≤ gr f ∧ gr f < f) : ∀ (n : Nat) (k : Int), -1 ≤ k → (∀ j : Nat, (j : Int) ≤ k → gr' j = gr j) → upF gr' p n k = upF gr p n k := by
  intro n
  induction n with
  | zero => intro k _ _; rfl
  | succ n ih =>
    intro k hk h
    unfold upF
    by_cases c : k = -1
    · rw [if_pos c, if_pos c]
    · rw [if_neg c, if_neg c]
      by_cases q : p k.toNat = true
      · rw [if_pos q, if_pos q]
      · rw [if_neg q, if_neg q]
        have e := h k.toNat (by omega)
        have b := hg k.toNat
        rw [e]
        exact ih _ b.1 (fun j hj => h j (by omega))
theorem ins_cg {S S' : Sc} (hg : ∀ f : Nat, -1 ≤ S.gr f ∧ S.gr f < f) {k : Int} (hk : -1 ≤ k) (h : ∀ j : Nat, (j : Int) ≤ k → S'.gr j = S.gr j) (f : Nat) : S'.ins k f = S.ins k f := by
  unfold Sc.ins Sc.up
  rw [upF_cg hg 17 k hk h]
theorem lp_cg {σ : Type} {b b' : Nat → σ → σ} : ∀ (k j : Nat) (s : σ), (∀ i s, j ≤ i → i < j + k → b' i s = b i s) → lp b' k j s = lp b k j s := by
  intro k
  induction k with
  | zero => intro j s _; rfl
  | succ k ih =>
    intro j s h
    show lp b' k (j + 1) (b' j s) = lp b k (j + 1) (b j s)
    rw [h j s (by omega) (by omega), ih (j + 1) _ (fun i s h1 h2 => h i s (by omega) (by omega))]
theorem lp_snoc {σ : Type} {b : Nat → σ → σ} : ∀ (k j : Nat) (s : σ), lp b (k + 1) j s = b (j + k) (lp b k j s) := by
  intro k
  induction k with
  | zero => intro j s; rfl
  | succ k ih =>
    intro j s
    show lp b (k + 1) (j + 1) (b j s) = b (j + (k + 1)) (lp b k (j + 1) (b j s))
    rw [ih, show j + 1 + k = j + (k + 1) by omega]
section
variable {S T : Sc}
theorem opn_ins (hg : ∀ f : Nat, -1 ≤ T.gr f ∧ T.gr f < f) (w g : Int) {k : Int} (h0 : -1 ≤ k) (hk : k < T.nf) (f : Nat) : (T.opn w g).ins k f = T.ins k f := ins_cg hg h0 (fun j hj => by show upf T.gr T.nf g j = T.gr j; exact upf_ne _ _ (by omega)) f
theorem opn_kids (w g : Int) (f : Nat) : (T.opn w g).kids f = if g = f then T.kids f + i32 1 else T.kids f := by
  unfold Sc.kids
  have e1 : (T.opn w g).nf = T.nf + 1 := rfl
  rw [e1, lp_snoc, Nat.zero_add]
  have e2 : lp (fun k s => if (T.opn w g).gr k = f then s + i32 1 else s) T.nf 0 (i32 0) = lp (fun k s => if T.gr k = f then s + i32 1 else s) T.nf 0 (i32 0) := lp_cg _ _ _ (fun i s _ h2 => by
    have : (T.opn w g).gr i = T.gr i := upf_ne _ _ (by omega)
    rw [this])
  have e3 : (T.opn w g).gr T.nf = g := upf_eq _ _ _
  rw [e2]
  show (if (T.opn w g).gr T.nf = f then _ else _) = _
  rw [e3]
/-- how many stand in a field -/
theorem kids_cnt (T : Sc) (f : Nat) : T.kids f = i32 (cnt (fun k => decide (T.gr k = f)) T.nf 0 : Nat) := by
  have := lp_cnt (fun k => decide (T.gr k = f)) T.nf 0 0
  simp only [decide_eq_true_eq, Int.zero_add] at this
  exact this
theorem cnt_zero {p : Nat → Bool} : ∀ (k j : Nat), (∀ i, j ≤ i → i < j + k → p i = false) → cnt p k j = 0 := by
  intro k
  induction k with
  | zero => intro j _; rfl
  | succ k ih =>
    intro j h
    show (if p j = true then 1 else 0) + cnt p k (j + 1) = 0
    rw [h j (by omega) (by omega), ih (j + 1) (fun i h1 h2 => h i (by omega) (by omega))]
    rfl
theorem cnt_pos {p : Nat → Bool} {i : Nat} : ∀ (k j : Nat), j ≤ i → i < j + k → p i = true → 0 < cnt p k j := by
  intro k
  induction k with
  | zero => intro j h1 h2; omega
  | succ k ih =>
    intro j h1 h2 h3
    show 0 < (if p j = true then 1 else 0) + cnt p k (j + 1)
    by_cases c : i = j
    · subst c
      rw [if_pos h3]
      omega
    · have := ih (j + 1) (by omega) (by omega) h3
      omega
end
/-- what has been read so far; the group that is open, how many are open -/
def BI (S : Sc) (vw : Bool) (T : Sc) (g : Int) (d : Nat) (dp : Nat → Nat) : Prop := T.ok ∧ (∀ f, f < T.nf → T.sd f = T.dg (T.gr f) + (if T.kd f = 0 then 0 else 1)) ∧ (∀ f, f < T.nf → T.sr f = T.lv (T.gr f) + (if T.kd f = 2 then 1 else 0)) ∧ (∀ f, f < T.nf → T.gr f ≠ -1 → T.lf (T.gr f).toNat = -1) ∧ (∀ f : Nat, f < T.nf → T.lf f = -1 → (f + 1 < T.nf ∧ T.gr (f + 1) = f) ∨ (f + 1 = T.nf ∧ g = f)) ∧ (∀ f, f < T.nf → T.lf f ≠ -1 → T.lf f < T.nl ∧ T.fo (T.lf f).toNat = f) ∧ (∀ f : Nat, f + 1 < T.nf → T.gr (f + 1) = -1 ∨ T.ins f (T.gr (f + 1)).toNat = true) ∧ (∀ a b, a < b → b < T.nl → T.fo a < T.fo b) ∧ ((g = -1 ∧ d = 0) ∨ ∃ p : Nat, p < T.nf ∧ g = p ∧ T.lf p = -1 ∧ dp p + 1 = d ∧ T.ins ((T.nf - 1 : Nat) : Int) p = true) ∧ d ≤ 3 ∧ (∀ f, f < T.nf → dp f = if T.gr f = -1 then 0 else dp (T.gr f).toNat + 1) ∧ (∀ f, f < T.nf → dp f ≤ 3 ∧ T.sd f ≤ dp f + 1 ∧ T.sr f ≤ dp f + 1) ∧ (∀ f, f < T.nf → if vw = true then (-1 ≤ T.tw f ∧ T.tw f < S.nf ∧ (T.tw f ≠ -1 → (S.kd (T.tw f).toNat = 2 ↔ T.kd f = 2) ∧ S.gr (T.tw f).toNat = if T.gr f = -1 then -1 else T.tw (T.gr f).toNat)) else T.tw f = f)
section
variable {S T : Sc} {vw : Bool} {g : Int} {d : Nat} {dp : Nat → Nat}
theorem BI_start : BI S vw T00 (-1) 0 (fun _ => 0) := by
  refine ⟨⟨by decide, by decide, fun f => by show (0 : Int) ≤ 0 ∧ (0 : Int) ≤ 2; omega, fun f => by show (-1 : Int) ≤ -1 ∧ (-1 : Int) < f; omega, fun f => by show (-1 : Int) ≤ -1 ∧ (-1 : Int) ≤ 7; omega, fun f => by show (0 : Int) ≤ 0 ∧ (0 : Int) ≤ 9; omega, fun f => by show (0 : Int) ≤ 0 ∧ (0 : Int) ≤ 9; omega, fun f => by show (0 : Int) ≤ 0 ∧ (0 : Int) ≤ 4; omega, fun f => by show (0 : Int) ≤ 0 ∧ (0 : Int) ≤ 255; omega, fun f => by show (-1 : Int) ≤ -1 ∧ (-1 : Int) ≤ 15; omega, fun l hl => absurd hl (Nat.not_lt_zero l)⟩, fun f hf => absurd hf (Nat.not_lt_zero f), fun f hf => absurd hf (Nat.not_lt_zero f), fun f hf => absurd hf (Nat.not_lt_zero f), fun f hf => absurd hf (Nat.not_lt_zero f), fun f hf => absurd hf (Nat.not_lt_zero f), fun f hf => absurd hf (Nat.not_lt_zero _), fun a b _ hb => absurd hb (Nat.not_lt_zero b), Or.inl ⟨rfl, rfl⟩, by omega, fun f hf => absurd hf (Nat.not_lt_zero f), fun f hf => absurd hf (Nat.not_lt_zero f), fun f hf => absurd hf (Nat.not_lt_zero f)⟩
theorem BI.g16 (h : BI S vw T g d dp) : -1 ≤ g ∧ g < T.nf := by
  rcases h.2.2.2.2.2.2.2.2.1 with q | ⟨p, q1, q2, -⟩
  · omega
  · omega
theorem BI.close (h : BI S vw T g d dp) {p : Nat} (hp : g = p) (hn : p + 1 ≠ T.nf) : BI S vw T (T.gr p) (d - 1) dp := by
  obtain ⟨h1, h2, h3, h4, h5, h6, h7, h8, h9, h10, h11, h12, h13⟩ := h
  refine ⟨h1, h2, h3, h4, fun f hf hl => ?_, h6, h7, h8, ?_, by omega, h11, h12, h13⟩
  · clear h9
    rcases h5 f hf hl with q | q
    · exact Or.inl q
    · omega
  · rcases h9 with q | ⟨p', q1, q2, q3, q4, q5⟩
    · omega
    · have hpp : p' = p := by omega
      subst hpp
      have e := h11 p' q1
      have gb := h1.2.2.2.1 p'
      have hnf := h1.1
      by_cases c : T.gr p' = -1
      · rw [if_pos c] at e
        exact Or.inl ⟨c, by omega⟩
      · rw [if_neg c] at e
        obtain ⟨r, hr⟩ : ∃ r : Nat, T.gr p' = r := ⟨(T.gr p').toNat, by omega⟩
        have l4 := h4 p' q1 c
        rw [hr, Int.toNat_natCast] at e l4
        refine Or.inr ⟨r, by omega, hr, l4, by omega, ?_⟩
        refine Sc.ins_tr h1 T.nf _ p' r (by omega) (by omega) (by omega) q5 ?_
        refine (Sc.ins_eq h1 (k := (p' : Int)) (by omega) (by omega) r).mpr (Or.inr ⟨by omega, ?_⟩)
        rw [Int.toNat_natCast, hr]
        exact Sc.ins_self h1 (by omega)
theorem BI.kids (h : BI S vw T g d dp) {p : Nat} (hp : g = p) : T.kids p = i32 0 ↔ p + 1 = T.nf := by
  obtain ⟨h1, h2, h3, h4, h5, h6, h7, h8, h9, h10, h11, h12, h13⟩ := h
  have hnf := h1.1
  rw [kids_cnt]
  have cl := cnt_le (fun k => decide (T.gr k = p)) T.nf 0
  obtain ⟨q1, q3⟩ : p < T.nf ∧ T.lf p = -1 := by
    rcases h9 with q | ⟨p', q1, q2, q3, q4, q5⟩
    · omega
    · have : p' = p := by omega
      subst this
      exact ⟨q1, q3⟩
  constructor
  · intro e
    rcases h5 p q1 q3 with q | q
    · have := cnt_pos (p := fun k => decide (T.gr k = p)) (i := p + 1) T.nf 0 (by omega) (by omega) (decide_eq_true q.2)
      exact absurd e (i32_ne (by omega) (by omega) (by omega) (by omega) (by omega))
    · exact q.1
  · intro e
    rw [cnt_zero _ _ (fun i _ hi => decide_eq_false (fun u => by
      have := h1.2.2.2.1 i
      omega))]
    rfl
/-- all is closed -/
theorem BI.wf (h : BI S vw T (-1) d dp) : T.wf := by
  obtain ⟨h1, h2, h3, h4, h5, h6, h7, h8, h9, h10, h11, h12, h13⟩ := h
  refine ⟨h1, h2, h3, h4, fun f hf hl => ?_, h6, h7, h8⟩
  rcases h5 f hf hl with q | q
  · exact q
  · omega
theorem BI.vt0 (h : BI S false T (-1) d dp) : VT T T dp := by
  obtain ⟨h1, h2, h3, h4, h5, h6, h7, h8, h9, h10, h11, h12, h13⟩ := h
  have tw : ∀ f, f < T.nf → T.tw f = f := fun f hf => by
    have := h13 f hf
    rw [if_neg (by decide)] at this
    exact this
  refine ⟨h1.1, fun f _ => h1.2.2.2.1 f, fun f _ => h1.2.2.1 f, fun f hf => by rw [tw f hf]; omega, fun f hf _ => by rw [tw f hf, Int.toNat_natCast], fun f hf _ => ?_, h11, fun f hf => (h12 f hf).1⟩
  rw [tw f hf, Int.toNat_natCast]
  have gb := h1.2.2.2.1 f
  by_cases c : T.gr f = -1
  · rw [if_pos c, c]
  · rw [if_neg c, tw _ (by omega)]
    omega
theorem BI.vt1 (h : BI S true T (-1) d dp) : VT S T dp := by
  obtain ⟨h1, h2, h3, h4, h5, h6, h7, h8, h9, h10, h11, h12, h13⟩ := h
  have tw : ∀ f, f < T.nf → (-1 ≤ T.tw f ∧ T.tw f < S.nf ∧ (T.tw f ≠ -1 → (S.kd (T.tw f).toNat = 2 ↔ T.kd f = 2) ∧ S.gr (T.tw f).toNat = if T.gr f = -1 then -1 else T.tw (T.gr f).toNat)) := fun f hf => by
    have := h13 f hf
    rw [if_pos rfl] at this
    exact this
  exact ⟨h1.1, fun f _ => h1.2.2.2.1 f, fun f _ => h1.2.2.1 f, fun f hf => ⟨(tw f hf).1, (tw f hf).2.1⟩, fun f hf q => ((tw f hf).2.2 q).1, fun f hf q => ((tw f hf).2.2 q).2, h11, fun f hf => (h12 f hf).1⟩
end
/-- the field just read, with its name and its twin -/
def Sc.fld (T : Sc) (w g : Int) (L b : Nat) (tb : Nat → Int) (v : Int) : Sc := ((T.opn w g).nam T.nf L b tb).twi T.nf v
section
variable {S T : Sc} {vw : Bool} {g : Int} {d : Nat} {dp : Nat → Nat} {w v : Int} {L b : Nat} {tb : Nat → Int}
theorem fld_old {f : Nat} (h : f < T.nf) : (T.fld w g L b tb v).kd f = T.kd f ∧ (T.fld w g L b tb v).gr f = T.gr f ∧ (T.fld w g L b tb v).lf f = T.lf f ∧ (T.fld w g L b tb v).sd f = T.sd f ∧ (T.fld w g L b tb v).sr f = T.sr f ∧ (T.fld w g L b tb v).tw f = T.tw f := by
  have n : f ≠ T.nf := by omega
  exact ⟨upf_ne _ _ n, upf_ne _ _ n, upf_ne _ _ n, upf_ne _ _ n, upf_ne _ _ n, (upf_ne _ _ n).trans (upf_ne _ _ n)⟩
theorem fld_new : (T.fld w g L b tb v).kd T.nf = w ∧ (T.fld w g L b tb v).gr T.nf = g ∧ (T.fld w g L b tb v).lf T.nf = -1 ∧ (T.fld w g L b tb v).sd T.nf = T.dg g + (if w = 0 then 0 else 1) ∧ (T.fld w g L b tb v).sr T.nf = T.lv g + (if w = 2 then 1 else 0) ∧ (T.fld w g L b tb v).tw T.nf = v := ⟨upf_eq _ _ _, upf_eq _ _ _, upf_eq _ _ _, upf_eq _ _ _, upf_eq _ _ _, upf_eq _ _ _⟩
theorem fld_ins (hg : ∀ f : Nat, -1 ≤ T.gr f ∧ T.gr f < f) {k : Int} (h0 : -1 ≤ k) (hk : k < T.nf) (f : Nat) : (T.fld w g L b tb v).ins k f = T.ins k f := ins_cg hg h0 (fun j hj => by show upf T.gr T.nf g j = T.gr j; exact upf_ne _ _ (by omega)) f
/-- a whole field: a group now, or (c) a leaf -/
def Sc.fin (T : Sc) (w g : Int) (L b : Nat) (tb : Nat → Int) (v : Int) (c : Bool) : Sc := if c = true then (T.fld w g L b tb v).lea T.nf else T.fld w g L b tb v
theorem fin_d {c : Bool} : (T.fin w g L b tb v c).nf = T.nf + 1 ∧ (T.fin w g L b tb v c).kd = (T.fld w g L b tb v).kd ∧ (T.fin w g L b tb v c).gr = (T.fld w g L b tb v).gr ∧ (T.fin w g L b tb v c).sd = (T.fld w g L b tb v).sd ∧ (T.fin w g L b tb v c).sr = (T.fld w g L b tb v).sr ∧ (T.fin w g L b tb v c).ln = (T.fld w g L b tb v).ln ∧ (T.fin w g L b tb v c).nm = (T.fld w g L b tb v).nm ∧ (T.fin w g L b tb v c).tw = (T.fld w g L b tb v).tw := by
  cases c <;> exact ⟨rfl, rfl, rfl, rfl, rfl, rfl, rfl, rfl⟩
theorem fin_nl {c : Bool} : (T.fin w g L b tb v c).nl = if c = true then T.nl + 1 else T.nl := by cases c <;> rfl
theorem fin_lf {c : Bool} : (T.fin w g L b tb v c).lf = if c = true then upf (T.fld w g L b tb v).lf T.nf (T.nl : Int) else (T.fld w g L b tb v).lf := by cases c <;> rfl
theorem fin_fo {c : Bool} : (T.fin w g L b tb v c).fo = if c = true then upf T.fo T.nl T.nf else T.fo := by cases c <;> rfl
theorem BI.field {c : Bool} (h : BI S vw T g d dp) (h16 : T.nf < 16) (w0 : 0 ≤ w) (w2 : w ≤ 2) (hL : L ≤ 4) (hb : ∀ i, 0 ≤ tb i ∧ tb i ≤ 255) (hv : if vw = true then (-1 ≤ v ∧ v < S.nf ∧ v ≤ 15 ∧ (v ≠ -1 → (S.kd v.toNat = 2 ↔ w = 2) ∧ S.gr v.toNat = if g = -1 then -1 else T.tw g.toNat)) else v = T.nf) (hc : if c = true then T.nl < 8 else d < 3) : BI S vw (T.fin w g L b tb v c) (if c = true then g else T.nf) (if c = true then d else d + 1) (upf dp T.nf d) := by
  have gb := h.g16
  obtain ⟨h1, h2, h3, h4, h5, h6, h7, h8, h9, h10, h11, h12, h13⟩ := h
  obtain ⟨o1, o2, o3, o4, o5, o6, o7, o8, o9, o10, o11⟩ := id h1
  obtain ⟨d1, d2, d3, d4, d5, d6, d7, d8⟩ := fin_d (T := T) (w := w) (g := g) (L := L) (b := b) (tb := tb) (v := v) (c := c)
  have dnl := fin_nl (T := T) (w := w) (g := g) (L := L) (b := b) (tb := tb) (v := v) (c := c)
  have dlf := fin_lf (T := T) (w := w) (g := g) (L := L) (b := b) (tb := tb) (v := v) (c := c)
  have dfo := fin_fo (T := T) (w := w) (g := g) (L := L) (b := b) (tb := tb) (v := v) (c := c)
  obtain ⟨n1, n2, n3, n4, n5, n6⟩ := fld_new (T := T) (w := w) (g := g) (L := L) (b := b) (tb := tb) (v := v)
  have hv15 : -1 ≤ v ∧ v ≤ 15 := by
    cases vw
    · rw [if_neg (by decide)] at hv
      omega
    · rw [if_pos rfl] at hv
      omega
  -- the group's levels
  have gl : 0 ≤ T.dg g ∧ T.dg g ≤ d ∧ 0 ≤ T.lv g ∧ T.lv g ≤ d ∧ (d = if g = -1 then 0 else dp g.toNat + 1) ∧ (g ≠ -1 → T.lf g.toNat = -1 ∧ T.ins ((T.nf - 1 : Nat) : Int) g.toNat = true) := by
    rcases h9 with q | ⟨p, q1, q2, q3, q4, q5⟩
    · unfold Sc.dg Sc.lv
      rw [if_pos q.1, if_pos q.1, if_pos q.1]
      exact ⟨by omega, by omega, by omega, by omega, q.2, fun u => absurd q.1 u⟩
    · have e : g.toNat = p := by omega
      have s := h12 p q1
      have t1 := o6 p
      have t2 := o7 p
      unfold Sc.dg Sc.lv
      rw [if_neg (by omega), if_neg (by omega), if_neg (by omega), e]
      exact ⟨by omega, by omega, by omega, by omega, by omega, fun _ => ⟨q3, q5⟩⟩
  obtain ⟨gl1, gl2, gl3, gl4, gl5, gl6⟩ := gl
  have wd : 0 ≤ (if w = 0 then (0 : Int) else 1) ∧ (if w = 0 then (0 : Int) else 1) ≤ 1 := by split <;> omega
  have wr : 0 ≤ (if w = 2 then (1 : Int) else 0) ∧ (if w = 2 then (1 : Int) else 0) ≤ 1 := by split <;> omega
  -- by cases: the new field, an old one, one not read yet
  have K : ∀ f, (T.fld w g L b tb v).kd f = if f = T.nf then w else T.kd f := fun f => rfl
  have G : ∀ f, (T.fld w g L b tb v).gr f = if f = T.nf then g else T.gr f := fun f => rfl
  have Sd : ∀ f, (T.fld w g L b tb v).sd f = if f = T.nf then T.dg g + (if w = 0 then 0 else 1) else T.sd f := fun f => rfl
  have Sr : ∀ f, (T.fld w g L b tb v).sr f = if f = T.nf then T.lv g + (if w = 2 then 1 else 0) else T.sr f := fun f => rfl
  have Lf : ∀ f, (T.fld w g L b tb v).lf f = if f = T.nf then -1 else T.lf f := fun f => rfl
  have Lc : ∀ f, (T.fin w g L b tb v c).lf f = if f = T.nf then (if c = true then (T.nl : Int) else -1) else T.lf f := fun f => by
    rw [dlf]
    cases c
    · rw [if_neg (by decide), Lf]
      rfl
    · rw [if_pos rfl]
      show upf (T.fld w g L b tb v).lf T.nf (T.nl : Int) f = _
      unfold upf
      by_cases e : f = T.nf
      · rw [if_pos e, if_pos e, if_pos rfl]
      · rw [if_neg e, if_neg e, Lf, if_neg e]
  have hgr : ∀ f : Nat, -1 ≤ (T.fin w g L b tb v c).gr f ∧ (T.fin w g L b tb v c).gr f < f := fun f => by
    rw [d3, G]
    split
    · next e => subst e; exact ⟨gb.1, gb.2⟩
    · exact o4 f
  have ins' : ∀ (k : Int) (f : Nat), -1 ≤ k → k < T.nf → (T.fin w g L b tb v c).ins k f = T.ins k f := fun k f k0 k1 => ins_cg o4 k0 (fun j hj => by rw [d3, G, if_neg (by omega)]) f
  have fob : ∀ l, l < T.nl → T.fo l < T.nf := fun l hl => (o11 l hl).1
  have hok : (T.fin w g L b tb v c).ok := by
    refine ⟨by rw [d1]; omega, ?_, fun f => ?_, hgr, fun f => ?_, fun f => ?_, fun f => ?_, fun f => ?_, fun f => ?_, fun f => ?_, fun l hl => ?_⟩
    · rw [dnl]
      cases c
      · exact o2
      · rw [if_pos rfl] at hc ⊢
        omega
    · rw [d2, K]
      split
      · omega
      · exact o3 f
    · rw [Lc]
      split
      · cases c
        · rw [if_neg (by decide)]; omega
        · rw [if_pos rfl] at hc ⊢; omega
      · exact o5 f
    · rw [d4, Sd]
      split
      · omega
      · exact o6 f
    · rw [d5, Sr]
      split
      · omega
      · exact o7 f
    · rw [d6]
      show 0 ≤ upf (upf T.ln T.nf 0) T.nf (L : Int) f ∧ upf (upf T.ln T.nf 0) T.nf (L : Int) f ≤ 4
      unfold upf
      split
      · omega
      · exact o8 f
    · rw [d7]
      show 0 ≤ (if 4 * T.nf ≤ f ∧ f < 4 * T.nf + L then tb (b + (f - 4 * T.nf)) else T.nm f) ∧ (if 4 * T.nf ≤ f ∧ f < 4 * T.nf + L then tb (b + (f - 4 * T.nf)) else T.nm f) ≤ 255
      split
      · exact hb _
      · exact o9 f
    · rw [d8]
      show -1 ≤ upf (upf T.tw T.nf (-1)) T.nf v f ∧ upf (upf T.tw T.nf (-1)) T.nf v f ≤ 15
      unfold upf
      split
      · exact hv15
      · exact o10 f
    · rw [dnl] at hl
      rw [d1, Lc, dfo]
      cases c
      · rw [if_neg (by decide)] at hl
        rw [if_neg (by decide)]
        have := o11 l hl
        rw [if_neg (by omega)]
        exact ⟨by omega, this.2⟩
      · rw [if_pos rfl] at hl
        rw [if_pos rfl]
        show upf T.fo T.nl T.nf l < T.nf + 1 ∧ (if upf T.fo T.nl T.nf l = T.nf then (if true = true then (T.nl : Int) else -1) else T.lf (upf T.fo T.nl T.nf l)) = l
        by_cases e : l = T.nl
        · subst e
          rw [upf_eq, if_pos rfl, if_pos rfl]
          exact ⟨by omega, rfl⟩
        · rw [upf_ne _ _ e]
          have := o11 l (by omega)
          rw [if_neg (by omega)]
          exact ⟨by omega, this.2⟩
  have dgE : ∀ f, f < T.nf → (T.fin w g L b tb v c).dg (T.gr f) = T.dg (T.gr f) ∧ (T.fin w g L b tb v c).lv (T.gr f) = T.lv (T.gr f) := fun f hf => by
    have := o4 f
    unfold Sc.dg Sc.lv
    by_cases e : T.gr f = -1
    · rw [if_pos e, if_pos e, if_pos e, if_pos e]; exact ⟨rfl, rfl⟩
    · rw [if_neg e, if_neg e, if_neg e, if_neg e, d4, Sd, d5, Sr, if_neg (by omega), if_neg (by omega)]; exact ⟨rfl, rfl⟩
  have dgG : (T.fin w g L b tb v c).dg g = T.dg g ∧ (T.fin w g L b tb v c).lv g = T.lv g := by
    unfold Sc.dg Sc.lv
    by_cases e : g = -1
    · rw [if_pos e, if_pos e, if_pos e, if_pos e]; exact ⟨rfl, rfl⟩
    · rw [if_neg e, if_neg e, if_neg e, if_neg e, d4, Sd, d5, Sr, if_neg (by omega), if_neg (by omega)]; exact ⟨rfl, rfl⟩
  refine ⟨hok, fun f hf => ?_, fun f hf => ?_, fun f hf => ?_, fun f hf => ?_, fun f hf => ?_, fun f hf => ?_, fun a b' hab hbl => ?_, ?_, ?_, fun f hf => ?_, fun f hf => ?_, fun f hf => ?_⟩
  · rw [d1] at hf
    rw [d2, d3, d4]
    by_cases e : f = T.nf
    · subst e
      rw [n1, n2, n4, dgG.1]
    · rw [Sd, G, K, if_neg e, if_neg e, if_neg e, (dgE f (by omega)).1]
      exact h2 f (by omega)
  · rw [d1] at hf
    rw [d2, d3, d5]
    by_cases e : f = T.nf
    · subst e
      rw [n1, n2, n5, dgG.2]
    · rw [Sr, G, K, if_neg e, if_neg e, if_neg e, (dgE f (by omega)).2]
      exact h3 f (by omega)
  · rw [d1] at hf
    rw [d3, G]
    by_cases e : f = T.nf
    · rw [if_pos e]
      intro u
      rw [Lc, if_neg (by omega)]
      exact (gl6 u).1
    · rw [if_neg e]
      intro u
      have := o4 f
      rw [Lc, if_neg (by omega)]
      exact h4 f (by omega) u
  · rw [d1] at hf
    rw [d1, Lc, d3]
    by_cases e : f = T.nf
    · rw [if_pos e]
      cases c
      · rw [if_neg (by decide), if_neg (by decide)]
        intro _
        exact Or.inr ⟨by omega, by omega⟩
      · rw [if_pos rfl]
        intro u
        omega
    · rw [if_neg e]
      intro u
      rcases h5 f (by omega) u with q | q
      · refine Or.inl ⟨by omega, ?_⟩
        rw [G, if_neg (by omega)]
        exact q.2
      · refine Or.inl ⟨by omega, ?_⟩
        rw [G, if_pos q.1]
        exact q.2
  · rw [d1] at hf
    rw [Lc, dnl, dfo]
    by_cases e : f = T.nf
    · rw [if_pos e]
      cases c
      · rw [if_neg (by decide)]
        intro u
        exact absurd rfl u
      · rw [if_pos rfl, if_pos rfl, if_pos rfl]
        intro _
        refine ⟨by omega, ?_⟩
        rw [Int.toNat_natCast, upf_eq, e]
    · rw [if_neg e]
      intro u
      have q := h6 f (by omega) u
      have lb := o5 f
      cases c
      · rw [if_neg (by decide), if_neg (by decide)]
        exact q
      · rw [if_pos rfl, if_pos rfl]
        refine ⟨by omega, ?_⟩
        rw [upf_ne _ _ (by omega)]
        exact q.2
  · rw [d1] at hf
    rw [d3, G]
    by_cases e : f + 1 = T.nf
    · rw [if_pos e]
      by_cases u : g = -1
      · exact Or.inl u
      · refine Or.inr ?_
        rw [ins' f _ (by omega) (by omega)]
        have := (gl6 u).2
        rw [show T.nf - 1 = f by omega] at this
        exact this
    · rw [if_neg e]
      rcases h7 f (by omega) with q | q
      · exact Or.inl q
      · exact Or.inr (by rw [ins' f _ (by omega) (by omega)]; exact q)
  · rw [dnl] at hbl
    rw [dfo]
    cases c
    · rw [if_neg (by decide)] at hbl
      rw [if_neg (by decide)]
      exact h8 a b' hab hbl
    · rw [if_pos rfl] at hbl
      rw [if_pos rfl]
      by_cases e : b' = T.nl
      · subst e
        rw [upf_eq, upf_ne _ _ (by omega)]
        exact fob a hab
      · rw [upf_ne _ _ e, upf_ne _ _ (by omega)]
        exact h8 a b' hab (by omega)
  · rw [d1]
    cases c
    · rw [if_neg (by decide), if_neg (by decide)]
      refine Or.inr ⟨T.nf, by omega, rfl, ?_, by rw [upf_eq], ?_⟩
      · rw [Lc, if_pos rfl]
        rfl
      · rw [show T.nf + 1 - 1 = T.nf by omega]
        exact Sc.ins_self hok (by omega)
    · rw [if_pos rfl, if_pos rfl]
      rcases h9 with q | ⟨p, q1, q2, q3, q4, q5⟩
      · exact Or.inl q
      · refine Or.inr ⟨p, by omega, q2, ?_, by rw [upf_ne _ _ (by omega)]; exact q4, ?_⟩
        · rw [Lc, if_neg (by omega)]
          exact q3
        · rw [show T.nf + 1 - 1 = T.nf by omega]
          refine (Sc.ins_eq hok (k := (T.nf : Int)) (by omega) (by omega) p).mpr (Or.inr ⟨by omega, ?_⟩)
          have e := Sc.ins_self hok (k := p) (by omega)
          rw [← q2] at e
          rw [Int.toNat_natCast, d3, n2]
          exact e
  · cases c
    · rw [if_neg (by decide)] at hc ⊢
      omega
    · rw [if_pos rfl]
      exact h10
  · rw [d1] at hf
    rw [d3, G]
    by_cases e : f = T.nf
    · subst e
      rw [upf_eq, if_pos rfl, gl5]
      by_cases u : g = -1
      · rw [if_pos u, if_pos u]
      · rw [if_neg u, if_neg u, upf_ne _ _ (by omega)]
    · have := o4 f
      rw [upf_ne _ _ e, if_neg e, h11 f (by omega)]
      by_cases u : T.gr f = -1
      · rw [if_pos u, if_pos u]
      · rw [if_neg u, if_neg u, upf_ne _ _ (by omega)]
  · rw [d1] at hf
    rw [d4, d5]
    by_cases e : f = T.nf
    · subst e
      rw [upf_eq, n4, n5]
      exact ⟨h10, by omega, by omega⟩
    · rw [upf_ne _ _ e, Sd, Sr, if_neg e, if_neg e]
      exact h12 f (by omega)
  · rw [d1] at hf
    rw [d2, d3, d8]
    by_cases e : f = T.nf
    · subst e
      rw [n1, n2, n6]
      cases vw
      · rw [if_neg (by decide)] at hv ⊢
        exact hv
      · rw [if_pos rfl] at hv ⊢
        refine ⟨hv.1, hv.2.1, fun u => ⟨(hv.2.2.2 u).1, ?_⟩⟩
        rw [(hv.2.2.2 u).2]
        by_cases q : g = -1
        · rw [if_pos q, if_pos q]
        · rw [if_neg q, if_neg q, (fld_old (by omega)).2.2.2.2.2]
    · have := o4 f
      obtain ⟨m1, m2, m3, m4, m5, m6⟩ := fld_old (T := T) (w := w) (g := g) (L := L) (b := b) (tb := tb) (v := v) (f := f) (by omega)
      rw [m1, m2, m6]
      have q := h13 f (by omega)
      cases vw
      · rw [if_neg (by decide)] at q ⊢
        exact q
      · rw [if_pos rfl] at q ⊢
        refine ⟨q.1, q.2.1, fun u => ⟨(q.2.2 u).1, ?_⟩⟩
        rw [(q.2.2 u).2]
        by_cases r : T.gr f = -1
        · rw [if_pos r, if_pos r]
        · rw [if_neg r, if_neg r, (fld_old (by omega)).2.2.2.2.2]
end
