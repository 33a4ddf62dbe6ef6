/-! add: what a text of records tells -/
abbrev Rd : Type := (Int × Nat) ⊕ (Nat × List En)
def rbd (x : Rd) (f : Nat → Rd) : Rd := match x with
  | .inl y => .inl y
  | .inr p => match f p.1 with
    | .inl y => .inl y
    | .inr q => .inr (q.1, p.2 ++ q.2)
theorem rbd_l {y : Int × Nat} {f : Nat → Rd} : rbd (.inl y) f = .inl y := rfl
theorem rbd_rl {p : Nat × List En} {f : Nat → Rd} {y : Int × Nat} (h : f p.1 = .inl y) : rbd (.inr p) f = .inl y := by
  show (match f p.1 with | .inl y => Sum.inl y | .inr q => .inr (q.1, p.2 ++ q.2)) = _
  rw [h]
theorem rbd_rr {p : Nat × List En} {f : Nat → Rd} {q : Nat × List En} (h : f p.1 = .inr q) : rbd (.inr p) f = .inr (q.1, p.2 ++ q.2) := by
  show (match f p.1 with | .inl y => Sum.inl y | .inr q => .inr (q.1, p.2 ++ q.2)) = _
  rw [h]
def rdIt (S : Sc) (tb : Nat → Int) (n : Nat) (sub : Nat → Int → Int → Nat → Rd) (f : Nat) (r d : Int) (e : Nat) : Rd := if S.lf f = -1 then (if tkK tb n e = 40 then rbd (sub f r d (tkE tb n e)) (fun e2 => if tkK tb n e2 = 41 then .inr (tkE tb n e2, []) else .inl (1, tkB tb n e2)) else .inl (1, tkB tb n e)) else if nfS tb n e = 0 then .inr (tkE tb n e, [((S.lf f).toNat, r, d, nmS tb n e)]) else .inl (nfS tb n e, tkB tb n e)
def rdIs (S : Sc) (tb : Nat → Int) (n : Nat) (sub : Nat → Int → Int → Nat → Rd) (f : Nat) (r d : Int) : Nat → Nat → Nat → Rd
  | 0, _, e => .inl (1, tkB tb n e)
  | k + 1, i, e => if tkK tb n e = 93 then .inr (tkE tb n e, []) else rbd (rdIt S tb n sub f (if i = 0 then r else S.sr f) (d + 1) e) (fun e2 => rdIs S tb n sub f r d k (i + 1) e2)
def rdFd (S : Sc) (tb : Nat → Int) (n : Nat) (sub : Nat → Int → Int → Nat → Rd) (f : Nat) (r d : Int) (e : Nat) : Rd := if S.kd f = 2 then (if tkK tb n e = 91 then (if tkK tb n (tkE tb n e) = 93 then .inr (tkE tb n (tkE tb n e), lackE S f r d S.nl 0) else rdIs S tb n sub f r d (n + 1) 0 (tkE tb n e)) else .inl (1, tkB tb n e)) else if S.kd f = 1 ∧ tkK tb n e = 45 then .inr (tkE tb n e, lackE S f r d S.nl 0) else rdIt S tb n sub f r (d + (if S.kd f = 1 then 1 else 0)) e
def rdFs (S : Sc) (tb : Nat → Int) (n : Nat) (sub : Nat → Int → Int → Nat → Rd) (g r d : Int) : Nat → Nat → Nat → Rd
  | 0, _, e => .inr (e, [])
  | k + 1, j, e => if S.gr j = g then rbd (rdFd S tb n sub j r d e) (fun e2 => rdFs S tb n sub g r d k (j + 1) e2) else rdFs S tb n sub g r d k (j + 1) e
def rcF (S : Sc) (tb : Nat → Int) (n : Nat) : Nat → Int → Int → Int → Nat → Rd
  | 0, _, _, _, e => .inr (e, [])
  | k + 1, g, r, d, e => rdFs S tb n (fun f => rcF S tb n k (f : Int)) g r d S.nf 0 e
/-- the levels at which a leaf's entries repeat -/
def rpE (l : Nat) : List En → List Int
  | [] => []
  | x :: E => if x.1 = l then x.2.1 :: rpE l E else rpE l E
theorem rpE_app {l : Nat} {F : List En} : ∀ E : List En, rpE l (E ++ F) = rpE l E ++ rpE l F
  | [] => rfl
  | x :: E => by
    show (if x.1 = l then x.2.1 :: rpE l (E ++ F) else rpE l (E ++ F)) = (if x.1 = l then x.2.1 :: rpE l E else rpE l E) ++ rpE l F
    rw [rpE_app E]
    split <;> rfl
def One (S : Sc) (sc : Nat → Prop) (r : Int) (E : List En) : Prop := ∀ l, l < S.nl → (sc l → ∃ t, rpE l E = r :: t ∧ ∀ x, x ∈ t → 1 ≤ x) ∧ (¬ sc l → rpE l E = [])
def Mor (S : Sc) (sc : Nat → Prop) (E : List En) : Prop := ∀ l, l < S.nl → (∀ x, x ∈ rpE l E → 1 ≤ x) ∧ (¬ sc l → rpE l E = [])
def inF (S : Sc) (f l : Nat) : Prop := S.ins (S.fo l) f = true
def scJ (S : Sc) (g : Int) (j l : Nat) : Prop := ∃ i, j ≤ i ∧ i < S.nf ∧ S.gr i = g ∧ inF S i l
def RdP (S : Sc) (n e c : Nat) (Q : List En → Prop) (x : Rd) : Prop := match x with
  | .inl y => 1 ≤ y.1 ∧ y.1 ≤ 2 ∧ y.2 ≤ n
  | .inr p => e + c ≤ p.1 ∧ p.1 ≤ n ∧ OkL S (8 * (p.1 - e)) p.2 ∧ Q p.2
section
variable {S : Sc} {tb : Nat → Int} {n : Nat}
theorem rbd_ok {e c c' : Nat} {Q1 Q2 Q3 : List En → Prop} {x : Rd} {f : Nat → Rd} (h : RdP S n e c Q1 x) (hf : ∀ e2, e + c ≤ e2 → e2 ≤ n → RdP S n e2 c' Q2 (f e2)) (hQ : ∀ E F, Q1 E → Q2 F → Q3 (E ++ F)) : RdP S n e (c + c') Q3 (rbd x f) := by
  match x, h with
  | .inl y, h => exact h
  | .inr p, h =>
    obtain ⟨h1, h2, h3, h4⟩ := h
    have w := hf p.1 h1 h2
    generalize hy : f p.1 = y at w
    match y, w with
    | .inl y, w =>
      rw [rbd_rl hy]
      exact w
    | .inr q, w =>
      rw [rbd_rr hy]
      obtain ⟨w1, w2, w3, w4⟩ := w
      exact ⟨by show e + (c + c') ≤ q.1; omega, w2, (h3.app w3).mono (by show 8 * (p.1 - e) + 8 * (q.1 - p.1) ≤ 8 * (q.1 - e); omega), hQ _ _ h4 w4⟩
theorem RdP.mono {e c c' : Nat} {Q Q' : List En → Prop} {x : Rd} (h : RdP S n e c Q x) (hc : c' ≤ c) (hQ : ∀ E, Q E → Q' E) : RdP S n e c' Q' x := by
  match x, h with
  | .inl y, h => exact h
  | .inr p, h => exact ⟨by have := h.1; omega, h.2.1, h.2.2.1, hQ _ h.2.2.2⟩
theorem lackE_rp {f : Nat} {r d : Int} {l : Nat} : ∀ (k j : Nat), rpE l (lackE S f r d k j) = if j ≤ l ∧ l < j + k ∧ S.ins (S.fo l) f = true then [r] else []
  | 0, j => by
    rw [if_neg (by omega)]
    rfl
  | k + 1, j => by
    have ih := lackE_rp (f := f) (r := r) (d := d) (l := l) k (j + 1)
    unfold lackE
    by_cases c : S.ins (S.fo j) f = true
    · rw [if_pos c]
      show (if j = l then r :: rpE l (lackE S f r d k (j + 1)) else rpE l (lackE S f r d k (j + 1))) = _
      by_cases q : j = l
      · subst q
        rw [if_pos rfl, ih, if_neg (by omega), if_pos ⟨by omega, by omega, c⟩]
      · rw [if_neg q, ih]
        by_cases w : S.ins (S.fo l) f = true
        · by_cases u : j + 1 ≤ l ∧ l < j + 1 + k
          · rw [if_pos ⟨u.1, u.2, w⟩, if_pos ⟨by omega, by omega, w⟩]
          · rw [if_neg (fun v => u ⟨v.1, v.2.1⟩), if_neg (fun v => u ⟨by omega, by omega⟩)]
        · rw [if_neg (fun v => w v.2.2), if_neg (fun v => w v.2.2)]
    · rw [if_neg c, ih]
      by_cases w : S.ins (S.fo l) f = true
      · have q : j ≠ l := fun q => c (by rw [q]; exact w)
        by_cases u : j + 1 ≤ l ∧ l < j + 1 + k
        · rw [if_pos ⟨u.1, u.2, w⟩, if_pos ⟨by omega, by omega, w⟩]
        · rw [if_neg (fun v => u ⟨v.1, v.2.1⟩), if_neg (fun v => u ⟨by omega, by omega⟩)]
      · rw [if_neg (fun v => w v.2.2), if_neg (fun v => w v.2.2)]
theorem lackE_one (f : Nat) (r d : Int) : One S (inF S f) r (lackE S f r d S.nl 0) := fun l hl => by
  rw [lackE_rp]
  refine ⟨fun h => ⟨[], by rw [if_pos ⟨by omega, by omega, h⟩], fun x hx => by cases hx⟩, fun h => if_neg (fun v => h v.2.2)⟩
theorem lackE_ok (hn : S.nl ≤ 8) (f : Nat) {r d : Int} (r0 : 0 ≤ r) (r9 : r ≤ 9) (d0 : 0 ≤ d) (d9 : d ≤ 9) : OkL S 8 (lackE S f r d S.nl 0) := by
  refine ⟨fun x hx => ?_, by have := lackE_len (S := S) (f := f) (r := r) (d := d) S.nl 0; omega⟩
  obtain ⟨a, b⟩ := lackE_mem S.nl 0 x hx
  obtain ⟨x1, x2⟩ := x
  have b : x2 = _ := b
  subst b
  exact ⟨⟨by show x1 < S.nl; have : x1 < 0 + S.nl := a; omega, ⟨r0, r9⟩, ⟨d0, d9⟩, by show (0 : Int) ≤ 0 ∧ (0 : Int) ≤ 999; omega⟩, Or.inl rfl⟩
theorem leaf_in (hW : S.wf) {f l : Nat} (hf : f < S.nf) (hl : l < S.nl) (q : S.lf f ≠ -1) : inF S f l ↔ l = (S.lf f).toNat := by
  have hS := hW.1
  have hnf := hS.1
  have o := hS.2.2.2.2.2.2.2.2.2.2 l hl
  have w := hW.2.2.2.2.2.1 f hf q
  unfold inF
  constructor
  · intro h
    rcases (Sc.ins_eq hS (k := (S.fo l : Int)) (by omega) (by omega) f).mp h with h | h
    · have e : S.fo l = f := by omega
      have := o.2
      rw [e] at this
      omega
    · have := Sc.ins_gr_leaf hW (S.fo l + 1) (S.fo l : Int) (by omega) (by omega) (by omega) f (by rw [if_neg (by omega)]; exact h.2)
      exact absurd this q
  · intro h
    have e : S.fo l = f := by rw [h]; exact w.2
    rw [e]
    exact Sc.ins_self hS (by omega)
theorem child_up (hS : S.ok) (g : Int) : ∀ (m k : Nat), k < m → k ≤ 16 → (g = -1 ∨ (S.ins k g.toNat = true ∧ 0 ≤ g ∧ (k : Int) ≠ g)) → ∃ j, j ≤ k ∧ S.gr j = g ∧ S.ins k j = true := by
  intro m
  induction m with
  | zero => intro k h; omega
  | succ m ih =>
    intro k hk h16 h
    have gb := hS.2.2.2.1 k
    by_cases c : S.gr k = g
    · exact ⟨k, Nat.le_refl _, c, Sc.ins_self hS h16⟩
    · have c2 : S.gr k ≠ -1 := by
        intro q
        rcases h with h | h
        · omega
        · rcases (Sc.ins_eq hS (k := (k : Int)) (by omega) (by omega) g.toNat).mp h.1 with u | u
          · omega
          · rw [Int.toNat_natCast, q, Sc.ins_m1 hS] at u
            exact absurd u.2 (by decide)
      obtain ⟨p, hp⟩ : ∃ p : Nat, S.gr k = p := ⟨(S.gr k).toNat, by omega⟩
      obtain ⟨j, j1, j2, j3⟩ := ih p (by omega) (by omega) (by
        rcases h with h | h
        · exact Or.inl h
        · refine Or.inr ⟨?_, h.2.1, by omega⟩
          rcases (Sc.ins_eq hS (k := (k : Int)) (by omega) (by omega) g.toNat).mp h.1 with u | u
          · omega
          · rw [Int.toNat_natCast, hp] at u
            exact u.2)
      refine ⟨j, by omega, j2, (Sc.ins_eq hS (k := (k : Int)) (by omega) (by omega) j).mpr (Or.inr ⟨by omega, ?_⟩)⟩
      rw [Int.toNat_natCast, hp]
      exact j3
theorem child_one (hS : S.ok) {k a b : Nat} (hk : k ≤ 16) (ha : S.ins k a = true) (hb : S.ins k b = true) (hg : S.gr a = S.gr b) : a = b := by
  have H : ∀ a b : Nat, S.ins k a = true → S.ins k b = true → S.gr a = S.gr b → a ≤ b → a = b := fun a b ha hb hg hab => by
    have h := Sc.ins_chain hS (k + 1) (k : Int) a b (by omega) (by omega) (by omega) ha hb hab
    have bk := Sc.ins_le hS (k := (k : Int)) (by omega) (by omega) hb
    have ga := hS.2.2.2.1 a
    have gb := hS.2.2.2.1 b
    rcases (Sc.ins_eq hS (k := (b : Int)) (by omega) (by omega) a).mp h with u | u
    · omega
    · rw [Int.toNat_natCast, ← hg] at u
      have := Sc.ins_le hS (by omega) (by omega) u.2
      omega
  by_cases c : a ≤ b
  · exact H a b ha hb hg c
  · exact (H b a hb ha hg.symm (by omega)).symm
theorem grp_in (hW : S.wf) {f l : Nat} (hl : l < S.nl) (q : S.lf f = -1) : inF S f l ↔ scJ S (f : Int) 0 l := by
  have hS := hW.1
  have hnf := hS.1
  have o := hS.2.2.2.2.2.2.2.2.2.2 l hl
  constructor
  · intro h
    obtain ⟨j, j1, j2, j3⟩ := child_up hS (f : Int) (S.fo l + 1) (S.fo l) (by omega) (by omega) (Or.inr ⟨by rw [Int.toNat_natCast]; exact h, by omega, fun u => by
      have : S.fo l = f := by omega
      rw [this] at o
      omega⟩)
    exact ⟨j, by omega, by omega, j2, j3⟩
  · intro ⟨j, j1, j2, j3, j4⟩
    refine Sc.ins_tr hS (S.fo l + 1) (S.fo l : Int) j f (by omega) (by omega) (by omega) j4 ?_
    refine (Sc.ins_eq hS (k := (j : Int)) (by omega) (by omega) f).mpr (Or.inr ⟨by omega, ?_⟩)
    rw [Int.toNat_natCast, j3]
    exact Sc.ins_self hS (by have := hS.2.2.2.1 j; omega)
theorem top_in (hW : S.wf) {l : Nat} (hl : l < S.nl) : scJ S (-1) 0 l := by
  have hS := hW.1
  have hnf := hS.1
  have o := hS.2.2.2.2.2.2.2.2.2.2 l hl
  obtain ⟨j, j1, j2, j3⟩ := child_up hS (-1) (S.fo l + 1) (S.fo l) (by omega) (by omega) (Or.inl rfl)
  exact ⟨j, by omega, by omega, j2, j3⟩
theorem tk_go (hb : ∀ i, 0 ≤ tb i ∧ tb i ≤ 255) {e : Nat} (he : e ≤ n) (h : tkK tb n e ≠ 0) : e < tkE tb n e ∧ tkE tb n e ≤ n ∧ tkB tb n e ≤ n := by
  have a := tk_b tb he
  have b := tkK_b tb hb n e
  have : ¬ n ≤ tkB tb n e := fun q => h (b.2.2.1.mpr q)
  omega
theorem nfS_b (tb : Nat → Int) (n e : Nat) : 0 ≤ nfS tb n e ∧ nfS tb n e ≤ 2 := by
  unfold nfS
  split
  · split <;> omega
  · omega
theorem rdIt_ok {sub : Nat → Int → Int → Nat → Rd} {f : Nat} (hW : S.wf) (hb : ∀ i, 0 ≤ tb i ∧ tb i ≤ 255) (hf : f < S.nf) (h : S.lf f = -1 → ∀ r e, 0 ≤ r → r ≤ 9 → e ≤ n → RdP S n e 0 (One S (scJ S (f : Int) 0) r) (sub f r (S.sd f) e)) {r : Int} (r0 : 0 ≤ r) (r9 : r ≤ 9) {e : Nat} (he : e ≤ n) : RdP S n e 1 (One S (inF S f) r) (rdIt S tb n sub f r (S.sd f) e) := by
  have lb := hW.1.2.2.2.2.1 f
  have sb := hW.1.2.2.2.2.2.1 f
  have tb0 := tk_b tb he
  unfold rdIt
  by_cases q : S.lf f = -1
  · rw [if_pos q]
    by_cases k : tkK tb n e = 40
    · rw [if_pos k]
      have go := tk_go hb he (by omega)
      have a := h q r (tkE tb n e) r0 r9 go.2.1
      have a1 : RdP S n e 1 (One S (scJ S (f : Int) 0) r) (sub f r (S.sd f) (tkE tb n e)) := by
        generalize sub f r (S.sd f) (tkE tb n e) = x at a
        match x, a with
        | .inl y, a => exact a
        | .inr p, a => exact ⟨by have := a.1; omega, a.2.1, a.2.2.1.mono (by have := a.1; omega), a.2.2.2⟩
      refine rbd_ok (c := 1) (c' := 0) (Q2 := fun F => F = []) a1 (fun e2 h1 h2 => ?_) (fun E F hE hF => ?_)
      · have tb2 := tk_b tb h2
        by_cases k2 : tkK tb n e2 = 41
        · rw [if_pos k2]
          exact ⟨by show e2 + 0 ≤ tkE tb n e2; omega, tb2.2.2.2.1, OkL.nil _, rfl⟩
        · rw [if_neg k2]
          exact ⟨by show (1 : Int) ≤ 1; omega, by show (1 : Int) ≤ 2; omega, tb2.2.1⟩
      · subst hF
        rw [List.append_nil]
        intro l hl
        have g := grp_in hW (f := f) hl q
        exact ⟨fun w => (hE l hl).1 (g.mp w), fun w => (hE l hl).2 (fun u => w (g.mpr u))⟩
    · rw [if_neg k]
      exact ⟨by show (1 : Int) ≤ 1; omega, by show (1 : Int) ≤ 2; omega, tb0.2.1⟩
  · rw [if_neg q]
    have w := hW.2.2.2.2.2.1 f hf q
    by_cases k : nfS tb n e = 0
    · rw [if_pos k]
      have nb := nmS_b tb k hb
      have go := tk_go hb he (by omega)
      have l1 : (S.lf f).toNat < S.nl := by omega
      have ef : S.fu (S.lf f).toNat = S.sd f := by
        unfold Sc.fu
        rw [if_pos l1, w.2]
      refine ⟨by show e + 1 ≤ tkE tb n e; omega, go.2.1, ⟨fun x hx => ?_, by show 1 ≤ 8 * (tkE tb n e - e); omega⟩, fun l hl => ?_⟩
      · have hx : x ∈ [((S.lf f).toNat, r, S.sd f, nmS tb n e)] := hx
        rw [List.mem_singleton] at hx
        subst hx
        exact ⟨⟨l1, ⟨r0, r9⟩, sb, by show 0 ≤ nmS tb n e ∧ nmS tb n e ≤ 999; omega⟩, Or.inr ef.symm⟩
      · have li := leaf_in hW hf hl q
        show (_ → ∃ t, (if (S.lf f).toNat = l then r :: rpE l [] else rpE l []) = r :: t ∧ _) ∧ (_ → (if (S.lf f).toNat = l then r :: rpE l [] else rpE l []) = [])
        refine ⟨fun u => ⟨[], by rw [if_pos (li.mp u).symm]; rfl, fun x hx => by cases hx⟩, fun u => by rw [if_neg (fun v => u (li.mpr v.symm))]; rfl⟩
    · rw [if_neg k]
      have := nfS_b tb n e
      exact ⟨by show 1 ≤ nfS tb n e; omega, by show nfS tb n e ≤ 2; omega, tb0.2.1⟩
theorem rdIs_ok {sub : Nat → Int → Int → Nat → Rd} {f : Nat} (hW : S.wf) (hb : ∀ i, 0 ≤ tb i ∧ tb i ≤ 255) (hf : f < S.nf) (h : S.lf f = -1 → ∀ r e, 0 ≤ r → r ≤ 9 → e ≤ n → RdP S n e 0 (One S (scJ S (f : Int) 0) r) (sub f r (S.sd f) e)) {r d : Int} (hd : S.sd f = d + 1) (hk : S.kd f = 2) : ∀ (k i e : Nat), 0 < i → e ≤ n → RdP S n e 0 (Mor S (inF S f)) (rdIs S tb n sub f r d k i e) := by
  have rb := hW.1.2.2.2.2.2.2.1 f
  have sr1 : 1 ≤ S.sr f := by
    have := hW.2.2.1 f hf
    rw [if_pos hk] at this
    have : 0 ≤ (if S.gr f = -1 then 0 else S.sr (S.gr f).toNat) := by
      split
      · omega
      · exact (hW.1.2.2.2.2.2.2.1 _).1
    omega
  intro k
  induction k with
  | zero =>
    intro i e hi he
    have tb0 := tk_b tb he
    exact ⟨by show (1 : Int) ≤ 1; omega, by show (1 : Int) ≤ 2; omega, tb0.2.1⟩
  | succ k ih =>
    intro i e hi he
    have tb0 := tk_b tb he
    unfold rdIs
    by_cases c : tkK tb n e = 93
    · rw [if_pos c]
      exact ⟨by show e + 0 ≤ tkE tb n e; omega, tb0.2.2.2.1, OkL.nil _, fun l hl => ⟨fun x hx => (by cases hx), fun _ => rfl⟩⟩
    · rw [if_neg c, if_neg (by omega), ← hd]
      have a := rdIt_ok hW hb hf h (r := S.sr f) (by omega) (by omega) he
      refine (rbd_ok a (fun e2 h1 h2 => ih (i + 1) e2 (by omega) h2) (fun E F hE hF => ?_)).mono (by omega) (fun E hE => hE)
      intro l hl
      rw [rpE_app]
      refine ⟨fun x hx => ?_, fun u => by rw [(hE l hl).2 u, (hF l hl).2 u]; rfl⟩
      rcases List.mem_append.mp hx with w | w
      · by_cases u : inF S f l
        · obtain ⟨t, e1, e2⟩ := (hE l hl).1 u
          rw [e1] at w
          rcases List.mem_cons.mp w with w | w
          · omega
          · exact e2 x w
        · rw [(hE l hl).2 u] at w
          cases w
      · exact (hF l hl).1 x w
theorem rdFd_ok {sub : Nat → Int → Int → Nat → Rd} {f : Nat} (hW : S.wf) (hb : ∀ i, 0 ≤ tb i ∧ tb i ≤ 255) (hf : f < S.nf) (h : S.lf f = -1 → ∀ r e, 0 ≤ r → r ≤ 9 → e ≤ n → RdP S n e 0 (One S (scJ S (f : Int) 0) r) (sub f r (S.sd f) e)) {r : Int} (r0 : 0 ≤ r) (r9 : r ≤ 9) {e : Nat} (he : e ≤ n) : RdP S n e 1 (One S (inF S f) r) (rdFd S tb n sub f r (S.dg (S.gr f)) e) := by
  have hsd : S.sd f = S.dg (S.gr f) + (if S.kd f = 0 then 0 else 1) := hW.2.1 f hf
  have hnl := hW.1.2.1
  have kb := hW.1.2.2.1 f
  have db : 0 ≤ S.dg (S.gr f) ∧ S.dg (S.gr f) ≤ 9 := by
    unfold Sc.dg
    split
    · omega
    · exact hW.1.2.2.2.2.2.1 _
  have tb0 := tk_b tb he
  unfold rdFd
  by_cases q : S.kd f = 2
  · rw [if_pos q]
    have hd : S.sd f = S.dg (S.gr f) + 1 := by rw [if_neg (by omega)] at hsd; exact hsd
    by_cases k : tkK tb n e = 91
    · rw [if_pos k]
      have go := tk_go hb he (by omega)
      have tb1 := tk_b tb go.2.1
      by_cases k2 : tkK tb n (tkE tb n e) = 93
      · rw [if_pos k2]
        have lo := lackE_ok hnl f r0 r9 db.1 db.2
        exact ⟨by show e + 1 ≤ tkE tb n (tkE tb n e); omega, tb1.2.2.2.1, lo.mono (by show 8 ≤ 8 * (tkE tb n (tkE tb n e) - e); omega), lackE_one f r _⟩
      · rw [if_neg k2]
        unfold rdIs
        rw [if_neg k2, if_pos rfl, ← hd]
        have a := rdIt_ok hW hb hf h r0 r9 go.2.1
        have a1 := rbd_ok (Q3 := One S (inF S f) r) a (fun e2 h1 h2 => rdIs_ok hW hb hf h (r := r) hd q n 1 e2 (by omega) h2) (fun E F hE hF => by
          intro l hl
          rw [rpE_app]
          refine ⟨fun u => ?_, fun u => by rw [(hE l hl).2 u, (hF l hl).2 u]; rfl⟩
          obtain ⟨t, e1, e2⟩ := (hE l hl).1 u
          refine ⟨t ++ rpE l F, by rw [e1]; rfl, fun x hx => ?_⟩
          rcases List.mem_append.mp hx with w | w
          · exact e2 x w
          · exact (hF l hl).1 x w)
        revert a1
        generalize rbd (rdIt S tb n sub f r (S.sd f) (tkE tb n e)) (fun e2 => rdIs S tb n sub f r (S.dg (S.gr f)) n (0 + 1) e2) = x
        intro a1
        match x, a1 with
        | .inl y, a1 => exact a1
        | .inr p, a1 => exact ⟨by have := a1.1; omega, a1.2.1, a1.2.2.1.mono (by have := a1.1; omega), a1.2.2.2⟩
    · rw [if_neg k]
      exact ⟨by show (1 : Int) ≤ 1; omega, by show (1 : Int) ≤ 2; omega, tb0.2.1⟩
  · rw [if_neg q]
    by_cases k : S.kd f = 1 ∧ tkK tb n e = 45
    · rw [if_pos k]
      have go := tk_go hb he (by omega)
      have lo := lackE_ok hnl f r0 r9 db.1 db.2
      exact ⟨by show e + 1 ≤ tkE tb n e; omega, go.2.1, lo.mono (by show 8 ≤ 8 * (tkE tb n e - e); omega), lackE_one f r _⟩
    · rw [if_neg k]
      have hd : S.dg (S.gr f) + (if S.kd f = 1 then 1 else 0) = S.sd f := by
        rw [hsd]
        by_cases c : S.kd f = 0
        · rw [if_pos c, if_neg (by omega)]
        · rw [if_neg c, if_pos (by omega)]
      rw [hd]
      exact rdIt_ok hW hb hf h r0 r9 he
theorem rdFs_ok {sub : Nat → Int → Int → Nat → Rd} {g : Int} (hW : S.wf) (hb : ∀ i, 0 ≤ tb i ∧ tb i ≤ 255) (h : ∀ f, f < S.nf → S.gr f = g → S.lf f = -1 → ∀ r e, 0 ≤ r → r ≤ 9 → e ≤ n → RdP S n e 0 (One S (scJ S (f : Int) 0) r) (sub f r (S.sd f) e)) {r : Int} (r0 : 0 ≤ r) (r9 : r ≤ 9) : ∀ (k j e : Nat), j + k = S.nf → e ≤ n → RdP S n e 0 (One S (scJ S g j) r) (rdFs S tb n sub g r (S.dg g) k j e) := by
  have hS := hW.1
  have hnf := hS.1
  intro k
  induction k with
  | zero =>
    intro j e hj he
    exact ⟨Nat.le_refl _, he, OkL.nil _, fun l hl => ⟨fun ⟨i, i1, i2, _⟩ => by omega, fun _ => rfl⟩⟩
  | succ k ih =>
    intro j e hj he
    unfold rdFs
    by_cases q : S.gr j = g
    · rw [if_pos q]
      have a := rdFd_ok hW hb (f := j) (by omega) (h j (by omega) q) r0 r9 he
      rw [q] at a
      refine (rbd_ok (Q3 := One S (scJ S g j) r) a (fun e2 h1 h2 => ih (j + 1) e2 (by omega) h2) (fun E F hE hF => ?_)).mono (by omega) (fun E hE => hE)
      intro l hl
      have o := hS.2.2.2.2.2.2.2.2.2.2 l hl
      rw [rpE_app]
      by_cases u : inF S j l
      · have nu : ¬ scJ S g (j + 1) l := fun ⟨i, i1, i2, i3, i4⟩ => by
          have := child_one hS (k := S.fo l) (by omega) u i4 (by rw [q, i3])
          omega
        rw [(hF l hl).2 nu, List.append_nil]
        exact ⟨fun _ => (hE l hl).1 u, fun w => absurd ⟨j, Nat.le_refl _, by omega, q, u⟩ w⟩
      · rw [(hE l hl).2 u, List.nil_append]
        refine ⟨fun ⟨i, i1, i2, i3, i4⟩ => (hF l hl).1 ⟨i, ?_, i2, i3, i4⟩, fun w => (hF l hl).2 (fun ⟨i, i1, i2, i3, i4⟩ => w ⟨i, by omega, i2, i3, i4⟩)⟩
        by_cases c : i = j
        · subst c; exact absurd i4 u
        · omega
    · rw [if_neg q]
      refine (ih (j + 1) e (by omega) he).mono (Nat.le_refl _) (fun E hE l hl => ⟨fun ⟨i, i1, i2, i3, i4⟩ => (hE l hl).1 ⟨i, ?_, i2, i3, i4⟩, fun w => (hE l hl).2 (fun ⟨i, i1, i2, i3, i4⟩ => w ⟨i, by omega, i2, i3, i4⟩)⟩)
      by_cases c : i = j
      · subst c; exact absurd i3 q
      · omega
theorem rcF_ok {dp : Nat → Nat} (hW : S.wf) (hV : VT S S dp) (hb : ∀ i, 0 ≤ tb i ∧ tb i ≤ 255) : ∀ (k d : Nat), k + d = 4 → ∀ (g r : Int) (e : Nat), InD S dp g d → 0 ≤ r → r ≤ 9 → e ≤ n → RdP S n e 0 (One S (scJ S g 0) r) (rcF S tb n k g r (S.dg g) e) := by
  intro k
  induction k with
  | zero =>
    intro d hd g r e hI
    have := hI.le hW hV
    omega
  | succ k ih =>
    intro d hd g r e hI r0 r9 he
    refine rdFs_ok (sub := fun f => rcF S tb n k (f : Int)) hW hb (fun f hf hg hlf r e r0 r9 he => ?_) r0 r9 S.nf 0 e (by omega) he
    have hdf := hI.sub hV hf hg
    have e1 : S.dg (f : Int) = S.sd f := by
      unfold Sc.dg
      rw [if_neg (by omega), Int.toNat_natCast]
    have := ih (d + 1) (by omega) (f : Int) r e (Or.inr ⟨f, hf, rfl, hlf, by omega⟩) r0 r9 he
    rw [e1] at this
    exact this
end
