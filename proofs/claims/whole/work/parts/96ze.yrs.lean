/-! years: what is drawn is good; sums of values -/
def GoodE (S : Sc) (x : En) : Prop := En.ok S.nl x ∧ (x.2.2.2 = 0 ∨ x.2.2.1 = S.fu x.1)
def OkL (S : Sc) (B : Nat) (E : List En) : Prop := (∀ x, x ∈ E → GoodE S x) ∧ E.length ≤ B
def Sc.dg (S : Sc) (g : Int) : Int := if g = -1 then 0 else S.sd g.toNat
def lbE : Nat → Nat
  | 0 => 0
  | k + 1 => 16 * (2 * (lbE k + 1) + 8)
section
variable {S : Sc}
theorem OkL.app {B B' : Nat} {E F : List En} (h : OkL S B E) (g : OkL S B' F) : OkL S (B + B') (E ++ F) := ⟨fun x hx => by
  rcases List.mem_append.mp hx with q | q
  · exact h.1 x q
  · exact g.1 x q, by
  have := h.2
  have := g.2
  rw [List.length_append]
  omega⟩
theorem OkL.mono {B B' : Nat} {E : List En} (h : OkL S B E) (q : B ≤ B') : OkL S B' E := ⟨h.1, Nat.le_trans h.2 q⟩
theorem OkL.nil (B : Nat) : OkL S B [] := ⟨fun x hx => (by cases hx), Nat.zero_le _⟩
theorem drIt_ok {sub : Nat → Int → Int → Int32 → List En × Int32} {B f : Nat} (hW : S.wf) (hf : f < S.nf) (h : ∀ r s, 0 ≤ r → r ≤ 9 → OkL S B (sub f r (S.sd f) s).1) {r : Int} (r0 : 0 ≤ r) (r9 : r ≤ 9) (s : Int32) : OkL S (B + 1) (drIt S sub f r (S.sd f) s).1 := by
  unfold drIt
  have lb := hW.1.2.2.2.2.1 f
  have sb := hW.1.2.2.2.2.2.1 f
  split
  · exact (h r s r0 r9).mono (by omega)
  · next q =>
    refine ⟨fun x hx => ?_, by show 1 ≤ _; omega⟩
    have hx : x ∈ [((S.lf f).toNat, r, S.sd f, ((dwK s 100 : Nat) : Int))] := hx
    rw [List.mem_singleton] at hx
    subst hx
    have w := hW.2.2.2.2.2.1 f hf q
    have l1 : (S.lf f).toNat < S.nl := by omega
    have dl := dwK_lt s (n := 100) (by omega)
    have e : S.fu (S.lf f).toNat = S.sd f := by
      unfold Sc.fu
      rw [if_pos l1, w.2]
    exact ⟨⟨l1, ⟨r0, r9⟩, sb, by show 0 ≤ ((dwK s 100 : Nat) : Int) ∧ ((dwK s 100 : Nat) : Int) ≤ 999; omega⟩, Or.inr e.symm⟩
theorem drIs_ok {sub : Nat → Int → Int → Int32 → List En × Int32} {B f : Nat} (hW : S.wf) (hf : f < S.nf) (h : ∀ r s, 0 ≤ r → r ≤ 9 → OkL S B (sub f r (S.sd f) s).1) {r : Int} (r0 : 0 ≤ r) (r9 : r ≤ 9) : ∀ (k i : Nat) (s : Int32), OkL S (k * (B + 1)) (drIs S sub f r (S.sd f) k i s).1 := by
  intro k
  induction k with
  | zero => intro i s; exact OkL.nil _
  | succ k ih =>
    intro i s
    have rb := hW.1.2.2.2.2.2.2.1 f
    have a := drIt_ok hW hf h (r := if i = 0 then r else S.sr f) (by split <;> omega) (by split <;> omega) s
    have b := ih (i + 1) (drIt S sub f (if i = 0 then r else S.sr f) (S.sd f) s).2
    have := a.app b
    rw [Nat.succ_mul, Nat.add_comm]
    exact this
theorem drFd_ok {sub : Nat → Int → Int → Int32 → List En × Int32} {B f : Nat} (hW : S.wf) (hf : f < S.nf) (h : ∀ r s, 0 ≤ r → r ≤ 9 → OkL S B (sub f r (S.sd f) s).1) {r : Int} (r0 : 0 ≤ r) (r9 : r ≤ 9) (s : Int32) : OkL S (2 * (B + 1) + 8) (drFd S sub f r (S.dg (S.gr f)) s).1 := by
  have hsd := hW.2.1 f hf
  have hnl := hW.1.2.1
  have kb := hW.1.2.2.1 f
  have gb := hW.1.2.2.2.1 f
  have hd : S.sd f = S.dg (S.gr f) + (if S.kd f = 0 then 0 else 1) := hsd
  have db : 0 ≤ S.dg (S.gr f) ∧ S.dg (S.gr f) ≤ 9 := by
    unfold Sc.dg
    split
    · omega
    · exact hW.1.2.2.2.2.2.1 _
  have hm := drM_lt S f s
  unfold drFd
  by_cases q : S.kd f = 0
  · rw [if_pos q]
    rw [if_pos q, Int.add_zero] at hd
    rw [← hd]
    exact (drIs_ok hW hf h r0 r9 1 0 s).mono (by omega)
  · rw [if_neg q]
    rw [if_neg q] at hd
    by_cases w : drM S f s = 0
    · rw [if_pos w]
      refine ⟨fun x hx => ?_, ?_⟩
      · obtain ⟨a, b⟩ := lackE_mem S.nl 0 x hx
        obtain ⟨x1, x2⟩ := x
        have b : x2 = _ := b
        subst b
        exact ⟨⟨by show x1 < S.nl; have : x1 < 0 + S.nl := a; omega, ⟨r0, r9⟩, db, by show (0 : Int) ≤ 0 ∧ (0 : Int) ≤ 999; omega⟩, Or.inl rfl⟩
      · have := lackE_len (S := S) (f := f) (r := r) (d := S.dg (S.gr f)) S.nl 0
        show (lackE S f r (S.dg (S.gr f)) S.nl 0).length ≤ _
        omega
    · rw [if_neg w, ← hd]
      refine (drIs_ok hW hf h r0 r9 (drM S f s) 0 (sdN s)).mono ?_
      have : drM S f s * (B + 1) ≤ 2 * (B + 1) := Nat.mul_le_mul_right _ hm
      omega
theorem drFs_ok {sub : Nat → Int → Int → Int32 → List En × Int32} {B : Nat} {g : Int} (hW : S.wf) (h : ∀ f, f < S.nf → S.gr f = g → ∀ r s, 0 ≤ r → r ≤ 9 → OkL S B (sub f r (S.sd f) s).1) {r : Int} (r0 : 0 ≤ r) (r9 : r ≤ 9) : ∀ (k j : Nat) (s : Int32), j + k = S.nf → OkL S (k * (2 * (B + 1) + 8)) (drFs S sub g r (S.dg g) k j s).1 := by
  intro k
  induction k with
  | zero => intro j s _; exact OkL.nil _
  | succ k ih =>
    intro j s hj
    unfold drFs
    by_cases q : S.gr j = g
    · rw [if_pos q]
      have a := drFd_ok hW (f := j) (by omega) (h j (by omega) q) r0 r9 s
      rw [q] at a
      have b := ih (j + 1) (drFd S sub j r (S.dg g) s).2 (by omega)
      have := a.app b
      rw [Nat.succ_mul, Nat.add_comm]
      exact this
    · rw [if_neg q]
      exact (ih (j + 1) s (by omega)).mono (Nat.mul_le_mul_right _ (by omega))
theorem drF_ok (hW : S.wf) : ∀ (k : Nat) (g r : Int) (s : Int32), 0 ≤ r → r ≤ 9 → OkL S (lbE k) (drF S k g r (S.dg g) s).1 := by
  intro k
  induction k with
  | zero => intro g r s _ _; exact OkL.nil _
  | succ k ih =>
    intro g r s r0 r9
    refine (drFs_ok (sub := fun f => drF S k (f : Int)) (B := lbE k) (g := g) hW (fun f hf hg r s r0 r9 => ?_) r0 r9 S.nf 0 s (by omega)).mono ?_
    · have := ih (f : Int) r s r0 r9
      have e : S.dg (f : Int) = S.sd f := by
        unfold Sc.dg
        rw [if_neg (by omega), Int.toNat_natCast]
      rw [e] at this
      exact this
    · exact Nat.mul_le_mul_right _ hW.1.1
end
/-- the values' sum -/
def vs1 (A : St) (fu : Nat → Int) (l : Nat) : Nat → Nat → Int
  | 0, _ => 0
  | k + 1, j => (if A.df l j = fu l then A.vl l j else 0) + vs1 A fu l k (j + 1)
def vsF (A : St) (fu : Nat → Int) : Nat → Nat → Int
  | 0, _ => 0
  | k + 1, l => vs1 A fu l (A.sz l) 0 + vsF A fu k (l + 1)
section
variable {A : St} {fu : Nat → Int}
theorem vs1_lp (l : Nat) : ∀ (k j : Nat) (z : Int), lp (fun j s => if A.df l j = fu l then s + i32 (A.vl l j) else s) k j (i32 z) = i32 (z + vs1 A fu l k j) := by
  intro k
  induction k with
  | zero =>
    intro j z
    show i32 z = i32 (z + 0)
    rw [Int.add_zero]
  | succ k ih =>
    intro j z
    show lp _ k (j + 1) (if A.df l j = fu l then i32 z + i32 (A.vl l j) else i32 z) = i32 (z + ((if A.df l j = fu l then A.vl l j else 0) + vs1 A fu l k (j + 1)))
    by_cases c : A.df l j = fu l
    · rw [if_pos c, if_pos c, i32_add, ih, Int.add_assoc]
    · rw [if_neg c, if_neg c, ih, Int.zero_add]
theorem vs1_snoc (l : Nat) : ∀ (k j : Nat), vs1 A fu l (k + 1) j = vs1 A fu l k j + (if A.df l (j + k) = fu l then A.vl l (j + k) else 0) := by
  intro k
  induction k with
  | zero =>
    intro j
    show (if A.df l j = fu l then A.vl l j else 0) + 0 = 0 + _
    rw [Int.add_zero, Int.zero_add]
    rfl
  | succ k ih =>
    intro j
    show (if A.df l j = fu l then A.vl l j else 0) + vs1 A fu l (k + 1) (j + 1) = (if A.df l j = fu l then A.vl l j else 0) + vs1 A fu l k (j + 1) + _
    rw [ih, Int.add_assoc, show j + 1 + k = j + (k + 1) by omega]
theorem vs1_cg {A' : St} (l : Nat) : ∀ (k j : Nat), (∀ i, j ≤ i → i < j + k → A'.df l i = A.df l i ∧ A'.vl l i = A.vl l i) → vs1 A' fu l k j = vs1 A fu l k j := by
  intro k
  induction k with
  | zero => intro j _; rfl
  | succ k ih =>
    intro j h
    have a := h j (by omega) (by omega)
    show (if A'.df l j = fu l then A'.vl l j else 0) + vs1 A' fu l k (j + 1) = (if A.df l j = fu l then A.vl l j else 0) + vs1 A fu l k (j + 1)
    rw [a.1, a.2, ih (j + 1) (fun i h1 h2 => h i (by omega) (by omega))]
theorem vs1_app (x : En) (l : Nat) : vs1 (A.app x) fu l ((A.app x).sz l) 0 = vs1 A fu l (A.sz l) 0 + (if x.1 = l ∧ x.2.2.1 = fu l then x.2.2.2 else 0) := by
  have o : vs1 (A.app x) fu l (A.sz l) 0 = vs1 A fu l (A.sz l) 0 := vs1_cg l _ _ (fun i _ h2 => ⟨(app_old A x (by omega)).2.1, (app_old A x (by omega)).2.2⟩)
  rw [app_sz]
  by_cases c : x.1 = l
  · rw [if_pos c, vs1_snoc, o, Nat.zero_add]
    have c2 : l = x.1 ∧ A.sz l = A.sz l := ⟨c.symm, rfl⟩
    have a1 : (A.app x).df l (A.sz l) = x.2.2.1 := if_pos c2
    have a2 : (A.app x).vl l (A.sz l) = x.2.2.2 := if_pos c2
    rw [a1, a2]
    congr 1
    by_cases d : x.2.2.1 = fu l
    · rw [if_pos d, if_pos ⟨c, d⟩]
    · rw [if_neg d, if_neg (fun q => d q.2)]
  · rw [if_neg c, Nat.add_zero, o, if_neg (fun q => c q.1), Int.add_zero]
theorem vsF_app (x : En) : ∀ (k l : Nat), vsF (A.app x) fu k l = vsF A fu k l + (if l ≤ x.1 ∧ x.1 < l + k ∧ x.2.2.1 = fu x.1 then x.2.2.2 else 0) := by
  intro k
  induction k with
  | zero =>
    intro l
    rw [if_neg (by omega), Int.add_zero]
    rfl
  | succ k ih =>
    intro l
    show vs1 (A.app x) fu l ((A.app x).sz l) 0 + vsF (A.app x) fu k (l + 1) = vs1 A fu l (A.sz l) 0 + vsF A fu k (l + 1) + _
    rw [ih, vs1_app]
    by_cases c : x.1 = l
    · subst c
      rw [if_neg (c := x.1 + 1 ≤ x.1 ∧ x.1 < x.1 + 1 + k ∧ x.2.2.1 = fu x.1) (by omega)]
      by_cases d : x.2.2.1 = fu x.1
      · rw [if_pos ⟨rfl, d⟩, if_pos ⟨Nat.le_refl _, by omega, d⟩]
        omega
      · rw [if_neg (fun q => d q.2), if_neg (fun q => d q.2.2)]
        omega
    · rw [if_neg (fun q => c q.1)]
      by_cases d : x.2.2.1 = fu x.1
      · by_cases w : l + 1 ≤ x.1 ∧ x.1 < l + 1 + k
        · rw [if_pos ⟨w.1, w.2, d⟩, if_pos ⟨by omega, by omega, d⟩]
          omega
        · rw [if_neg (fun q => w ⟨q.1, q.2.1⟩), if_neg (fun q => w ⟨by omega, by omega⟩)]
          omega
      · rw [if_neg (fun q => d q.2.2), if_neg (fun q => d q.2.2)]
        omega
theorem vsF_apL {S : Sc} : ∀ (E : List En) (A : St), (∀ x, x ∈ E → GoodE S x) → vsF (A.apL E) S.fu S.nl 0 = vsF A S.fu S.nl 0 + smE E
  | [], A, _ => by
    show vsF A S.fu S.nl 0 = vsF A S.fu S.nl 0 + 0
    rw [Int.add_zero]
  | x :: E, A, h => by
    have hx := h x (List.mem_cons_self ..)
    show vsF ((A.app x).apL E) S.fu S.nl 0 = vsF A S.fu S.nl 0 + (x.2.2.2 + smE E)
    rw [vsF_apL E (A.app x) (fun y hy => h y (List.mem_cons_of_mem _ hy)), vsF_app, Nat.zero_add, Int.add_assoc]
    congr 1
    congr 1
    obtain ⟨⟨h1, -⟩, h2⟩ := hx
    by_cases d : x.2.2.1 = S.fu x.1
    · rw [if_pos ⟨Nat.zero_le _, h1, d⟩]
    · rw [if_neg (fun q => d q.2.2)]
      rcases h2 with h2 | h2
      · exact h2.symm
      · exact absurd h2 d
theorem cnE_ge {S : Sc} {l : Nat} (hl : S.nl ≤ l) : ∀ (E : List En), (∀ x, x ∈ E → GoodE S x) → cnE l E = 0
  | [], _ => rfl
  | x :: E, h => by
    have hx : x.1 < S.nl := (h x (List.mem_cons_self ..)).1.1
    show (if x.1 = l then 1 else 0) + cnE l E = 0
    rw [if_neg (by omega), cnE_ge hl E (fun y hy => h y (List.mem_cons_of_mem _ hy))]
end
/-- one more record is drawn, and kept if there is room -/
def St.inc (A : St) : St := (A.rp, A.df, A.vl, A.sz, A.rc + 1)
theorem vs1_inc (A : St) (fu : Nat → Int) (l : Nat) : ∀ (k j : Nat), vs1 A.inc fu l k j = vs1 A fu l k j
  | 0, _ => rfl
  | k + 1, j => by
    show (if A.df l j = fu l then A.vl l j else 0) + vs1 A.inc fu l k (j + 1) = (if A.df l j = fu l then A.vl l j else 0) + vs1 A fu l k (j + 1)
    rw [vs1_inc A fu l k (j + 1)]
theorem vsF_inc (A : St) (fu : Nat → Int) : ∀ (k l : Nat), vsF A.inc fu k l = vsF A fu k l
  | 0, _ => rfl
  | k + 1, l => by
    show vs1 A.inc fu l (A.sz l) 0 + vsF A.inc fu k (l + 1) = vs1 A fu l (A.sz l) 0 + vsF A fu k (l + 1)
    rw [vs1_inc, vsF_inc A fu k (l + 1)]
abbrev fitS (nl : Nat) (A : St) : Prop := A.rc ≤ 30 ∧ ∀ l, l < nl → A.sz l ≤ 120
def yrE (S : Sc) (s : Int32) : List En × Int32 := drF S 4 (-1) 0 0 s
def yr1 (S : Sc) (p : St × Int32) : St × Int32 := if fitS S.nl (p.1.apL (yrE S p.2).1).inc then ((p.1.apL (yrE S p.2).1).inc, (yrE S p.2).2) else (p.1, (yrE S p.2).2)
def yrs (S : Sc) : Nat → St × Int32 → St × Int32
  | 0, p => p
  | k + 1, p => yrs S k (yr1 S p)
def a_years (S : Sc) (A : St) (seed : Int32) (n w : Int) : Nat ⊕ Int32 := if 0 ≤ w ∧ w ≤ 2 then (if 0 ≤ n ∧ n ≤ 10 then (if S.nf = 0 ∨ (chk S A).1 ≠ 0 then .inr (i32 0) else .inr (if w = 0 then i32 (yrs S n.toNat (A, seed)).1.rc else if w = 1 then i32 (vsF (yrs S n.toNat (A, seed)).1 S.fu S.nl 0) else (yrs S n.toNat (A, seed)).1.all S.nl)) else .inl 2) else .inl 1
theorem yrE_ok {S : Sc} (hW : S.wf) (s : Int32) : OkL S 10000000 (yrE S s).1 := (drF_ok hW 4 (-1) 0 s (by omega) (by omega)).mono (by decide)
theorem yr1_ok {S : Sc} (hW : S.wf) {p : St × Int32} (h : p.1.ok) (hz : ∀ l, S.nl ≤ l → p.1.sz l ≤ 120) : (yr1 S p).1.ok := by
  unfold yr1
  have hE := yrE_ok hW p.2
  split
  · next q =>
    refine St.lvo.ok ?_ (fun l => ?_) q.1
    · have := apL_lvo (nl := S.nl) (yrE S p.2).1 p.1 h.lvo (fun x hx => (hE.1 x hx).1)
      exact this
    · by_cases c : l < S.nl
      · exact q.2 l c
      · show (p.1.apL (yrE S p.2).1).sz l ≤ 120
        rw [apL_sz, cnE_ge (by omega) _ hE.1]
        exact hz l (by omega)
  · exact h
