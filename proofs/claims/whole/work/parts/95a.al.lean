/-! How the entries of leaves stand side by side -/
def rqF (rp : Nat → Int) (x : Int) : Nat → Nat → List Int
  | 0, _ => []
  | k + 1, j => if rp j ≤ x then rp j :: rqF rp x k (j + 1) else rqF rp x k (j + 1)
/-- the reps of level x or less from entry j on -/
def St.sx (A : St) (l : Nat) (x : Int) (j : Nat) : List Int := rqF (A.rp l) x (A.sz l - j) j
theorem St.sx_step (A : St) {l j : Nat} (h : j < A.sz l) (x : Int) : A.sx l x j = if A.rp l j ≤ x then A.rp l j :: A.sx l x (j + 1) else A.sx l x (j + 1) := by
  unfold St.sx
  rw [show A.sz l - j = (A.sz l - (j + 1)) + 1 by omega]
  rfl
theorem St.sx_end (A : St) {l j : Nat} (h : A.sz l ≤ j) (x : Int) : A.sx l x j = [] := by
  unfold St.sx
  rw [show A.sz l - j = 0 by omega]
  rfl
theorem rq_sq (rp df : Nat → Int) (L D : Int) : ∀ (k j : Nat), (sqF rp df L D k j).map (fun p => p.1) = rqF rp L k j := by
  intro k
  induction k with
  | zero => intro j; rfl
  | succ k ih =>
    intro j
    unfold sqF rqF
    split
    · simp only [List.map_cons, ih]
    · exact ih (j + 1)
theorem rq_filter (rp : Nat → Int) {x y : Int} (h : x ≤ y) : ∀ (k j : Nat), rqF rp x k j = (rqF rp y k j).filter (fun r => decide (r ≤ x)) := by
  intro k
  induction k with
  | zero => intro j; rfl
  | succ k ih =>
    intro j
    unfold rqF
    by_cases c : rp j ≤ x
    · rw [if_pos c, if_pos (by omega), List.filter_cons_of_pos (by simpa using c), ih]
    · rw [if_neg c]
      by_cases d : rp j ≤ y
      · rw [if_pos d, List.filter_cons_of_neg (by simpa using c), ih]
      · rw [if_neg d, ih]
theorem rq_beh (rp : Nat → Int) {x y : Int} (h : x ≤ y) : ∀ (k j : Nat), rqF rp y (k - (behF rp x k j - j)) (behF rp x k j) = (rqF rp y k j).dropWhile (fun r => decide (x < r)) := by
  intro k
  induction k with
  | zero => intro j; simp [behF, rqF]
  | succ k ih =>
    intro j
    by_cases c : rp j ≤ x
    · have e : behF rp x (k + 1) j = j := by unfold behF; rw [if_pos c]
      rw [e, Nat.sub_self, Nat.sub_zero]
      unfold rqF
      rw [if_pos (by omega), List.dropWhile_cons_of_neg (by simpa using c)]
    · have e : behF rp x (k + 1) j = behF rp x k (j + 1) := by
        conv => lhs; unfold behF
        rw [if_neg c]
      have hb := behF_le rp x k (j + 1)
      rw [e, show k + 1 - (behF rp x k (j + 1) - j) = k - (behF rp x k (j + 1) - (j + 1)) by omega, ih (j + 1)]
      conv => rhs; unfold rqF
      split
      · rw [List.dropWhile_cons_of_pos (by simp only [decide_eq_true_eq]; omega)]
      · rfl
/-- the next entry of level x or less behind j -/
def St.nx (A : St) (l : Nat) (x : Int) (j : Nat) : Nat := behF (A.rp l) x (A.sz l - (j + 1)) (j + 1)
theorem St.nx_le (A : St) {l j : Nat} (x : Int) (h : j < A.sz l) : j < A.nx l x j ∧ A.nx l x j ≤ A.sz l ∧ (A.nx l x j = A.sz l ∨ A.rp l (A.nx l x j) ≤ x) := by
  have h1 := behF_le (A.rp l) x (A.sz l - (j + 1)) (j + 1)
  have h2 := behF_at (A.rp l) x (A.sz l - (j + 1)) (j + 1)
  unfold St.nx
  refine ⟨by omega, by omega, ?_⟩
  rcases h2 with h2 | h2
  · left; omega
  · right; exact h2
theorem St.sx_nx (A : St) {l j : Nat} {x y : Int} (h : j < A.sz l) (hxy : x ≤ y) : A.sx l y (A.nx l x j) = (A.sx l y (j + 1)).dropWhile (fun r => decide (x < r)) := by
  have h0 := behF_le (A.rp l) x (A.sz l - (j + 1)) (j + 1)
  have h1 := rq_beh (A.rp l) hxy (A.sz l - (j + 1)) (j + 1)
  unfold St.sx St.nx
  rw [← h1]
  congr 1
  omega
theorem rq_all (rp : Nat → Int) (x : Int) : ∀ (k j : Nat), (rqF rp x k j).dropWhile (fun r => decide (x < r)) = rqF rp x k j := by
  intro k
  induction k with
  | zero => intro j; rfl
  | succ k ih =>
    intro j
    unfold rqF
    split
    · rw [List.dropWhile_cons_of_neg (by simp only [decide_eq_true_eq]; omega)]
    · exact ih (j + 1)
/-- the list at the n-th 0 of it -/
def dz : Int → List Int → List Int
  | _, [] => []
  | n, h :: t => if h = 0 then (if n = 0 then h :: t else dz (n - 1) t) else dz n t
theorem ff_dz (rp : Nat → Int) (r : Int) {y : Int} (hy : 0 ≤ y) : ∀ (k j : Nat) (a : Int), firstFrom rp r k j a ≠ -1 → rqF rp y (k - ((firstFrom rp r k j a).toNat - j)) (firstFrom rp r k j a).toNat = dz (r - a) (rqF rp y k j) := by
  intro k
  induction k with
  | zero => intro j a h; exact absurd rfl h
  | succ k ih =>
    intro j a h
    by_cases c : rp j = 0
    · by_cases d : a = r
      · have e : firstFrom rp r (k + 1) j a = j := by unfold firstFrom; rw [if_pos c, if_pos d]
        rw [e, Int.toNat_natCast, Nat.sub_self, Nat.sub_zero]
        unfold rqF
        rw [if_pos (by omega)]
        unfold dz
        rw [if_pos c, if_pos (by omega)]
      · have e : firstFrom rp r (k + 1) j a = firstFrom rp r k (j + 1) (a + 1) := by
          conv => lhs; unfold firstFrom
          rw [if_pos c, if_neg d]
        rw [e] at h ⊢
        have hb := firstFrom_b rp r k (j + 1) (a + 1)
        have hb2 : (j + 1 : Nat) ≤ (firstFrom rp r k (j + 1) (a + 1)).toNat := by omega
        rw [show k + 1 - ((firstFrom rp r k (j + 1) (a + 1)).toNat - j) = k - ((firstFrom rp r k (j + 1) (a + 1)).toNat - (j + 1)) by omega, ih (j + 1) (a + 1) h]
        conv => rhs; unfold rqF
        rw [if_pos (by omega)]
        conv => rhs; unfold dz
        rw [if_pos c, if_neg (by omega), show r - (a + 1) = r - a - 1 by omega]
    · have e : firstFrom rp r (k + 1) j a = firstFrom rp r k (j + 1) a := by
        conv => lhs; unfold firstFrom
        rw [if_neg c]
      rw [e] at h ⊢
      have hb := firstFrom_b rp r k (j + 1) a
      have hb2 : (j + 1 : Nat) ≤ (firstFrom rp r k (j + 1) a).toNat := by omega
      rw [show k + 1 - ((firstFrom rp r k (j + 1) a).toNat - j) = k - ((firstFrom rp r k (j + 1) a).toNat - (j + 1)) by omega, ih (j + 1) a h]
      conv => rhs; unfold rqF
      split
      · conv => rhs; unfold dz
        rw [if_neg c]
      · rfl
theorem ff_some (rp : Nat → Int) (r : Int) : ∀ (k j : Nat) (a : Int), a ≤ r → r - a < cnt (fun i => decide (rp i = 0)) k j → firstFrom rp r k j a ≠ -1 ∧ rp (firstFrom rp r k j a).toNat = 0 := by
  intro k
  induction k with
  | zero => intro j a h1 h2; simp only [cnt] at h2; omega
  | succ k ih =>
    intro j a h1 h2
    unfold cnt at h2
    unfold firstFrom
    by_cases c : rp j = 0
    · rw [if_pos c]
      by_cases d : a = r
      · rw [if_pos d]; exact ⟨by omega, by simpa using c⟩
      · rw [if_neg d]
        simp only [c, decide_true, if_true] at h2
        exact ih (j + 1) (a + 1) (by omega) (by omega)
    · rw [if_neg c]
      simp only [c, decide_false, Bool.false_eq_true, if_false] at h2
      exact ih (j + 1) a h1 (by omega)
section
variable {S : Sc} {A : St}
theorem Sc.ins_chain (hS : S.ok) : ∀ (n : Nat) (k : Int) (f g : Nat), k < n → -1 ≤ k → k ≤ 16 → S.ins k f = true → S.ins k g = true → f ≤ g → S.ins g f = true := by
  intro n
  induction n with
  | zero =>
    intro k f g h1 h2 h3 h4 h5 h6
    have : k = -1 := by omega
    subst this
    rw [Sc.ins_m1 hS] at h4
    cases h4
  | succ n ih =>
    intro k f g h1 h2 h3 h4 h5 h6
    rcases (Sc.ins_eq hS h2 h3 g).mp h5 with e | ⟨e, e2⟩
    · rw [← e]; exact h4
    · have b := Sc.gr_lt hS k.toNat
      have hg := Sc.ins_le hS b.1 (by omega) e2
      rcases (Sc.ins_eq hS h2 h3 f).mp h4 with e3 | ⟨e3, e4⟩
      · omega
      · exact ih (S.gr k.toNat) f g (by omega) b.1 (by omega) e4 e2 h6
/-- what stands between a field and one in it stands in it -/
theorem Sc.ins_down (hW : S.wf) : ∀ (n k j f : Nat), k - j ≤ n → k < S.nf → f ≤ j → j ≤ k → S.ins k f = true → S.ins j f = true := by
  have hS := hW.1
  have hn := hS.1
  intro n
  induction n with
  | zero =>
    intro k j f h1 h2 h3 h4 h5
    have : j = k := by omega
    subst this
    exact h5
  | succ n ih =>
    intro k j f h1 h2 h3 h4 h5
    by_cases c : j = k
    · subst c; exact h5
    · have hk : 1 ≤ k := by omega
      rcases (Sc.ins_eq hS (k := k) (by omega) (by omega) f).mp h5 with e | ⟨e, e2⟩
      · omega
      · simp only [Int.toNat_natCast] at e2
        have b := Sc.gr_lt hS k
        have w := hW.2.2.2.2.2.2.1 (k - 1) (by omega)
        rw [show k - 1 + 1 = k by omega] at w
        have hg : S.gr k ≠ -1 := by
          intro q
          rw [q, Sc.ins_m1 hS] at e2
          cases e2
        rcases w with w | w
        · exact absurd w hg
        · obtain ⟨g, hg2⟩ : ∃ g : Nat, S.gr k = g := ⟨(S.gr k).toNat, by omega⟩
          rw [hg2] at e2
          rw [hg2, Int.toNat_natCast] at w
          have h6 := Sc.ins_tr hS 17 ((k - 1 : Nat) : Int) g f (by omega) (by omega) (by omega) w e2
          exact ih (k - 1) j f (by omega) (by omega) h3 (by omega) h6
theorem Sc.fo_mono (hW : S.wf) {a b : Nat} (h : a ≤ b) (hb : b < S.nl) : S.fo a ≤ S.fo b := by
  by_cases c : a = b
  · subst c; exact Nat.le_refl _
  · have := hW.2.2.2.2.2.2.2 a b (by omega) hb
    omega
theorem Sc.conv (hW : S.wf) {l m k f : Nat} (h1 : l ≤ m) (h2 : m ≤ k) (hk : k < S.nl) (hl : S.ins (S.fo l) f = true) (hk2 : S.ins (S.fo k) f = true) : S.ins (S.fo m) f = true := by
  have hS := hW.1
  have a1 := Sc.fo_mono hW h1 (by omega)
  have a2 := Sc.fo_mono hW h2 hk
  have b := Sc.fo_lt hS hk
  have c := Sc.ins_le hS (k := S.fo l) (by omega) (by omega) hl
  exact Sc.ins_down hW (S.fo k) (S.fo k) (S.fo m) f (by omega) (by omega) (by omega) a2 hk2
/-- the level of two leaves of a field is no less than the field's -/
theorem Sc.lev_ge (hW : S.wf) {l m f : Nat} (hl : l < S.nl) (hm : m < S.nl) (hne : l ≠ m) (h1 : S.ins (S.fo l) f = true) (h2 : S.ins (S.fo m) f = true) : S.sr f ≤ S.lev l m := by
  have hS := hW.1
  have bl := Sc.fo_lt hS hl
  have bm := Sc.fo_lt hS hm
  have hlf := (hS.2.2.2.2.2.2.2.2.2.2 l hl).2
  have hmf := (hS.2.2.2.2.2.2.2.2.2.2 m hm).2
  have b := Sc.gr_lt hS (S.fo l)
  have hg : S.ins (S.gr (S.fo l)) f = true := by
    rcases (Sc.ins_eq hS (k := S.fo l) (by omega) (by omega) f).mp h1 with e | ⟨e, e2⟩
    · exfalso
      have e3 : S.fo l = f := by omega
      rcases (Sc.ins_eq hS (k := S.fo m) (by omega) (by omega) f).mp h2 with q | ⟨q, q2⟩
      · have : S.fo l = S.fo m := by omega
        rw [this] at hlf
        omega
      · have := Sc.ins_gr_leaf hW 17 (S.fo m) (by omega) (by omega) (by omega) f (by rw [if_neg (by omega)]; exact q2)
        rw [← e3] at this
        omega
    · simpa using e2
  have h3 := Sc.up_max hS (fun g => S.ins (S.fo m) g) b.1 (by omega) hg h2
  have h3 : (f : Int) ≤ S.both l m := h3
  have hb : S.both l m ≠ -1 := by omega
  have h4 := Sc.both_b hS l m
  have h5 : S.ins (S.gr (S.fo l)) (S.both l m).toNat = true := Sc.up_ins _ hb
  have h6 := Sc.ins_chain hS 17 (S.gr (S.fo l)) f (S.both l m).toNat (by omega) b.1 (by omega) hg h5 (by omega)
  have h7 := Sc.sr_in hW (k := (S.both l m).toNat) (g := f) (by omega) (by omega) h6
  unfold Sc.lev
  rw [if_neg hb]
  rw [Int.toNat_natCast] at h7
  exact h7
theorem full_adj (hW : S.wf) (hk : chkOk S A) {l f : Nat} (hl : l + 1 < S.nl) (h1 : S.ins (S.fo l) f = true) (h2 : S.ins (S.fo (l + 1)) f = true) : A.sx l (S.sr f) 0 = A.sx (l + 1) (S.sr f) 0 := by
  have h3 := Sc.lev_ge hW hl (show l < S.nl by omega) (by omega) h2 h1
  have h4 := (hk (l + 1) hl).2.2 (by omega)
  rw [unlS_sq] at h4
  simp only [Nat.add_sub_cancel] at h4
  have h5 := congrArg (fun q => q.map (fun p : Int × Int => p.1)) h4
  simp only [St.sq, rq_sq] at h5
  unfold St.sx
  simp only [Nat.sub_zero]
  rw [rq_filter (A.rp l) h3, rq_filter (A.rp (l + 1)) h3, h5]
theorem full_eq' (hW : S.wf) (hk : chkOk S A) {f : Nat} : ∀ (d l : Nat), l + d < S.nl → S.ins (S.fo l) f = true → S.ins (S.fo (l + d)) f = true → A.sx l (S.sr f) 0 = A.sx (l + d) (S.sr f) 0 := by
  intro d
  induction d with
  | zero => intro l h1 h2 h3; rfl
  | succ d ih =>
    intro l h1 h2 h3
    have h4 := Sc.conv hW (m := l + d) (by omega) (by omega) h1 h2 h3
    rw [ih l (by omega) h2 h4]
    exact full_adj hW hk (l := l + d) h1 h4 h3
theorem full_eq (hW : S.wf) (hk : chkOk S A) {f l m : Nat} (hl : l < S.nl) (hm : m < S.nl) (h1 : S.ins (S.fo l) f = true) (h2 : S.ins (S.fo m) f = true) : A.sx l (S.sr f) 0 = A.sx m (S.sr f) 0 := by
  by_cases c : l ≤ m
  · have := full_eq' hW hk (f := f) (m - l) l (by omega) h1 (by rw [show l + (m - l) = m by omega]; exact h2)
    rw [show l + (m - l) = m by omega] at this
    exact this
  · have := full_eq' hW hk (f := f) (l - m) m (by omega) h2 (by rw [show m + (l - m) = l by omega]; exact h1)
    rw [show m + (l - m) = l by omega] at this
    exact this.symm
/-- in the group g (-1: none) -/
def Sc.sc (S : Sc) (g : Int) (f : Nat) : Prop := g = -1 ∨ S.ins f g.toNat = true
def Sc.lv (S : Sc) (g : Int) : Int := if g = -1 then 0 else S.sr g.toNat
/-- the leaves of g stand side by side at pos -/
def Al (S : Sc) (A : St) (g : Int) (pos : Nat → Nat) : Prop := (∀ l, l < S.nl → S.sc g (S.fo l) → pos l < A.sz l ∧ A.rp l (pos l) ≤ S.lv g) ∧ ∀ f l m, f < S.nf → S.sc g f → l < S.nl → m < S.nl → S.ins (S.fo l) f = true → S.ins (S.fo m) f = true → A.sx l (S.sr f) (pos l) = A.sx m (S.sr f) (pos m)
def fst0 (A : St) (r : Int) (l : Nat) : Nat := (firstFrom (A.rp l) r (A.sz l) 0 0).toNat
theorem fst0_b (hk : chkOk S A) {r : Int} (h0 : 0 ≤ r) (h1 : r < A.rc) {l : Nat} (hl : l < S.nl) : firstFrom (A.rp l) r (A.sz l) 0 0 = fst0 A r l ∧ fst0 A r l < A.sz l ∧ A.rp l (fst0 A r l) = 0 := by
  have h2 := (hk l hl).2.1
  unfold St.zs at h2
  have h3 := ff_some (A.rp l) r (A.sz l) 0 0 h0 (by omega)
  have h4 := firstFrom_b (A.rp l) r (A.sz l) 0 0
  unfold fst0
  exact ⟨by omega, by omega, h3.2⟩
theorem Al_start (hW : S.wf) (hk : chkOk S A) {r : Int} (h0 : 0 ≤ r) (h1 : r < A.rc) : Al S A (-1) (fst0 A r) := by
  have hS := hW.1
  refine ⟨fun l hl _ => ?_, fun f l m hf _ hl hm il im => ?_⟩
  · have h2 := fst0_b hk h0 h1 hl
    refine ⟨h2.2.1, ?_⟩
    unfold Sc.lv
    rw [if_pos rfl]
    omega
  · have b := Sc.sr_b hS f
    have a1 := fst0_b hk h0 h1 hl
    have a2 := fst0_b hk h0 h1 hm
    have e1 := ff_dz (A.rp l) r b.1 (A.sz l) 0 0 (by omega)
    have e2 := ff_dz (A.rp m) r b.1 (A.sz m) 0 0 (by omega)
    rw [a1.1] at e1
    rw [a2.1] at e2
    simp only [Int.toNat_natCast, Nat.sub_zero] at e1 e2
    have e3 := full_eq hW hk hl hm il im
    unfold St.sx at e3 ⊢
    simp only [Nat.sub_zero] at e3
    rw [e1, e2, e3]
/-- into a field of the group -/
theorem Al.down (hW : S.wf) {g : Int} {pos : Nat → Nat} (h : Al S A g pos) {f : Nat} (hf : f < S.nf) (hg : S.gr f = g) : Al S A f pos := by
  have hS := hW.1
  have hn := hS.1
  have hgb := Sc.gr_lt hS f
  have key : ∀ k : Nat, k < S.nf → S.ins k f = true → S.sc g k := by
    intro k hk hi
    by_cases c : g = -1
    · exact Or.inl c
    · right
      have h2 : S.ins f g.toNat = true := (Sc.ins_eq hS (k := f) (by omega) (by omega) g.toNat).mpr (Or.inr ⟨by omega, by
        simp only [Int.toNat_natCast, hg]
        exact (Sc.ins_eq hS (by omega) (by omega) g.toNat).mpr (Or.inl (by omega))⟩)
      exact Sc.ins_tr hS 17 (k : Int) f g.toNat (by omega) (by omega) (by omega) hi h2
  refine ⟨fun l hl q => ?_, fun f2 l m hf2 q hl hm il im => ?_⟩
  · have bl := Sc.fo_lt hS hl
    rcases q with q | q
    · omega
    · simp only [Int.toNat_natCast] at q
      have h1 := h.1 l hl (key _ (by omega) q)
      refine ⟨h1.1, ?_⟩
      have h2 := hW.2.2.1 f hf
      unfold Sc.lv at h1 ⊢
      rw [if_neg (by omega), Int.toNat_natCast, h2, hg]
      have := h1.2
      split at this
      · rename_i c; rw [if_pos c]; split <;> omega
      · rename_i c; rw [if_neg c]; split <;> omega
  · rcases q with q | q
    · omega
    · simp only [Int.toNat_natCast] at q
      exact h.2 f2 l m hf2 (key f2 hf2 q) hl hm il im
/-- the leaves' next items in f -/
def nextP (S : Sc) (A : St) (f : Nat) (pos : Nat → Nat) : Nat → Nat := fun l => if l < S.nl ∧ S.ins (S.fo l) f = true then A.nx l (S.sr f) (pos l) else pos l
theorem Al.next (hW : S.wf) {f : Nat} {pos : Nat → Nat} (hf : f < S.nf) (h : Al S A f pos) : (∀ l m, l < S.nl → m < S.nl → S.ins (S.fo l) f = true → S.ins (S.fo m) f = true → nextP S A f pos l < A.sz l → nextP S A f pos m < A.sz m ∧ A.rp m (nextP S A f pos m) = A.rp l (nextP S A f pos l)) ∧ ∀ f2 l m, f2 < S.nf → S.sc f f2 → l < S.nl → m < S.nl → S.ins (S.fo l) f2 = true → S.ins (S.fo m) f2 = true → A.sx l (S.sr f2) (nextP S A f pos l) = A.sx m (S.sr f2) (nextP S A f pos m) := by
  have hS := hW.1
  have hn := hS.1
  have hlv : S.lv f = S.sr f := by unfold Sc.lv; rw [if_neg (by omega), Int.toNat_natCast]
  have scf : ∀ k : Nat, S.ins k f = true → S.sc f k := fun k q => Or.inr (by rw [Int.toNat_natCast]; exact q)
  have sff : S.sc f f := scf f (Sc.ins_self hS (by omega))
  have E : ∀ f2 l m, f2 < S.nf → S.sc f f2 → l < S.nl → m < S.nl → S.ins (S.fo l) f2 = true → S.ins (S.fo m) f2 = true → A.sx l (S.sr f2) (nextP S A f pos l) = A.sx m (S.sr f2) (nextP S A f pos m) := by
    intro f2 l m hf2 q hl hm il im
    have bl := Sc.fo_lt hS hl
    have bm := Sc.fo_lt hS hm
    have q2 : S.ins f2 f = true := by
      rcases q with q | q
      · omega
      · rw [Int.toNat_natCast] at q; exact q
    have il2 := Sc.ins_tr hS 17 (S.fo l : Int) f2 f (by omega) (by omega) (by omega) il q2
    have im2 := Sc.ins_tr hS 17 (S.fo m : Int) f2 f (by omega) (by omega) (by omega) im q2
    have hle := Sc.sr_in hW (k := f2) (g := f) (by omega) (by omega) q2
    rw [Int.toNat_natCast] at hle
    have pl := h.1 l hl (scf _ il2)
    have pm := h.1 m hm (scf _ im2)
    rw [hlv] at pl pm
    have e := h.2 f2 l m hf2 q hl hm il im
    rw [A.sx_step pl.1, A.sx_step pm.1, if_pos (by omega), if_pos (by omega)] at e
    have e2 := (List.cons.inj e).2
    unfold nextP
    rw [if_pos ⟨hl, il2⟩, if_pos ⟨hm, im2⟩, A.sx_nx pl.1 hle, A.sx_nx pm.1 hle, e2]
  refine ⟨fun l m hl hm il im hlt => ?_, E⟩
  have pl := h.1 l hl (scf _ il)
  have pm := h.1 m hm (scf _ im)
  have e := E f l m hf sff hl hm il im
  have nl := A.nx_le (S.sr f) pl.1
  have nm := A.nx_le (S.sr f) pm.1
  have el : nextP S A f pos l = A.nx l (S.sr f) (pos l) := by unfold nextP; rw [if_pos ⟨hl, il⟩]
  have em : nextP S A f pos m = A.nx m (S.sr f) (pos m) := by unfold nextP; rw [if_pos ⟨hm, im⟩]
  rw [el, em] at e
  rw [el] at hlt ⊢
  rw [em]
  rw [A.sx_step hlt, if_pos (by omega)] at e
  by_cases c : A.nx m (S.sr f) (pos m) < A.sz m
  · rw [A.sx_step c, if_pos (by omega)] at e
    exact ⟨c, (List.cons.inj e).1.symm⟩
  · have c2 := A.sx_end (l := m) (j := A.nx m (S.sr f) (pos m)) (by omega) (S.sr f)
    rw [c2] at e
    cases e
theorem Al.item (hW : S.wf) {f : Nat} {pos : Nat → Nat} (hf : f < S.nf) (h : Al S A f pos) {l : Nat} (hl : l < S.nl) (il : S.ins (S.fo l) f = true) (h1 : nextP S A f pos l < A.sz l) (h2 : A.rp l (nextP S A f pos l) = S.sr f) : Al S A f (nextP S A f pos) := by
  have hn := Al.next hW hf h
  refine ⟨fun m hm q => ?_, hn.2⟩
  have im : S.ins (S.fo m) f = true := by
    rcases q with q | q
    · omega
    · rw [Int.toNat_natCast] at q; exact q
  have := hn.1 l m hl hm il im h1
  refine ⟨this.1, ?_⟩
  unfold Sc.lv
  rw [if_neg (by omega), Int.toNat_natCast]
  omega
end
