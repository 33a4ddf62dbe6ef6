/-! Scratch: cells that no later call looks at before it has written them; what holds stays over writes there -/
def ScI (a j : Nat) : Prop := a = 4 ∨ a = 5 ∨ a = 6 ∨ a = 7 ∨ a = 8 ∨ (10 ≤ a ∧ a ≤ 17) ∨ (a = 2 ∧ 2 ≤ j) ∨ a = 125 ∨ a = 128 ∨ a = 130 ∨ a = 133 ∨ ((a = 124 ∨ a = 129) ∧ j = 2) ∨ (a = 134 ∧ (j = 2 ∨ (6 ≤ j ∧ j ≤ 13) ∨ j = 26 ∨ (34 ≤ j ∧ j ≤ 37) ∨ (41 ≤ j ∧ j ≤ 43) ∨ j = 48 ∨ j = 49)) ∨ (153 ≤ a ∧ a ≤ 157) ∨ a = 160 ∨ ((139 ≤ a ∧ a ≤ 145) ∧ 32 ≤ j) ∨ (a = 146 ∧ 128 ≤ j) ∨ ((a = 147 ∨ a = 148) ∧ j = 2) ∨ ((a = 158 ∨ a = 159) ∧ 8 ≤ j)
def ScR (a j : Nat) : Prop := a = 4 ∨ (a = 5 ∧ 2 ≤ j) ∨ (a = 7 ∧ 5 ≤ j) ∨ (a = 8 ∧ 4 ≤ j ∧ j ≤ 6) ∨ (a = 15 ∧ j = 6)
def Scr (M M' : Mem) : Prop := mK M' = mK M ∧ mN M' = mN M ∧ mn M' = mn M ∧ mJ M' = mJ M ∧ (∀ a j, ¬ ScI a j → mI M' a j = mI M a j) ∧ (∀ a j, ¬ ScR a j → mR M' a j = mR M a j)
theorem Scr.rf (M : Mem) : Scr M M := ⟨rfl, rfl, rfl, rfl, fun _ _ _ => rfl, fun _ _ _ => rfl⟩
theorem Scr.tr {M M1 M2 : Mem} (h : Scr M M1) (g : Scr M1 M2) : Scr M M2 := ⟨g.1.trans h.1, g.2.1.trans h.2.1, g.2.2.1.trans h.2.2.1, g.2.2.2.1.trans h.2.2.2.1, fun a j q => (g.2.2.2.2.1 a j q).trans (h.2.2.2.2.1 a j q), fun a j q => (g.2.2.2.2.2 a j q).trans (h.2.2.2.2.2 a j q)⟩
theorem Scr.sI {M M1 : Mem} (h : Scr M M1) {a k : Nat} {v : Int32} (q : ScI a k) : Scr M (sI M1 a k v) := h.tr ⟨rfl, rfl, rfl, rfl, fun b j g => mI_sI_ne (by
  by_cases e : b = a
  · by_cases e2 : j = k
    · subst e; subst e2; exact absurd q g
    · exact Or.inr e2
  · exact Or.inl e), fun _ _ _ => rfl⟩
theorem Scr.sR {M M1 : Mem} (h : Scr M M1) {a k v : Nat} (q : ScR a k) : Scr M (sR M1 a k v) := h.tr ⟨rfl, rfl, rfl, rfl, fun _ _ _ => rfl, fun b j g => mR_sR_ne (by
  by_cases e : b = a
  · by_cases e2 : j = k
    · subst e; subst e2; exact absurd q g
    · exact Or.inr e2
  · exact Or.inl e)⟩
theorem okrB_sI {M : Mem} {a k : Nat} {v : Int32} {rs : List Nat} : okrB (sI M a k v) rs = okrB M rs := rfl
theorem okrB_sR {M : Mem} {a k v : Nat} {rs : List Nat} : okrB (sR M a k v) rs = okrB M rs := rfl
theorem okrB_wI {M : Mem} {F : Nat → Nat → Int32} {rs : List Nat} : okrB (wI M F) rs = okrB M rs := rfl
theorem okB1 {M : Mem} {a : Nat} (h : a ≤ mn M) : (okrB M [a] = true) = True := by
  unfold okrB
  simp [h]
theorem RLay.scr {M M' : Mem} (h : RLay M) (g : Scr M M') : RLay M' := by
  obtain ⟨hK, hN, -, -, -, hR⟩ := g
  have r1 : ∀ j, mR M' 134 j = mR M 134 j := fun j => hR 134 j (by unfold ScR; omega)
  have r2 : ∀ j, mR M' 135 j = mR M 135 j := fun j => hR 135 j (by unfold ScR; omega)
  have r3 : ∀ j, mR M' 136 j = mR M 136 j := fun j => hR 136 j (by unfold ScR; omega)
  unfold RLay RLay' at h ⊢
  simp only [hK, hN, r1, r2, r3]
  exact h
theorem CLay.scr {M M' : Mem} (h : CLay M) (g : Scr M M') : CLay M' := by
  obtain ⟨hK, hN, -, -, -, hR⟩ := g
  have r1 : ∀ j, mR M' 1 j = mR M 1 j := fun j => hR 1 j (by unfold ScR; omega)
  have r2 : ∀ j, mR M' 2 j = mR M 2 j := fun j => hR 2 j (by unfold ScR; omega)
  have r3 : mR M' 5 0 = mR M 5 0 := hR 5 0 (by unfold ScR; omega)
  have r4 : mR M' 8 7 = mR M 8 7 := hR 8 7 (by unfold ScR; omega)
  have r5 : ∀ j, mR M' 9 j = mR M 9 j := fun j => hR 9 j (by unfold ScR; omega)
  have r6 : mR M' 15 2 = mR M 15 2 := hR 15 2 (by unfold ScR; omega)
  have r7 : mR M' 15 3 = mR M 15 3 := hR 15 3 (by unfold ScR; omega)
  have r8 : ∀ j, mR M' 18 j = mR M 18 j := fun j => hR 18 j (by unfold ScR; omega)
  have r9 : ∀ j, mR M' 53 j = mR M 53 j := fun j => hR 53 j (by unfold ScR; omega)
  unfold CLay CLay' at h ⊢
  simp only [hK, hN, r1, r2, r3, r4, r5, r6, r7, r8, r9]
  exact h
theorem ColLay.scr {M M' : Mem} {b : Nat} (h : ColLay M b) (hb : 21 ≤ b) (g : Scr M M') : ColLay M' b := by
  obtain ⟨hK, hN, -, -, -, hR⟩ := g
  have r1 : ∀ a j, 19 ≤ a → mR M' a j = mR M a j := fun a j q => hR a j (by unfold ScR; omega)
  unfold ColLay at h ⊢
  obtain ⟨h1, h2, h3, h4, h5, h6, h7, h8, h9, h10, h11⟩ := h
  simp only [hK, hN]
  refine ⟨h1, fun l q => ?_, fun l q => ?_, fun l q => ?_, h5, h6, h7, h8, h9, h10, fun l q => ?_⟩
  · rw [r1 _ _ (by omega)]; exact h2 l q
  · rw [r1 _ _ (by omega)]; exact h3 l q
  · rw [r1 _ _ (by omega)]; exact h4 l q
  · rw [r1 _ _ (by omega)]; exact h11 l q
theorem ShLay.scr {M M' : Mem} {s : Nat} (h : ShLay M s) (hs : 88 ≤ s) (g : Scr M M') : ShLay M' s := by
  obtain ⟨hK, hN, -, -, -, hR⟩ := g
  have r1 : ∀ j, mR M' s j = mR M s j := fun j => hR s j (by unfold ScR; omega)
  unfold ShLay ShLay' at h ⊢
  simp only [hK, hN, r1]
  exact h
theorem PiLay.scr {M M' : Mem} {p : Nat} (h : PiLay M p) (hs : 88 ≤ p) (g : Scr M M') : PiLay M' p := by
  obtain ⟨hK, hN, -, -, -, hR⟩ := g
  have r1 : ∀ j, mR M' p j = mR M p j := fun j => hR p j (by unfold ScR; omega)
  unfold PiLay PiLay' at h ⊢
  simp only [hK, hN, r1]
  exact h
theorem CSh.scr {M M' : Mem} {s : Nat} {S : Sc} (h : CSh M s S) (h1 : 88 ≤ s) (h2 : s ≤ 112) (g : Scr M M') : CSh M' s S := by
  obtain ⟨-, -, -, -, hI, -⟩ := g
  have e : ∀ a j, 88 ≤ a → a ≤ 123 → mI M' a j = mI M a j := fun a j q1 q2 => hI a j (by unfold ScI; omega)
  have e0 : ∀ j, mI M' s j = mI M s j := fun j => e s j (by omega) (by omega)
  have e1 : ∀ i j, i ≤ 11 → mI M' (s + i) j = mI M (s + i) j := fun i j q => e _ j (by omega) (by omega)
  unfold CSh at h ⊢
  simp only [e0, e1 1 _ (by omega), e1 2 _ (by omega), e1 3 _ (by omega), e1 4 _ (by omega), e1 5 _ (by omega), e1 6 _ (by omega), e1 7 _ (by omega), e1 8 _ (by omega), e1 9 _ (by omega), e1 10 _ (by omega), e1 11 _ (by omega)]
  exact h
theorem CC.scr {M M' : Mem} {b : Nat} {fu : Nat → Int} {A : St} (h : CC M b fu A) (h1 : 21 ≤ b) (h2 : b ≤ 56) (g : Scr M M') : CC M' b fu A := by
  obtain ⟨-, -, -, -, hI, -⟩ := g
  have e : ∀ a j, 21 ≤ a → a ≤ 87 → mI M' a j = mI M a j := fun a j q1 q2 => hI a j (by unfold ScI; omega)
  unfold CC at h ⊢
  obtain ⟨a0, a1, a2, a3, a4, a5, a6⟩ := h
  refine ⟨a0, fun l q => ?_, fun l j q r => ?_, fun l j q r => ?_, fun l j q r => ?_, fun l q => ?_, a6⟩
  · rw [e _ _ (by omega) (by omega)]; exact a1 l q
  · rw [e _ _ (by omega) (by omega)]; exact a2 l j q r
  · rw [e _ _ (by omega) (by omega)]; exact a3 l j q r
  · rw [e _ _ (by omega) (by omega)]; exact a4 l j q r
  · rw [e _ _ (by omega) (by omega)]; exact a5 l q
theorem RS0.scr {M M' : Mem} {S : Sc} (h : RS0 M S) (hS : S.ok) (g : Scr M M') : RS0 M' S := by
  obtain ⟨-, -, -, -, hI, -⟩ := g
  have hn := hS.1
  have hln := hS.2.2.2.2.2.2.2.1
  have e : ∀ a j, 139 ≤ a → a ≤ 145 → j < 32 → mI M' a j = mI M a j := fun a j q1 q2 q3 => hI a j (by unfold ScI; omega)
  unfold RS0 at h ⊢
  obtain ⟨a0, a1, a2, a3, a4, a5, a6, a7, a8, a9, a10⟩ := h
  refine ⟨?_, ?_, fun f q => ?_, fun f q => ?_, fun f q => ?_, fun f q => ?_, fun f q => ?_, fun f q => ?_, fun f i q r => ?_, fun f q => ?_, fun l q => ?_⟩
  · rw [hI _ _ (by unfold ScI; omega)]; exact a0
  · rw [hI _ _ (by unfold ScI; omega)]; exact a1
  · rw [e _ _ (by omega) (by omega) (by omega)]; exact a2 f q
  · rw [e _ _ (by omega) (by omega) (by omega)]; exact a3 f q
  · rw [e _ _ (by omega) (by omega) (by omega)]; exact a4 f q
  · rw [e _ _ (by omega) (by omega) (by omega)]; exact a5 f q
  · rw [e _ _ (by omega) (by omega) (by omega)]; exact a6 f q
  · rw [e _ _ (by omega) (by omega) (by omega)]; exact a7 f q
  · have := hln f
    rw [hI _ _ (by unfold ScI; omega)]; exact a8 f i q r
  · rw [e _ _ (by omega) (by omega) (by omega)]; exact a9 f q
  · rw [hI _ _ (by unfold ScI; omega)]; exact a10 l q
theorem RE.scr {M M' : Mem} {A : St} (h : RE M A) (g : Scr M M') : RE M' A := by
  obtain ⟨-, -, -, -, hI, -⟩ := g
  unfold RE at h ⊢
  obtain ⟨a0, a1, a2, a3⟩ := h
  refine ⟨a0, fun l q => ?_, fun l j q r => ?_, ?_⟩
  · rw [hI _ _ (by unfold ScI; omega)]; exact a1 l q
  · rw [hI _ _ (by unfold ScI; omega)]; exact a2 l j q r
  · rw [hI _ _ (by unfold ScI; omega)]; exact a3
/-! The schema's mathematics -/
def Sc.wf (S : Sc) : Prop := S.ok ∧ (∀ f, f < S.nf → S.sd f = (if S.gr f = -1 then 0 else S.sd (S.gr f).toNat) + (if S.kd f = 0 then 0 else 1)) ∧ (∀ f, f < S.nf → S.sr f = (if S.gr f = -1 then 0 else S.sr (S.gr f).toNat) + (if S.kd f = 2 then 1 else 0)) ∧ (∀ f, f < S.nf → S.gr f ≠ -1 → S.lf (S.gr f).toNat = -1) ∧ (∀ f : Nat, f < S.nf → S.lf f = -1 → f + 1 < S.nf ∧ S.gr (f + 1) = f) ∧ (∀ f, f < S.nf → S.lf f ≠ -1 → S.lf f < S.nl ∧ S.fo (S.lf f).toNat = f) ∧ (∀ f : Nat, f + 1 < S.nf → S.gr (f + 1) = -1 ∨ S.ins f (S.gr (f + 1)).toNat = true) ∧ (∀ a b, a < b → b < S.nl → S.fo a < S.fo b)
section
variable {S : Sc}
theorem upF_spec (gr : Nat → Int) (p : Nat → Bool) (hg : ∀ f : Nat, -1 ≤ gr f ∧ gr f < f) : ∀ (n : Nat) (k : Int), -1 ≤ k → k < n → ∀ g : Nat, upF gr (fun f => decide (f = g)) n k ≠ -1 → p g = true → (g : Int) ≤ upF gr p n k := by
  intro n
  induction n with
  | zero => intro k h1 h2 g h3; exact absurd rfl h3
  | succ n ih =>
    intro k h1 h2 g h3 h4
    have hk := hg k.toNat
    unfold upF at h3 ⊢
    by_cases c : k = -1
    · simp [c] at h3
    · simp only [c, if_false, decide_eq_true_eq] at h3 ⊢
      by_cases c2 : k.toNat = g
      · rw [if_pos (by rw [c2]; exact h4)]; omega
      · rw [if_neg c2] at h3
        have h5 := ih (gr k.toNat) hk.1 (by omega) g h3 h4
        split
        · have := (upF_ge gr p hg n (gr k.toNat) hk.1).2.1
          omega
        · exact h5
/-- what is around k (or itself) and is so is the found one, or further out -/
theorem Sc.up_max (hS : S.ok) (p : Nat → Bool) {k : Int} (h1 : -1 ≤ k) (h2 : k ≤ 16) {g : Nat} (h3 : S.ins k g = true) (h4 : p g = true) : (g : Int) ≤ S.up p k := by
  unfold Sc.ins Sc.up at h3
  exact upF_spec S.gr p (S.gr_lt hS) 17 k h1 (by omega) g (by simpa using h3) h4
theorem upF_ins (gr : Nat → Int) (p : Nat → Bool) : ∀ (n : Nat) (k : Int), upF gr p n k ≠ -1 → upF gr (fun f => decide (f = (upF gr p n k).toNat)) n k ≠ -1 := by
  intro n
  induction n with
  | zero => intro k h; exact absurd rfl h
  | succ n ih =>
    intro k h
    by_cases c : k = -1
    · subst c; exact absurd rfl h
    · by_cases c2 : p k.toNat = true
      · have e : upF gr p (n + 1) k = k := by unfold upF; simp [c, c2]
        rw [e]
        unfold upF
        simp [c]
      · have e : upF gr p (n + 1) k = upF gr p n (gr k.toNat) := by
          conv => lhs; unfold upF
          simp [c, c2]
        rw [e] at h ⊢
        have := ih (gr k.toNat) h
        unfold upF
        simp only [c, if_false, decide_eq_true_eq]
        split
        · exact c
        · exact this
theorem Sc.up_ins (p : Nat → Bool) {k : Int} (h : S.up p k ≠ -1) : S.ins k (S.up p k).toNat = true := by
  unfold Sc.ins
  exact decide_eq_true (upF_ins S.gr p 17 k h)
/-- in it, or in its group -/
theorem Sc.ins_eq (hS : S.ok) {k : Int} (h1 : -1 ≤ k) (h2 : k ≤ 16) (g : Nat) : (S.ins k g = true) ↔ (k = g ∨ (k ≠ -1 ∧ S.ins (S.gr k.toNat) g = true)) := by
  unfold Sc.ins
  rw [Sc.up_eq S _ k (S.gr_lt hS) h1 h2]
  by_cases c : k = -1
  · simp [c]
  · simp only [c, if_false, decide_eq_true_eq, not_false_eq_true, true_and, ne_eq]
    by_cases c2 : k.toNat = g
    · simp only [c2, if_true]
      constructor
      · intro _; left; omega
      · intro _; exact c
    · simp only [c2, if_false]
      constructor
      · intro h; exact Or.inr h
      · rintro (h | h)
        · omega
        · exact h
theorem Sc.ins_m1 (hS : S.ok) (g : Nat) : S.ins (-1) g = false := by
  have := Sc.ins_eq hS (k := -1) (by omega) (by omega) g
  simp at this
  exact this
theorem Sc.ins_self (hS : S.ok) {k : Nat} (h : k ≤ 16) : S.ins k k = true := (Sc.ins_eq hS (by omega) (by omega) k).mpr (Or.inl rfl)
theorem Sc.ins_le (hS : S.ok) {k : Int} {g : Nat} (h1 : -1 ≤ k) (h2 : k ≤ 16) (h : S.ins k g = true) : (g : Int) ≤ k := by
  have h3 := Sc.up_max hS (fun _ => true) h1 h2 h rfl
  have := (Sc.up_b hS (fun _ => true) k h1).2.1
  omega
/-- the group of a leaf is no leaf -/
theorem Sc.ins_gr_leaf (hW : S.wf) : ∀ (n : Nat) (k : Int), k < n → -1 ≤ k → k < S.nf → ∀ g : Nat, S.ins (if k = -1 then -1 else S.gr k.toNat) g = true → S.lf g = -1 := by
  obtain ⟨hS, -, -, w3, -⟩ := hW
  have hn := hS.1
  intro n
  induction n with
  | zero =>
    intro k h1 h2 h3 g h
    have : k = -1 := by omega
    simp only [this, if_true] at h
    rw [Sc.ins_m1 hS] at h
    cases h
  | succ n ih =>
    intro k h1 h2 h3 g h
    by_cases c : k = -1
    · simp only [c, if_true] at h
      rw [Sc.ins_m1 hS] at h
      cases h
    · simp only [c, if_false] at h
      have b := Sc.gr_lt hS k.toNat
      rcases (Sc.ins_eq hS b.1 (by omega) g).mp h with h4 | ⟨h4, h5⟩
      · have := w3 k.toNat (by omega) (by omega)
        rw [h4] at this
        simpa using this
      · exact ih (S.gr k.toNat) (by omega) b.1 (by omega) g (by rw [if_neg h4]; exact h5)
/-- the innermost group of two leaves is that of the two, either way -/
theorem Sc.both_sym (hW : S.wf) {a b : Nat} (ha : a < S.nl) (hb : b < S.nl) : S.both a b = S.both b a := by
  have hS := hW.1
  have fa := Sc.fo_lt hS ha
  have fb := Sc.fo_lt hS hb
  have la := (hS.2.2.2.2.2.2.2.2.2.2 a ha).2
  have lb := (hS.2.2.2.2.2.2.2.2.2.2 b hb).2
  have key : ∀ {a b : Nat}, a < S.nl → b < S.nl → S.both a b ≠ -1 → S.both a b ≤ S.both b a := by
    intro a b ha hb h
    have fa := Sc.fo_lt hS ha
    have fb := Sc.fo_lt hS hb
    have ga := Sc.gr_lt hS (S.fo a)
    have gb := Sc.gr_lt hS (S.fo b)
    have lb := (hS.2.2.2.2.2.2.2.2.2.2 b hb).2
    have h1 := Sc.up_ins _ h
    have h2 := (Sc.both_b hS a b)
    have h3 := h2.2.2 h
    obtain ⟨g, hg⟩ : ∃ g : Nat, S.both a b = g := ⟨(S.both a b).toNat, by omega⟩
    have hg1 : S.up (fun g => S.ins (S.fo b) g) (S.gr (S.fo a)) = g := hg
    rw [hg1] at h1
    rw [hg] at h3 ⊢
    simp only [Int.toNat_natCast] at h1 h3
    have hlf := Sc.ins_gr_leaf hW 17 (S.fo a) (by omega) (by omega) (by omega) g (by rw [if_neg (by omega)]; simpa using h1)
    have hb2 : S.ins (S.gr (S.fo b)) g = true := by
      rcases (Sc.ins_eq hS (by omega) (by omega) g).mp h3 with h4 | ⟨-, h5⟩
      · have : S.fo b = g := by omega
        rw [this] at lb
        omega
      · simpa using h5
    have ha2 : S.ins (S.fo a) g = true := (Sc.ins_eq hS (by omega) (by omega) g).mpr (Or.inr ⟨by omega, by simpa using h1⟩)
    exact Sc.up_max hS (fun g => S.ins (S.fo a) g) gb.1 (by omega) hb2 ha2
  have b1 := Sc.both_b hS a b
  have b2 := Sc.both_b hS b a
  by_cases c : S.both a b = -1
  · by_cases d : S.both b a = -1
    · omega
    · have := key hb ha d; omega
  · have h1 := key ha hb c
    have h2 := key hb ha (by omega)
    omega
theorem Sc.many_ok (hW : S.wf) {l : Nat} (hl : l < S.nl) {x : Int} (h1 : 1 ≤ x) (h2 : x ≤ S.sr (S.fo l)) : S.many l x ≠ -1 := by
  obtain ⟨hS, -, w2, -⟩ := hW
  have hn := hS.1
  have key : ∀ (n : Nat) (k : Int), -1 ≤ k → k < n → k < S.nf → k ≠ -1 → x ≤ S.sr k.toNat → upF S.gr (fun f => decide (S.kd f = 2 ∧ S.sr f = x)) n k ≠ -1 := by
    intro n
    induction n with
    | zero => intro k a1 a2 a3 a4; omega
    | succ n ih =>
      intro k a1 a2 a3 a4 a5
      have b := Sc.gr_lt hS k.toNat
      have w := w2 k.toNat (by omega)
      unfold upF
      simp only [a4, if_false, decide_eq_true_eq]
      split
      · exact a4
      · rename_i c
        by_cases d : S.gr k.toNat = -1
        · rw [if_pos d] at w
          exfalso
          split at w <;> omega
        · rw [if_neg d] at w
          refine ih (S.gr k.toNat) b.1 (by omega) (by omega) d ?_
          split at w <;> omega
  have fl := Sc.fo_lt hS hl
  exact key 17 (S.fo l) (by omega) (by omega) (by omega) (by omega) (by simpa using h2)
end
