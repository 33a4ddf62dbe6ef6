/-! What stands between two calls -/
section
variable {M M' : Mem} {s v p nl n cl ar rr off z : Nat} {S V : Sc} {A : St} {Pi : Pp} {P Q : Nat → Nat → Prop} {Bs : Nat → St} {t : Nat → Int}
theorem CSh.gw2 (h : CSh M s S) (h2 : s ≤ 112) (g : Gw P Q M M') (hP : ∀ a j, P a j → a < s ∨ s + 11 < a) : CSh M' s S := by
  have e0 : ∀ j, mI M' s j = mI M s j := fun j => g.i (by omega) (fun x => by have := hP s j x; omega)
  have e1 : ∀ i j, i ≤ 11 → mI M' (s + i) j = mI M (s + i) j := fun i j q => g.i (by omega) (fun x => by have := hP (s + i) j x; omega)
  unfold CSh at h ⊢
  simp only [e0, e1 1 _ (by omega), e1 2 _ (by omega), e1 3 _ (by omega), e1 4 _ (by omega), e1 5 _ (by omega), e1 6 _ (by omega), e1 7 _ (by omega), e1 8 _ (by omega), e1 9 _ (by omega), e1 10 _ (by omega), e1 11 _ (by omega)]
  exact h
theorem CVw.gw2 (h : CVw M v V) (g : Gw P Q M M') (hQ : ∀ a j, Q a j → DyR a j) (h9 : ¬ Q 1 9) (hP : ∀ a j, P a j → a < v ∨ v + 11 < a) : CVw M' v V := by
  obtain ⟨a1, a2, a3, a4, ⟨b1, b2, b3, b4⟩, a6⟩ := h
  have e0 : ∀ j, mI M' v j = mI M v j := fun j => g.i (by omega) (fun x => by have := hP v j x; omega)
  have e1 : ∀ i j, i ≤ 11 → mI M' (v + i) j = mI M (v + i) j := fun i j q => g.i (by omega) (fun x => by have := hP (v + i) j x; omega)
  exact ⟨by rw [g.r (by omega) h9]; exact a1, a2.gw a3 a4 g hQ, a3, a4, ⟨by rw [e0]; exact b1, fun f q => by rw [e1 _ _ (by omega)]; exact b2 f q, fun f q => by rw [e1 _ _ (by omega)]; exact b3 f q, fun f q => by rw [e1 _ _ (by omega)]; exact b4 f q⟩, fun f q => by rw [e1 _ _ (by omega)]; exact a6 f q⟩
theorem CP.gw2 (h : CP M p Pi) (hp : p ≤ 129) (g : Gw P Q M M') (h0 : ¬ P p 0) (h2 : ∀ j, ¬ P (p + 2) j) (h3 : ∀ j, ¬ P (p + 3) j) : CP M' p Pi := ⟨by rw [g.i (by omega) h0]; exact h.1, fun k q => by rw [g.i (by omega) (h2 k)]; exact h.2.1 k q, fun k q => by rw [g.i (by omega) (h3 k)]; exact h.2.2 k q⟩
theorem TPc.gw2 (h : TPc M t z) (g : Gw P Q M M') (h0 : ¬ P 2 1) (h3 : ∀ j, ¬ P 3 j) : TPc M' t z := ⟨by rw [g.i (by omega) h0]; exact h.1, fun k q => by rw [g.i (by omega) (h3 k)]; exact h.2.1 k q, h.2.2⟩
theorem TPr.gw2 (h : TPr M t z) (g : Gw P Q M M') (h0 : ¬ P 134 5) (h3 : ∀ j, ¬ P 137 j) : TPr M' t z := ⟨by rw [g.i (by omega) h0]; exact h.1, fun k q => by rw [g.i (by omega) (h3 k)]; exact h.2.1 k q, h.2.2⟩
theorem ActsC.gw2 (h : ActsC M cl ar nl n Bs) (g : Gw P Q M M') (hc : cl ≤ 164) (ha : ar ≤ 164) (hP : ¬ P cl 3) (hQ : ∀ j, ¬ Q ar j) : ActsC M' cl ar nl n Bs := by
  obtain ⟨h1, h2, h3⟩ := h
  refine ⟨h1, by rw [g.i hc hP]; exact h2, fun k hk => ?_⟩
  rw [g.r ha (hQ k)]
  exact (h3 k hk).old g.2.2.2
theorem RRow.gw2 (h : RRow M rr off A) (g : Gw P Q M M') (hr : rr ≤ 164) (hP : ∀ j, ¬ P rr j) : RRow M' rr off A := ⟨h.1, fun l q => by rw [g.i hr (hP _)]; exact h.2.1 l q, fun l j q r => by rw [g.i hr (hP _)]; exact h.2.2.1 l j q r, by rw [g.i hr (hP _)]; exact h.2.2.2⟩
theorem ActsR.gw2 (h : ActsR M rr n Bs) (g : Gw P Q M M') (hr : rr ≤ 164) (hP : ∀ j, ¬ P rr j) : ActsR M' rr n Bs := fun k q => (h k q).gw2 g hr hP
theorem RE.gw2 (h : RE M A) (g : Gw P Q M M') (h0 : ¬ P 134 30) (h1 : ∀ j, ¬ P 150 j) (h2 : ∀ j, ¬ P 151 j) : RE M' A := ⟨h.1, fun l q => by rw [g.i (by omega) (h2 _)]; exact h.2.1 l q, fun l j q r => by rw [g.i (by omega) (h1 _)]; exact h.2.2.1 l j q r, by rw [g.i (by omega) h0]; exact h.2.2.2⟩
theorem RP.gw2 (h : RP M Pi) (hp : Pi.ok) (g : Gw P Q M M') (h0 : ¬ P 134 47) (h1 : ∀ j, j < 8 → ¬ P 158 j) (h2 : ∀ j, j < 8 → ¬ P 159 j) : RP M' Pi := ⟨by rw [g.i (by omega) h0]; exact h.1, fun k q => by rw [g.i (by omega) (h1 k (by have := hp.1; omega))]; exact h.2.1 k q, fun k q => by rw [g.i (by omega) (h2 k (by have := hp.1; omega))]; exact h.2.2 k q⟩
theorem RVw.gw2 (h : RVw M V) (hv : V.nf ≤ 16) (g : Gw P Q M M') (h0 : ¬ P 147 1) (h1 : ∀ a j, a = 139 ∨ a = 140 ∨ a = 145 → 16 ≤ j → j < 32 → ¬ P a j) : RVw M' V := ⟨by rw [g.i (by omega) h0]; exact h.1, fun k q => by rw [g.i (by omega) (h1 139 _ (by omega) (by omega) (by omega))]; exact h.2.1 k q, fun k q => by rw [g.i (by omega) (h1 140 _ (by omega) (by omega) (by omega))]; exact h.2.2.1 k q, fun k q => by rw [g.i (by omega) (h1 145 _ (by omega) (by omega) (by omega))]; exact h.2.2.2 k q⟩
theorem RS0.gw2 (h : RS0 M S) (hS : S.ok) (g : Gw P Q M M') (h0 : ¬ P 147 0) (h1 : ¬ P 148 0) (h2 : ∀ a j, 139 ≤ a → a ≤ 145 → j < 16 → ¬ P a j) (h3 : ∀ j, j < 64 → ¬ P 146 j) (h4 : ∀ j, ¬ P 149 j) : RS0 M' S := by
  have hnf := hS.1
  have hln := hS.2.2.2.2.2.2.2.1
  obtain ⟨c0, c1, c2, c3, c4, c5, c6, c7, c8, c9, c10⟩ := h
  have e : ∀ a j, 139 ≤ a → a ≤ 145 → j < 16 → mI M' a j = mI M a j := fun a j x1 x2 x3 => g.i (by omega) (h2 a j x1 x2 x3)
  refine ⟨by rw [g.i (by omega) h0]; exact c0, by rw [g.i (by omega) h1]; exact c1, fun f q => by rw [e _ _ (by omega) (by omega) (by omega)]; exact c2 f q, fun f q => by rw [e _ _ (by omega) (by omega) (by omega)]; exact c3 f q, fun f q => by rw [e _ _ (by omega) (by omega) (by omega)]; exact c4 f q, fun f q => by rw [e _ _ (by omega) (by omega) (by omega)]; exact c5 f q, fun f q => by rw [e _ _ (by omega) (by omega) (by omega)]; exact c6 f q, fun f q => by rw [e _ _ (by omega) (by omega) (by omega)]; exact c7 f q, fun f i q r => ?_, fun f q => by rw [e _ _ (by omega) (by omega) (by omega)]; exact c9 f q, fun l q => by rw [g.i (by omega) (h4 l)]; exact c10 l q⟩
  have := hln f
  rw [g.i (by omega) (h3 _ (by omega))]
  exact c8 f i q r
end
/-- the cells of both sides, and the long that the law reads the answer from -/
def Lay (M : Mem) : Prop := CLay M ∧ RLay M ∧ ColLay M 21 ∧ ColLay M 56 ∧ (ShLay M 88 ∧ ShLay M 100 ∧ ShLay M 112) ∧ (PiLay M 124 ∧ PiLay M 129) ∧ 164 ≤ mn M ∧ mK M 164 = 22 ∧ mN M 164 = 1
/-- an image: its state, its acts, its two counts -/
abbrev Im : Type := Option (St × Nat × (Nat → St) × Int32 × Int32)
/-- where the class keeps its shapes and pipes -/
def CPl (M : Mem) (s v q p p' : Nat) : Prop := mR M 1 8 = s ∧ mR M 1 9 = v ∧ mR M 1 10 = q ∧ mR M 1 11 = p ∧ mR M 1 12 = p'
def Plc (s v q p p' : Nat) : Prop := (s = 88 ∨ s = 100 ∨ s = 112) ∧ (v = 88 ∨ v = 100 ∨ v = 112) ∧ (q = 88 ∨ q = 100 ∨ q = 112) ∧ s ≠ v ∧ s ≠ q ∧ v ≠ q ∧ (p = 124 ∨ p = 129) ∧ (p' = 124 ∨ p' = 129) ∧ p ≠ p'
def CIm (M : Mem) (S : Sc) : Im → Prop
  | none => mI M 1 13 = i32 0
  | some y => mI M 1 13 = i32 1 ∧ CC M 56 S.fu y.1 ∧ mI M 53 1 = i32 y.1.rc ∧ ActsC M 53 55 S.nl y.2.1 y.2.2.1 ∧ mI M 53 4 = y.2.2.2.1 ∧ mI M 53 5 = y.2.2.2.2
def RIm (M : Mem) : Im → Prop
  | none => mI M 134 50 = i32 0
  | some y => mI M 134 50 = i32 1 ∧ mI M 134 51 = i32 y.2.1 ∧ RRow M 161 0 y.1 ∧ ActsR M 162 y.2.1 y.2.2.1 ∧ mI M 163 0 = y.2.2.2.1 ∧ mI M 163 1 = y.2.2.2.2
def ImOk : Im → Prop
  | none => True
  | some y => y.2.1 ≤ 40 ∧ y.2.2.1 y.2.1 = y.1
def CSp (M : Mem) (s v p : Nat) (S V : Sc) (Pi : Pp) : Prop := CSh M s S ∧ CVw M v V ∧ CP M p Pi
def CI (M : Mem) (s v q p p' : Nat) (S V : Sc) (Pi : Pp) (A : St) (n : Nat) (Bs : Nat → St) (t : Nat → Int) (z : Nat) (fl a4 a5 : Int32) (im : Im) : Prop := Plc s v q p p' ∧ CPl M s v q p p' ∧ CSp M s v p S V Pi ∧ TPc M t z ∧ (mI M 1 14 = fl ∧ mI M 18 4 = a4 ∧ mI M 18 5 = a5) ∧ CAft M S A n Bs ∧ CIm M S im
def RI (M : Mem) (S V : Sc) (Pi : Pp) (A : St) (n : Nat) (Bs : Nat → St) (t : Nat → Int) (z : Nat) (fl a4 a5 : Int32) (im : Im) : Prop := (RS0 M S ∧ RVw M V ∧ RP M Pi) ∧ TPr M t z ∧ (mI M 134 14 = fl ∧ mI M 138 0 = a4 ∧ mI M 138 1 = a5) ∧ RAft M A n Bs ∧ RIm M im
def PU (S V : Sc) (Pi : Pp) (A : St) (n : Nat) (Bs : Nat → St) (im : Im) : Prop := S.wf ∧ (∃ dp, VT S S dp) ∧ (∃ dp, VT S V dp) ∧ Pi.ok ∧ n ≤ 40 ∧ Bs n = A ∧ ImOk im
section
variable {M M' : Mem} {s v q p p' n z : Nat} {S V : Sc} {A : St} {Pi : Pp} {P Q : Nat → Nat → Prop} {Bs : Nat → St} {t : Nat → Int} {fl a4 a5 : Int32} {im : Im}
theorem Lay.gw (h : Lay M) (g : Gw P Q M M') (hQ : ∀ a j, Q a j → DyR a j) : Lay M' := by
  obtain ⟨h1, h2, h3, h4, ⟨h5, h6, h7⟩, ⟨h8, h9⟩, h10, h11, h12⟩ := h
  refine ⟨h1.gw g hQ, h2.gw g hQ, h3.gw (Or.inl rfl) g hQ, h4.gw (Or.inr rfl) g hQ, ⟨h5.gw (by omega) (by omega) g hQ, h6.gw (by omega) (by omega) g hQ, h7.gw (by omega) (by omega) g hQ⟩, ⟨h8.gw (by omega) (by omega) g hQ, h9.gw (by omega) (by omega) g hQ⟩, ?_, by rw [(g.1 164 (by omega)).1]; exact h11, by rw [(g.1 164 (by omega)).2]; exact h12⟩
  have := g.2.2.2.1
  omega
theorem Lay.sh (h : Lay M) (hs : s = 88 ∨ s = 100 ∨ s = 112) : ShLay M s := by
  obtain ⟨h5, h6, h7⟩ := h.2.2.2.2.1
  rcases hs with rfl | rfl | rfl
  · exact h5
  · exact h6
  · exact h7
theorem Lay.pi (h : Lay M) (hp : p = 124 ∨ p = 129) : PiLay M p := by
  obtain ⟨h5, h6⟩ := h.2.2.2.2.2.1
  rcases hp with rfl | rfl
  · exact h5
  · exact h6
theorem Lay.m (h : Lay M) : 164 ≤ mn M := h.2.2.2.2.2.2.1
/-- what the reference writes, and scratch, leaves the class -/
theorem CIm.gw2 (h : CIm M S im) (g : Gw P Q M M') (hP : ∀ a j, P a j → ¬ ((a = 1 ∧ j = 13) ∨ (a = 53 ∧ (j = 1 ∨ j = 3 ∨ j = 4 ∨ j = 5)) ∨ (56 ≤ a ∧ a < 88))) (hQ : ∀ j, ¬ Q 55 j) : CIm M' S im := by
  have e : ∀ a j, a ≤ 164 → ((a = 1 ∧ j = 13) ∨ (a = 53 ∧ (j = 1 ∨ j = 3 ∨ j = 4 ∨ j = 5)) ∨ (56 ≤ a ∧ a < 88)) → mI M' a j = mI M a j := fun a j x1 x2 => g.i x1 (fun x => hP a j x x2)
  match im, h with
  | none, h =>
    show mI M' 1 13 = i32 0
    rw [e 1 13 (by omega) (by omega)]
    exact h
  | some y, h =>
    obtain ⟨h1, h2, h3, h4, h5, h6⟩ := h
    exact ⟨by rw [e 1 13 (by omega) (by omega)]; exact h1, h2.gw (by omega) g (fun a j x => by have := hP a j x; omega), by rw [e 53 1 (by omega) (by omega)]; exact h3, h4.gw2 g (by omega) (by omega) (fun x => hP 53 3 x (by omega)) hQ, by rw [e 53 4 (by omega) (by omega)]; exact h5, by rw [e 53 5 (by omega) (by omega)]; exact h6⟩
theorem RIm.gw2 (h : RIm M im) (g : Gw P Q M M') (hP : ∀ a j, P a j → ¬ ((a = 134 ∧ (j = 50 ∨ j = 51)) ∨ a = 161 ∨ a = 162 ∨ a = 163)) : RIm M' im := by
  have e : ∀ a j, a ≤ 164 → ((a = 134 ∧ (j = 50 ∨ j = 51)) ∨ a = 161 ∨ a = 162 ∨ a = 163) → mI M' a j = mI M a j := fun a j x1 x2 => g.i x1 (fun x => hP a j x x2)
  match im, h with
  | none, h =>
    show mI M' 134 50 = i32 0
    rw [e 134 50 (by omega) (by omega)]
    exact h
  | some y, h =>
    obtain ⟨h1, h2, h3, h4, h5, h6⟩ := h
    exact ⟨by rw [e 134 50 (by omega) (by omega)]; exact h1, by rw [e 134 51 (by omega) (by omega)]; exact h2, h3.gw2 g (by omega) (fun j x => hP _ _ x (by omega)), h4.gw2 g (by omega) (fun j x => hP _ _ x (by omega)), by rw [e 163 0 (by omega) (by omega)]; exact h5, by rw [e 163 1 (by omega) (by omega)]; exact h6⟩
theorem CPl.gw2 (h : CPl M s v q p p') (g : Gw P Q M M') (hQ : ∀ j, 8 ≤ j → ¬ Q 1 j) : CPl M' s v q p p' := by
  obtain ⟨h1, h2, h3, h4, h5⟩ := h
  exact ⟨by rw [g.r (by omega) (hQ _ (by omega))]; exact h1, by rw [g.r (by omega) (hQ _ (by omega))]; exact h2, by rw [g.r (by omega) (hQ _ (by omega))]; exact h3, by rw [g.r (by omega) (hQ _ (by omega))]; exact h4, by rw [g.r (by omega) (hQ _ (by omega))]; exact h5⟩
theorem CAft.gw2 (h : CAft M S A n Bs) (g : Gw P Q M M') (hP : ∀ a j, P a j → ¬ ((a = 18 ∧ (j = 1 ∨ j = 3)) ∨ (21 ≤ a ∧ a < 53))) (hQ : ∀ j, ¬ Q 20 j) : CAft M' S A n Bs := ⟨h.1.gw (by omega) g (fun a j x => by have := hP a j x; omega), by rw [g.i (by omega) (fun x => hP 18 1 x (by omega))]; exact h.2.1, h.2.2.gw2 g (by omega) (by omega) (fun x => hP 18 3 x (by omega)) hQ⟩
theorem RAft.gw2 (h : RAft M A n Bs) (g : Gw P Q M M') (hP : ∀ a j, P a j → ¬ ((a = 134 ∧ (j = 30 ∨ j = 31)) ∨ a = 150 ∨ a = 151 ∨ a = 152)) : RAft M' A n Bs := ⟨h.1.gw2 g (fun x => hP _ _ x (by omega)) (fun j x => hP _ _ x (by omega)) (fun j x => hP _ _ x (by omega)), by rw [g.i (by omega) (fun x => hP 134 31 x (by omega))]; exact h.2.1, h.2.2.gw2 g (by omega) (fun j x => hP _ _ x (by omega))⟩
theorem CSp.gw2 (h : CSp M s v p S V Pi) (hl : Plc s v q p p') (g : Gw P Q M M') (hP : ∀ a j, P a j → a < 88 ∨ 133 < a ∨ a = 125 ∨ a = 128 ∨ a = 130 ∨ a = 133 ∨ ((a = 124 ∨ a = 129) ∧ j = 2)) (hQ : ∀ a j, Q a j → DyR a j) (h9 : ¬ Q 1 9) : CSp M' s v p S V Pi := by
  obtain ⟨h1, h2, h3⟩ := h
  obtain ⟨l1, l2, l3, l4, l5, l6, l7, l8, l9⟩ := hl
  exact ⟨h1.gw2 (by omega) g (fun a j x => by have := hP a j x; omega), h2.gw2 g hQ h9 (fun a j x => by have := hP a j x; omega), h3.gw2 (by omega) g (fun x => by have := hP _ _ x; omega) (fun j x => by have := hP _ _ x; omega) (fun j x => by have := hP _ _ x; omega)⟩
theorem CI.keep (h : CI M s v q p p' S V Pi A n Bs t z fl a4 a5 im) (g : Gw P Q M M') (hP : ∀ a j, P a j → ScI a j ∨ (134 ≤ a ∧ a ≤ 163)) (hQ : ∀ a j, Q a j → ScR a j) : CI M' s v q p p' S V Pi A n Bs t z fl a4 a5 im := by
  obtain ⟨h1, h2, h3, h4, ⟨h5, h6, h7⟩, h8, h9⟩ := h
  have hp : ∀ a j, P a j → a = 4 ∨ a = 5 ∨ a = 6 ∨ a = 7 ∨ a = 8 ∨ (10 ≤ a ∧ a ≤ 17) ∨ (a = 2 ∧ 2 ≤ j) ∨ a = 125 ∨ a = 128 ∨ a = 130 ∨ a = 133 ∨ ((a = 124 ∨ a = 129) ∧ j = 2) ∨ 134 ≤ a := fun a j x => by have := hP a j x; unfold ScI at this; omega
  have hq : ∀ a j, Q a j → a = 4 ∨ (a = 5 ∧ 2 ≤ j) ∨ (a = 7 ∧ 5 ≤ j) ∨ (a = 8 ∧ 4 ≤ j ∧ j ≤ 6) ∨ (a = 15 ∧ j = 6) := fun a j x => hQ a j x
  have hd : ∀ a j, Q a j → DyR a j := fun a j x => by have := hq a j x; unfold DyR; omega
  refine ⟨h1, h2.gw2 g (fun j _ x => by have := hq _ _ x; omega), h3.gw2 h1 g (fun a j x => by have := hp _ _ x; omega) hd (fun x => by have := hq _ _ x; omega), h4.gw2 g (fun x => by have := hp _ _ x; omega) (fun j x => by have := hp _ _ x; omega), ⟨?_, ?_, ?_⟩, h8.gw2 g (fun a j x => by have := hp _ _ x; omega) (fun j x => by have := hq _ _ x; omega), h9.gw2 g (fun a j x => by have := hp _ _ x; omega) (fun j x => by have := hq _ _ x; omega)⟩
  · rw [g.i (by omega) (fun x => by have := hp _ _ x; omega)]; exact h5
  · rw [g.i (by omega) (fun x => by have := hp _ _ x; omega)]; exact h6
  · rw [g.i (by omega) (fun x => by have := hp _ _ x; omega)]; exact h7
theorem RI.keep (h : RI M S V Pi A n Bs t z fl a4 a5 im) (hu : PU S V Pi A n Bs im) (g : Gw P Q M M') (hP : ∀ a j, P a j → ScI a j ∨ a < 134) : RI M' S V Pi A n Bs t z fl a4 a5 im := by
  obtain ⟨⟨h1, h2, h3⟩, h4, ⟨h5, h6, h7⟩, h8, h9⟩ := h
  obtain ⟨u1, u2, ⟨dp, u3⟩, u4, u5⟩ := hu
  have hp : ∀ a j, P a j → a < 134 ∨ (a = 134 ∧ (j = 2 ∨ (6 ≤ j ∧ j ≤ 13) ∨ j = 26 ∨ (34 ≤ j ∧ j ≤ 37) ∨ (41 ≤ j ∧ j ≤ 43) ∨ j = 48 ∨ j = 49)) ∨ (153 ≤ a ∧ a ≤ 157) ∨ a = 160 ∨ ((139 ≤ a ∧ a ≤ 145) ∧ 32 ≤ j) ∨ (a = 146 ∧ 128 ≤ j) ∨ ((a = 147 ∨ a = 148) ∧ j = 2) ∨ ((a = 158 ∨ a = 159) ∧ 8 ≤ j) := fun a j x => by have := hP a j x; unfold ScI at this; omega
  clear hP
  refine ⟨⟨h1.gw2 u1.1 g (fun x => by have := hp _ _ x; omega) (fun x => by have := hp _ _ x; omega) (fun a j _ _ _ x => by have := hp _ _ x; omega) (fun j _ x => by have := hp _ _ x; omega) (fun j x => by have := hp _ _ x; omega), h2.gw2 u3.1 g (fun x => by have := hp _ _ x; omega) (fun a j _ _ _ x => by have := hp _ _ x; omega), h3.gw2 u4 g (fun x => by have := hp _ _ x; omega) (fun j _ x => by have := hp _ _ x; omega) (fun j _ x => by have := hp _ _ x; omega)⟩, h4.gw2 g (fun x => by have := hp _ _ x; omega) (fun j x => by have := hp _ _ x; omega), ⟨?_, ?_, ?_⟩, h8.gw2 g (fun a j x => by have := hp _ _ x; omega), h9.gw2 g (fun a j x => by have := hp _ _ x; omega)⟩
  · rw [g.i (by omega) (fun x => by have := hp _ _ x; omega)]; exact h5
  · rw [g.i (by omega) (fun x => by have := hp _ _ x; omega)]; exact h6
  · rw [g.i (by omega) (fun x => by have := hp _ _ x; omega)]; exact h7
theorem RO_of (hL : Lay M) (hu : PU S V Pi A n Bs im) (hC : CI M s v q p p' S V Pi A n Bs t z fl a4 a5 im) (hR : RI M S V Pi A n Bs t z fl a4 a5 im) : RO M s S A := by
  obtain ⟨l1, l2, l3, l4, l5, l6, l7, l8⟩ := hL
  obtain ⟨h1, h2, h3, h4, h5, h8, h9⟩ := hC
  exact ⟨hu.1, ⟨l1, l3, Lay.sh ⟨l1, l2, l3, l4, l5, l6, l7, l8⟩ h1.1, h3.1, h8.1, h8.2.1, by have := h1.1; omega, by have := h1.1; omega, l7⟩, ⟨l2, hR.1.1, hR.2.2.2.1.1⟩, h2.1⟩
end
def INV (M : Mem) : Prop := ∃ (s v q p p' : Nat) (S V : Sc) (Pi : Pp) (A : St) (n : Nat) (Bs : Nat → St) (t : Nat → Int) (z : Nat) (fl a4 a5 : Int32) (im : Im), Lay M ∧ PU S V Pi A n Bs im ∧ CI M s v q p p' S V Pi A n Bs t z fl a4 a5 im ∧ RI M S V Pi A n Bs t z fl a4 a5 im
