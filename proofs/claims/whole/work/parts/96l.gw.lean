/-! A memory that grew: what stands in the first 164 cells, but for P and Q; what was made before -/
def Gw (P Q : Nat → Nat → Prop) (M M' : Mem) : Prop := (∀ a, a ≤ 164 → mK M' a = mK M a ∧ mN M' a = mN M a) ∧ (∀ a j, a ≤ 164 → ¬ P a j → mI M' a j = mI M a j) ∧ (∀ a j, a ≤ 164 → ¬ Q a j → mR M' a j = mR M a j) ∧ Old M M'
/-- the references that calls change -/
def DyR (a j : Nat) : Prop := (a = 1 ∧ 8 ≤ j) ∨ a = 20 ∨ a = 55 ∨ a = 4 ∨ (a = 5 ∧ 2 ≤ j) ∨ (a = 7 ∧ 5 ≤ j) ∨ (a = 8 ∧ 4 ≤ j ∧ j ≤ 6) ∨ (a = 15 ∧ j = 6)
section
variable {P Q : Nat → Nat → Prop} {M M' : Mem}
theorem Gw.rf (P Q : Nat → Nat → Prop) (M : Mem) : Gw P Q M M := ⟨fun _ _ => ⟨rfl, rfl⟩, fun _ _ _ _ => rfl, fun _ _ _ _ => rfl, Old.rf M⟩
theorem Gw.tr {M1 M2 : Mem} (h : Gw P Q M M1) (g : Gw P Q M1 M2) : Gw P Q M M2 := ⟨fun a q => ⟨(g.1 a q).1.trans (h.1 a q).1, (g.1 a q).2.trans (h.1 a q).2⟩, fun a j q w => (g.2.1 a j q w).trans (h.2.1 a j q w), fun a j q w => (g.2.2.1 a j q w).trans (h.2.2.1 a j q w), h.2.2.2.tr g.2.2.2⟩
theorem Gw.mono {P' Q' : Nat → Nat → Prop} (h : Gw P Q M M') (i : ∀ a j, P a j → P' a j) (r : ∀ a j, Q a j → Q' a j) : Gw P' Q' M M' := ⟨h.1, fun a j q w => h.2.1 a j q (fun x => w (i a j x)), fun a j q w => h.2.2.1 a j q (fun x => w (r a j x)), h.2.2.2⟩
theorem Fr.gw (h : Fr P Q M M') (hP : ∀ a j, P a j → a < 165) (hQ : ∀ a j, Q a j → a < 165) : Gw P Q M M' := ⟨fun a _ => ⟨by rw [h.1], by rw [h.2.1]⟩, fun a j _ w => h.i w, fun a j _ w => h.r w, h.old hP hQ⟩
theorem Chg.gw (h : Chg P M M') (hP : ∀ a j, P a j → a < 165) : Gw P Q M M' := ⟨fun a _ => ⟨by rw [h.1], by rw [h.2.1]⟩, fun a j _ w => h.i w, fun a j _ w => by rw [h.r], h.old hP⟩
theorem Scr.gw (h : Scr M M') (i : ∀ a j, ScI a j → P a j) (r : ∀ a j, ScR a j → Q a j) : Gw P Q M M' := ⟨fun a _ => ⟨by rw [h.1], by rw [h.2.1]⟩, fun a j _ w => h.i (fun x => w (i a j x)), fun a j _ w => h.r (fun x => w (r a j x)), ⟨by rw [h.2.2.1]; exact Nat.le_refl _, fun b h1 h2 => ⟨by rw [h.1], by rw [h.2.1], fun j => h.i (by unfold ScI; omega), fun j => h.r (by unfold ScR; omega)⟩⟩⟩
theorem Gw.new (hm : 164 ≤ mn M) (t n : Nat) : Gw P Q M (mNew M t n) := ⟨fun a h => ⟨mK_new_ne (by omega), mN_new_ne (by omega)⟩, fun a j h _ => by rw [mI_new_ne (by omega)], fun a j h _ => by rw [mR_new_ne (by omega)], Old.new t n⟩
/-- a further step that leaves what stood at M -/
theorem Gw.st {M1 M2 : Mem} (h : Gw P Q M M1) (g1 : ∀ a, a ≤ 164 → mK M2 a = mK M1 a ∧ mN M2 a = mN M1 a) (g2 : ∀ a j, a ≤ 164 → ¬ P a j → mI M2 a j = mI M1 a j) (g3 : ∀ a j, a ≤ 164 → ¬ Q a j → mR M2 a j = mR M1 a j) (o : ∀ b, 165 ≤ b → b ≤ mn M → mK M2 b = mK M1 b ∧ mN M2 b = mN M1 b ∧ (∀ j, mI M2 b j = mI M1 b j) ∧ ∀ j, mR M2 b j = mR M1 b j) (hn : mn M1 ≤ mn M2) : Gw P Q M M2 := ⟨fun a q => ⟨(g1 a q).1.trans (h.1 a q).1, (g1 a q).2.trans (h.1 a q).2⟩, fun a j q w => (g2 a j q w).trans (h.2.1 a j q w), fun a j q w => (g3 a j q w).trans (h.2.2.1 a j q w), ⟨Nat.le_trans h.2.2.2.1 hn, fun b h1 h2 => by
  have x := h.2.2.2.2 b h1 h2
  have y := o b h1 h2
  exact ⟨y.1.trans x.1, y.2.1.trans x.2.1, fun j => (y.2.2.1 j).trans (x.2.2.1 j), fun j => (y.2.2.2 j).trans (x.2.2.2 j)⟩⟩⟩
theorem Gw.sI {M1 : Mem} (h : Gw P Q M M1) {a k : Nat} {v : Int32} (ha : (a ≤ 164 ∧ P a k) ∨ (164 < a ∧ mn M < a)) : Gw P Q M (sI M1 a k v) := h.st (fun _ _ => ⟨rfl, rfl⟩) (fun b j q w => mI_sI_ne (by
  by_cases e : b = a
  · by_cases e2 : j = k
    · subst e; subst e2
      rcases ha with ha | ha
      · exact absurd ha.2 w
      · omega
    · exact Or.inr e2
  · exact Or.inl e)) (fun _ _ _ _ => rfl) (fun b h1 h2 => ⟨rfl, rfl, fun j => mI_sI_ne (by omega), fun _ => rfl⟩) (Nat.le_refl _)
theorem Gw.sR {M1 : Mem} (h : Gw P Q M M1) {a k v : Nat} (ha : (a ≤ 164 ∧ Q a k) ∨ (164 < a ∧ mn M < a)) : Gw P Q M (sR M1 a k v) := h.st (fun _ _ => ⟨rfl, rfl⟩) (fun _ _ _ _ => rfl) (fun b j q w => mR_sR_ne (by
  by_cases e : b = a
  · by_cases e2 : j = k
    · subst e; subst e2
      rcases ha with ha | ha
      · exact absurd ha.2 w
      · omega
    · exact Or.inr e2
  · exact Or.inl e)) (fun b h1 h2 => ⟨rfl, rfl, fun _ => rfl, fun j => mR_sR_ne (by omega)⟩) (Nat.le_refl _)
theorem Gw.i (h : Gw P Q M M') {a j : Nat} (ha : a ≤ 164) (q : ¬ P a j) : mI M' a j = mI M a j := h.2.1 a j ha q
theorem Gw.r (h : Gw P Q M M') {a j : Nat} (ha : a ≤ 164) (q : ¬ Q a j) : mR M' a j = mR M a j := h.2.2.1 a j ha q
theorem CLay.gw (h : CLay M) (g : Gw P Q M M') (hQ : ∀ a j, Q a j → DyR a j) : CLay M' := by
  have K : ∀ a, a ≤ 164 → mK M' a = mK M a := fun a q => (g.1 a q).1
  have N : ∀ a, a ≤ 164 → mN M' a = mN M a := fun a q => (g.1 a q).2
  have R : ∀ a j, a ≤ 164 → ¬ DyR a j → mR M' a j = mR M a j := fun a j q w => g.r q (fun x => w (hQ a j x))
  have r1 : ∀ j, j ≤ 7 → mR M' 1 j = mR M 1 j := fun j q => R 1 j (by omega) (by unfold DyR; omega)
  have r2 : ∀ j, mR M' 2 j = mR M 2 j := fun j => R 2 j (by omega) (by unfold DyR; omega)
  have r3 : mR M' 5 0 = mR M 5 0 := R 5 0 (by omega) (by unfold DyR; omega)
  have r4 : mR M' 8 7 = mR M 8 7 := R 8 7 (by omega) (by unfold DyR; omega)
  have r5 : ∀ j, mR M' 9 j = mR M 9 j := fun j => R 9 j (by omega) (by unfold DyR; omega)
  have r6 : mR M' 15 2 = mR M 15 2 := R 15 2 (by omega) (by unfold DyR; omega)
  have r7 : mR M' 15 3 = mR M 15 3 := R 15 3 (by omega) (by unfold DyR; omega)
  have r8 : ∀ j, mR M' 18 j = mR M 18 j := fun j => R 18 j (by omega) (by unfold DyR; omega)
  have r9 : ∀ j, mR M' 53 j = mR M 53 j := fun j => R 53 j (by omega) (by unfold DyR; omega)
  clear R g hQ
  unfold CLay CLay' at h ⊢
  simp (disch := omega) only [K, N, r1, r2, r3, r4, r5, r6, r7, r8, r9]
  exact h
theorem RLay.gw (h : RLay M) (g : Gw P Q M M') (hQ : ∀ a j, Q a j → DyR a j) : RLay M' := by
  have K : ∀ a, a ≤ 164 → mK M' a = mK M a := fun a q => (g.1 a q).1
  have N : ∀ a, a ≤ 164 → mN M' a = mN M a := fun a q => (g.1 a q).2
  have R : ∀ a j, 60 ≤ a → a ≤ 164 → mR M' a j = mR M a j := fun a j q1 q2 => g.r q2 (fun x => by have := hQ a j x; unfold DyR at this; omega)
  clear g hQ
  unfold RLay RLay' at h ⊢
  simp (disch := omega) only [K, N, R]
  exact h
theorem ColLay.gw {b : Nat} (h : ColLay M b) (hb : b = 21 ∨ b = 56) (g : Gw P Q M M') (hQ : ∀ a j, Q a j → DyR a j) : ColLay M' b := by
  have K : ∀ a, a ≤ 164 → mK M' a = mK M a := fun a q => (g.1 a q).1
  have N : ∀ a, a ≤ 164 → mN M' a = mN M a := fun a q => (g.1 a q).2
  have R : ∀ a j, 19 ≤ a → a ≠ 20 → a ≠ 55 → a ≤ 164 → mR M' a j = mR M a j := fun a j q1 q2 q3 q4 => g.r q4 (fun x => by have := hQ a j x; unfold DyR at this; omega)
  clear g hQ
  obtain ⟨h1, h2, h3, h4, h5, h6, h7, h8, h9, h10, h11⟩ := h
  refine ⟨fun l q => ?_, fun l q => ?_, fun l q => ?_, fun l q => ?_, fun l q => ?_, fun l q => ?_, fun l q => ?_, fun l q => ?_, fun l q => ?_, fun l q => ?_, fun l q => ?_⟩
  · rw [K _ (by omega)]; exact h1 l q
  · rw [R _ _ (by omega) (by omega) (by omega) (by omega)]; exact h2 l q
  · rw [R _ _ (by omega) (by omega) (by omega) (by omega)]; exact h3 l q
  · rw [R _ _ (by omega) (by omega) (by omega) (by omega)]; exact h4 l q
  · rw [K _ (by omega)]; exact h5 l q
  · rw [K _ (by omega)]; exact h6 l q
  · rw [K _ (by omega)]; exact h7 l q
  · rw [N _ (by omega)]; exact h8 l q
  · rw [N _ (by omega)]; exact h9 l q
  · rw [N _ (by omega)]; exact h10 l q
  · rw [R _ _ (by omega) (by omega) (by omega) (by omega)]; exact h11 l q
theorem ShLay.gw {s : Nat} (h : ShLay M s) (h1 : 88 ≤ s) (h2 : s ≤ 112) (g : Gw P Q M M') (hQ : ∀ a j, Q a j → DyR a j) : ShLay M' s := by
  have K : ∀ a, a ≤ 164 → mK M' a = mK M a := fun a q => (g.1 a q).1
  have N : ∀ a, a ≤ 164 → mN M' a = mN M a := fun a q => (g.1 a q).2
  have R : ∀ j, mR M' s j = mR M s j := fun j => g.r (by omega) (fun x => by have := hQ s j x; unfold DyR at this; omega)
  clear g hQ
  unfold ShLay ShLay' at h ⊢
  simp (disch := omega) only [K, N, R]
  exact h
theorem PiLay.gw {p : Nat} (h : PiLay M p) (h1 : 88 ≤ p) (h2 : p ≤ 129) (g : Gw P Q M M') (hQ : ∀ a j, Q a j → DyR a j) : PiLay M' p := by
  have K : ∀ a, a ≤ 164 → mK M' a = mK M a := fun a q => (g.1 a q).1
  have N : ∀ a, a ≤ 164 → mN M' a = mN M a := fun a q => (g.1 a q).2
  have R : ∀ j, mR M' p j = mR M p j := fun j => g.r (by omega) (fun x => by have := hQ p j x; unfold DyR at this; omega)
  clear g hQ
  unfold PiLay PiLay' at h ⊢
  simp (disch := omega) only [K, N, R]
  exact h
end
