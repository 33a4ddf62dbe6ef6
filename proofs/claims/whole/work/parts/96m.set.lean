/-! set, damage in the class -/
theorem okBn {M : Mem} {rs : List Nat} (h : ∀ r, r ∈ rs → r ≤ mn M) : okrB M rs = true := by
  unfold okrB
  rw [List.all_eq_true]
  intro r hr
  simp [h r hr]
section
variable {M M' : Mem} {s nl n b : Nat} {S : Sc} {A : St} {fu : Nat → Int} {P Q : Nat → Nat → Prop} {Bs : Nat → St}
theorem CSh.gw (h : CSh M s S) (h1 : 88 ≤ s) (h2 : s ≤ 112) (g : Gw P Q M M') (hP : ∀ a j, P a j → a < 88 ∨ 123 < a) : CSh M' s S := by
  have e : ∀ a j, 88 ≤ a → a ≤ 123 → mI M' a j = mI M a j := fun a j q1 q2 => g.i (by omega) (fun x => by have := hP a j x; omega)
  have e0 : ∀ j, mI M' s j = mI M s j := fun j => e s j (by omega) (by omega)
  have e1 : ∀ i j, i ≤ 11 → mI M' (s + i) j = mI M (s + i) j := fun i j q => e _ j (by omega) (by omega)
  unfold CSh at h ⊢
  simp only [e0, e1 1 _ (by omega), e1 2 _ (by omega), e1 3 _ (by omega), e1 4 _ (by omega), e1 5 _ (by omega), e1 6 _ (by omega), e1 7 _ (by omega), e1 8 _ (by omega), e1 9 _ (by omega), e1 10 _ (by omega), e1 11 _ (by omega)]
  exact h
theorem CC.gw (h : CC M b fu A) (hb : b ≤ 56) (g : Gw P Q M M') (hP : ∀ a j, P a j → a < b ∨ b + 32 ≤ a) : CC M' b fu A := by
  have e : ∀ a j, b ≤ a → a < b + 32 → mI M' a j = mI M a j := fun a j q1 q2 => g.i (by omega) (fun x => by have := hP a j x; omega)
  obtain ⟨a0, a1, a2, a3, a4, a5, a6⟩ := h
  refine ⟨a0, fun l q => ?_, fun l j q r => ?_, fun l j q r => ?_, fun l j q r => ?_, fun l q => ?_, a6⟩
  · rw [e _ _ (by omega) (by omega)]; exact a1 l q
  · rw [e _ _ (by omega) (by omega)]; exact a2 l j q r
  · rw [e _ _ (by omega) (by omega)]; exact a3 l j q r
  · rw [e _ _ (by omega) (by omega)]; exact a4 l j q r
  · rw [e _ _ (by omega) (by omega)]; exact a5 l q
theorem ActsC.gw (h : ActsC M 18 20 nl n Bs) (g : Gw P Q M M') (hP : ¬ P 18 3) (hQ : ∀ j, ¬ Q 20 j) : ActsC M' 18 20 nl n Bs := by
  obtain ⟨h1, h2, h3⟩ := h
  refine ⟨h1, by rw [g.i (by omega) hP]; exact h2, fun k hk => ?_⟩
  rw [g.r (by omega) (hQ k)]
  exact (h3 k hk).old g.2.2.2
theorem St.ok_wVl (hA : A.ok) (l j : Nat) {v : Int} (v0 : 0 ≤ v) (v9 : v ≤ 999) : (A.wVl l j v).ok := by
  obtain ⟨h1, h2, h3, h4, h5⟩ := hA
  refine ⟨h1, h2, fun a b => ?_, h4, h5⟩
  show 0 ≤ (if a = l ∧ b = j then v else A.vl a b) ∧ (if a = l ∧ b = j then v else A.vl a b) ≤ 999
  split
  · exact ⟨v0, v9⟩
  · exact h3 a b
theorem CC.wVl (h : CC M 21 fu A) {l j : Nat} (hl : l < 8) {v : Int} (v0 : 0 ≤ v) (v9 : v ≤ 999) : CC (sI M (21 + 4 * l + 3) j (i32 v)) 21 fu (A.wVl l j v) := by
  obtain ⟨a0, a1, a2, a3, a4, a5, a6⟩ := h
  refine ⟨St.ok_wVl a0 l j v0 v9, fun k q => ?_, fun k i q r => ?_, fun k i q r => ?_, fun k i q r => ?_, fun k q => ?_, a6⟩
  · rw [mI_sI_ne (by omega)]; exact a1 k q
  · rw [mI_sI_ne (by omega)]; exact a2 k i q r
  · rw [mI_sI_ne (by omega)]; exact a3 k i q r
  · show _ = i32 (if k = l ∧ i = j then v else A.vl k i)
    by_cases c : k = l ∧ i = j
    · rw [if_pos c, c.1, c.2]; exact mI_sI_eq
    · rw [if_neg c, mI_sI_ne (by omega)]; exact a4 k i q r
  · rw [mI_sI_ne (by omega)]; exact a5 k q
theorem CC.wRp (h : CC M 21 fu A) {l j : Nat} (hl : l < 8) {v : Int} (v0 : 0 ≤ v) (v9 : v ≤ 9) : CC (sI M (21 + 4 * l + 1) j (i32 v)) 21 fu (A.wRp l j v) := by
  obtain ⟨a0, a1, a2, a3, a4, a5, a6⟩ := h
  refine ⟨St.ok_wRp a0 l j v0 v9, fun k q => ?_, fun k i q r => ?_, fun k i q r => ?_, fun k i q r => ?_, fun k q => ?_, a6⟩
  · rw [mI_sI_ne (by omega)]; exact a1 k q
  · show _ = i32 (if k = l ∧ i = j then v else A.rp k i)
    by_cases c : k = l ∧ i = j
    · rw [if_pos c, c.1, c.2]; exact mI_sI_eq
    · rw [if_neg c, mI_sI_ne (by omega)]; exact a2 k i q r
  · rw [mI_sI_ne (by omega)]; exact a3 k i q r
  · rw [mI_sI_ne (by omega)]; exact a4 k i q r
  · rw [mI_sI_ne (by omega)]; exact a5 k q
theorem CC.wDf (h : CC M 21 fu A) {l j : Nat} (hl : l < 8) {v : Int} (v0 : 0 ≤ v) (v9 : v ≤ 9) : CC (sI M (21 + 4 * l + 2) j (i32 v)) 21 fu (A.wDf l j v) := by
  obtain ⟨a0, a1, a2, a3, a4, a5, a6⟩ := h
  refine ⟨St.ok_wDf a0 l j v0 v9, fun k q => ?_, fun k i q r => ?_, fun k i q r => ?_, fun k i q r => ?_, fun k q => ?_, a6⟩
  · rw [mI_sI_ne (by omega)]; exact a1 k q
  · rw [mI_sI_ne (by omega)]; exact a2 k i q r
  · show _ = i32 (if k = l ∧ i = j then v else A.df k i)
    by_cases c : k = l ∧ i = j
    · rw [if_pos c, c.1, c.2]; exact mI_sI_eq
    · rw [if_neg c, mI_sI_ne (by omega)]; exact a3 k i q r
  · rw [mI_sI_ne (by omega)]; exact a4 k i q r
  · rw [mI_sI_ne (by omega)]; exact a5 k q
/-- undoing a set makes it as it was -/
theorem wVl_back (A : St) (l j : Nat) (v : Int) : Eqv ((A.wVl l j v).wVl l j (A.vl l j)) A := ⟨rfl, fun k _ => ⟨rfl, fun i _ => ⟨rfl, rfl, by
  show (if k = l ∧ i = j then A.vl l j else (if k = l ∧ i = j then v else A.vl k i)) = A.vl k i
  by_cases c : k = l ∧ i = j
  · rw [if_pos c, c.1, c.2]
  · rw [if_neg c, if_neg c]⟩⟩⟩
theorem wRp_back (A : St) (l j : Nat) (v : Int) : Eqv ((A.wRp l j v).wRp l j (A.rp l j)) A := ⟨rfl, fun k _ => ⟨rfl, fun i _ => ⟨by
  show (if k = l ∧ i = j then A.rp l j else (if k = l ∧ i = j then v else A.rp k i)) = A.rp k i
  by_cases c : k = l ∧ i = j
  · rw [if_pos c, c.1, c.2]
  · rw [if_neg c, if_neg c], rfl, rfl⟩⟩⟩
theorem wDf_back (A : St) (l j : Nat) (v : Int) : Eqv ((A.wDf l j v).wDf l j (A.df l j)) A := ⟨rfl, fun k _ => ⟨rfl, fun i _ => ⟨rfl, by
  show (if k = l ∧ i = j then A.df l j else (if k = l ∧ i = j then v else A.df k i)) = A.df k i
  by_cases c : k = l ∧ i = j
  · rw [if_pos c, c.1, c.2]
  · rw [if_neg c, if_neg c], rfl⟩⟩⟩
/-- what an act of the class writes -/
def acI (a j : Nat) : Prop := (a = 18 ∧ (j = 1 ∨ j = 3)) ∨ (21 ≤ a ∧ a ≤ 52)
def acR (a _j : Nat) : Prop := a = 20
theorem acR_dy : ∀ a j, acR a j → DyR a j := fun a j q => Or.inr (Or.inl q)
/-- a new act -/
theorem newAct1 (hm : 164 ≤ mn M) (k l e x : Int32) {r : Nat} (hr : r ≤ mn M) : ∃ M1, f_X0_init (mn M + 1) k l e x r (mNew M 1 0) = some ((), M1) ∧ Gw (fun _ _ => False) (fun _ _ => False) M M1 ∧ mn M1 = mn M + 1 ∧ mK M1 (mn M + 1) = 1 ∧ mI M1 (mn M + 1) 0 = k ∧ mI M1 (mn M + 1) 1 = l ∧ mI M1 (mn M + 1) 2 = e ∧ mI M1 (mn M + 1) 3 = x ∧ mR M1 (mn M + 1) 4 = r := by
  have gn : Gw (fun _ _ => False) (fun _ _ => False) M (mNew M 1 0) := Gw.new hm 1 0
  have hK : mK (mNew M 1 0) (mn M + 1) = 1 := mK_new_eq
  have hN : mn (mNew M 1 0) = mn M + 1 := mn_new
  generalize mNew M 1 0 = M0 at gn hK hN ⊢
  have h0 : 164 < mn M + 1 ∧ mn M < mn M + 1 := by omega
  generalize mn M + 1 = b at hK hN h0 ⊢
  have e1 := X0_init (M := M0) (a := b) (by omega) hK k l e x (r := r) (by omega)
  refine ⟨_, e1, (((((gn.sI (Or.inr h0)).sI (Or.inr h0)).sI (Or.inr h0)).sI (Or.inr h0)).sR (Or.inr h0)), hN, hK, ?_, ?_, ?_, ?_, mR_sR_eq⟩
  · rw [mI_sR, mI_sI_ne (by omega), mI_sI_ne (by omega), mI_sI_ne (by omega), mI_sI_eq]
  · rw [mI_sR, mI_sI_ne (by omega), mI_sI_ne (by omega), mI_sI_eq]
  · rw [mI_sR, mI_sI_ne (by omega), mI_sI_eq]
  · rw [mI_sR, mI_sI_eq]
theorem acI_lt : ∀ a j, acI a j → a < 165 := fun a j q => by unfold acI at q; omega
theorem acR_lt : ∀ a j, acR a j → a < 165 := fun a j q => by unfold acR at q; omega
/-- a new act, kept -/
theorem newAct (hL : CLay M) (hm : 164 ≤ mn M) (hacts : ActsC M 18 20 nl n Bs) (k l e x : Int32) {r : Nat} (hr : r ≤ mn M) {A' : St} (ha : ∀ M1 : Mem, Gw (fun _ _ => False) (fun _ _ => False) M M1 → mn M1 = mn M + 1 → mK M1 (mn M + 1) = 1 → mI M1 (mn M + 1) 0 = k → mI M1 (mn M + 1) 1 = l → mI M1 (mn M + 1) 2 = e → mI M1 (mn M + 1) 3 = x → mR M1 (mn M + 1) 4 = r → ActOk M1 nl (mn M + 1) (Bs n) A') : ∃ M1 M2, f_X0_init (mn M + 1) k l e x r (mNew M 1 0) = some ((), M1) ∧ mK M1 18 = 8 ∧ f_X7_keep 18 (mn M + 1) M1 = some ((), M2) ∧ Gw acI acR M M2 ∧ (∀ a j, a ≤ 164 → ¬ (a = 18 ∧ j = 3) → mI M2 a j = mI M a j) ∧ mn M2 = mn M + 1 ∧ ActsC M2 18 20 nl (nK n) (bsK n Bs A') := by
  obtain ⟨M1, e1, g1, n1, w1, w2, w3, w4, w5, w6⟩ := newAct1 hm k l e x hr
  have act := ha M1 g1 n1 w1 w2 w3 w4 w5 w6
  have hL1 : CLay M1 := CLay.gw hL g1 (fun _ _ q => q.elim)
  have hac1 : ActsC M1 18 20 nl n Bs := hacts.gw g1 (fun q => q) (fun j q => q)
  obtain ⟨M2, e2, g2, q2⟩ := keepC hL1 hac1 act
  have g3 : Fr acI acR M1 M2 := g2.mono (fun a j q => Or.inl ⟨q.1, Or.inr q.2⟩) (fun a j q => q)
  have g4 : Gw acI acR M1 M2 := g3.gw acI_lt acR_lt
  have g5 : Gw acI acR M M1 := g1.mono (fun _ _ q => q.elim) (fun _ _ q => q.elim)
  refine ⟨M1, M2, e1, by simp only [hL1.o], e2, g5.tr g4, fun a j d1 d2 => ?_, g2.2.2.1.trans n1, q2⟩
  rw [g2.i d2]
  exact g1.i d1 (fun q => q)
end
