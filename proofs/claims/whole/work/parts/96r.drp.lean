/-! drop in the reference -/
abbrev drN (S : Sc) (A : St) : Prop := A.rc = 0 ∨ (chk S A).1 ≠ 0
section
variable {M : Mem} {n : Nat} {S : Sc} {A : St} {Bs : Nat → St}
theorem r_drop (hW : S.wf) (hV : RV M S A) (hn : n ≤ 40) (h31 : mI M 134 31 = i32 n) (h : ActsR M 152 n Bs) (hA : Bs n = A) : ∃ M', f_X12_drop 134 M = some (a_drop S A, M') ∧ mI M' 134 2 = i32 0 ∧ (if drN S A then Chg (fun a j => (a = 134 ∧ (j = 2 ∨ j = 34 ∨ j = 35)) ∨ (a = 138 ∧ j = 1)) M M' ∧ mI M' 138 1 = mI M 138 1 + i32 1 else Chg (fun a j => (a = 134 ∧ (j = 2 ∨ j = 30 ∨ j = 31 ∨ j = 34 ∨ j = 35)) ∨ a = 151 ∨ a = 152) M M' ∧ RE M' (cutS S.nl A) ∧ mI M' 134 31 = i32 (nK n) ∧ ActsR M' 152 (nK n) (bsK n Bs (cutS S.nl A))) := by
  have b := hW.1.2.1
  have hL := hV.1
  have hV0 : RV (sI M 134 2 (0 : Int32)) S A := hV.scr hW.1 (zero_scr M (i32 0))
  have g0 : Chg (fun a j => a = 134 ∧ j = 2) M (sI M 134 2 (0 : Int32)) := (Chg.rf _ M).sI ⟨rfl, rfl⟩
  have e2 : mI (sI M 134 2 (0 : Int32)) 134 2 = i32 0 := mI_sI_eq
  unfold a_drop f_X12_drop
  rw [if_pos hL.k, ap_of]
  generalize sI M 134 2 (0 : Int32) = M0 at hV0 g0 e2 ⊢
  have h30 := hV0.2.2.2.2.2
  have hrc := hV0.2.2.1.2.2.2.2
  rw [if_pos hV0.1.k, h30]
  by_cases c0 : A.rc = 0
  · simp only [if_pos (show drN S A from Or.inl c0)]
    refine ⟨sI M0 138 1 (mI M0 138 1 + i32 1), ?_, by rw [mI_sI_ne (by omega)]; exact e2, (g0.mono (fun a j q => by omega)).sI (by omega), by rw [mI_sI_eq, g0.i (by omega)]⟩
    rw [if_pos (by rw [c0]; rfl)]
    unfold f_X12_drop_19
    rw [if_pos hV0.1.k, bx (X12_refuse hV0.1)]
  · have nz : ¬ (i32 (A.rc : Int) = i32 0) := i32_ne (by omega) (by omega) (by omega) (by omega) (by omega)
    obtain ⟨M1, e1, gs, f0, g1⟩ := r_chk hW hV0 e2
    have hV1 := hV0.scr hW.1 gs
    have hb := chkF_b S A hV.2.2.1 S.nl 0
    have hb2 : 0 ≤ (chk S A).1 ∧ (chk S A).1 ≤ 5 := ⟨hb.1, hb.2.1⟩
    rw [if_neg (by exact nz), bx e1]
    by_cases c1 : (chk S A).1 = 0
    · have nd : ¬ drN S A := fun q => q.elim c0 (fun w => w c1)
      simp only [if_neg nd]
      obtain ⟨M2, e3, g2, w1, w2⟩ := keepR (n := n) (Bs := Bs) (A' := cutS S.nl A) hV1.1 hV1.2.2 hn (by rw [g1.i (by omega), g0.i (by omega)]; exact h31) (fun i hi => (h i hi).cg (fun t ht => by rw [g1.i (by omega), g0.i (by omega)])) hA
      have h148 : mI M2 148 0 = i32 S.nl := by rw [g2.i (by omega)]; exact hV1.2.1.2.1
      have hE2 : RE M2 (cutJ A 0) := by
        rw [cutJ_0]
        exact hV1.2.2.cg (fun l q => g2.i (by omega)) (fun j => g2.i (by omega)) (g2.i (by omega))
      obtain ⟨M3, e4, g3, w3⟩ := X12_drop30 hV.2.2.1 (by omega) (nl := S.nl) (by omega) S.nl 0 FUEL M2 (by omega) (by unfold FUEL; omega) (hV1.1.all g2) h148 hE2
      refine ⟨M3, ?_, ?_, (g0.mono (fun a j q => by omega)).tr ((g1.mono (fun a j q => by omega)).tr ((g2.mono (fun a j q => by omega)).tr (g3.mono (fun a j q => by unfold dpR at q; omega)))), w3, ?_, fun i hi => (w2 i hi).cg (fun t ht => g3.i (by unfold dpR; omega))⟩
      · rw [if_pos (by rw [c1]; rfl), if_pos hV1.1.k, bx e3]
        exact e4
      · rw [g3.i (by unfold dpR; omega), g2.i (by omega)]; exact f0
      · rw [g3.i (by unfold dpR; omega)]; exact w1
    · simp only [if_pos (show drN S A from Or.inr c1)]
      have nz1 : ¬ (i32 (chk S A).1 = i32 0) := i32_ne (by omega) (by omega) (by omega) (by omega) c1
      refine ⟨sI M1 138 1 (mI M1 138 1 + i32 1), ?_, by rw [mI_sI_ne (by omega)]; exact f0, ((g0.mono (fun a j q => by omega)).tr (g1.mono (fun a j q => by omega))).sI (by omega), by rw [mI_sI_eq, g1.i (by omega), g0.i (by omega)]⟩
      rw [if_neg (by exact nz1)]
      unfold f_X12_drop_19
      rw [if_pos hV1.1.k, bx (X12_refuse hV1.1)]
end
