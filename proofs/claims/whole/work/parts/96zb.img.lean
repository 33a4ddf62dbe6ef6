/-! image, restore in the reference -/
section
variable {M : Mem} {A : St} {n : Nat} {Bs : Nat → St}
def riI (a j : Nat) : Prop := (a = 134 ∧ (j = 2 ∨ j = 50 ∨ j = 51)) ∨ a = 161 ∨ a = 162 ∨ a = 163
def rrI (a j : Nat) : Prop := (a = 134 ∧ (j = 2 ∨ j = 30 ∨ j = 31)) ∨ a = 138 ∨ a = 150 ∨ a = 151 ∨ a = 152
theorem r_image (hL : RLay M) (hE : RE M A) (hn : n ≤ 40) (h31 : mI M 134 31 = i32 n) (h : ActsR M 152 n Bs) : ∃ M', f_X12_image 134 M = some ((), M') ∧ Chg riI M M' ∧ mI M' 134 2 = i32 0 ∧ mI M' 134 50 = i32 1 ∧ mI M' 134 51 = i32 n ∧ RRow M' 161 0 A ∧ ActsR M' 162 n Bs ∧ mI M' 163 0 = mI M 138 0 ∧ mI M' 163 1 = mI M 138 1 := by
  obtain ⟨M1, e1⟩ : ∃ M1, sI (sI (sI M 134 2 (0 : Int32)) 134 50 (1 : Int32)) 134 51 (i32 (n : Int)) = M1 := ⟨_, rfl⟩
  have g1 : Chg riI M M1 := by
    rw [← e1]
    exact (((Chg.rf riI M).sI (by unfold riI; omega)).sI (by unfold riI; omega)).sI (by unfold riI; omega)
  have hL1 := hL.all g1
  have p2 : mI M1 134 2 = i32 0 := by rw [← e1, mI_sI_ne (by omega), mI_sI_ne (by omega), mI_sI_eq]; rfl
  have p50 : mI M1 134 50 = i32 1 := by rw [← e1, mI_sI_ne (by omega), mI_sI_eq]; rfl
  have p51 : mI M1 134 51 = i32 n := by rw [← e1, mI_sI_eq]
  have hE1 : RE M1 A := hE.cg (fun l q => g1.i (by unfold riI; omega)) (fun j => g1.i (by unfold riI; omega)) (g1.i (by unfold riI; omega))
  have k161 : mK M1 161 = 21 := by simp only [hL1.o]
  have n161 : mN M1 161 = 969 := by simp only [hL1.o]
  obtain ⟨M2, e2, g2, q1, q2, q3⟩ := X12_pack (a := 161) (off := 0) hL1 (by omega) (by omega) k161 (by omega) (by omega)
  have hrow := RRow.of hE1 q1 q2 q3
  have hL2 := hL1.all g2
  have k162 : mK M2 162 = 21 := by simp only [hL2.o]
  have n162 : mN M2 162 = 38760 := by simp only [hL2.o]
  have k152 : mK M2 152 = 21 := by simp only [hL2.o]
  have n152 : mN M2 152 = 38760 := by simp only [hL2.o]
  obtain ⟨M3, e3, g3, w3⟩ := X12_copyTo (M := M2) (d := 162) (s := 152) (N := 38760) (by omega) (by omega) k162 k152 n162 n152
  have hL3 := hL2.all g3
  have k163 : mK M3 163 = 21 := by simp only [hL3.o]
  have n163 : mN M3 163 = 2 := by simp only [hL3.o]
  have k138 : mK M3 138 = 21 := by simp only [hL3.o]
  have n138 : mN M3 138 = 2 := by simp only [hL3.o]
  obtain ⟨M4, e4, g4, w4⟩ := X12_copyTo (M := M3) (d := 163) (s := 138) (N := 2) (by omega) (by omega) k163 k138 n163 n138
  have r52 : mR M1 134 52 = 161 := by simp only [hL1.o]
  have r53 : mR M2 134 53 = 162 := by simp only [hL2.o]
  have r29 : mR M2 134 29 = 152 := by simp only [hL2.o]
  have r54 : mR M3 134 54 = 163 := by simp only [hL3.o]
  have r4 : mR M3 134 4 = 138 := by simp only [hL3.o]
  have h31' : mI (sI (sI M 134 2 (0 : Int32)) 134 50 (1 : Int32)) 134 31 = i32 n := by rw [mI_sI_ne (by omega), mI_sI_ne (by omega)]; exact h31
  have e2 : f_X12_pack 134 161 (0 : Int32) M1 = _ := e2
  refine ⟨M4, ?_, g1.tr ((g2.mono (fun a j q => by unfold pkC at q; unfold riI; omega)).tr ((g3.mono (fun a j q => by unfold riI; omega)).tr (g4.mono (fun a j q => by unfold riI; omega)))), ?_, ?_, ?_, ?_, fun k hk => ?_, ?_, ?_⟩
  · unfold f_X12_image
    rw [if_pos hL.k, ap_of, if_pos (by exact hL.k), ap_of, if_pos (by exact hL.k), h31', ap_of, e1, if_pos hL1.k, r52, bx e2, if_pos hL2.k, r53, r29, bx e3, if_pos hL3.k, r54, r4, bx e4]
  · rw [g4.i (by omega), g3.i (by omega), g2.i (by unfold pkC; omega)]; exact p2
  · rw [g4.i (by omega), g3.i (by omega), g2.i (by unfold pkC; omega)]; exact p50
  · rw [g4.i (by omega), g3.i (by omega), g2.i (by unfold pkC; omega)]; exact p51
  · exact hrow.cg (fun i hi => by rw [g4.i (by omega), g3.i (by omega)])
  · exact (h k hk).cg (fun i hi => by rw [g4.i (by omega), w3 _ (by omega), g2.i (by unfold pkC; omega), g1.i (by unfold riI; omega)])
  · rw [w4 0 (by omega), g3.i (by omega), g2.i (by unfold pkC; omega), g1.i (by unfold riI; omega)]
  · rw [w4 1 (by omega), g3.i (by omega), g2.i (by unfold pkC; omega), g1.i (by unfold riI; omega)]
theorem r_restore0 (hL : RLay M) (h50 : mI M 134 50 = i32 0) : f_X12_restore 134 M = some (i32 0, sI M 134 2 (i32 0)) := by
  unfold f_X12_restore
  rw [if_pos hL.k, ap_of, if_pos (by exact hL.k), mI_sI_ne (by omega), h50, if_pos (by rfl)]
  rfl
theorem r_restore1 (hL : RLay M) (hn : n ≤ 40) (h50 : mI M 134 50 = i32 1) (h51 : mI M 134 51 = i32 n) (hE : RRow M 161 0 A) (h : ActsR M 162 n Bs) : ∃ M', f_X12_restore 134 M = some (i32 1, M') ∧ Chg rrI M M' ∧ mI M' 134 2 = i32 0 ∧ mI M' 134 31 = i32 n ∧ RE M' A ∧ ActsR M' 152 n Bs ∧ mI M' 138 0 = mI M 163 0 ∧ mI M' 138 1 = mI M 163 1 := by
  obtain ⟨M1, e1⟩ : ∃ M1, sI (sI M 134 2 (0 : Int32)) 134 31 (i32 (n : Int)) = M1 := ⟨_, rfl⟩
  have g1 : Chg rrI M M1 := by
    rw [← e1]
    exact ((Chg.rf rrI M).sI (by unfold rrI; omega)).sI (by unfold rrI; omega)
  have hL1 := hL.all g1
  have p2 : mI M1 134 2 = i32 0 := by rw [← e1, mI_sI_ne (by omega), mI_sI_eq]; rfl
  have p31 : mI M1 134 31 = i32 n := by rw [← e1, mI_sI_eq]
  have k161 : mK M1 161 = 21 := by simp only [hL1.o]
  have n161 : mN M1 161 = 969 := by simp only [hL1.o]
  obtain ⟨M2, e2, g2, q1, q2, q3⟩ := X12_unpack (a := 161) (off := 0) hL1 (by omega) (by omega) k161 (by omega) (by omega)
  have hE2 : RE M2 A := RE.of (hE.cg (M' := M1) (a' := 161) (off' := 0) (fun i hi => g1.i (by unfold rrI; omega))) q1 q2 q3
  have hL2 := hL1.all g2
  have k162 : mK M2 162 = 21 := by simp only [hL2.o]
  have n162 : mN M2 162 = 38760 := by simp only [hL2.o]
  have k152 : mK M2 152 = 21 := by simp only [hL2.o]
  have n152 : mN M2 152 = 38760 := by simp only [hL2.o]
  obtain ⟨M3, e3, g3, w3⟩ := X12_copyTo (M := M2) (d := 152) (s := 162) (N := 38760) (by omega) (by omega) k152 k162 n152 n162
  have hL3 := hL2.all g3
  have k163 : mK M3 163 = 21 := by simp only [hL3.o]
  have n163 : mN M3 163 = 2 := by simp only [hL3.o]
  have k138 : mK M3 138 = 21 := by simp only [hL3.o]
  have n138 : mN M3 138 = 2 := by simp only [hL3.o]
  obtain ⟨M4, e4, g4, w4⟩ := X12_copyTo (M := M3) (d := 138) (s := 163) (N := 2) (by omega) (by omega) k138 k163 n138 n163
  have r52 : mR M1 134 52 = 161 := by simp only [hL1.o]
  have r53 : mR M2 134 53 = 162 := by simp only [hL2.o]
  have r29 : mR M2 134 29 = 152 := by simp only [hL2.o]
  have r54 : mR M3 134 54 = 163 := by simp only [hL3.o]
  have r4 : mR M3 134 4 = 138 := by simp only [hL3.o]
  have e2 : f_X12_unpack 134 161 (0 : Int32) M1 = _ := e2
  have h50' : mI (sI M 134 2 (0 : Int32)) 134 50 = i32 1 := by rw [mI_sI_ne (by omega)]; exact h50
  have h51' : mI (sI M 134 2 (0 : Int32)) 134 51 = i32 n := by rw [mI_sI_ne (by omega)]; exact h51
  have nz : ¬ (i32 1 = i32 0) := i32_ne (by omega) (by omega) (by omega) (by omega) (by omega)
  refine ⟨M4, ?_, g1.tr ((g2.mono (fun a j q => by unfold upC at q; unfold rrI; omega)).tr ((g3.mono (fun a j q => by unfold rrI; omega)).tr (g4.mono (fun a j q => by unfold rrI; omega)))), ?_, ?_, ?_, fun k hk => ?_, ?_, ?_⟩
  · unfold f_X12_restore
    rw [if_pos hL.k, ap_of, if_pos (by exact hL.k), h50', if_neg (by exact nz), h51', ap_of, e1, if_pos hL1.k, r52, bx e2, if_pos hL2.k, r29, r53, bx e3, if_pos hL3.k, r4, r54, bx e4]
    rfl
  · rw [g4.i (by omega), g3.i (by omega), g2.i (by unfold upC; omega)]; exact p2
  · rw [g4.i (by omega), g3.i (by omega), g2.i (by unfold upC; omega)]; exact p31
  · exact hE2.cg (fun l q => by rw [g4.i (by omega), g3.i (by omega)]) (fun j => by rw [g4.i (by omega), g3.i (by omega)]) (by rw [g4.i (by omega), g3.i (by omega)])
  · exact (h k hk).cg (fun i hi => by rw [g4.i (by omega), w3 _ (by omega), g2.i (by unfold upC; omega), g1.i (by unfold rrI; omega)])
  · rw [w4 0 (by omega), g3.i (by omega), g2.i (by unfold upC; omega), g1.i (by unfold rrI; omega)]
  · rw [w4 1 (by omega), g3.i (by omega), g2.i (by unfold upC; omega), g1.i (by unfold rrI; omega)]
end
