/-! undo, fault: the class's calls, and the reference's fault -/
section
variable {M : Mem} {A : St} {S : Sc} {s n : Nat} {Bs : Nat → St}
theorem c_undo (h : RO M s S A) (hac : ActsC M 18 20 S.nl n Bs) (hBs : Bs n = A) : ∃ M', f_X11_undo 1 M = some (if n = 0 then i32 (-1) else i32 ((n - 1 : Nat) : Int), M') ∧ (if n = 0 then M' = M else Chg acI M M' ∧ CC M' 21 S.fu (Bs (n - 1)) ∧ mI M' 18 1 = i32 (Bs (n - 1)).rc ∧ ActsC M' 18 20 S.nl (n - 1) Bs) := by
  obtain ⟨hW, hV, -, h8⟩ := h
  have b := hW.1.2.1
  obtain ⟨hL, hc, hs, hC, hA, hr, h88, h112, hm⟩ := hV
  have k1 : mK M 1 = 12 := by simp only [hL.o]
  have r6 : mR M 1 6 = 18 := by simp only [hL.o]
  have k18 : mK M 18 = 8 := by simp only [hL.o]
  have ks : mK M s = 6 := hs.o.1
  have h3 := hac.2.1
  have hn := hac.1
  unfold f_X11_undo
  rw [if_pos k1, r6, if_pos k18, h3]
  by_cases c : n = 0
  · subst c
    simp only [if_true]
    refine ⟨M, ?_, rfl⟩
    rw [if_pos (by rfl)]
    rfl
  · simp only [if_neg c]
    have nz : ¬ (i32 (n : Int) = i32 0) := i32_ne (by omega) (by omega) (by omega) (by omega) (by omega)
    obtain ⟨M', e, g, w1, w2, w3⟩ := X7_undoLast (fu := S.fu) (nl := S.nl) (by omega) (by omega) hL hc hA hr hac hBs
    have hL' := hL.all g
    have k1' : mK M' 1 = 12 := by simp only [hL'.o]
    have r6' : mR M' 1 6 = 18 := by simp only [hL'.o]
    have k18' : mK M' 18 = 8 := by simp only [hL'.o]
    refine ⟨M', ?_, g, w1, w2, by omega, w3, fun k hk => ?_⟩
    · rw [if_neg (by exact nz), h8, if_pos ks, hC.2.1, bx e, if_pos k1', r6', if_pos k18', w3]
    · rw [g.r]
      exact (hac.2.2 k (by omega)).old (g.old acI_lt)
theorem c_fault (hL : CLay M) : f_X11_fault 1 M = some (mI M 1 14, M) := by
  have k1 : mK M 1 = 12 := by simp only [hL.o]
  unfold f_X11_fault
  rw [if_pos k1]
theorem r_fault (hL : RLay M) : f_X12_fault 134 M = some (mI M 134 14, sI M 134 2 (0 : Int32)) := by
  unfold f_X12_fault
  rw [if_pos hL.k, ap_of, if_pos (by exact hL.k), mI_sI_ne (by omega)]
end
