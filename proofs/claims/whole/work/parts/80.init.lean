/-! PART II. The memory behind the constructors, by the kernel -/
def M00 : Mem := (fun _ => 0, fun _ => 0, fun _ _ => 0, fun _ _ => 0, fun _ _ => 0, 0)
def MA : Mem := ((f_X11_init 1 (mNew M00 12 0)).map (fun p => p.2)).getD M00
set_option maxRecDepth 100000 in
theorem MA_some : (f_X11_init 1 (mNew M00 12 0)).isSome = true := by decide +kernel
theorem MA_eq : f_X11_init 1 (mNew M00 12 0) = some ((), MA) := by
  have h := MA_some
  unfold MA
  cases hx : f_X11_init 1 (mNew M00 12 0) with
  | none => rw [hx] at h; cases h
  | some p => obtain ⟨⟨⟩, m⟩ := p; rfl
theorem MA_n : mn MA = 133 := by decide +kernel
def MB : Mem := ((f_X12_init 134 (mNew MA 13 0)).map (fun p => p.2)).getD M00
set_option maxRecDepth 100000 in
theorem MB_some : (f_X12_init 134 (mNew MA 13 0)).isSome = true := by decide +kernel
theorem MB_eq : f_X12_init 134 (mNew MA 13 0) = some ((), MB) := by
  have h := MB_some
  unfold MB
  cases hx : f_X12_init 134 (mNew MA 13 0) with
  | none => rw [hx] at h; cases h
  | some p => obtain ⟨⟨⟩, m⟩ := p; rfl
theorem MB_n : mn MB = 163 := by decide +kernel
theorem bnd_of {α β : Type} {r : α} {M : Mem} {f : α → Mem → Option β} : bnd (some (r, M)) f = f r M := rfl
def fl (I11 I12 : Nat → Mem → Option (Unit × Mem)) (LF : Nat → Nat → Nat → Int32 → Mem → Option (Int32 × Mem)) (M : Mem) : Option (Int32 × Mem) :=
  if mn M + 1 < 900000 then
    if okrB M [4000000] = true then
    ap (mNew M 12 0) fun M2 =>
    if ¬ (mn M + 1) = 0 then
      if okrB M2 [4000000, (mn M + 1)] = true then
        bnd (I11 (mn M + 1) M2) fun _ M4 =>
        if mn M4 + 1 < 900000 then
          if okrB M4 [4000000, (mn M + 1)] = true then
          ap (mNew M4 13 0) fun M8 =>
          if ¬ (mn M4 + 1) = 0 then
            if okrB M8 [4000000, (mn M + 1), (mn M4 + 1)] = true then
              bnd (I12 (mn M4 + 1) M8) fun _ M10 =>
              if mn M10 + 1 < 900000 then
                if okrB M10 [4000000, (mn M + 1), (mn M4 + 1)] = true then
                  ap (mNew M10 22 (1 : Int32).toNatClampNeg) fun M14 =>
                  LF (mn M + 1) (mn M4 + 1) (mn M10 + 1) (0 : Int32) M14
                else none
              else none
            else none
          else none
          else none
        else none
      else none
    else none
    else none
  else none
theorem fl_gen {I11 I12 : Nat → Mem → Option (Unit × Mem)} {LF : Nat → Nat → Nat → Int32 → Mem → Option (Int32 × Mem)} {A B M : Mem} (n0 : mn M = 0) (o1 : okrB M [4000000] = true) (o2 : okrB (mNew M 12 0) [4000000, 1] = true) (n1 : mn A = 133) (n2 : mn B = 163) (o3 : okrB A [4000000, 1] = true) (o4 : okrB (mNew A 13 0) [4000000, 1, 134] = true) (o5 : okrB B [4000000, 1, 134] = true) (e1 : I11 1 (mNew M 12 0) = some ((), A)) (e2 : I12 134 (mNew A 13 0) = some ((), B)) : fl I11 I12 LF M = LF 1 134 164 0 (mNew B 22 1) := by
  have hc : (1 : Int32).toNatClampNeg = 1 := by decide +kernel
  unfold fl
  simp only [ap, n0, o1, Nat.zero_add, o2, e1, bnd_of, n1, o3, o4, e2, n2, o5, hc, Nat.reduceAdd, if_true, Nat.succ_ne_zero, not_false_eq_true, Nat.reduceEqDiff]
  rw [if_pos (by omega), if_pos (by omega), if_pos (by omega)]
theorem f_law_fl (L : Nat) (xs : Nat → Int32) (M : Mem) : f_law L xs M = fl f_X11_init f_X12_init (f_L_law_23 L xs 600) M := by
  unfold f_law fl
  rfl
theorem MA_o : okrB MA [4000000, 1] = true := by decide +kernel
theorem MA_o2 : okrB (mNew MA 13 0) [4000000, 1, 134] = true := by decide +kernel
theorem MB_o : okrB MB [4000000, 1, 134] = true := by decide +kernel
theorem law_init (L : Nat) (xs : Nat → Int32) : f_law L xs M00 = f_L_law_23 L xs 600 1 134 164 0 (mNew MB 22 1) := (f_law_fl L xs M00).trans (fl_gen rfl (by decide +kernel) (by decide +kernel) MA_n MB_n MA_o MA_o2 MB_o MA_eq MB_eq)
