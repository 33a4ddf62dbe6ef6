/-! The calls that only look -/
theorem ite_inl {c : Prop} [Decidable c] {v : Int32} {y : Nat ⊕ Int32} {e : Nat} (h : (if c then .inr v else y) = (.inl e : Nat ⊕ Int32)) : y = .inl e := by
  by_cases k : c
  · rw [if_pos k] at h
    cases h
  · rw [if_neg k] at h
    exact h
theorem a_count_e {S : Sc} {A : St} {x6 x7 x14 x15 x16 x17 : Int32} {w : Int} {e : Nat} (h : a_count S A x6 x7 x14 x15 x16 x17 w = .inl e) : e = 1 := by
  unfold a_count at h
  iterate 18 replace h := ite_inl h
  cases h
  rfl
theorem o_field {M : Mem} (hI : INV M) (x y : Int32) (k : Mem → Option (Int32 × Mem)) : ∃ M2, LB (f_L_field 1 x y 164 M) (fun M1 => f_X12_field 134 x y M1) k = k M2 ∧ INV M2 ∧ mn M2 ≤ mn M + 2 := by
  obtain ⟨s, v, q, p, p', S, V, Pi, A, n, Bs, t, z, fl, a4, a5, im, hI⟩ := hI
  have hI : IV M s v q p p' S V Pi A n Bs t z fl a4 a5 im := hI
  obtain ⟨u1, ⟨dp, u2⟩, ⟨dpv, u3⟩, u4, u5, u6, u7⟩ := hI.2.1
  obtain ⟨x, rfl, x1, x2⟩ := i32_all x
  obtain ⟨y, rfl, y1, y2⟩ := i32_all y
  have e : f_L_field 1 (i32 x) (i32 y) 164 M = LW (f_X11_field 1 (i32 x) (i32 y) M) (fun e M1 => if e = 1 then some (1, M1) else none) := by
    unfold f_L_field
    rw [if_pos hI.1.1.o.1]
    rfl
  rw [e]
  refine op_ro hI ⟨M, c_field hI.ro x y x1 x2 y1 y2, Scr.rf M⟩ (fun M1 I1 => r_field u1 I1.rv x y x1 x2 y1 y2) (fun e M1 w => ?_)
  unfold a_field at w
  (repeat' split at w) <;> first | (cases w; exact ⟨rfl, i1n⟩) | (cases w; exact ⟨rfl, i2n⟩) | cases w
theorem o_name {M : Mem} (hI : INV M) (x y : Int32) (k : Mem → Option (Int32 × Mem)) : ∃ M2, LB (f_L_name 1 x y 164 M) (fun M1 => f_X12_name 134 x y M1) k = k M2 ∧ INV M2 ∧ mn M2 ≤ mn M + 2 := by
  obtain ⟨s, v, q, p, p', S, V, Pi, A, n, Bs, t, z, fl, a4, a5, im, hI⟩ := hI
  have hI : IV M s v q p p' S V Pi A n Bs t z fl a4 a5 im := hI
  obtain ⟨u1, ⟨dp, u2⟩, ⟨dpv, u3⟩, u4, u5, u6, u7⟩ := hI.2.1
  obtain ⟨x, rfl, x1, x2⟩ := i32_all x
  obtain ⟨y, rfl, y1, y2⟩ := i32_all y
  have e : f_L_name 1 (i32 x) (i32 y) 164 M = LW (f_X11_name 1 (i32 x) (i32 y) M) (fun e M1 => if e = 1 then some (1, M1) else none) := by
    unfold f_L_name
    rw [if_pos hI.1.1.o.1]
    rfl
  rw [e]
  refine op_ro hI ⟨M, c_name hI.ro x y x1 x2 y1 y2, Scr.rf M⟩ (fun M1 I1 => r_name u1 I1.rv x y x1 x2 y1 y2) (fun e M1 w => ?_)
  unfold a_name at w
  (repeat' split at w) <;> first | (cases w; exact ⟨rfl, i1n⟩) | (cases w; exact ⟨rfl, i2n⟩) | cases w
theorem o_leaf {M : Mem} (hI : INV M) (x y : Int32) (k : Mem → Option (Int32 × Mem)) : ∃ M2, LB (f_L_leaf 1 x y 164 M) (fun M1 => f_X12_leaf 134 x y M1) k = k M2 ∧ INV M2 ∧ mn M2 ≤ mn M + 2 := by
  obtain ⟨s, v, q, p, p', S, V, Pi, A, n, Bs, t, z, fl, a4, a5, im, hI⟩ := hI
  have hI : IV M s v q p p' S V Pi A n Bs t z fl a4 a5 im := hI
  obtain ⟨u1, ⟨dp, u2⟩, ⟨dpv, u3⟩, u4, u5, u6, u7⟩ := hI.2.1
  obtain ⟨x, rfl, x1, x2⟩ := i32_all x
  obtain ⟨y, rfl, y1, y2⟩ := i32_all y
  have e : f_L_leaf 1 (i32 x) (i32 y) 164 M = LW (f_X11_leaf 1 (i32 x) (i32 y) M) (fun e M1 => if e = 1 then some (1, M1) else none) := by
    unfold f_L_leaf
    rw [if_pos hI.1.1.o.1]
    rfl
  rw [e]
  refine op_ro hI ⟨M, c_leaf hI.ro x y x1 x2 y1 y2, Scr.rf M⟩ (fun M1 I1 => r_leaf u1 I1.rv x y x1 x2 y1 y2) (fun e M1 w => ?_)
  unfold a_leaf at w
  (repeat' split at w) <;> first | (cases w; exact ⟨rfl, i1n⟩) | (cases w; exact ⟨rfl, i2n⟩) | cases w
theorem o_fold {M : Mem} (hI : INV M) (x y : Int32) (k : Mem → Option (Int32 × Mem)) : ∃ M2, LB (f_L_fold 1 x y 164 M) (fun M1 => f_X12_fold 134 x y M1) k = k M2 ∧ INV M2 ∧ mn M2 ≤ mn M + 2 := by
  obtain ⟨s, v, q, p, p', S, V, Pi, A, n, Bs, t, z, fl, a4, a5, im, hI⟩ := hI
  have hI : IV M s v q p p' S V Pi A n Bs t z fl a4 a5 im := hI
  obtain ⟨u1, ⟨dp, u2⟩, ⟨dpv, u3⟩, u4, u5, u6, u7⟩ := hI.2.1
  obtain ⟨x, rfl, x1, x2⟩ := i32_all x
  obtain ⟨y, rfl, y1, y2⟩ := i32_all y
  have e : f_L_fold 1 (i32 x) (i32 y) 164 M = LW (f_X11_fold 1 (i32 x) (i32 y) M) (fun e M1 => if e = 1 then some (1, M1) else none) := by
    unfold f_L_fold
    rw [if_pos hI.1.1.o.1]
    rfl
  rw [e]
  refine op_ro hI ⟨M, c_fold hI.ro x y x1 x2 y1 y2, Scr.rf M⟩ (fun M1 I1 => r_fold u1 I1.rv x y x1 x2 y1 y2) (fun e M1 w => ?_)
  unfold a_fold at w
  (repeat' split at w) <;> first | (cases w; exact ⟨rfl, i1n⟩) | (cases w; exact ⟨rfl, i2n⟩) | cases w
theorem o_pages {M : Mem} (hI : INV M) (x y : Int32) (k : Mem → Option (Int32 × Mem)) : ∃ M2, LB (f_L_pages 1 x y 164 M) (fun M1 => f_X12_pages 134 x y M1) k = k M2 ∧ INV M2 ∧ mn M2 ≤ mn M + 2 := by
  obtain ⟨s, v, q, p, p', S, V, Pi, A, n, Bs, t, z, fl, a4, a5, im, hI⟩ := hI
  have hI : IV M s v q p p' S V Pi A n Bs t z fl a4 a5 im := hI
  obtain ⟨u1, ⟨dp, u2⟩, ⟨dpv, u3⟩, u4, u5, u6, u7⟩ := hI.2.1
  obtain ⟨x, rfl, x1, x2⟩ := i32_all x
  obtain ⟨y, rfl, y1, y2⟩ := i32_all y
  have e : f_L_pages 1 (i32 x) (i32 y) 164 M = LW (f_X11_pages 1 (i32 x) (i32 y) M) (fun e M1 => if e = 1 then some (1, M1) else some (2, M1)) := by
    unfold f_L_pages
    rw [if_pos hI.1.1.o.1]
    rfl
  rw [e]
  refine op_ro hI ⟨M, c_pages hI.ro x y x1 x2 y1 y2, Scr.rf M⟩ (fun M1 I1 => r_pages u1 I1.rv x y x1 x2 y1 y2) (fun e M1 w => ?_)
  unfold a_pages at w
  (repeat' split at w) <;> first | (cases w; exact ⟨rfl, i1n⟩) | (cases w; exact ⟨rfl, i2n⟩) | cases w
theorem o_entry {M : Mem} (hI : INV M) (x y w : Int32) (k : Mem → Option (Int32 × Mem)) : ∃ M2, LB (f_L_entry 1 x y w 164 M) (fun M1 => f_X12_entry 134 x y w M1) k = k M2 ∧ INV M2 ∧ mn M2 ≤ mn M + 2 := by
  obtain ⟨s, v, q, p, p', S, V, Pi, A, n, Bs, t, z, fl, a4, a5, im, hI⟩ := hI
  have hI : IV M s v q p p' S V Pi A n Bs t z fl a4 a5 im := hI
  obtain ⟨u1, ⟨dp, u2⟩, ⟨dpv, u3⟩, u4, u5, u6, u7⟩ := hI.2.1
  obtain ⟨x, rfl, x1, x2⟩ := i32_all x
  obtain ⟨y, rfl, y1, y2⟩ := i32_all y
  obtain ⟨w, rfl, w1, w2⟩ := i32_all w
  have e : f_L_entry 1 (i32 x) (i32 y) (i32 w) 164 M = LW (f_X11_entry 1 (i32 x) (i32 y) (i32 w) M) (fun e M1 => if e = 1 then some (1, M1) else none) := by
    unfold f_L_entry
    rw [if_pos hI.1.1.o.1]
    rfl
  rw [e]
  refine op_ro hI ⟨M, c_entry hI.ro x y w x1 x2 y1 y2 w1 w2, Scr.rf M⟩ (fun M1 I1 => r_entry u1 I1.rv x y w x1 x2 y1 y2 w1 w2) (fun e M1 w => ?_)
  unfold a_entry at w
  (repeat' split at w) <;> first | (cases w; exact ⟨rfl, i1n⟩) | (cases w; exact ⟨rfl, i2n⟩) | cases w
theorem o_skip {M : Mem} (hI : INV M) (x y w : Int32) (k : Mem → Option (Int32 × Mem)) : ∃ M2, LB (f_L_skip 1 x y w 164 M) (fun M1 => f_X12_skip 134 x y w M1) k = k M2 ∧ INV M2 ∧ mn M2 ≤ mn M + 2 := by
  obtain ⟨s, v, q, p, p', S, V, Pi, A, n, Bs, t, z, fl, a4, a5, im, hI⟩ := hI
  have hI : IV M s v q p p' S V Pi A n Bs t z fl a4 a5 im := hI
  obtain ⟨u1, ⟨dp, u2⟩, ⟨dpv, u3⟩, u4, u5, u6, u7⟩ := hI.2.1
  obtain ⟨x, rfl, x1, x2⟩ := i32_all x
  obtain ⟨y, rfl, y1, y2⟩ := i32_all y
  obtain ⟨w, rfl, w1, w2⟩ := i32_all w
  have e : f_L_skip 1 (i32 x) (i32 y) (i32 w) 164 M = LW (f_X11_skip 1 (i32 x) (i32 y) (i32 w) M) (fun e M1 => if e = 1 then some (1, M1) else none) := by
    unfold f_L_skip
    rw [if_pos hI.1.1.o.1]
    rfl
  rw [e]
  refine op_ro hI ⟨M, c_skip hI.ro x y w x1 x2 y1 y2 w1 w2, Scr.rf M⟩ (fun M1 I1 => r_skip u1 I1.rv x y w x1 x2 y1 y2 w1 w2) (fun e M1 w => ?_)
  unfold a_skip at w
  (repeat' split at w) <;> first | (cases w; exact ⟨rfl, i1n⟩) | (cases w; exact ⟨rfl, i2n⟩) | cases w
theorem o_picked {M : Mem} (hI : INV M) (x y w : Int32) (k : Mem → Option (Int32 × Mem)) : ∃ M2, LB (f_L_picked 1 x y w 164 M) (fun M1 => f_X12_picked 134 x y w M1) k = k M2 ∧ INV M2 ∧ mn M2 ≤ mn M + 2 := by
  obtain ⟨s, v, q, p, p', S, V, Pi, A, n, Bs, t, z, fl, a4, a5, im, hI⟩ := hI
  have hI : IV M s v q p p' S V Pi A n Bs t z fl a4 a5 im := hI
  obtain ⟨u1, ⟨dp, u2⟩, ⟨dpv, u3⟩, u4, u5, u6, u7⟩ := hI.2.1
  obtain ⟨x, rfl, x1, x2⟩ := i32_all x
  obtain ⟨y, rfl, y1, y2⟩ := i32_all y
  obtain ⟨w, rfl, w1, w2⟩ := i32_all w
  have e : f_L_picked 1 (i32 x) (i32 y) (i32 w) 164 M = LW (f_X11_picked 1 (i32 x) (i32 y) (i32 w) M) (fun e M1 => if e = 1 then some (1, M1) else none) := by
    unfold f_L_picked
    rw [if_pos hI.1.1.o.1]
    rfl
  rw [e]
  refine op_ro hI ⟨M, c_picked hI.ro x y w x1 x2 y1 y2 w1 w2, Scr.rf M⟩ (fun M1 I1 => r_picked u1 I1.rv x y w x1 x2 y1 y2 w1 w2) (fun e M1 w => ?_)
  unfold a_picked at w
  (repeat' split at w) <;> first | (cases w; exact ⟨rfl, i1n⟩) | (cases w; exact ⟨rfl, i2n⟩) | cases w
theorem o_next {M : Mem} (hI : INV M) (x y w : Int32) (k : Mem → Option (Int32 × Mem)) : ∃ M2, LB (f_L_next 1 x y w 164 M) (fun M1 => f_X12_next 134 x y w M1) k = k M2 ∧ INV M2 ∧ mn M2 ≤ mn M + 2 := by
  obtain ⟨s, v, q, p, p', S, V, Pi, A, n, Bs, t, z, fl, a4, a5, im, hI⟩ := hI
  have hI : IV M s v q p p' S V Pi A n Bs t z fl a4 a5 im := hI
  obtain ⟨u1, ⟨dp, u2⟩, ⟨dpv, u3⟩, u4, u5, u6, u7⟩ := hI.2.1
  obtain ⟨x, rfl, x1, x2⟩ := i32_all x
  obtain ⟨y, rfl, y1, y2⟩ := i32_all y
  obtain ⟨w, rfl, w1, w2⟩ := i32_all w
  have e : f_L_next 1 (i32 x) (i32 y) (i32 w) 164 M = LW (f_X11_next 1 (i32 x) (i32 y) (i32 w) M) (fun e M1 => if e = 1 then some (1, M1) else some (2, M1)) := by
    unfold f_L_next
    rw [if_pos hI.1.1.o.1]
    rfl
  rw [e]
  refine op_ro hI ⟨M, c_next hI.ro x y w x1 x2 y1 y2 w1 w2, Scr.rf M⟩ (fun M1 I1 => r_next u1 I1.rv x y w x1 x2 y1 y2 w1 w2) (fun e M1 w => ?_)
  unfold a_next at w
  (repeat' split at w) <;> first | (cases w; exact ⟨rfl, i1n⟩) | (cases w; exact ⟨rfl, i2n⟩) | cases w
theorem o_reads {M : Mem} (hI : INV M) (x y : Int32) (k : Mem → Option (Int32 × Mem)) : ∃ M2, LB (f_L_reads 1 x y 164 M) (fun M1 => f_X12_reads 134 x y M1) k = k M2 ∧ INV M2 ∧ mn M2 ≤ mn M + 2 := by
  obtain ⟨s, v, q, p, p', S, V, Pi, A, n, Bs, t, z, fl, a4, a5, im, hI⟩ := hI
  have hI : IV M s v q p p' S V Pi A n Bs t z fl a4 a5 im := hI
  obtain ⟨u1, ⟨dp, u2⟩, ⟨dpv, u3⟩, u4, u5, u6, u7⟩ := hI.2.1
  obtain ⟨x, rfl, x1, x2⟩ := i32_all x
  obtain ⟨y, rfl, y1, y2⟩ := i32_all y
  have e : f_L_reads 1 (i32 x) (i32 y) 164 M = LW (f_X11_reads 1 (i32 x) (i32 y) M) (fun e M1 => if e = 1 then some (1, M1) else some (2, M1)) := by
    unfold f_L_reads
    rw [if_pos hI.1.1.o.1]
    rfl
  rw [e]
  refine op_ro hI (c_reads (set := y) hI.ro x x1 x2 y1 y2) (fun M1 I1 => r_reads (set := y) u1 I1.rv x x1 x2 y1 y2) (fun e M1 w => ?_)
  unfold a_reads at w
  (repeat' split at w) <;> first | (cases w; exact ⟨rfl, i1n⟩) | (cases w; exact ⟨rfl, i2n⟩) | cases w
theorem o_length {M : Mem} (hI : INV M) (x y : Int32) (k : Mem → Option (Int32 × Mem)) : ∃ M2, LB (f_L_length 1 x y 164 M) (fun M1 => f_X12_length 134 x y M1) k = k M2 ∧ INV M2 ∧ mn M2 ≤ mn M + 2 := by
  obtain ⟨s, v, q, p, p', S, V, Pi, A, n, Bs, t, z, fl, a4, a5, im, hI⟩ := hI
  have hI : IV M s v q p p' S V Pi A n Bs t z fl a4 a5 im := hI
  obtain ⟨u1, ⟨dp, u2⟩, ⟨dpv, u3⟩, u4, u5, u6, u7⟩ := hI.2.1
  obtain ⟨x, rfl, x1, x2⟩ := i32_all x
  obtain ⟨y, rfl, y1, y2⟩ := i32_all y
  have e : f_L_length 1 (i32 x) (i32 y) 164 M = LW (f_X11_length 1 (i32 x) (i32 y) M) (fun e M1 => if e = 1 then some (1, M1) else some (2, M1)) := by
    unfold f_L_length
    rw [if_pos hI.1.1.o.1]
    rfl
  rw [e]
  refine op_ro hI (c_length (set := y) hI.ro u2 x x1 x2 y1 y2) (fun M1 I1 => r_length (set := y) u1 I1.rv u2 x x1 x2 y1 y2) (fun e M1 w => ?_)
  unfold a_length at w
  (repeat' split at w) <;> first | (cases w; exact ⟨rfl, i1n⟩) | (cases w; exact ⟨rfl, i2n⟩) | cases w
theorem o_sign {M : Mem} (hI : INV M) (x y w : Int32) (k : Mem → Option (Int32 × Mem)) : ∃ M2, LB (f_L_sign 1 x y w 164 M) (fun M1 => f_X12_sign 134 x y w M1) k = k M2 ∧ INV M2 ∧ mn M2 ≤ mn M + 2 := by
  obtain ⟨s, v, q, p, p', S, V, Pi, A, n, Bs, t, z, fl, a4, a5, im, hI⟩ := hI
  have hI : IV M s v q p p' S V Pi A n Bs t z fl a4 a5 im := hI
  obtain ⟨u1, ⟨dp, u2⟩, ⟨dpv, u3⟩, u4, u5, u6, u7⟩ := hI.2.1
  obtain ⟨x, rfl, x1, x2⟩ := i32_all x
  obtain ⟨y, rfl, y1, y2⟩ := i32_all y
  obtain ⟨w, rfl, w1, w2⟩ := i32_all w
  have e : f_L_sign 1 (i32 x) (i32 y) (i32 w) 164 M = LW (f_X11_sign 1 (i32 x) (i32 y) (i32 w) M) (fun e M1 => if e = 1 then some (1, M1) else some (2, M1)) := by
    unfold f_L_sign
    rw [if_pos hI.1.1.o.1]
    rfl
  rw [e]
  refine op_ro hI (c_sign (set := y) hI.ro u2 x w x1 x2 y1 y2 w1 w2) (fun M1 I1 => r_sign (set := y) u1 I1.rv u2 x w x1 x2 y1 y2 w1 w2) (fun e M1 w => ?_)
  unfold a_sign at w
  (repeat' split at w) <;> first | (cases w; exact ⟨rfl, i1n⟩) | (cases w; exact ⟨rfl, i2n⟩) | cases w
theorem o_seen {M : Mem} (hI : INV M) (x : Int32) (k : Mem → Option (Int32 × Mem)) : ∃ M2, LB (f_L_seen 1 x 164 M) (fun M1 => f_X12_seen 134 x M1) k = k M2 ∧ INV M2 ∧ mn M2 ≤ mn M + 2 := by
  obtain ⟨s, v, q, p, p', S, V, Pi, A, n, Bs, t, z, fl, a4, a5, im, hI⟩ := hI
  have hI : IV M s v q p p' S V Pi A n Bs t z fl a4 a5 im := hI
  obtain ⟨u1, ⟨dp, u2⟩, ⟨dpv, u3⟩, u4, u5, u6, u7⟩ := hI.2.1
  obtain ⟨x, rfl, x1, x2⟩ := i32_all x
  have e : f_L_seen 1 (i32 x) 164 M = LW (f_X11_seen 1 (i32 x) M) (fun e M1 => if e = 1 then some (1, M1) else none) := by
    unfold f_L_seen
    rw [if_pos hI.1.1.o.1]
    rfl
  rw [e]
  refine op_ro hI (c_seen hI.ro hI.2.2.1.2.2.1.2.1 u3 x x1 x2) (fun M1 I1 => r_seen u1 I1.rv I1.2.2.2.1.2.1 u3 x x1 x2) (fun e M1 w => ?_)
  unfold a_seen at w
  (repeat' split at w) <;> first | (cases w; exact ⟨rfl, i1n⟩) | (cases w; exact ⟨rfl, i2n⟩) | cases w
theorem o_seenSign {M : Mem} (hI : INV M) (x y : Int32) (k : Mem → Option (Int32 × Mem)) : ∃ M2, LB (f_L_seenSign 1 x y 164 M) (fun M1 => f_X12_seenSign 134 x y M1) k = k M2 ∧ INV M2 ∧ mn M2 ≤ mn M + 2 := by
  obtain ⟨s, v, q, p, p', S, V, Pi, A, n, Bs, t, z, fl, a4, a5, im, hI⟩ := hI
  have hI : IV M s v q p p' S V Pi A n Bs t z fl a4 a5 im := hI
  obtain ⟨u1, ⟨dp, u2⟩, ⟨dpv, u3⟩, u4, u5, u6, u7⟩ := hI.2.1
  obtain ⟨x, rfl, x1, x2⟩ := i32_all x
  obtain ⟨y, rfl, y1, y2⟩ := i32_all y
  have e : f_L_seenSign 1 (i32 x) (i32 y) 164 M = LW (f_X11_seenSign 1 (i32 x) (i32 y) M) (fun e M1 => if e = 1 then some (1, M1) else none) := by
    unfold f_L_seenSign
    rw [if_pos hI.1.1.o.1]
    rfl
  rw [e]
  refine op_ro hI (c_seenSign hI.ro hI.2.2.1.2.2.1.2.1 u3 x y x1 x2 y1 y2) (fun M1 I1 => r_seenSign u1 I1.rv I1.2.2.2.1.2.1 u3 x y x1 x2 y1 y2) (fun e M1 w => ?_)
  unfold a_seenSign at w
  (repeat' split at w) <;> first | (cases w; exact ⟨rfl, i1n⟩) | (cases w; exact ⟨rfl, i2n⟩) | cases w
theorem o_piped {M : Mem} (hI : INV M) (x y : Int32) (k : Mem → Option (Int32 × Mem)) : ∃ M2, LB (f_L_piped 1 x y 164 M) (fun M1 => f_X12_piped 134 x y M1) k = k M2 ∧ INV M2 ∧ mn M2 ≤ mn M + 2 := by
  obtain ⟨s, v, q, p, p', S, V, Pi, A, n, Bs, t, z, fl, a4, a5, im, hI⟩ := hI
  have hI : IV M s v q p p' S V Pi A n Bs t z fl a4 a5 im := hI
  obtain ⟨u1, ⟨dp, u2⟩, ⟨dpv, u3⟩, u4, u5, u6, u7⟩ := hI.2.1
  obtain ⟨x, rfl, x1, x2⟩ := i32_all x
  obtain ⟨y, rfl, y1, y2⟩ := i32_all y
  have e : f_L_piped 1 (i32 x) (i32 y) 164 M = LW (f_X11_piped 1 (i32 x) (i32 y) M) (fun e M1 => if e = 1 then some (1, M1) else none) := by
    unfold f_L_piped
    rw [if_pos hI.1.1.o.1]
    rfl
  rw [e]
  refine op_ro hI (c_piped hI.ro hI.2.2.1.1.2.2.2.2.2.2.1 hI.2.2.1.2.1.2.2.2.1 (hI.1.pi hI.2.2.1.1.2.2.2.2.2.2.1) u4 hI.2.2.1.2.2.1.2.2 x y x1 x2 y1 y2) (fun M1 I1 => r_piped u1 I1.rv u4 I1.2.2.2.1.2.2 x y x1 x2 y1 y2) (fun e M1 w => ?_)
  unfold a_piped at w
  (repeat' split at w) <;> first | (cases w; exact ⟨rfl, i1n⟩) | (cases w; exact ⟨rfl, i2n⟩) | cases w
theorem o_years {M : Mem} (hI : INV M) (x y w : Int32) (k : Mem → Option (Int32 × Mem)) : ∃ M2, LB (f_L_years 1 x y w 164 M) (fun M1 => f_X12_years 134 x y w M1) k = k M2 ∧ INV M2 ∧ mn M2 ≤ mn M + 2 := by
  obtain ⟨s, v, q, p, p', S, V, Pi, A, n, Bs, t, z, fl, a4, a5, im, hI⟩ := hI
  have hI : IV M s v q p p' S V Pi A n Bs t z fl a4 a5 im := hI
  obtain ⟨u1, ⟨dp, u2⟩, ⟨dpv, u3⟩, u4, u5, u6, u7⟩ := hI.2.1
  obtain ⟨y, rfl, y1, y2⟩ := i32_all y
  obtain ⟨w, rfl, w1, w2⟩ := i32_all w
  have e : f_L_years 1 x (i32 y) (i32 w) 164 M = LW (f_X11_years 1 x (i32 y) (i32 w) M) (fun e M1 => if e = 1 then some (1, M1) else some (2, M1)) := by
    unfold f_L_years
    rw [if_pos hI.1.1.o.1]
    rfl
  rw [e]
  refine op_ro hI (c_years hI.ro u2 x y w y1 y2 w1 w2) (fun M1 I1 => r_years u1 I1.rv u2 x y w y1 y2 w1 w2) (fun e M1 w => ?_)
  unfold a_years at w
  (repeat' split at w) <;> first | (cases w; exact ⟨rfl, i1n⟩) | (cases w; exact ⟨rfl, i2n⟩) | cases w
theorem o_count {M : Mem} (hI : INV M) (x : Int32) (k : Mem → Option (Int32 × Mem)) : ∃ M2, LB (f_L_count 1 x 164 M) (fun M1 => f_X12_count 134 x M1) k = k M2 ∧ INV M2 ∧ mn M2 ≤ mn M + 2 := by
  obtain ⟨s, v, q, p, p', S, V, Pi, A, n, Bs, t, z, fl, a4, a5, im, hI⟩ := hI
  have hI : IV M s v q p p' S V Pi A n Bs t z fl a4 a5 im := hI
  obtain ⟨u1, ⟨dp, u2⟩, ⟨dpv, u3⟩, u4, u5, u6, u7⟩ := hI.2.1
  obtain ⟨x, rfl, x1, x2⟩ := i32_all x
  have hv9 : mR M 1 9 = v := hI.2.2.1.2.1.2.1
  have hp11 : mR M 1 11 = p := hI.2.2.1.2.1.2.2.2.1
  have kv : mK M (mR M 1 9) = 6 := by rw [hv9]; exact (hI.1.sh hI.2.2.1.1.2.1).o.1
  have kp : mK M (mR M 1 11) = 4 := by rw [hp11]; exact (hI.1.pi hI.2.2.1.1.2.2.2.2.2.2.1).o.1
  have cc : ∀ M1, IV M1 s v q p p' S V Pi A n Bs t z fl a4 a5 im → a_count S A (mI M1 147 1) (mI M1 134 47) (mI M1 134 31) (mI M1 134 5) (mI M1 138 0) (mI M1 138 1) x = a_count S A (mI M (mR M 1 9) 0) (mI M (mR M 1 11) 0) (mI M 18 3) (mI M 2 1) (mI M 18 4) (mI M 18 5) x := fun M1 I1 => by
    obtain ⟨-, -, -, ⟨⟨-, rv, rp⟩, rt, ⟨-, r4, r5⟩, ra, -⟩⟩ := I1
    obtain ⟨-, -, ⟨-, -, ⟨-, cv, cp⟩, ct, ⟨-, c4, c5⟩, ca, -⟩, -⟩ := hI
    rw [hv9, hp11, rv.1, rp.1, ra.2.1, rt.1, r4, r5, cv.2.2.2.2.1.1, cp.1, ca.2.2.2.1, ct.1, c4, c5]
  have e : f_L_count 1 (i32 x) 164 M = LW (f_X11_count 1 (i32 x) M) (fun e M1 => if e = 1 then some (1, M1) else none) := by
    unfold f_L_count
    rw [if_pos hI.1.1.o.1]
    rfl
  rw [e]
  refine op_ro hI (c_count hI.ro kv kp x x1 x2) (fun M1 I1 => by rw [← cc M1 I1]; exact r_count u1 I1.rv x x1 x2) (fun e M1 w => ?_)
  obtain rfl := a_count_e w
  exact ⟨rfl, i1n⟩
