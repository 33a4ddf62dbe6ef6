/-! A call of the law: the class's, caught; the reference's; both compared -/
def LW (x : Option ((Nat ⊕ Int32) × Mem)) (h : Nat → Mem → Option (Int32 × Mem)) : Option (Int32 × Mem) :=
  catchX x h fun r M1 =>
    if mK M1 164 = 22 then
      if inB 0 (mN M1 164) = true then
        ap (sJ M1 164 (0 : Int32).toNatClampNeg r.toInt64) fun M2 =>
        some (0, M2)
      else none
    else none
def LB (c : Option (Int32 × Mem)) (rf : Mem → Option (Int32 × Mem)) (k : Mem → Option (Int32 × Mem)) : Option (Int32 × Mem) :=
  bnd c fun r24 M23 =>
  if mK M23 134 = 13 then
    bnd (rf M23) fun r28 M27 =>
    if mK M27 134 = 13 then
      bnd (f_X12_thrown 134 M27) fun r31 M30 =>
      if r31 = r24 then
        if r24 = 0 then
          if mK M30 164 = 22 then
            if inB (0 : Int32) (mN M30 164) = true then
              if (lg_cmp (mJ M30 164 (0 : Int32).toNatClampNeg) r28.toInt64) = 0 then
                k M30
              else
                some ((0 : Int32), M30)
            else none
          else none
        else
          k M30
      else
        some ((0 : Int32), M30)
    else none
  else none
section
variable {M M1 M2 M' : Mem} {s v q p p' n z : Nat} {S V : Sc} {A : St} {Pi : Pp} {Bs : Nat → St} {t : Nat → Int} {fl a4 a5 : Int32} {im : Im}
variable {h : Nat → Mem → Option (Int32 × Mem)} {rf k : Mem → Option (Int32 × Mem)}
theorem Gw.sJ (M : Mem) (x : Int64) : Gw (fun _ _ => False) (fun _ _ => False) M (sJ M 164 0 x) := ⟨fun _ _ => ⟨rfl, rfl⟩, fun _ _ _ _ => rfl, fun _ _ _ _ => rfl, ⟨Nat.le_refl _, fun _ _ _ => ⟨rfl, rfl, fun _ => rfl, fun _ => rfl⟩⟩⟩
/-- the class answered r -/
theorem LB_inr {r : Int32} (l1 : Lay M1) (e : rf (sJ M1 164 0 r.toInt64) = some (r, M2)) (l2 : Lay M2) (hJ : mJ M2 = mJ (sJ M1 164 0 r.toInt64)) (h2 : mI M2 134 2 = i32 0) : LB (LW (some (.inr r, M1)) h) rf k = k M2 := by
  have c0 : (0 : Int32).toNatClampNeg = 0 := by decide
  have i0 : inB (0 : Int32) 1 = true := by decide
  have e1 : LW (some (.inr r, M1)) h = some (0, sJ M1 164 0 r.toInt64) := by
    unfold LW catchX
    show (if mK M1 164 = 22 then _ else none) = _
    rw [if_pos l1.2.2.2.2.2.2.2.1, l1.2.2.2.2.2.2.2.2, if_pos i0, c0]
    rfl
  have e2 : f_X12_thrown 134 M2 = some (i32 0, M2) := by
    unfold f_X12_thrown
    rw [if_pos l2.2.1.k, h2]
  unfold LB
  rw [e1, bnd_of, if_pos (by exact l1.2.1.k), e, bnd_of, if_pos l2.2.1.k, e2, bnd_of, if_pos (by rfl), if_pos rfl, if_pos l2.2.2.2.2.2.2.2.1, l2.2.2.2.2.2.2.2.2, if_pos i0, c0, if_pos ((lg_cmp_eq _ _).mpr (by rw [hJ, mJ_sJ_eq]))]
/-- the class threw -/
theorem LB_inl {e : Nat} {c x : Int32} (l1 : Lay M1) (hh : h e M1 = some (c, M1)) (hc : ¬ c = 0) (hr : rf M1 = some (x, M2)) (l2 : Lay M2) (h2 : mI M2 134 2 = c) : LB (LW (some (.inl e, M1)) h) rf k = k M2 := by
  have e1 : LW (some (.inl e, M1)) h = some (c, M1) := hh
  have e2 : f_X12_thrown 134 M2 = some (c, M2) := by
    unfold f_X12_thrown
    rw [if_pos l2.2.1.k, h2]
  unfold LB
  rw [e1, bnd_of, if_pos l1.2.1.k, hr, bnd_of, if_pos l2.2.1.k, e2, bnd_of, if_pos rfl, if_neg hc]
theorem sc_gw {M M' : Mem} (g : Scr M M') : Gw ScI ScR M M' := g.gw (fun _ _ x => x) (fun _ _ x => x)
theorem ScR_dy (a j : Nat) (x : ScR a j) : DyR a j := by
  unfold ScR at x
  unfold DyR
  omega
/-- all that stands, the rest fixed -/
def IV (M : Mem) (s v q p p' : Nat) (S V : Sc) (Pi : Pp) (A : St) (n : Nat) (Bs : Nat → St) (t : Nat → Int) (z : Nat) (fl a4 a5 : Int32) (im : Im) : Prop := Lay M ∧ PU S V Pi A n Bs im ∧ CI M s v q p p' S V Pi A n Bs t z fl a4 a5 im ∧ RI M S V Pi A n Bs t z fl a4 a5 im
theorem IV.inv (h : IV M s v q p p' S V Pi A n Bs t z fl a4 a5 im) : INV M := ⟨s, v, q, p, p', S, V, Pi, A, n, Bs, t, z, fl, a4, a5, im, h⟩
theorem IV.scr (h : IV M s v q p p' S V Pi A n Bs t z fl a4 a5 im) (g : Scr M M') : IV M' s v q p p' S V Pi A n Bs t z fl a4 a5 im := ⟨h.1.gw (sc_gw g) ScR_dy, h.2.1, h.2.2.1.keep (sc_gw g) (fun _ _ x => Or.inl x) (fun _ _ x => x), h.2.2.2.keep h.2.1 (sc_gw g) (fun _ _ x => Or.inl x)⟩
theorem IV.sJ (h : IV M s v q p p' S V Pi A n Bs t z fl a4 a5 im) (x : Int64) : IV (sJ M 164 0 x) s v q p p' S V Pi A n Bs t z fl a4 a5 im := ⟨h.1.gw (Gw.sJ M x) (fun _ _ x => x.elim), h.2.1, h.2.2.1.keep (Gw.sJ M x) (fun _ _ x => x.elim) (fun _ _ x => x.elim), h.2.2.2.keep h.2.1 (Gw.sJ M x) (fun _ _ x => x.elim)⟩
theorem IV.ro (h : IV M s v q p p' S V Pi A n Bs t z fl a4 a5 im) : RO M s S A := RO_of h.1 h.2.1 h.2.2.1 h.2.2.2
theorem IV.rv (h : IV M s v q p p' S V Pi A n Bs t z fl a4 a5 im) : RV M S A := h.ro.2.2.1
/-- a call that only looks -/
theorem op_ro (hI : IV M s v q p p' S V Pi A n Bs t z fl a4 a5 im) {x : Option ((Nat ⊕ Int32) × Mem)} {a : Nat ⊕ Int32} (hc : ∃ M1, x = some (a, M1) ∧ Scr M M1) (hr : ∀ M1, IV M1 s v q p p' S V Pi A n Bs t z fl a4 a5 im → ∃ y M2, rf M1 = some (y, M2) ∧ RA M1 M2 a y) (hh : ∀ e M1, a = .inl e → h e M1 = some (i32 e, M1) ∧ ¬ i32 (e : Int) = 0) : ∃ M2, LB (LW x h) rf k = k M2 ∧ INV M2 ∧ mn M2 ≤ mn M + 2 := by
  obtain ⟨M1, rfl, g1⟩ := hc
  have I1 := hI.scr g1
  match a, hr, hh with
  | .inr r, hr, hh =>
    obtain ⟨y, M2, e2, g2, r2, hy⟩ := hr _ (I1.sJ r.toInt64)
    have I2 := (I1.sJ r.toInt64).scr g2
    subst hy
    refine ⟨M2, LB_inr I1.1 e2 I2.1 g2.2.2.2.1 r2, I2.inv, ?_⟩
    rw [g2.2.2.1, mn_sJ, g1.2.2.1]
    omega
  | .inl e, hr, hh =>
    obtain ⟨h1, h2⟩ := hh e M1 rfl
    obtain ⟨y, M2, e2, g2, r2⟩ := hr _ I1
    have I2 := I1.scr g2
    refine ⟨M2, LB_inl I1.1 h1 h2 e2 I2.1 r2, I2.inv, ?_⟩
    rw [g2.2.2.1, g1.2.2.1]
    omega
end
theorem i1n : ¬ i32 ((1 : Nat) : Int) = 0 := by decide
theorem i2n : ¬ i32 ((2 : Nat) : Int) = 0 := by decide
