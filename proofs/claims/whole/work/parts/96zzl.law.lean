/-! schema in the law -/
theorem VT_00 (T : Sc) : VT T T00 (fun _ => 0) := ⟨Nat.zero_le _, fun f hf => absurd hf (Nat.not_lt_zero f), fun f hf => absurd hf (Nat.not_lt_zero f), fun f hf => absurd hf (Nat.not_lt_zero f), fun f hf => absurd hf (Nat.not_lt_zero f), fun f hf => absurd hf (Nat.not_lt_zero f), fun f hf => absurd hf (Nat.not_lt_zero f), fun f hf => absurd hf (Nat.not_lt_zero f)⟩
section
variable {M M1 M2 M' : Mem}
theorem o_schema (hI : INV M) (x : Int32) (k : Mem → Option (Int32 × Mem)) : ∃ M2, LB (f_L_schema 1 x 164 M) (fun M1 => f_X12_schema 134 x M1) k = k M2 ∧ INV M2 ∧ mn M2 ≤ mn M + 2 := by
  obtain ⟨s, v, q, p, p', S, V, Pi, A, n, Bs, t, z, fl, a4, a5, im, hI⟩ := hI
  have hI : IV M s v q p p' S V Pi A n Bs t z fl a4 a5 im := hI
  have hu := hI.2.1
  obtain ⟨u1, u2, ⟨dpv, u3⟩, u4, u5, u6, u7⟩ := hI.2.1
  obtain ⟨c1, ⟨d1, d2, d3, d4, d5⟩, ⟨s1, s2, s3⟩, c4, ⟨c5, c6, c7⟩, c8, c9⟩ := hI.2.2.1
  have hR := hI.2.2.2
  obtain ⟨x, rfl, x1, x2⟩ := i32_all x
  have e : f_L_schema 1 (i32 x) 164 M = LW (f_X11_schema 1 (i32 x) M) (fun e M1 => if e = 1 then none else some (1, M1)) := by
    unfold f_L_schema
    rw [if_pos hI.1.1.o.1]
    rfl
  obtain ⟨p1, p2, p3, p4, p5, p6, p7, p8, p9⟩ := c1
  obtain ⟨M1, e1, r1⟩ := c_schema hI.1.1 hI.1.2.2.1 c4 hI.1.m (hI.1.sh p3) (by omega) (by omega) (hI.1.sh p2) (by omega) (by omega) (by omega) (by omega) (hI.1.pi p7) p7 d1 d2 d3 d4 x x1 x2
  rw [e, e1]
  by_cases c : 0 ≤ x ∧ x ≤ z
  · rw [if_pos c] at r1
    obtain ⟨t0, r1⟩ := r1
    have hs : ∀ a j, scI q a j → a < 134 := fun a j x => by unfold scI vwI at x; omega
    have hq : ∀ a j, scR a j → a = 4 ∨ (a = 1 ∧ (j = 8 ∨ j = 10)) := fun a j x => x
    have hd : ∀ a j, scR a j → DyR a j := fun a j x => by have := hq a j x; unfold DyR; omega
    have gw0 : Gw (scI q) scR M M1 := by
      generalize shF false T00 t x.toNat (x.toNat + 1) 0 T00 (-1) 0 = w at r1
      match w, r1 with
      | .inl y, r1 => exact (r1.1.mono (fun a j h => Or.inl h) (fun _ _ h => h)).gw (fun a j x => by have := hs a j x; omega) (fun a j x => by have := hq a j x; omega)
      | .inr T, r1 => exact r1.1.gw (fun a j x => by have := hs a j x; omega) (fun a j x => by have := hq a j x; omega)
    have mn1 : mn M1 = mn M := by
      generalize shF false T00 t x.toNat (x.toNat + 1) 0 T00 (-1) 0 = w at r1
      match w, r1 with
      | .inl y, r1 => exact r1.1.2.2.1
      | .inr T, r1 => exact r1.1.2.2.1
    have l1 := hI.1.gw gw0 hd
    have R1 := hI.R gw0 (fun a j x => Or.inr (hs a j x))
    obtain ⟨r, ea⟩ := a_shape_r (S := T00) (t := t) (vw := false) c
    rw [ea]
    have l1j := l1.gw (Gw.sJ M1 r.toInt64) (fun _ _ x => x.elim)
    have R1j := R1.keep hu (Gw.sJ M1 r.toInt64) (fun _ _ x => x.elim)
    have ok2 := shF_ok (vw := false) (S := T00) (tb := t) (n := x.toNat) (fun w => absurd w (by decide)) c4.2.2.2 (x.toNat + 1) 0 T00 (-1) 0 (fun _ => 0) BI_start (by omega)
    obtain ⟨r', M2, e2, r2⟩ := r_schema l1j.2.1 R1j.2.1 x x1 x2
    rw [if_pos c, ea] at r2
    obtain ⟨h2, q1, t2, r2⟩ := r2
    cases q1
    obtain ⟨⟨b1, b2, b3⟩, b4, ⟨b5, b6, b7⟩, b8, b9⟩ := R1j
    have hrb : ∀ a j, rvB a j → (a = 134 ∧ (j = 2 ∨ (5 ≤ j ∧ j ≤ 14) ∨ j = 26)) ∨ (a = 138 ∧ j = 0) ∨ ((139 ≤ a ∧ a ≤ 145) ∧ 32 ≤ j) ∨ (a = 146 ∧ 128 ≤ j) ∨ ((a = 147 ∨ a = 148) ∧ j = 2) := fun a j x => by unfold rvB bgR rsI shR rdR enR at x; omega
    have key : INV M2 ∧ Lay M2 ∧ mJ M2 = mJ (sJ M1 164 0 r.toInt64) ∧ mn M2 = mn M1 := by
      generalize shF false T00 t x.toNat (x.toNat + 1) 0 T00 (-1) 0 = w at r1 r2 ok2
      match w, r1, r2, ok2 with
      | .inl y, r1, r2, ok2 =>
        obtain ⟨g1, k14, k4, k8, k10⟩ := r1
        obtain ⟨g2, j14, j4⟩ := r2
        have hp : ∀ a j, vwI q a j → (a = 2 ∧ 1 ≤ j ∧ j ≤ 5) ∨ a = 4 ∨ (q ≤ a ∧ a ≤ q + 11) ∨ (a = 1 ∧ j = 14) ∨ (a = 18 ∧ j = 4) := fun a j x => x
        have gw1 : Gw (vwI q) scR M M1 := g1.gw (fun a j x => by have := hp a j x; omega) (fun a j x => by have := hq a j x; omega)
        have hP : ∀ a j, rvB a j → 134 ≤ a ∧ a ≤ 163 := fun a j x => by have := hrb a j x; omega
        have l2 := l1j.rch g2 hP
        have gw2 := rw_g g2 hP
        have C1 : CI M1 s v q p p' S V Pi A n Bs t 0 (i32 y.2) (a4 + i32 1) a5 im := ⟨⟨p1, p2, p3, p4, p5, p6, p7, p8, p9⟩, ⟨k8, by rw [gw1.r (by omega) (fun x => by have := hq _ _ x; omega)]; exact d2, k10, by rw [gw1.r (by omega) (fun x => by have := hq _ _ x; omega)]; exact d4, by rw [gw1.r (by omega) (fun x => by have := hq _ _ x; omega)]; exact d5⟩, ⟨s1.gw2 (by omega) gw1 (fun a j x => by have := hp _ _ x; omega), s2.gw2 gw1 hd (fun x => by have := hq _ _ x; omega) (fun a j x => by have := hp _ _ x; omega), s3.gw2 (by omega) gw1 (fun x => by have := hp _ _ x; omega) (fun j x => by have := hp _ _ x; omega) (fun j x => by have := hp _ _ x; omega)⟩, c4.zero t0, ⟨k14, by rw [k4, c6], by rw [gw1.i (by omega) (fun x => by have := hp _ _ x; omega)]; exact c7⟩, c8.gw2 gw1 (fun a j x => by have := hp _ _ x; omega) (fun j x => by have := hq _ _ x; omega), c9.gw2 gw1 (fun a j x => by have := hp _ _ x; omega) (fun j x => by have := hq _ _ x; omega)⟩
        have C1j := C1.keep (Gw.sJ M1 r.toInt64) (fun _ _ x => x.elim) (fun _ _ x => x.elim)
        have R2 : RI M2 S V Pi A n Bs t 0 (i32 y.2) (a4 + i32 1) a5 im := ⟨⟨b1.gw2 u1.1 gw2 (fun x => by have := hrb _ _ x; omega) (fun x => by have := hrb _ _ x; omega) (fun a j _ _ _ x => by have := hrb _ _ x; omega) (fun j _ x => by have := hrb _ _ x; omega) (fun j x => by have := hrb _ _ x; omega), b2.gw2 u3.1 gw2 (fun x => by have := hrb _ _ x; omega) (fun a j _ _ _ x => by have := hrb _ _ x; omega), b3.gw2 u4 gw2 (fun x => by have := hrb _ _ x; omega) (fun j _ x => by have := hrb _ _ x; omega) (fun j _ x => by have := hrb _ _ x; omega)⟩, b4.zero t2, ⟨j14, by rw [j4, b6], by rw [g2.i (fun x => by have := hrb _ _ x; omega)]; exact b7⟩, b8.gw2 gw2 (fun a j x => by have := hrb _ _ x; omega), b9.gw2 gw2 (fun a j x => by have := hrb _ _ x; omega)⟩
        exact ⟨IV.inv ⟨l2, hu, C1j.rch g2 hP, R2⟩, l2, g2.2.2.2.1, g2.2.2.1⟩
      | .inr T, r1, r2, ok2 =>
        obtain ⟨g1, k14, k4, k8, k10, cs, kv, kp, cc, k1, k3, k13⟩ := r1
        obtain ⟨g2, j14, j4, rs, j1, j47, re, j31, j50⟩ := r2
        obtain ⟨nf0, d', dp', bi⟩ := ok2
        have hri : ∀ a j, rcI a j → (134 ≤ a ∧ a ≤ 163) ∧ ¬ (a = 138 ∧ j = 1) := fun a j x => by unfold rcI rvB bgR rsI shR rdR enR tkF at x; omega
        have hP : ∀ a j, rcI a j → 134 ≤ a ∧ a ≤ 163 := fun a j x => (hri a j x).1
        have l2 := l1j.rch g2 hP
        have C1 : CI M1 q v s p p' T T00 P00 A00 0 (fun _ => A00) t 0 (i32 (-1)) a4 a5 none := ⟨⟨p3, p2, p1, fun w => p6 w.symm, fun w => p5 w.symm, fun w => p4 w.symm, p7, p8, p9⟩, ⟨k8, by rw [gw0.r (by omega) (fun x => by have := hq _ _ x; omega)]; exact d2, k10, by rw [gw0.r (by omega) (fun x => by have := hq _ _ x; omega)]; exact d4, by rw [gw0.r (by omega) (fun x => by have := hq _ _ x; omega)]; exact d5⟩, ⟨cs, ⟨by rw [gw0.r (by omega) (fun x => by have := hq _ _ x; omega)]; exact d2, l1.sh p2, by omega, by omega, ⟨kv, fun f hf => absurd hf (Nat.not_lt_zero f), fun f hf => absurd hf (Nat.not_lt_zero f), fun f hf => absurd hf (Nat.not_lt_zero f)⟩, fun f hf => absurd hf (Nat.not_lt_zero f)⟩, ⟨kp, fun f hf => absurd hf (Nat.not_lt_zero f), fun f hf => absurd hf (Nat.not_lt_zero f)⟩⟩, c4.zero t0, ⟨k14, by rw [k4]; exact c6, by rw [gw0.i (by omega) (fun x => by unfold scI vwI at x; omega)]; exact c7⟩, ⟨cc, k1, ⟨Nat.zero_le _, k3, fun k hk => absurd hk (Nat.not_lt_zero k)⟩⟩, k13⟩
        have C1j := C1.keep (Gw.sJ M1 r.toInt64) (fun _ _ x => x.elim) (fun _ _ x => x.elim)
        have R2 : RI M2 T T00 P00 A00 0 (fun _ => A00) t 0 (i32 (-1)) a4 a5 none := ⟨⟨rs, ⟨j1, fun f hf => absurd hf (Nat.not_lt_zero f), fun f hf => absurd hf (Nat.not_lt_zero f), fun f hf => absurd hf (Nat.not_lt_zero f)⟩, ⟨j47, fun f hf => absurd hf (Nat.not_lt_zero f), fun f hf => absurd hf (Nat.not_lt_zero f)⟩⟩, b4.zero t2, ⟨j14, by rw [j4]; exact b6, by rw [g2.i (fun x => (hri _ _ x).2 ⟨rfl, rfl⟩)]; exact b7⟩, ⟨re, j31, fun k hk => absurd hk (Nat.not_lt_zero k)⟩, j50⟩
        have uu : PU T T00 P00 A00 0 (fun _ => A00) none := ⟨bi.wf, ⟨dp', bi.vt0⟩, ⟨fun _ => 0, VT_00 T⟩, P00_ok, Nat.zero_le _, rfl, trivial⟩
        exact ⟨IV.inv ⟨l2, uu, C1j.rch g2 hP, R2⟩, l2, g2.2.2.2.1, g2.2.2.1⟩
    obtain ⟨i2, l2, j2, m2⟩ := key
    refine ⟨M2, LB_inr l1 e2 l2 j2 h2, i2, ?_⟩
    rw [m2, mn1]
    omega
  · rw [if_neg c] at r1
    subst r1
    have ea : a_shape false T00 t z x = .inl 2 := by unfold a_shape; rw [if_neg c]
    rw [ea]
    obtain ⟨r', M2, e2, r2⟩ := r_schema hI.1.2.1 hR.2.1 x x1 x2
    rw [if_neg c] at r2
    have I2 := hI.thr r2.2
    refine ⟨M2, LB_inl (c := i32 1) hI.1 rfl (by decide) e2 I2.1 r2.1, I2.inv, ?_⟩
    rw [r2.2.2.2.1]
    omega
end
