/-! pipe, view, schema in the law -/
section
variable {M M1 M2 M' : Mem} {s v q p p' n n' z z' : Nat} {S V : Sc} {A A' : St} {Pi : Pp} {Bs Bs' : Nat → St} {t t' : Nat → Int} {fl a4 a5 fl' a4' a5' : Int32} {im : Im} {P Q : Nat → Nat → Prop}
theorem CVw_of (hW : V.wf) (h : CSh M v V) (h9 : mR M 1 9 = v) (hl : ShLay M v) (h1 : 88 ≤ v) (h2 : v ≤ 112) : CVw M v V := by
  obtain ⟨c0, c1, c2, c3, c4, c5, c6, c7, c8, c9, c10, c11, c12⟩ := h
  refine ⟨h9, hl, h1, h2, ⟨c0, c2, c3, c11⟩, fun f hf w => ?_⟩
  have hnl := hW.1.2.1
  obtain ⟨l, hl, hi⟩ := Sc.has_leaf hW V.nf f (by omega) hf
  have b8 : ∀ l, l < 8 → (255 : Nat).testBit l = true := by decide
  have e := bt_and (mI M (v + 9) f) (i32 255) l
  have e2 : bt (i32 255) l = true := by
    rw [bt_nat (by omega) (by omega)]
    exact b8 l (by omega)
  rw [w, bt_zero, c10 f l hf (by omega), hi, e2, decide_eq_true hl] at e
  cases e
theorem CVw.gw3 (h : CVw M v V) (g : Gw P Q M M') (hQ : ∀ a j, Q a j → DyR a j) (h9 : mR M' 1 9 = v) (hP : ∀ a j, P a j → a < v ∨ v + 11 < a) : CVw M' v V := by
  obtain ⟨a1, a2, a3, a4, ⟨b1, b2, b3, b4⟩, a6⟩ := h
  have e0 : ∀ j, mI M' v j = mI M v j := fun j => g.i (by omega) (fun x => by have := hP v j x; omega)
  have e1 : ∀ i j, i ≤ 11 → mI M' (v + i) j = mI M (v + i) j := fun i j q => g.i (by omega) (fun x => by have := hP (v + i) j x; omega)
  exact ⟨h9, a2.gw a3 a4 g hQ, a3, a4, ⟨by rw [e0]; exact b1, fun f q => by rw [e1 _ _ (by omega)]; exact b2 f q, fun f q => by rw [e1 _ _ (by omega)]; exact b3 f q, fun f q => by rw [e1 _ _ (by omega)]; exact b4 f q⟩, fun f q => by rw [e1 _ _ (by omega)]; exact a6 f q⟩
theorem o_pipe (hI : INV M) (x : Int32) (k : Mem → Option (Int32 × Mem)) : ∃ M2, LB (f_L_pipe 1 x 164 M) (fun M1 => f_X12_pipe 134 x M1) k = k M2 ∧ INV M2 ∧ mn M2 ≤ mn M + 2 := by
  obtain ⟨s, v, q, p, p', S, V, Pi, A, n, Bs, t, z, fl, a4, a5, im, hI⟩ := hI
  have hI : IV M s v q p p' S V Pi A n Bs t z fl a4 a5 im := hI
  have hu := hI.2.1
  obtain ⟨u1, u2, ⟨dpv, u3⟩, u4, u5, u6, u7⟩ := hI.2.1
  obtain ⟨c1, ⟨d1, d2, d3, d4, d5⟩, ⟨s1, s2, s3⟩, c4, ⟨c5, c6, c7⟩, c8, c9⟩ := hI.2.2.1
  have hR := hI.2.2.2
  obtain ⟨x, rfl, x1, x2⟩ := i32_all x
  have e : f_L_pipe 1 (i32 x) 164 M = LW (f_X11_pipe 1 (i32 x) M) (fun e M1 => if e = 1 then none else some (1, M1)) := by
    unfold f_L_pipe
    rw [if_pos hI.1.1.o.1]
    rfl
  obtain ⟨p1, p2, p3, p4, p5, p6, p7, p8, p9⟩ := c1
  obtain ⟨M1, e1, g1, r1⟩ := c_pipe hI.1.1 c4 p8 (hI.1.pi p8) hI.1.m d4 (by omega) d5 x x1 x2
  rw [e, e1]
  by_cases c : 0 ≤ x ∧ x ≤ z
  · rw [if_pos c] at r1
    obtain ⟨t0, r1⟩ := r1
    have hp : ∀ a j, pwI p' a j → (a = 2 ∧ 1 ≤ j ∧ j ≤ 5) ∨ (a = 1 ∧ j = 14) ∨ (a = 18 ∧ j = 4) ∨ (p' ≤ a ∧ a ≤ p' + 3) := fun a j x => by unfold pwI at x; omega
    have hq : ∀ a j, pwR a j → a = 1 ∧ (j = 11 ∨ j = 12) := fun a j x => x
    have hd : ∀ a j, pwR a j → DyR a j := fun a j x => by have := hq a j x; unfold DyR; omega
    have gw1 : Gw (pwI p') pwR M M1 := g1.gw (fun a j x => by have := hp a j x; omega) (fun a j x => by have := hq a j x; omega)
    have l1 := hI.1.gw gw1 hd
    have R1 := hI.R gw1 (fun a j x => Or.inr (by have := hp a j x; omega))
    obtain ⟨r, ea⟩ : ∃ r, a_pipe t z x = .inr r := by
      unfold a_pipe
      rw [if_pos c]
      generalize pipF t x.toNat (x.toNat + 1) 0 P00 = w
      cases w <;> exact ⟨_, rfl⟩
    rw [ea]
    have l1j := l1.gw (Gw.sJ M1 r.toInt64) (fun _ _ x => x.elim)
    have R1j := R1.keep hu (Gw.sJ M1 r.toInt64) (fun _ _ x => x.elim)
    obtain ⟨r', M2, e2, g2, r2⟩ := r_pipe l1j.2.1 R1j.2.1 x x1 x2
    rw [if_pos c, ea] at r2
    obtain ⟨h2, q1, t2, r2⟩ := r2
    cases q1
    have hP : ∀ a j, rpI a j → 134 ≤ a ∧ a ≤ 163 := fun a j x => by unfold rpI at x; omega
    have l2 := l1j.rch g2 hP
    have gw2 := rw_g g2 hP
    have hr2 : ∀ a j, rpI a j → (a = 134 ∧ (j = 2 ∨ (5 ≤ j ∧ j ≤ 14) ∨ j = 47)) ∨ a = 158 ∨ a = 159 ∨ (a = 138 ∧ j = 0) := fun a j x => x
    obtain ⟨⟨b1, b2, b3⟩, b4, ⟨b5, b6, b7⟩, b8, b9⟩ := R1j
    have fin : ∀ (p1' p2' : Nat) (Pj : Pp) (fl' a4' : Int32), Pj.ok → Plc s v q p1' p2' → mR M1 1 11 = p1' → mR M1 1 12 = p2' → CP M1 p1' Pj → mI M1 1 14 = fl' → mI M1 18 4 = a4' → RP M2 Pj → mI M2 134 14 = fl' → mI M2 138 0 = a4' → INV M2 := fun p1' p2' Pj fl' a4' ok pl f11 f12 cp k14 k4 rp j14 j4 => by
      have C1 : CI M1 s v q p1' p2' S V Pj A n Bs t 0 fl' a4' a5 im := ⟨pl, ⟨by rw [gw1.r (by omega) (fun x => by have := hq _ _ x; omega)]; exact d1, by rw [gw1.r (by omega) (fun x => by have := hq _ _ x; omega)]; exact d2, by rw [gw1.r (by omega) (fun x => by have := hq _ _ x; omega)]; exact d3, f11, f12⟩, ⟨s1.gw2 (by omega) gw1 (fun a j x => by have := hp _ _ x; omega), s2.gw2 gw1 hd (fun x => by have := hq _ _ x; omega) (fun a j x => by have := hp _ _ x; omega), cp⟩, c4.zero t0, ⟨k14, k4, by rw [gw1.i (by omega) (fun x => by have := hp _ _ x; omega)]; exact c7⟩, c8.gw2 gw1 (fun a j x => by have := hp _ _ x; omega) (fun j x => by have := hq _ _ x; omega), c9.gw2 gw1 (fun a j x => by have := hp _ _ x; omega) (fun j x => by have := hq _ _ x; omega)⟩
      have C1j := C1.keep (Gw.sJ M1 r.toInt64) (fun _ _ x => x.elim) (fun _ _ x => x.elim)
      have R2 : RI M2 S V Pj A n Bs t 0 fl' a4' a5 im := ⟨⟨b1.gw2 u1.1 gw2 (fun x => by have := hr2 _ _ x; omega) (fun x => by have := hr2 _ _ x; omega) (fun a j _ _ _ x => by have := hr2 _ _ x; omega) (fun j _ x => by have := hr2 _ _ x; omega) (fun j x => by have := hr2 _ _ x; omega), b2.gw2 u3.1 gw2 (fun x => by have := hr2 _ _ x; omega) (fun a j _ _ _ x => by have := hr2 _ _ x; omega), rp⟩, b4.zero t2, ⟨j14, j4, by rw [g2.i (fun x => by have := hr2 _ _ x; omega)]; exact b7⟩, b8.gw2 gw2 (fun a j x => by have := hr2 _ _ x; omega), b9.gw2 gw2 (fun a j x => by have := hr2 _ _ x; omega)⟩
      exact IV.inv ⟨l2, ⟨u1, u2, ⟨dpv, u3⟩, ok, u5, u6, u7⟩, C1j.rch g2 hP, R2⟩
    refine ⟨M2, LB_inr l1 e2 l2 g2.2.2.2.1 h2, ?_, ?_⟩
    · generalize pipF t x.toNat (x.toNat + 1) 0 P00 = w at r1 r2
      match w, r1, r2 with
      | .inl y, r1, r2 =>
        obtain ⟨k14, k4, kr⟩ := r1
        obtain ⟨j14, j4, j47, j158⟩ := r2
        have n8 := u4.1
        exact fin p p' Pi (i32 y.2) (a4 + i32 1) u4 ⟨p1, p2, p3, p4, p5, p6, p7, p8, p9⟩ (by rw [kr]; exact d4) (by rw [kr]; exact d5) (s3.gw2 (by omega) gw1 (fun x => by have := hp _ _ x; omega) (fun j x => by have := hp _ _ x; omega) (fun j x => by have := hp _ _ x; omega)) k14 (by rw [k4, c6]) ⟨by rw [j47]; exact b3.1, fun i hi => by rw [(j158 i (by omega)).1]; exact b3.2.1 i hi, fun i hi => by rw [(j158 i (by omega)).2]; exact b3.2.2 i hi⟩ j14 (by rw [j4, b6])
      | .inr Pj, r1, r2 =>
        obtain ⟨k14, k4, k11, k12, ok, cp⟩ := r1
        obtain ⟨j14, j4, rp⟩ := r2
        exact fin p' p Pj (i32 (-1)) a4 ok ⟨p1, p2, p3, p4, p5, p6, p8, p7, fun w => p9 w.symm⟩ k11 k12 cp k14 (by rw [k4]; exact c6) rp j14 (by rw [j4]; exact b6)
    · rw [g2.2.2.1, mn_sJ, g1.2.2.1]
      omega
  · rw [if_neg c] at r1
    subst r1
    have ea : a_pipe t z x = .inl 2 := by unfold a_pipe; rw [if_neg c]
    rw [ea]
    obtain ⟨r', M2, e2, -, r2⟩ := r_pipe hI.1.2.1 hR.2.1 x x1 x2
    rw [if_neg c] at r2
    have I2 := hI.thr r2.2
    refine ⟨M2, LB_inl (c := i32 1) hI.1 rfl (by decide) e2 I2.1 r2.1, I2.inv, ?_⟩
    rw [r2.2.2.2.1]
    omega
theorem a_shape_r {vw : Bool} {x : Int} (c : 0 ≤ x ∧ x ≤ z) : ∃ r, a_shape vw S t z x = .inr r := by
  unfold a_shape
  rw [if_pos c]
  generalize shF vw S t x.toNat (x.toNat + 1) 0 T00 (-1) 0 = w
  cases w <;> exact ⟨_, rfl⟩
theorem o_view (hI : INV M) (x : Int32) (k : Mem → Option (Int32 × Mem)) : ∃ M2, LB (f_L_view 1 x 164 M) (fun M1 => f_X12_view 134 x M1) k = k M2 ∧ INV M2 ∧ mn M2 ≤ mn M + 2 := by
  obtain ⟨s, v, q, p, p', S, V, Pi, A, n, Bs, t, z, fl, a4, a5, im, hI⟩ := hI
  have hI : IV M s v q p p' S V Pi A n Bs t z fl a4 a5 im := hI
  have hu := hI.2.1
  obtain ⟨u1, u2, ⟨dpv, u3⟩, u4, u5, u6, u7⟩ := hI.2.1
  obtain ⟨c1, ⟨d1, d2, d3, d4, d5⟩, ⟨s1, s2, s3⟩, c4, ⟨c5, c6, c7⟩, c8, c9⟩ := hI.2.2.1
  have hR := hI.2.2.2
  obtain ⟨x, rfl, x1, x2⟩ := i32_all x
  have e : f_L_view 1 (i32 x) 164 M = LW (f_X11_view 1 (i32 x) M) (fun e M1 => if e = 1 then none else some (1, M1)) := by
    unfold f_L_view
    rw [if_pos hI.1.1.o.1]
    rfl
  obtain ⟨p1, p2, p3, p4, p5, p6, p7, p8, p9⟩ := c1
  obtain ⟨M1, e1, g1, r1⟩ := c_view hI.1.1 c4 hI.1.m (hI.1.sh p1) s1 u1.1 (by omega) (by omega) (hI.1.sh p3) (by omega) (by omega) (by omega) (by omega) d1 d2 d3 x x1 x2
  rw [e, e1]
  by_cases c : 0 ≤ x ∧ x ≤ z
  · rw [if_pos c] at r1
    obtain ⟨t0, r1⟩ := r1
    have hp : ∀ a j, vwI q a j → (a = 2 ∧ 1 ≤ j ∧ j ≤ 5) ∨ a = 4 ∨ (q ≤ a ∧ a ≤ q + 11) ∨ (a = 1 ∧ j = 14) ∨ (a = 18 ∧ j = 4) := fun a j x => x
    have hq : ∀ a j, vwR a j → a = 4 ∨ (a = 1 ∧ (j = 9 ∨ j = 10)) := fun a j x => x
    have hd : ∀ a j, vwR a j → DyR a j := fun a j x => by have := hq a j x; unfold DyR; omega
    have gw1 : Gw (vwI q) vwR M M1 := g1.gw (fun a j x => by have := hp a j x; omega) (fun a j x => by have := hq a j x; omega)
    have l1 := hI.1.gw gw1 hd
    have R1 := hI.R gw1 (fun a j x => Or.inr (by have := hp a j x; omega))
    obtain ⟨r, ea⟩ := a_shape_r (S := S) (t := t) (vw := true) c
    rw [ea]
    have l1j := l1.gw (Gw.sJ M1 r.toInt64) (fun _ _ x => x.elim)
    have R1j := R1.keep hu (Gw.sJ M1 r.toInt64) (fun _ _ x => x.elim)
    have ok2 := shF_ok (vw := true) (S := S) (tb := t) (n := x.toNat) (fun _ => u1.1) c4.2.2.2 (x.toNat + 1) 0 T00 (-1) 0 (fun _ => 0) BI_start (by omega)
    obtain ⟨r', M2, e2, r2⟩ := r_view l1j.2.1 R1j.1.1 u1.1 R1j.2.1 x x1 x2
    rw [if_pos c, ea] at r2
    obtain ⟨h2, q1, t2, r2⟩ := r2
    cases q1
    obtain ⟨⟨b1, b2, b3⟩, b4, ⟨b5, b6, b7⟩, b8, b9⟩ := R1j
    have hrb : ∀ a j, rvB a j → (a = 134 ∧ (j = 2 ∨ (5 ≤ j ∧ j ≤ 14) ∨ j = 26)) ∨ (a = 138 ∧ j = 0) ∨ ((139 ≤ a ∧ a ≤ 145) ∧ 32 ≤ j) ∨ (a = 146 ∧ 128 ≤ j) ∨ ((a = 147 ∨ a = 148) ∧ j = 2) := fun a j x => by unfold rvB bgR rsI shR rdR enR at x; omega
    have hri : ∀ a j, rvI a j → (a = 134 ∧ (j = 2 ∨ (5 ≤ j ∧ j ≤ 14) ∨ j = 26)) ∨ (a = 138 ∧ j = 0) ∨ ((139 ≤ a ∧ a ≤ 145) ∧ 16 ≤ j) ∨ (a = 146 ∧ 64 ≤ j) ∨ ((a = 147 ∨ a = 148) ∧ 1 ≤ j) := fun a j x => by unfold rvI bgR rsI shR rdR enR tkF at x; omega
    have fin : ∀ (v' q' : Nat) (V' : Sc) (dp' : Nat → Nat) (fl' a4' : Int32), Chg rvI (sJ M1 164 0 r.toInt64) M2 → VT S V' dp' → Plc s v' q' p p' → mR M1 1 9 = v' → mR M1 1 10 = q' → CVw M1 v' V' → mI M1 1 14 = fl' → mI M1 18 4 = a4' → RVw M2 V' → mI M2 134 14 = fl' → mI M2 138 0 = a4' → INV M2 ∧ Lay M2 ∧ mJ M2 = mJ (sJ M1 164 0 r.toInt64) ∧ mn M2 = mn M1 := fun v' q' V' dp' fl' a4' g2 vt pl f9 f10 cv k14 k4 rv j14 j4 => by
      have hP : ∀ a j, rvI a j → 134 ≤ a ∧ a ≤ 163 := fun a j x => by have := hri a j x; omega
      have l2 := l1j.rch g2 hP
      have gw2 := rw_g g2 hP
      have C1 : CI M1 s v' q' p p' S V' Pi A n Bs t 0 fl' a4' a5 im := ⟨pl, ⟨by rw [gw1.r (by omega) (fun x => by have := hq _ _ x; omega)]; exact d1, f9, f10, by rw [gw1.r (by omega) (fun x => by have := hq _ _ x; omega)]; exact d4, by rw [gw1.r (by omega) (fun x => by have := hq _ _ x; omega)]; exact d5⟩, ⟨s1.gw2 (by omega) gw1 (fun a j x => by have := hp _ _ x; omega), cv, s3.gw2 (by omega) gw1 (fun x => by have := hp _ _ x; omega) (fun j x => by have := hp _ _ x; omega) (fun j x => by have := hp _ _ x; omega)⟩, c4.zero t0, ⟨k14, k4, by rw [gw1.i (by omega) (fun x => by have := hp _ _ x; omega)]; exact c7⟩, c8.gw2 gw1 (fun a j x => by have := hp _ _ x; omega) (fun j x => by have := hq _ _ x; omega), c9.gw2 gw1 (fun a j x => by have := hp _ _ x; omega) (fun j x => by have := hq _ _ x; omega)⟩
      have C1j := C1.keep (Gw.sJ M1 r.toInt64) (fun _ _ x => x.elim) (fun _ _ x => x.elim)
      have R2 : RI M2 S V' Pi A n Bs t 0 fl' a4' a5 im := ⟨⟨b1.gw2 u1.1 gw2 (fun x => by have := hri _ _ x; omega) (fun x => by have := hri _ _ x; omega) (fun a j _ _ _ x => by have := hri _ _ x; omega) (fun j _ x => by have := hri _ _ x; omega) (fun j x => by have := hri _ _ x; omega), rv, b3.gw2 u4 gw2 (fun x => by have := hri _ _ x; omega) (fun j _ x => by have := hri _ _ x; omega) (fun j _ x => by have := hri _ _ x; omega)⟩, b4.zero t2, ⟨j14, j4, by rw [g2.i (fun x => by have := hri _ _ x; omega)]; exact b7⟩, b8.gw2 gw2 (fun a j x => by have := hri _ _ x; omega), b9.gw2 gw2 (fun a j x => by have := hri _ _ x; omega)⟩
      exact ⟨IV.inv ⟨l2, ⟨u1, u2, ⟨dp', vt⟩, u4, u5, u6, u7⟩, C1j.rch g2 hP, R2⟩, l2, g2.2.2.2.1, g2.2.2.1⟩
    have key : INV M2 ∧ Lay M2 ∧ mJ M2 = mJ (sJ M1 164 0 r.toInt64) ∧ mn M2 = mn M1 := by
      generalize shF true S t x.toNat (x.toNat + 1) 0 T00 (-1) 0 = w at r1 r2 ok2
      match w, r1, r2, ok2 with
      | .inl y, r1, r2, ok2 =>
        obtain ⟨k14, k4, k9, k10⟩ := r1
        obtain ⟨g2, j14, j4⟩ := r2
        have gw2 := rw_g g2 (fun a j x => by have := hrb a j x; omega)
        exact fin v q V dpv (i32 y.2) (a4 + i32 1) (g2.mono (fun a j h => by
          rcases h with h | h | h
          · exact Or.inl h
          · exact Or.inr (Or.inl h)
          · exact Or.inr (Or.inr (Or.inl h)))) u3 ⟨p1, p2, p3, p4, p5, p6, p7, p8, p9⟩ k9 k10 (s2.gw3 gw1 hd k9 (fun a j x => by have := hp _ _ x; omega)) k14 (by rw [k4, c6]) (b2.gw2 u3.1 gw2 (fun x => by have := hrb _ _ x; omega) (fun a j _ _ _ x => by have := hrb _ _ x; omega)) j14 (by rw [j4, b6])
      | .inr V', r1, r2, ok2 =>
        obtain ⟨k14, k4, k9, k10, cs⟩ := r1
        obtain ⟨g2, j14, j4, rv⟩ := r2
        obtain ⟨nf0, d', dp', bi⟩ := ok2
        exact fin q v V' dp' (i32 (-1)) a4 g2 bi.vt1 ⟨p1, p3, p2, p5, p4, fun w => p6 w.symm, p7, p8, p9⟩ k9 k10 (CVw_of bi.wf cs k9 (l1.sh p3) (by omega) (by omega)) k14 (by rw [k4]; exact c6) rv j14 (by rw [j4]; exact b6)
    obtain ⟨i2, l2, j2, m2⟩ := key
    refine ⟨M2, LB_inr l1 e2 l2 j2 h2, i2, ?_⟩
    rw [m2, g1.2.2.1]
    omega
  · rw [if_neg c] at r1
    subst r1
    have ea : a_shape true S t z x = .inl 2 := by unfold a_shape; rw [if_neg c]
    rw [ea]
    obtain ⟨r', M2, e2, r2⟩ := r_view hI.1.2.1 hR.1.1 u1.1 hR.2.1 x x1 x2
    rw [if_neg c] at r2
    have I2 := hI.thr r2.2
    refine ⟨M2, LB_inl (c := i32 1) hI.1 rfl (by decide) e2 I2.1 r2.1, I2.inv, ?_⟩
    rw [r2.2.2.2.1]
    omega
end
