/-! drop, undo, image, restore, feed, add in the law -/
def LE (c : Option (Unit × Mem)) (rf : Mem → Option (Unit × Mem)) (k : Mem → Option (Int32 × Mem)) : Option (Int32 × Mem) :=
  bnd c fun _ M1 =>
  if mK M1 134 = 13 then
    bnd (rf M1) fun _ M2 =>
    k M2
  else none
section
variable {M M1 M2 M' : Mem} {s v q p p' n n' z z' : Nat} {S V : Sc} {A A' : St} {Pi : Pp} {Bs Bs' : Nat → St} {t t' : Nat → Int} {fl a4 a5 fl' a4' a5' : Int32} {im : Im} {P Q : Nat → Nat → Prop}
theorem TPc.zero (h : TPc M t z) (e : mI M' 2 1 = i32 0) : TPc M' t 0 := ⟨e, fun i hi => absurd hi (Nat.not_lt_zero i), Nat.zero_le _, h.2.2.2⟩
theorem TPr.zero (h : TPr M t z) (e : mI M' 134 5 = i32 0) : TPr M' t 0 := ⟨e, fun i hi => absurd hi (Nat.not_lt_zero i), Nat.zero_le _, h.2.2.2⟩
theorem IV.cref (hI : IV M s v q p p' S V Pi A n Bs t z fl a4 a5 im) : Lay (sI M 18 5 (mI M 18 5 + i32 1)) ∧ CI (sI M 18 5 (mI M 18 5 + i32 1)) s v q p p' S V Pi A n Bs t z fl a4 (a5 + i32 1) im ∧ RI (sI M 18 5 (mI M 18 5 + i32 1)) S V Pi A n Bs t z fl a4 a5 im := by
  have hC := hI.2.2.1
  have g1 : Chg (fun a j => a = 18 ∧ j = 5) M (sI M 18 5 (mI M 18 5 + i32 1)) := (Chg.rf _ M).sI ⟨rfl, rfl⟩
  have gw1 : Gw (fun a j => a = 18 ∧ j = 5) (fun _ _ => False) M (sI M 18 5 (mI M 18 5 + i32 1)) := g1.gw (fun a j x => by omega)
  exact ⟨hI.1.gw gw1 (fun _ _ x => x.elim), hC.acts (gw1.mono (fun a j x => by unfold awI; omega) (fun _ _ x => x.elim)) (hC.2.2.2.2.2.1.gw2 gw1 (fun a j x => by omega) (fun _ x => x)) (hC.2.2.2.1.gw2 gw1 (fun x => by omega) (fun j x => by omega)) ⟨by rw [mI_sI_ne (by omega)]; exact hC.2.2.2.2.1.1, by rw [mI_sI_ne (by omega)]; exact hC.2.2.2.2.1.2.1, by rw [mI_sI_eq, hC.2.2.2.2.1.2.2]⟩, hI.R gw1 (fun a j x => by omega)⟩
theorem o_drop (hI : INV M) (hm : mn M + 2 < 900000) (k : Mem → Option (Int32 × Mem)) : ∃ M2, LD (f_X11_drop 1 M) (fun M1 => f_X12_drop 134 M1) k = k M2 ∧ INV M2 ∧ mn M2 ≤ mn M + 2 := by
  obtain ⟨s, v, q, p, p', S, V, Pi, A, n, Bs, t, z, fl, a4, a5, im, hI⟩ := hI
  have hI : IV M s v q p p' S V Pi A n Bs t z fl a4 a5 im := hI
  have hu := hI.2.1
  obtain ⟨u1, -, -, u4, u5, u6, u7⟩ := hI.2.1
  obtain ⟨M1, e1, r1⟩ := c_drop hI.ro hm hI.2.2.1.2.2.2.2.2.1.2.2 u6
  rw [e1]
  by_cases d : drN S A
  · rw [if_pos d] at r1
    obtain ⟨M0, g0, r1⟩ := r1
    unfold CRef at r1
    subst r1
    have I0 := hI.scr g0
    obtain ⟨l1, C1, R1⟩ := I0.cref
    have en : mn (sI M0 18 5 (mI M0 18 5 + i32 1)) = mn M := g0.2.2.1
    generalize sI M0 18 5 (mI M0 18 5 + i32 1) = M1 at *
    obtain ⟨M2, e2, h2, r2⟩ := r_drop u1 ⟨l1.2.1, R1.1.1, R1.2.2.2.1.1⟩ u5 R1.2.2.2.1.2.1 R1.2.2.2.1.2.2 u6
    rw [if_pos d] at r2
    obtain ⟨g2, h138⟩ := r2
    have hP : ∀ a j, ((a = 134 ∧ (j = 2 ∨ j = 34 ∨ j = 35)) ∨ (a = 138 ∧ j = 1)) → 134 ≤ a ∧ a ≤ 163 := fun a j x => by omega
    have l2 := l1.rch g2 hP
    have C2 := C1.rch g2 hP
    have R2 := R1.acts2 (a4' := a4) (a5' := a5 + i32 1) hu g2 (fun a j x => by omega) (R1.2.2.2.1.gw2 (rw_g g2 hP) (fun a j x => by omega)) (by rw [g2.i (by omega)]; exact R1.2.2.1.2.1) (by rw [h138, R1.2.2.1.2.2])
    refine ⟨M2, LD_of l1 e2, IV.inv ⟨l2, hu, C2, R2⟩, ?_⟩
    rw [g2.2.2.1, en]
    omega
  · rw [if_neg d] at r1
    obtain ⟨M0, g0, g1, cc, k1, ac, hn1⟩ := r1
    have I0 := hI.scr g0
    have l1 := I0.1.gw g1 (fun a j x => awR_dy a j (acR_aw a j x))
    have C1 := I0.2.2.1.acts2 g1 ⟨cc, k1, ac⟩
    have R1 := I0.R g1 (fun a j x => by unfold acI at x; omega)
    obtain ⟨M2, e2, h2, r2⟩ := r_drop u1 ⟨l1.2.1, R1.1.1, R1.2.2.2.1.1⟩ u5 R1.2.2.2.1.2.1 R1.2.2.2.1.2.2 u6
    rw [if_neg d] at r2
    obtain ⟨g2, re, h31, ar⟩ := r2
    have hP : ∀ a j, ((a = 134 ∧ (j = 2 ∨ j = 30 ∨ j = 31 ∨ j = 34 ∨ j = 35)) ∨ a = 151 ∨ a = 152) → 134 ≤ a ∧ a ≤ 163 := fun a j x => by omega
    have l2 := l1.rch g2 hP
    have C2 := C1.rch g2 hP
    have R2 := R1.acts2 (a4' := a4) (a5' := a5) hu g2 (fun a j x => by omega) ⟨re, h31, ar⟩ (by rw [g2.i (by omega)]; exact R1.2.2.1.2.1) (by rw [g2.i (by omega)]; exact R1.2.2.1.2.2)
    refine ⟨M2, LD_of l1 e2, IV.inv ⟨l2, hu.act, C2, R2⟩, ?_⟩
    rw [g2.2.2.1, hn1]
    omega
theorem o_undo (hI : INV M) (k : Mem → Option (Int32 × Mem)) : ∃ M2, LD (f_X11_undo 1 M) (fun M1 => f_X12_undo 134 M1) k = k M2 ∧ INV M2 ∧ mn M2 ≤ mn M + 2 := by
  obtain ⟨s, v, q, p, p', S, V, Pi, A, n, Bs, t, z, fl, a4, a5, im, hI⟩ := hI
  have hI : IV M s v q p p' S V Pi A n Bs t z fl a4 a5 im := hI
  have hu := hI.2.1
  obtain ⟨u1, u2, u3, u4, u5, u6, u7⟩ := hI.2.1
  obtain ⟨M1, e1, r1⟩ := c_undo hI.ro hI.2.2.1.2.2.2.2.2.1.2.2 u6
  rw [e1]
  by_cases d : n = 0
  · rw [if_pos d] at r1 ⊢
    subst r1
    obtain ⟨r, M2, e2, h2, -, r2⟩ := r_undo hI.1.2.1 u5 hI.2.2.2.2.2.2.1.2.1 hI.2.2.2.2.2.2.1.2.2
    rw [if_pos d] at r2
    obtain ⟨rfl, g2⟩ := r2
    refine ⟨M2, LD_of hI.1 e2, (hI.thr g2).inv, ?_⟩
    rw [g2.2.2.1]
    omega
  · rw [if_neg d] at r1 ⊢
    obtain ⟨g1, cc, k1, ac⟩ := r1
    have gw1 : Gw acI acR M M1 := g1.gw (fun a j x => by unfold acI at x; omega)
    have l1 := hI.1.gw gw1 (fun a j x => awR_dy a j (acR_aw a j x))
    have C1 := hI.2.2.1.acts2 gw1 ⟨cc, k1, ac⟩
    have R1 := hI.R gw1 (fun a j x => by unfold acI at x; omega)
    obtain ⟨r, M2, e2, h2, g2, r2⟩ := r_undo l1.2.1 u5 R1.2.2.2.1.2.1 R1.2.2.2.1.2.2
    rw [if_neg d] at r2
    obtain ⟨rfl, re, h31⟩ := r2
    have hP : ∀ a j, ((a = 134 ∧ (j = 2 ∨ j = 30 ∨ j = 31)) ∨ a = 150 ∨ a = 151) → 134 ≤ a ∧ a ≤ 163 := fun a j x => by omega
    have l2 := l1.rch g2 hP
    have C2 := C1.rch g2 hP
    have ar : ActsR M2 152 (n - 1) Bs := ActsR.gw2 (fun k hk => R1.2.2.2.1.2.2 k (by omega)) (rw_g g2 hP) (by omega) (fun j x => by omega)
    have R2 := R1.acts2 (a4' := a4) (a5' := a5) hu g2 (fun a j x => by omega) ⟨re, h31, ar⟩ (by rw [g2.i (by omega)]; exact R1.2.2.1.2.1) (by rw [g2.i (by omega)]; exact R1.2.2.1.2.2)
    refine ⟨M2, LD_of l1 e2, IV.inv ⟨l2, ⟨u1, u2, u3, u4, by omega, rfl, u7⟩, C2, R2⟩, ?_⟩
    rw [g2.2.2.1, g1.2.2.1]
    omega
theorem o_image (hI : INV M) (k : Mem → Option (Int32 × Mem)) : ∃ M2, LE (f_X11_image 1 M) (fun M1 => f_X12_image 134 M1) k = k M2 ∧ INV M2 ∧ mn M2 ≤ mn M + 2 := by
  obtain ⟨s, v, q, p, p', S, V, Pi, A, n, Bs, t, z, fl, a4, a5, im, hI⟩ := hI
  have hI : IV M s v q p p' S V Pi A n Bs t z fl a4 a5 im := hI
  have hu := hI.2.1
  obtain ⟨u1, u2, u3, u4, u5, u6, u7⟩ := hI.2.1
  have hC := hI.2.2.1
  obtain ⟨c1, c2, c3, c4, ⟨c5, c6, c7⟩, c8, c9⟩ := hI.2.2.1
  obtain ⟨M1, e1, g1, cc, k1, ac, k4, k5, k13⟩ := c_image hI.1.1 hI.1.2.2.1 hI.1.2.2.2.1 c8.1 c8.2.2
  have gw1 : Gw imI (icR 53) M M1 := g1.gw (fun a j x => by unfold imI icI at x; omega) (fun a j x => by unfold icR at x; omega)
  have l1 := hI.1.gw gw1 (fun a j x => by unfold icR at x; unfold DyR; omega)
  have C1 : CI M1 s v q p p' S V Pi A n Bs t z fl a4 a5 (some (A, n, Bs, a4, a5)) := ⟨c1, c2.gw2 gw1 (fun j _ x => by unfold icR at x; omega), c3.gw2 c1 gw1 (fun a j x => by unfold imI icI at x; omega) (fun a j x => by unfold icR at x; unfold DyR; omega) (fun x => by unfold icR at x; omega), c4.gw2 gw1 (fun x => by unfold imI icI at x; omega) (fun j x => by unfold imI icI at x; omega), ⟨by rw [gw1.i (by omega) (fun x => by unfold imI icI at x; omega)]; exact c5, by rw [gw1.i (by omega) (fun x => by unfold imI icI at x; omega)]; exact c6, by rw [gw1.i (by omega) (fun x => by unfold imI icI at x; omega)]; exact c7⟩, c8.gw2 gw1 (fun a j x => by unfold imI icI at x; omega) (fun j x => by unfold icR at x; omega), ⟨k13, cc, by rw [k1]; exact c8.2.1, ac, by rw [k4]; exact c6, by rw [k5]; exact c7⟩⟩
  have R1 := hI.R gw1 (fun a j x => Or.inr (by unfold imI icI at x; omega))
  obtain ⟨M2, e2, g2, h2, h50, h51, rr, ar, h0, h1⟩ := r_image l1.2.1 R1.2.2.2.1.1 u5 R1.2.2.2.1.2.1 R1.2.2.2.1.2.2
  have hP : ∀ a j, riI a j → 134 ≤ a ∧ a ≤ 163 := fun a j x => by unfold riI at x; omega
  have l2 := l1.rch g2 hP
  have C2 := C1.rch g2 hP
  have gw2 := rw_g g2 hP
  obtain ⟨⟨b1, b2, b3⟩, b4, ⟨b5, b6, b7⟩, b8, b9⟩ := R1
  obtain ⟨dpv, u3'⟩ := u3
  have R2 : RI M2 S V Pi A n Bs t z fl a4 a5 (some (A, n, Bs, a4, a5)) := ⟨⟨b1.gw2 u1.1 gw2 (fun x => by unfold riI at x; omega) (fun x => by unfold riI at x; omega) (fun a j _ _ _ x => by unfold riI at x; omega) (fun j _ x => by unfold riI at x; omega) (fun j x => by unfold riI at x; omega), b2.gw2 u3'.1 gw2 (fun x => by unfold riI at x; omega) (fun a j _ _ _ x => by unfold riI at x; omega), b3.gw2 u4 gw2 (fun x => by unfold riI at x; omega) (fun j _ x => by unfold riI at x; omega) (fun j _ x => by unfold riI at x; omega)⟩, b4.gw2 gw2 (fun x => by unfold riI at x; omega) (fun j x => by unfold riI at x; omega), ⟨by rw [g2.i (fun x => by unfold riI at x; omega)]; exact b5, by rw [g2.i (fun x => by unfold riI at x; omega)]; exact b6, by rw [g2.i (fun x => by unfold riI at x; omega)]; exact b7⟩, b8.gw2 gw2 (fun a j x => by unfold riI at x; omega), ⟨h50, h51, rr, ar, by rw [h0]; exact b6, by rw [h1]; exact b7⟩⟩
  have uu : PU S V Pi A n Bs (some (A, n, Bs, a4, a5)) := ⟨u1, u2, ⟨dpv, u3'⟩, u4, u5, u6, ⟨u5, u6⟩⟩
  refine ⟨M2, ?_, IV.inv ⟨l2, uu, C2, R2⟩, ?_⟩
  · unfold LE
    rw [e1, bnd_of, if_pos l1.2.1.k, show (fun M1 => f_X12_image 134 M1) M1 = some ((), M2) from e2, bnd_of]
  · rw [g2.2.2.1, g1.2.2.1]
    omega
theorem o_restore (hI : INV M) (k : Mem → Option (Int32 × Mem)) : ∃ M2, LD (f_X11_restore 1 M) (fun M1 => f_X12_restore 134 M1) k = k M2 ∧ INV M2 ∧ mn M2 ≤ mn M + 2 := by
  obtain ⟨s, v, q, p, p', S, V, Pi, A, n, Bs, t, z, fl, a4, a5, im, hI⟩ := hI
  have hI : IV M s v q p p' S V Pi A n Bs t z fl a4 a5 im := hI
  have hu := hI.2.1
  obtain ⟨u1, u2, u3, u4, u5, u6, u7⟩ := hI.2.1
  have hC := hI.2.2.1
  match im, hI, hu, u7, hC with
  | none, hI, hu, u7, hC =>
    have cm : mI M 1 13 = i32 0 := hC.2.2.2.2.2.2
    have rm : mI M 134 50 = i32 0 := hI.2.2.2.2.2.2.2
    refine ⟨sI M 134 2 (i32 0), ?_, (hI.thr ((Chg.rf _ M).sI ⟨rfl, rfl⟩)).inv, by rw [mn_sI]; omega⟩
    rw [c_restore0 hI.1.1 cm]
    exact LD_of hI.1 (r_restore0 hI.1.2.1 rm)
  | some y, hI, hu, u7, hC =>
    obtain ⟨B, m, Cs, b4, b5⟩ := y
    obtain ⟨m1, m2, m3, m4, m5, m6⟩ : CIm M S (some (B, m, Cs, b4, b5)) := hC.2.2.2.2.2.2
    obtain ⟨M1, e1, g1, cc, k1, ac, k4, k5⟩ := c_restore1 hI.1.1 hI.1.2.2.1 hI.1.2.2.2.1 m2 m4 m1
    have gw1 : Gw awI awR M M1 := (g1.gw (fun a j x => by unfold icI at x; omega) (fun a j x => by unfold icR at x; omega)).mono (fun a j x => by unfold icI at x; unfold awI; omega) (fun a j x => by unfold icR at x; unfold awR; omega)
    have l1 := hI.1.gw gw1 awR_dy
    have C1 : CI M1 s v q p p' S V Pi B m Cs t z fl b4 b5 (some (B, m, Cs, b4, b5)) := hC.acts gw1 ⟨cc, by rw [k1]; exact m3, ac⟩ ⟨by rw [g1.i (fun x => by unfold icI at x; omega)]; exact hC.2.2.2.1.1, fun i hi => by rw [g1.i (fun x => by unfold icI at x; omega)]; exact hC.2.2.2.1.2.1 i hi, hC.2.2.2.1.2.2⟩ ⟨by rw [g1.i (fun x => by unfold icI at x; omega)]; exact hC.2.2.2.2.1.1, by rw [k4]; exact m5, by rw [k5]; exact m6⟩
    have R1 := hI.R gw1 (fun a j x => by unfold awI at x; omega)
    obtain ⟨q1, q2, q3, q4, q5, q6⟩ : RIm M1 (some (B, m, Cs, b4, b5)) := R1.2.2.2.2
    obtain ⟨M2, e2, g2, h2, h31, re, ar, h0, h1⟩ := r_restore1 l1.2.1 u7.1 q1 q2 q3 q4
    have hP : ∀ a j, rrI a j → 134 ≤ a ∧ a ≤ 163 := fun a j x => by unfold rrI at x; omega
    have l2 := l1.rch g2 hP
    have C2 := C1.rch g2 hP
    have R2 := R1.acts2 (a4' := b4) (a5' := b5) hu g2 (fun a j x => by unfold rrI at x; omega) ⟨re, h31, ar⟩ (by rw [h0]; exact q5) (by rw [h1]; exact q6)
    refine ⟨M2, ?_, IV.inv ⟨l2, ⟨u1, u2, u3, u4, u7.1, u7.2, u7⟩, C2, R2⟩, ?_⟩
    · rw [e1]
      exact LD_of l1 e2
    · rw [g2.2.2.1, g1.2.2.1]
      omega
theorem o_feed (hI : INV M) (a b c d e : Int32) (k : Mem → Option (Int32 × Mem)) : ∃ M2, LD (f_X11_feed 1 a b c d e M) (fun M1 => f_X12_feed 134 a b c d e M1) k = k M2 ∧ INV M2 ∧ mn M2 ≤ mn M + 2 := by
  obtain ⟨s, v, q, p, p', S, V, Pi, A, n, Bs, t, z, fl, a4, a5, im, hI⟩ := hI
  have hI : IV M s v q p p' S V Pi A n Bs t z fl a4 a5 im := hI
  have hu := hI.2.1
  obtain ⟨u1, u2, ⟨dpv, u3⟩, u4, u5, u6, u7⟩ := hI.2.1
  obtain ⟨c1, c2, c3, c4, ⟨c5, c6, c7⟩, c8, c9⟩ := hI.2.2.1
  obtain ⟨M1, e1, g1, tc⟩ := c_feed hI.1.1 c4 a b c d e
  have gw1 : Gw fdC (fun _ _ => False) M M1 := g1.gw (fun a j x => by unfold fdC at x; omega)
  have l1 := hI.1.gw gw1 (fun _ _ x => x.elim)
  have R1 := hI.R gw1 (fun a j x => Or.inr (by unfold fdC at x; omega))
  obtain ⟨M2, e2, g2, tr⟩ := r_feed l1.2.1 R1.2.1 a b c d e
  generalize (if z + 20 ≤ 700 then feedT t z a b c d e else t) = t' at tc tr
  generalize (if z + 20 ≤ 700 then z + 20 else z) = z' at tc tr
  generalize (if z + 20 ≤ 700 then i32 ((z + 20 : Nat) : Int) else i32 (-1)) = r at e1 e2
  have C1 : CI M1 s v q p p' S V Pi A n Bs t' z' fl a4 a5 im := ⟨c1, c2.gw2 gw1 (fun _ _ x => x), c3.gw2 c1 gw1 (fun a j x => by unfold fdC at x; omega) (fun _ _ x => x.elim) (fun x => x), tc, ⟨by rw [g1.i (fun x => by unfold fdC at x; omega)]; exact c5, by rw [g1.i (fun x => by unfold fdC at x; omega)]; exact c6, by rw [g1.i (fun x => by unfold fdC at x; omega)]; exact c7⟩, c8.gw2 gw1 (fun a j x => by unfold fdC at x; omega) (fun _ x => x), c9.gw2 gw1 (fun a j x => by unfold fdC at x; omega) (fun _ x => x)⟩
  have hP : ∀ a j, (fdR a j ∨ (a = 134 ∧ j = 2)) → 134 ≤ a ∧ a ≤ 163 := fun a j x => by unfold fdR at x; omega
  have l2 := l1.rch g2 hP
  have C2 := C1.rch g2 hP
  have gw2 := rw_g g2 hP
  obtain ⟨⟨b1, b2, b3⟩, b4, ⟨b5, b6, b7⟩, b8, b9⟩ := R1
  have R2 : RI M2 S V Pi A n Bs t' z' fl a4 a5 im := ⟨⟨b1.gw2 u1.1 gw2 (fun x => by unfold fdR at x; omega) (fun x => by unfold fdR at x; omega) (fun a j _ _ _ x => by unfold fdR at x; omega) (fun j _ x => by unfold fdR at x; omega) (fun j x => by unfold fdR at x; omega), b2.gw2 u3.1 gw2 (fun x => by unfold fdR at x; omega) (fun a j _ _ _ x => by unfold fdR at x; omega), b3.gw2 u4 gw2 (fun x => by unfold fdR at x; omega) (fun j _ x => by unfold fdR at x; omega) (fun j _ x => by unfold fdR at x; omega)⟩, tr, ⟨by rw [g2.i (fun x => by unfold fdR at x; omega)]; exact b5, by rw [g2.i (fun x => by unfold fdR at x; omega)]; exact b6, by rw [g2.i (fun x => by unfold fdR at x; omega)]; exact b7⟩, b8.gw2 gw2 (fun a j x => by unfold fdR at x; omega), b9.gw2 gw2 (fun a j x => by unfold fdR at x; omega)⟩
  refine ⟨M2, ?_, IV.inv ⟨l2, hu, C2, R2⟩, ?_⟩
  · rw [e1]
    exact LD_of l1 e2
  · rw [g2.2.2.1, g1.2.2.1]
    omega
theorem o_add (hI : INV M) (hm : mn M + 2 < 900000) (x : Int32) (k : Mem → Option (Int32 × Mem)) : ∃ M2, LB (f_L_add 1 x 164 M) (fun M1 => f_X12_add 134 x M1) k = k M2 ∧ INV M2 ∧ mn M2 ≤ mn M + 2 := by
  obtain ⟨s, v, q, p, p', S, V, Pi, A, n, Bs, t, z, fl, a4, a5, im, hI⟩ := hI
  have hI : IV M s v q p p' S V Pi A n Bs t z fl a4 a5 im := hI
  have hu := hI.2.1
  obtain ⟨u1, ⟨dp, u2⟩, u3, u4, u5, u6, u7⟩ := hI.2.1
  have hC := hI.2.2.1
  have hR := hI.2.2.2
  obtain ⟨x, rfl, x1, x2⟩ := i32_all x
  have e : f_L_add 1 (i32 x) 164 M = LW (f_X11_add 1 (i32 x) M) (fun e M1 => if e = 1 then none else some (1, M1)) := by
    unfold f_L_add
    rw [if_pos hI.1.1.o.1, if_pos (okLaw hI.1).2]
    rfl
  obtain ⟨M1, e1, g1, hn1, r1⟩ := c_add hI.ro u2 hC.2.2.2.1 hC.2.2.2.2.2.1.2.2 u6 (by omega) x x1 x2
  rw [e, e1]
  by_cases c : 0 ≤ x ∧ x ≤ z
  · rw [if_pos c] at r1
    obtain ⟨t0, r1⟩ := r1
    have l1 := hI.1.gw g1 awR_dy
    have R1 := hI.R g1 (fun a j x => by unfold awI at x; omega)
    obtain ⟨r, ea⟩ : ∃ r, a_add S A t z x = .inr r := by
      unfold a_add
      rw [if_pos c]
      by_cases d : S.nf = 0 ∨ (chk S A).1 ≠ 0
      · rw [if_pos d]
        exact ⟨_, rfl⟩
      · rw [if_neg d]
        generalize adR S t x.toNat A = w
        cases w <;> exact ⟨_, rfl⟩
    rw [ea]
    have l1j := l1.gw (Gw.sJ M1 r.toInt64) (fun _ _ x => x.elim)
    have R1j := R1.keep hu (Gw.sJ M1 r.toInt64) (fun _ _ x => x.elim)
    obtain ⟨r', M2, e2, g2, r2⟩ := r_add u1 ⟨l1j.2.1, R1j.1.1, R1j.2.2.2.1.1⟩ u2 R1j.2.1 u5 R1j.2.2.2.1.2.1 R1j.2.2.2.1.2.2 u6 x x1 x2
    rw [if_pos c, ea] at r2
    obtain ⟨h2, q1, t2, r2⟩ := r2
    cases q1
    have hP : ∀ a j, rwI a j → 134 ≤ a ∧ a ≤ 163 := fun a j x => by unfold rwI at x; omega
    have l2 := l1j.rch g2 hP
    have fin : ∀ (A' : St) (n' : Nat) (Bs' : Nat → St) (fl' a4' a5' : Int32), PU S V Pi A' n' Bs' im → CAft M1 S A' n' Bs' → (mI M1 1 14 = fl' ∧ mI M1 18 4 = a4' ∧ mI M1 18 5 = a5') → RAft M2 A' n' Bs' → (mI M2 134 14 = fl' ∧ mI M2 138 0 = a4' ∧ mI M2 138 1 = a5') → INV M2 := fun A' n' Bs' fl' a4' a5' hu' ca cf ra rf' => by
      have C1 := hC.acts g1 ca (hC.2.2.2.1.zero t0) cf
      have C1j := C1.keep (Gw.sJ M1 r.toInt64) (fun _ _ x => x.elim) (fun _ _ x => x.elim)
      exact IV.inv ⟨l2, hu', C1j.rch g2 hP, R1j.acts hu g2 ra (R1j.2.1.zero t2) rf'⟩
    refine ⟨M2, LB_inr l1 e2 l2 g2.2.2.2.1 h2, ?_, ?_⟩
    · by_cases d : S.nf = 0 ∨ (chk S A).1 ≠ 0
      · rw [if_pos d] at r1 r2
        obtain ⟨ca, k14, k4, k5⟩ := r1
        obtain ⟨ra, j14, j4, j5⟩ := r2
        exact fin A n Bs fl a4 (a5 + i32 1) hu ca ⟨by rw [k14]; exact hC.2.2.2.2.1.1, by rw [k4]; exact hC.2.2.2.2.1.2.1, by rw [k5, hC.2.2.2.2.1.2.2]⟩ ra ⟨by rw [j14]; exact R1j.2.2.1.1, by rw [j4]; exact R1j.2.2.1.2.1, by rw [j5, R1j.2.2.1.2.2]⟩
      · rw [if_neg d] at r1 r2
        obtain ⟨k5, r1⟩ := r1
        obtain ⟨j5, r2⟩ := r2
        generalize adR S t x.toNat A = w at r1 r2
        match w, r1, r2 with
        | .inl y, r1, r2 =>
          obtain ⟨ca, k14, k4⟩ := r1
          obtain ⟨ra, j14, j4⟩ := r2
          exact fin A n Bs (i32 y.2) (a4 + i32 1) a5 hu ca ⟨k14, by rw [k4, hC.2.2.2.2.1.2.1], by rw [k5]; exact hC.2.2.2.2.1.2.2⟩ ra ⟨j14, by rw [j4, R1j.2.2.1.2.1], by rw [j5]; exact R1j.2.2.1.2.2⟩
        | .inr B, r1, r2 =>
          obtain ⟨ca, k14, k4⟩ := r1
          obtain ⟨ra, j14, j4⟩ := r2
          exact fin B (nK n) (bsK n Bs B) (i32 (-1)) a4 a5 hu.act ca ⟨k14, by rw [k4]; exact hC.2.2.2.2.1.2.1, by rw [k5]; exact hC.2.2.2.2.1.2.2⟩ ra ⟨j14, by rw [j4]; exact R1j.2.2.1.2.1, by rw [j5]; exact R1j.2.2.1.2.2⟩
    · rw [g2.2.2.1, mn_sJ]
      omega
  · rw [if_neg c] at r1
    subst r1
    have ea : a_add S A t z x = .inl 2 := by unfold a_add; rw [if_neg c]
    rw [ea]
    obtain ⟨r', M2, e2, -, r2⟩ := r_add u1 hI.rv u2 hR.2.1 u5 hR.2.2.2.1.2.1 hR.2.2.2.1.2.2 u6 x x1 x2
    rw [if_neg c] at r2
    have I2 := hI.thr r2.2
    refine ⟨M2, LB_inl (c := i32 1) hI.1 rfl (by decide) e2 I2.1 r2.1, I2.inv, ?_⟩
    rw [r2.2.2.2.1]
    omega
end
