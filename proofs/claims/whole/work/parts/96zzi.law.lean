/-! The calls that change the records -/
def LD (c : Option (Int32 × Mem)) (rf : Mem → Option (Int32 × Mem)) (k : Mem → Option (Int32 × Mem)) : Option (Int32 × Mem) :=
  bnd c fun r M1 =>
  if mK M1 134 = 13 then
    bnd (rf M1) fun r' M2 =>
    if r = r' then
      k M2
    else
      some ((0 : Int32), M2)
  else none
section
variable {M M1 M2 M' : Mem} {s v q p p' n n' z z' : Nat} {S V : Sc} {A A' : St} {Pi : Pp} {Bs Bs' : Nat → St} {t t' : Nat → Int} {fl a4 a5 fl' a4' a5' : Int32} {im : Im} {P Q : Nat → Nat → Prop}
variable {rf k : Mem → Option (Int32 × Mem)}
theorem LD_of {r : Int32} (l1 : Lay M1) (e : rf M1 = some (r, M2)) : LD (some (r, M1)) rf k = k M2 := by
  unfold LD
  rw [bnd_of, if_pos l1.2.1.k, e, bnd_of, if_pos rfl]
theorem okLaw (h : Lay M) : okrB M [4000000, 1, 134, 164] = true ∧ okrB M [1, 164, 164] = true := by
  have := h.m
  unfold okrB
  simp only [List.all_cons, List.all_nil, Bool.and_true, Bool.and_eq_true, Bool.or_eq_true, decide_eq_true_eq]
  omega
theorem ac_aw (a j : Nat) (x : acI a j) : awI a j := by
  unfold acI at x
  unfold awI
  omega
theorem acR_aw (a j : Nat) (x : acR a j) : awR a j := by
  unfold acR at x
  unfold awR
  omega
theorem CI.acts (h : CI M s v q p p' S V Pi A n Bs t z fl a4 a5 im) (g : Gw awI awR M M') (hA : CAft M' S A' n' Bs') (hT : TPc M' t' z') (hf : mI M' 1 14 = fl' ∧ mI M' 18 4 = a4' ∧ mI M' 18 5 = a5') : CI M' s v q p p' S V Pi A' n' Bs' t' z' fl' a4' a5' im := by
  obtain ⟨h1, h2, h3, h4, h5, h8, h9⟩ := h
  exact ⟨h1, h2.gw2 g (fun j _ x => by unfold awR at x; omega), h3.gw2 h1 g (fun a j x => by unfold awI at x; omega) awR_dy (fun x => by unfold awR at x; omega), hT, hf, hA, h9.gw2 g (fun a j x => by unfold awI at x; omega) (fun j x => by unfold awR at x; omega)⟩
theorem CI.acts2 (h : CI M s v q p p' S V Pi A n Bs t z fl a4 a5 im) (g : Gw acI acR M M') (hA : CAft M' S A' n' Bs') : CI M' s v q p p' S V Pi A' n' Bs' t z fl a4 a5 im := h.acts (g.mono ac_aw acR_aw) hA (h.2.2.2.1.gw2 g (fun x => by unfold acI at x; omega) (fun j x => by unfold acI at x; omega)) ⟨by rw [g.i (by omega) (fun x => by unfold acI at x; omega)]; exact h.2.2.2.2.1.1, by rw [g.i (by omega) (fun x => by unfold acI at x; omega)]; exact h.2.2.2.2.1.2.1, by rw [g.i (by omega) (fun x => by unfold acI at x; omega)]; exact h.2.2.2.2.1.2.2⟩
theorem rw_g (g : Chg P M M') (hP : ∀ a j, P a j → 134 ≤ a ∧ a ≤ 163) : Gw P (fun _ _ => False) M M' := g.gw (fun a j x => by have := hP a j x; omega)
theorem CI.rch (h : CI M s v q p p' S V Pi A n Bs t z fl a4 a5 im) (g : Chg P M M') (hP : ∀ a j, P a j → 134 ≤ a ∧ a ≤ 163) : CI M' s v q p p' S V Pi A n Bs t z fl a4 a5 im := h.keep (rw_g g hP) (fun a j x => Or.inr (hP a j x)) (fun _ _ x => x.elim)
theorem Lay.rch (h : Lay M) (g : Chg P M M') (hP : ∀ a j, P a j → 134 ≤ a ∧ a ≤ 163) : Lay M' := h.gw (rw_g g hP) (fun _ _ x => x.elim)
theorem RI.acts (h : RI M S V Pi A n Bs t z fl a4 a5 im) (hu : PU S V Pi A n Bs im) (g : Chg rwI M M') (hA : RAft M' A' n' Bs') (hT : TPr M' t' z') (hf : mI M' 134 14 = fl' ∧ mI M' 138 0 = a4' ∧ mI M' 138 1 = a5') : RI M' S V Pi A' n' Bs' t' z' fl' a4' a5' im := by
  obtain ⟨⟨h1, h2, h3⟩, h4, h5, h8, h9⟩ := h
  obtain ⟨u1, u2, ⟨dp, u3⟩, u4, u5⟩ := hu
  have g := rw_g g (fun a j x => by unfold rwI at x; omega)
  exact ⟨⟨h1.gw2 u1.1 g (fun x => by unfold rwI at x; omega) (fun x => by unfold rwI at x; omega) (fun a j _ _ _ x => by unfold rwI at x; omega) (fun j _ x => by unfold rwI at x; omega) (fun j x => by unfold rwI at x; omega), h2.gw2 u3.1 g (fun x => by unfold rwI at x; omega) (fun a j _ _ _ x => by unfold rwI at x; omega), h3.gw2 u4 g (fun x => by unfold rwI at x; omega) (fun j _ x => by unfold rwI at x; omega) (fun j _ x => by unfold rwI at x; omega)⟩, hT, hf, hA, h9.gw2 g (fun a j x => by unfold rwI at x; omega)⟩
/-- the tape and the fault stand -/
theorem RI.acts2 (h : RI M S V Pi A n Bs t z fl a4 a5 im) (hu : PU S V Pi A n Bs im) (g : Chg P M M') (hP : ∀ a j, P a j → (a = 134 ∧ (j = 2 ∨ j = 30 ∨ j = 31 ∨ j = 34 ∨ j = 35)) ∨ a = 138 ∨ (150 ≤ a ∧ a ≤ 154)) (hA : RAft M' A' n' Bs') (h4 : mI M' 138 0 = a4') (h5 : mI M' 138 1 = a5') : RI M' S V Pi A' n' Bs' t z fl a4' a5' im := h.acts hu (g.mono (fun a j x => by have := hP a j x; unfold rwI; omega)) hA (h.2.1.gw2 (rw_g g (fun a j x => by have := hP a j x; omega)) (fun x => by have := hP _ _ x; omega) (fun j x => by have := hP _ _ x; omega)) ⟨by rw [g.i (fun x => by have := hP _ _ x; omega)]; exact h.2.2.1.1, h4, h5⟩
theorem IV.R (h : IV M s v q p p' S V Pi A n Bs t z fl a4 a5 im) (g : Gw P Q M M') (hP : ∀ a j, P a j → ScI a j ∨ a < 134) : RI M' S V Pi A n Bs t z fl a4 a5 im := h.2.2.2.keep h.2.1 g hP
/-- only the throw's cell -/
theorem IV.thr (h : IV M s v q p p' S V Pi A n Bs t z fl a4 a5 im) (g : Chg (fun a j => a = 134 ∧ j = 2) M M') : IV M' s v q p p' S V Pi A n Bs t z fl a4 a5 im := h.scr (g.scr (fun a j x => by unfold ScI; omega))
theorem PU.act (h : PU S V Pi A n Bs im) : PU S V Pi A' (nK n) (bsK n Bs A') im := by
  obtain ⟨u1, u2, u3, u4, u5, u6, u7⟩ := h
  exact ⟨u1, u2, u3, u4, by unfold nK; split <;> omega, bsK_n n Bs A' u5, u7⟩
theorem o_fault (hI : INV M) (k : Mem → Option (Int32 × Mem)) : ∃ M2, LD (f_X11_fault 1 M) (fun M1 => f_X12_fault 134 M1) k = k M2 ∧ INV M2 ∧ mn M2 ≤ mn M + 2 := by
  obtain ⟨s, v, q, p, p', S, V, Pi, A, n, Bs, t, z, fl, a4, a5, im, hI⟩ := hI
  have hI : IV M s v q p p' S V Pi A n Bs t z fl a4 a5 im := hI
  refine ⟨sI M 134 2 (0 : Int32), ?_, (hI.thr ((Chg.rf _ M).sI ⟨rfl, rfl⟩)).inv, by rw [mn_sI]; omega⟩
  rw [c_fault hI.1.1]
  have e := r_fault hI.1.2.1
  rw [hI.2.2.2.2.2.1.1, ← hI.2.2.1.2.2.2.2.1.1] at e
  exact LD_of hI.1 e
theorem o_set (hI : INV M) (hm : mn M + 2 < 900000) (x y w : Int32) (k : Mem → Option (Int32 × Mem)) : ∃ M2, LB (f_L_set 1 x y w 164 M) (fun M1 => f_X12_set 134 x y w M1) k = k M2 ∧ INV M2 ∧ mn M2 ≤ mn M + 2 := by
  obtain ⟨s, v, q, p, p', S, V, Pi, A, n, Bs, t, z, fl, a4, a5, im, hI⟩ := hI
  have hI : IV M s v q p p' S V Pi A n Bs t z fl a4 a5 im := hI
  have hu := hI.2.1
  obtain ⟨u1, -, -, u4, u5, u6, u7⟩ := hI.2.1
  obtain ⟨x, rfl, x1, x2⟩ := i32_all x
  obtain ⟨y, rfl, y1, y2⟩ := i32_all y
  obtain ⟨w, rfl, w1, w2⟩ := i32_all w
  have e : f_L_set 1 (i32 x) (i32 y) (i32 w) 164 M = LW (f_X11_set 1 (i32 x) (i32 y) (i32 w) M) (fun e M1 => if e = 1 then some (1, M1) else none) := by
    unfold f_L_set
    rw [if_pos hI.1.1.o.1, if_pos (okLaw hI.1).2]
    rfl
  have hC := hI.2.2.1
  have hR := hI.2.2.2
  obtain ⟨M1, e1, r1⟩ := c_set hI.ro (by omega) hC.2.2.2.2.2.1.2.2 u6 x y w x1 x2 y1 y2 w1 w2
  rw [e, e1]
  by_cases c : okE S A x y
  · rw [if_pos c] at r1
    by_cases d : stE S A x.toNat y.toNat w
    · rw [if_pos d] at r1
      obtain ⟨g1, cc, k1, ac, hn1⟩ := r1
      have l1 := hI.1.gw g1 (fun a j x => awR_dy a j (acR_aw a j x))
      have C1 := hC.acts2 g1 ⟨cc, by rw [k1]; exact hC.2.2.2.2.2.1.2.1, ac⟩
      have R1 := hI.R g1 (fun a j x => by unfold acI at x; omega)
      have ea : a_set S A x y w = .inr (i32 (A.vl x.toNat y.toNat)) := by unfold a_set; rw [if_pos c, if_pos d]
      rw [ea]
      generalize hr : i32 (A.vl x.toNat y.toNat) = r at ea
      have l1j := l1.gw (Gw.sJ M1 r.toInt64) (fun _ _ x => x.elim)
      have R1j := R1.keep hu (Gw.sJ M1 r.toInt64) (fun _ _ x => x.elim)
      have C1j := C1.keep (Gw.sJ M1 r.toInt64) (fun _ _ x => x.elim) (fun _ _ x => x.elim)
      obtain ⟨r', M2, e2, r2⟩ := r_set u1 ⟨l1j.2.1, R1j.1.1, R1j.2.2.2.1.1⟩ u5 R1j.2.2.2.1.2.1 R1j.2.2.2.1.2.2 u6 x y w x1 x2 y1 y2 w1 w2
      rw [if_pos c, if_pos d, ea] at r2
      obtain ⟨q1, g2, re, h2, h31, ar⟩ := r2
      cases q1
      have hP : ∀ a j, stR a j → 134 ≤ a ∧ a ≤ 163 := fun a j x => by unfold stR at x; omega
      have l2 := l1j.rch g2 hP
      have C2 := C1j.rch g2 hP
      have R2 := R1j.acts2 (a4' := a4) (a5' := a5) hu g2 (fun a j x => by unfold stR at x; omega) ⟨re, h31, ar⟩ (by rw [g2.i (by unfold stR; omega)]; exact R1j.2.2.1.2.1) (by rw [g2.i (by unfold stR; omega)]; exact R1j.2.2.1.2.2)
      refine ⟨M2, LB_inr l1 e2 l2 g2.2.2.2.1 h2, IV.inv ⟨l2, hu.act, C2, R2⟩, ?_⟩
      rw [g2.2.2.1, mn_sJ]
      omega
    · rw [if_neg d] at r1
      unfold CRef at r1
      subst r1
      have g1 : Chg (fun a j => a = 18 ∧ j = 5) M (sI M 18 5 (mI M 18 5 + i32 1)) := (Chg.rf _ M).sI ⟨rfl, rfl⟩
      have gw1 : Gw (fun a j => a = 18 ∧ j = 5) (fun _ _ => False) M (sI M 18 5 (mI M 18 5 + i32 1)) := g1.gw (fun a j x => by omega)
      have l1 := hI.1.gw gw1 (fun _ _ x => x.elim)
      have C1 : CI (sI M 18 5 (mI M 18 5 + i32 1)) s v q p p' S V Pi A n Bs t z fl a4 (a5 + i32 1) im := hC.acts (gw1.mono (fun a j x => by unfold awI; omega) (fun _ _ x => x.elim)) (hC.2.2.2.2.2.1.gw2 gw1 (fun a j x => by omega) (fun _ x => x)) (hC.2.2.2.1.gw2 gw1 (fun x => by omega) (fun j x => by omega)) ⟨by rw [mI_sI_ne (by omega)]; exact hC.2.2.2.2.1.1, by rw [mI_sI_ne (by omega)]; exact hC.2.2.2.2.1.2.1, by rw [mI_sI_eq, hC.2.2.2.2.1.2.2]⟩
      have R1 := hI.R gw1 (fun a j x => by omega)
      generalize sI M 18 5 (mI M 18 5 + i32 1) = M1 at *
      have ea : a_set S A x y w = .inr (i32 (-1)) := by unfold a_set; rw [if_pos c, if_neg d]
      rw [ea]
      generalize hr : i32 (-1) = r at ea
      have l1j := l1.gw (Gw.sJ M1 r.toInt64) (fun _ _ x => x.elim)
      have R1j := R1.keep hu (Gw.sJ M1 r.toInt64) (fun _ _ x => x.elim)
      have C1j := C1.keep (Gw.sJ M1 r.toInt64) (fun _ _ x => x.elim) (fun _ _ x => x.elim)
      obtain ⟨r', M2, e2, r2⟩ := r_set u1 ⟨l1j.2.1, R1j.1.1, R1j.2.2.2.1.1⟩ u5 R1j.2.2.2.1.2.1 R1j.2.2.2.1.2.2 u6 x y w x1 x2 y1 y2 w1 w2
      rw [if_pos c, if_neg d, ea] at r2
      obtain ⟨q1, g2, h2, h138⟩ := r2
      cases q1
      have hP : ∀ a j, ((a = 134 ∧ j = 2) ∨ (a = 138 ∧ j = 1)) → 134 ≤ a ∧ a ≤ 163 := fun a j x => by omega
      have l2 := l1j.rch g2 hP
      have C2 := C1j.rch g2 hP
      have R2 := R1j.acts2 (a4' := a4) (a5' := a5 + i32 1) hu g2 (fun a j x => by omega) (R1j.2.2.2.1.gw2 (rw_g g2 hP) (fun a j x => by omega)) (by rw [g2.i (by omega)]; exact R1j.2.2.1.2.1) (by rw [h138, R1j.2.2.1.2.2])
      refine ⟨M2, LB_inr l1 e2 l2 g2.2.2.2.1 h2, IV.inv ⟨l2, hu, C2, R2⟩, ?_⟩
      rw [g2.2.2.1, mn_sJ, g1.2.2.1]
      omega
  · rw [if_neg c] at r1
    subst r1
    have ea : a_set S A x y w = .inl 1 := by unfold a_set; rw [if_neg c]
    rw [ea]
    obtain ⟨r', M2, e2, r2⟩ := r_set u1 hI.rv u5 hR.2.2.2.1.2.1 hR.2.2.2.1.2.2 u6 x y w x1 x2 y1 y2 w1 w2
    rw [if_neg c] at r2
    have I2 := hI.thr r2.1
    refine ⟨M2, LB_inl hI.1 rfl (by decide) e2 I2.1 r2.2, I2.inv, ?_⟩
    rw [r2.1.2.2.1]
    omega
theorem dmN_rc (A : St) (w : Int) (l j : Nat) (d : Int) : (dmN A w l j d).rc = A.rc := by
  unfold dmN
  split <;> rfl
theorem o_damage (hI : INV M) (hm : mn M + 2 < 900000) (x y w d : Int32) (k : Mem → Option (Int32 × Mem)) : ∃ M2, LB (f_L_damage 1 x y w d 164 M) (fun M1 => f_X12_damage 134 x y w d M1) k = k M2 ∧ INV M2 ∧ mn M2 ≤ mn M + 2 := by
  obtain ⟨s, v, q, p, p', S, V, Pi, A, n, Bs, t, z, fl, a4, a5, im, hI⟩ := hI
  have hI : IV M s v q p p' S V Pi A n Bs t z fl a4 a5 im := hI
  have hu := hI.2.1
  obtain ⟨u1, -, -, u4, u5, u6, u7⟩ := hI.2.1
  obtain ⟨x, rfl, x1, x2⟩ := i32_all x
  obtain ⟨y, rfl, y1, y2⟩ := i32_all y
  obtain ⟨w, rfl, w1, w2⟩ := i32_all w
  obtain ⟨d, rfl, d1, d2⟩ := i32_all d
  have e : f_L_damage 1 (i32 x) (i32 y) (i32 w) (i32 d) 164 M = LW (f_X11_damage 1 (i32 x) (i32 y) (i32 w) (i32 d) M) (fun e M1 => if e = 1 then some (1, M1) else none) := by
    unfold f_L_damage
    rw [if_pos hI.1.1.o.1, if_pos (okLaw hI.1).2]
    rfl
  have hC := hI.2.2.1
  have hR := hI.2.2.2
  obtain ⟨M1, e1, r1⟩ := c_damage hI.ro (by omega) hC.2.2.2.2.2.1.2.2 u6 x y w d x1 x2 y1 y2 w1 w2 d1 d2
  rw [e, e1]
  by_cases c : okE S A x y ∧ 0 ≤ w ∧ w ≤ 1
  · rw [if_pos c] at r1
    by_cases f : dmE d (dmO A w x.toNat y.toNat)
    · rw [if_pos f] at r1
      obtain ⟨g1, cc, k1, ac, hn1⟩ := r1
      have l1 := hI.1.gw g1 (fun a j x => awR_dy a j (acR_aw a j x))
      have C1 := hC.acts2 g1 ⟨cc, by rw [k1, dmN_rc]; exact hC.2.2.2.2.2.1.2.1, ac⟩
      have R1 := hI.R g1 (fun a j x => by unfold acI at x; omega)
      have ea : a_damage S A x y w d = .inr (i32 (dmO A w x.toNat y.toNat)) := by unfold a_damage; rw [if_pos c, if_pos f]
      rw [ea]
      generalize hr : i32 (dmO A w x.toNat y.toNat) = r at ea
      have l1j := l1.gw (Gw.sJ M1 r.toInt64) (fun _ _ x => x.elim)
      have R1j := R1.keep hu (Gw.sJ M1 r.toInt64) (fun _ _ x => x.elim)
      have C1j := C1.keep (Gw.sJ M1 r.toInt64) (fun _ _ x => x.elim) (fun _ _ x => x.elim)
      obtain ⟨r', M2, e2, r2⟩ := r_damage u1 ⟨l1j.2.1, R1j.1.1, R1j.2.2.2.1.1⟩ u5 R1j.2.2.2.1.2.1 R1j.2.2.2.1.2.2 u6 x y w d x1 x2 y1 y2 w1 w2 d1 d2
      rw [if_pos c, if_pos f, ea] at r2
      obtain ⟨q1, g2, re, h2, h31, ar⟩ := r2
      cases q1
      have hP : ∀ a j, stR a j → 134 ≤ a ∧ a ≤ 163 := fun a j x => by unfold stR at x; omega
      have l2 := l1j.rch g2 hP
      have C2 := C1j.rch g2 hP
      have R2 := R1j.acts2 (a4' := a4) (a5' := a5) hu g2 (fun a j x => by unfold stR at x; omega) ⟨re, h31, ar⟩ (by rw [g2.i (by unfold stR; omega)]; exact R1j.2.2.1.2.1) (by rw [g2.i (by unfold stR; omega)]; exact R1j.2.2.1.2.2)
      refine ⟨M2, LB_inr l1 e2 l2 g2.2.2.2.1 h2, IV.inv ⟨l2, hu.act, C2, R2⟩, ?_⟩
      rw [g2.2.2.1, mn_sJ]
      omega
    · rw [if_neg f] at r1
      unfold CRef at r1
      subst r1
      have g1 : Chg (fun a j => a = 18 ∧ j = 5) M (sI M 18 5 (mI M 18 5 + i32 1)) := (Chg.rf _ M).sI ⟨rfl, rfl⟩
      have gw1 : Gw (fun a j => a = 18 ∧ j = 5) (fun _ _ => False) M (sI M 18 5 (mI M 18 5 + i32 1)) := g1.gw (fun a j x => by omega)
      have l1 := hI.1.gw gw1 (fun _ _ x => x.elim)
      have C1 : CI (sI M 18 5 (mI M 18 5 + i32 1)) s v q p p' S V Pi A n Bs t z fl a4 (a5 + i32 1) im := hC.acts (gw1.mono (fun a j x => by unfold awI; omega) (fun _ _ x => x.elim)) (hC.2.2.2.2.2.1.gw2 gw1 (fun a j x => by omega) (fun _ x => x)) (hC.2.2.2.1.gw2 gw1 (fun x => by omega) (fun j x => by omega)) ⟨by rw [mI_sI_ne (by omega)]; exact hC.2.2.2.2.1.1, by rw [mI_sI_ne (by omega)]; exact hC.2.2.2.2.1.2.1, by rw [mI_sI_eq, hC.2.2.2.2.1.2.2]⟩
      have R1 := hI.R gw1 (fun a j x => by omega)
      generalize sI M 18 5 (mI M 18 5 + i32 1) = M1 at *
      have ea : a_damage S A x y w d = .inr (i32 (-1)) := by unfold a_damage; rw [if_pos c, if_neg f]
      rw [ea]
      generalize hr : i32 (-1) = r at ea
      have l1j := l1.gw (Gw.sJ M1 r.toInt64) (fun _ _ x => x.elim)
      have R1j := R1.keep hu (Gw.sJ M1 r.toInt64) (fun _ _ x => x.elim)
      have C1j := C1.keep (Gw.sJ M1 r.toInt64) (fun _ _ x => x.elim) (fun _ _ x => x.elim)
      obtain ⟨r', M2, e2, r2⟩ := r_damage u1 ⟨l1j.2.1, R1j.1.1, R1j.2.2.2.1.1⟩ u5 R1j.2.2.2.1.2.1 R1j.2.2.2.1.2.2 u6 x y w d x1 x2 y1 y2 w1 w2 d1 d2
      rw [if_pos c, if_neg f, ea] at r2
      obtain ⟨q1, g2, h2, h138⟩ := r2
      cases q1
      have hP : ∀ a j, ((a = 134 ∧ j = 2) ∨ (a = 138 ∧ j = 1)) → 134 ≤ a ∧ a ≤ 163 := fun a j x => by omega
      have l2 := l1j.rch g2 hP
      have C2 := C1j.rch g2 hP
      have R2 := R1j.acts2 (a4' := a4) (a5' := a5 + i32 1) hu g2 (fun a j x => by omega) (R1j.2.2.2.1.gw2 (rw_g g2 hP) (fun a j x => by omega)) (by rw [g2.i (by omega)]; exact R1j.2.2.1.2.1) (by rw [h138, R1j.2.2.1.2.2])
      refine ⟨M2, LB_inr l1 e2 l2 g2.2.2.2.1 h2, IV.inv ⟨l2, hu, C2, R2⟩, ?_⟩
      rw [g2.2.2.1, mn_sJ, g1.2.2.1]
      omega
  · rw [if_neg c] at r1
    subst r1
    have ea : a_damage S A x y w d = .inl 1 := by unfold a_damage; rw [if_neg c]
    rw [ea]
    obtain ⟨r', M2, e2, r2⟩ := r_damage u1 hI.rv u5 hR.2.2.2.1.2.1 hR.2.2.2.1.2.2 u6 x y w d x1 x2 y1 y2 w1 w2 d1 d2
    rw [if_neg c] at r2
    have I2 := hI.thr r2.1
    refine ⟨M2, LB_inl hI.1 rfl (by decide) e2 I2.1 r2.2, I2.inv, ?_⟩
    rw [r2.1.2.2.1]
    omega
end
