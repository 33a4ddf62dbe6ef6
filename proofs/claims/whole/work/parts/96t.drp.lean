/-! drop in the class: the call -/
section
variable {M : Mem} {A : St} {fu : Nat → Int} {S : Sc} {s n : Nat} {Bs : Nat → St}
theorem cut_pre {nl : Nat} (h1 : 1 ≤ A.rc) : PreR nl (cutS nl A) A := by
  refine ⟨?_, fun l _ => ⟨cutJ_le A nl l, fun q => cutJ_ge q⟩, fun l j _ _ => ⟨rfl, rfl, rfl⟩⟩
  show A.rc - 1 + 1 = A.rc
  omega
theorem dropAct {nl : Nat} (hnl : nl ≤ 8) (h1 : 1 ≤ A.rc) (hL : CLay M) (hc : ColLay M 21) (hC : CC M 21 fu A) (hrc : mI M 18 1 = i32 A.rc) (hm1 : 164 ≤ mn M) (hm2 : mn M + 2 < 900000) : ∃ M13 M17, f_X7_tailRow 18 (i32 nl) (mNew M 1 0) = some (mn M + 2, M13) ∧ f_X0_init (mn M + 1) (1 : Int32) (0 : Int32) (0 : Int32) (0 : Int32) (mn M + 2) M13 = some ((), M17) ∧ Gw (fun _ _ => False) (fun _ _ => False) M M17 ∧ mn M17 = mn M + 2 ∧ ActOk M17 nl (mn M + 1) A (cutS nl A) := by
  have gn : Gw (fun _ _ => False) (fun _ _ => False) M (mNew M 1 0) := Gw.new hm1 1 0
  have hK : mK (mNew M 1 0) (mn M + 1) = 1 := mK_new_eq
  have hN : mn (mNew M 1 0) = mn M + 1 := mn_new
  generalize mNew M 1 0 = M0 at gn hK hN ⊢
  obtain ⟨M13, e1, g1, n1, row⟩ := X7_tailRow (A := A) (fu := fu) hnl h1 (hL.gw gn (fun _ _ q => q.elim)) (ColLay.gw hc (Or.inl rfl) gn (fun _ _ q => q.elim)) (hC.q2 (fun a j q _ => gn.i q (fun w => w))) (by rw [gn.i (by omega) (fun w => w)]; exact hrc) (by omega) (by omega)
  rw [hN, show mn M + 1 + 1 = mn M + 2 by omega] at e1 n1 row
  have hK13 : mK M13 (mn M + 1) = 1 := by rw [(g1.2.2.2.2 (mn M + 1) (by omega) (by omega)).1]; exact hK
  have g2 := gn.tr g1
  have h0 : 164 < mn M + 1 ∧ mn M < mn M + 1 := by omega
  have hb : mn M + 1 < mn M + 2 := by omega
  generalize mn M + 1 = b at hK hK13 h0 hb ⊢
  generalize mn M + 2 = d at e1 n1 row hb ⊢
  have e2 := X0_init (M := M13) (a := b) (by omega) hK13 (1 : Int32) (0 : Int32) (0 : Int32) (0 : Int32) (r := d) (by omega)
  refine ⟨M13, _, e1, e2, (((((g2.sI (Or.inr h0)).sI (Or.inr h0)).sI (Or.inr h0)).sI (Or.inr h0)).sR (Or.inr h0)), n1, hK13, by omega, by show b ≤ mn M13; omega, hC.1, Or.inr (Or.inl ⟨?_, ?_, ?_, cut_pre h1, ?_⟩)⟩
  · rw [mI_sR, mI_sI_ne (by omega), mI_sI_ne (by omega), mI_sI_ne (by omega), mI_sI_eq]
    rfl
  · rw [mR_sR_eq]; omega
  · rw [mR_sR_eq]
    show d ≤ mn M13
    omega
  · rw [mR_sR_eq]
    obtain ⟨q1, q2, q3⟩ := row
    refine ⟨q1, q2, fun l hl => ?_⟩
    have q := q3 l hl
    refine ⟨?_, fun i hi => ?_⟩
    · rw [mI_sR, mI_sI_ne (by omega), mI_sI_ne (by omega), mI_sI_ne (by omega), mI_sI_ne (by omega)]
      exact q.1
    · rw [mI_sR, mI_sI_ne (by omega), mI_sI_ne (by omega), mI_sI_ne (by omega), mI_sI_ne (by omega)]
      exact q.2 i hi
theorem c_drop (h : RO M s S A) (hm2 : mn M + 2 < 900000) (hac : ActsC M 18 20 S.nl n Bs) (hBs : Bs n = A) : ∃ M', f_X11_drop 1 M = some (a_drop S A, M') ∧ (if drN S A then ∃ M1, Scr M M1 ∧ CRef M1 M' else ∃ M1, Scr M M1 ∧ Gw acI acR M1 M' ∧ CC M' 21 S.fu (cutS S.nl A) ∧ mI M' 18 1 = i32 ((A.rc - 1 : Nat) : Int) ∧ ActsC M' 18 20 S.nl (nK n) (bsK n Bs (cutS S.nl A)) ∧ mn M' = mn M + 2) := by
  obtain ⟨hW, hV, -, h8⟩ := h
  have b := hW.1.2.1
  obtain ⟨M4, e4, gs⟩ := X11_isWrong hW.1 hV h8
  have hV4 := hV.scr gs
  have hL0 := hV.1
  have hr0 := hV.2.2.2.2.2.1
  have hrc := hV.2.2.2.2.1.1.2.2.2.2
  have k1 : mK M 1 = 12 := by simp only [hL0.o]
  have r6 : mR M 1 6 = 18 := by simp only [hL0.o]
  have k18 : mK M 18 = 8 := by simp only [hL0.o]
  have ref : ∀ X : Mem, CLay X → f_X11_drop_17 1 X = some (i32 (-1), sI X 18 5 (mI X 18 5 + i32 1)) := fun X hX => by
    have kx : mK X 1 = 12 := by simp only [hX.o]
    unfold f_X11_drop_17
    rw [if_pos kx, bx (X11_refuse hX)]
  unfold a_drop f_X11_drop
  rw [if_pos k1, r6, if_pos k18, hr0]
  by_cases c0 : A.rc = 0
  · simp only [if_pos (show drN S A from Or.inl c0)]
    refine ⟨sI M 18 5 (mI M 18 5 + i32 1), ?_, M, Scr.rf M, rfl⟩
    rw [if_pos (by rw [c0]; rfl)]
    exact ref M hL0
  · have nz : ¬ (i32 (A.rc : Int) = i32 0) := i32_ne (by omega) (by omega) (by omega) (by omega) (by omega)
    have hmn : mn M4 = mn M := gs.2.2.1
    have h84 : mR M4 1 8 = s := by rw [gs.2.2.2.2.2 _ _ (by unfold ScR; omega)]; exact h8
    obtain ⟨hL, hc, hs, hC, hA, hr, h88, h112, hm⟩ := hV4
    rw [if_neg (by exact nz), bx e4]
    by_cases c1 : (chk S A).1 = 0
    · have nd : ¬ drN S A := fun q => q.elim c0 (fun w => w c1)
      simp only [if_neg nd]
      rw [if_pos c1, if_pos (by rfl)]
      obtain ⟨M13, M17, t1, t2, g17, n17, act⟩ := dropAct (A := A) (fu := S.fu) (nl := S.nl) (by omega) (by omega) hL hc hA hr hm (by omega)
      have gn : Gw (fun _ _ => False) (fun _ _ => False) M4 (mNew M4 1 0) := Gw.new hm 1 0
      have hL9 := hL.gw gn (fun _ _ q => q.elim)
      have hs9 : ShLay (mNew M4 1 0) s := ShLay.gw hs h88 h112 gn (fun _ _ q => q.elim)
      have h89 : mR (mNew M4 1 0) 1 8 = s := by rw [gn.r (by omega) (fun q => q)]; exact h84
      have i89 : mI (mNew M4 1 0) s 1 = i32 S.nl := by rw [gn.i (by omega) (fun q => q)]; exact hC.2.1
      have n9 : mn (mNew M4 1 0) = mn M4 + 1 := mn_new
      generalize mNew M4 1 0 = M9 at t1 gn hL9 hs9 h89 i89 n9 ⊢
      have hL17 := hL.gw g17 (fun _ _ q => q.elim)
      have hac4 : ActsC M4 18 20 S.nl n Bs := hac.gw (gs.gw (P := ScI) (Q := ScR) (fun _ _ q => q) (fun _ _ q => q)) (by unfold ScI; omega) (fun j => by unfold ScR; omega)
      have hac17 : ActsC M17 18 20 S.nl n Bs := hac4.gw g17 (fun q => q) (fun j q => q)
      obtain ⟨M20, e20, f20, ac20⟩ := keepC hL17 hac17 (A' := cutS S.nl A) (by rw [hBs]; exact act)
      have f20' : Fr acI acR M17 M20 := f20.mono (fun a j q => Or.inl ⟨q.1, Or.inr q.2⟩) (fun a j q => q)
      have g20 : Gw acI acR M4 M20 := (g17.mono (fun _ _ q => q.elim) (fun _ _ q => q.elim)).tr (f20'.gw acI_lt acR_lt)
      have hL20 := hL.gw g20 acR_dy
      have hc20 : ColLay M20 21 := ColLay.gw hc (Or.inl rfl) g20 acR_dy
      have hs20 : ShLay M20 s := ShLay.gw hs h88 h112 g20 acR_dy
      have h820 : mR M20 1 8 = s := by rw [g20.r (by omega) (by unfold acR; omega)]; exact h84
      have i820 : mI M20 s 1 = i32 S.nl := by rw [g20.i (by omega) (by unfold acI; omega)]; exact hC.2.1
      have hA20 : CC M20 21 S.fu A := hA.q2 (fun a j q w => by rw [f20.i w]; exact g17.i q (fun x => x))
      have hr20 : mI M20 18 1 = i32 A.rc := by rw [f20.i (by omega), g17.i (by omega) (fun x => x)]; exact hr
      obtain ⟨M25, e25, g25, q25, r25⟩ := X7_cut hL20 hc20 hA20 hr20 (by omega) (nl := S.nl) (by omega)
      have hL25 := hL20.all g25
      refine ⟨M25, ?_, M4, gs, g20.tr ((g25.mono (fun a j q => by unfold ctI at q; unfold acI; omega)).gw acI_lt), q25, r25, ac20.gw (P := ctI) (Q := fun _ _ => False) (g25.gw (fun a j q => by unfold ctI at q; omega)) (by unfold ctI; omega) (fun _ q => q), ?_⟩
      · have k4 : mK M4 1 = 12 := by simp only [hL.o]
        have r64 : mR M4 1 6 = 18 := by simp only [hL.o]
        have k9 : mK M9 1 = 12 := by simp only [hL9.o]
        have r69 : mR M9 1 6 = 18 := by simp only [hL9.o]
        have k918 : mK M9 18 = 8 := by simp only [hL9.o]
        have ks9 : mK M9 s = 6 := hs9.o.1
        have k17 : mK M17 18 = 8 := by simp only [hL17.o]
        have k20 : mK M20 1 = 12 := by simp only [hL20.o]
        have r20 : mR M20 1 6 = 18 := by simp only [hL20.o]
        have k2018 : mK M20 18 = 8 := by simp only [hL20.o]
        have ks20 : mK M20 s = 6 := hs20.o.1
        have k25 : mK M25 1 = 12 := by simp only [hL25.o]
        have r25' : mR M25 1 6 = 18 := by simp only [hL25.o]
        have k2518 : mK M25 18 = 8 := by simp only [hL25.o]
        rw [if_pos k4, if_pos (by omega), r64, if_pos (okBn (fun r hr => by simp at hr; omega)), ap_of, if_pos k9, h89, if_pos ks9, r69, if_pos k918, if_pos (okBn (fun r hr => by simp at hr; omega)), i89, bx t1, if_pos (by omega), bx t2, if_pos k17, bx e20, if_pos k20, h820, if_pos ks20, r20, if_pos k2018, i820, bx e25, if_pos k25, r25', if_pos k2518, r25]
      · rw [g25.2.2.1, f20.2.2.1, n17, hmn]
    · simp only [if_pos (show drN S A from Or.inr c1)]
      refine ⟨sI M4 18 5 (mI M4 18 5 + i32 1), ?_, M4, gs, rfl⟩
      rw [if_neg c1, if_neg (by decide)]
      exact ref M4 hL
end
