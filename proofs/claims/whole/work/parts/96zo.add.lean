/-! add in the class -/
def a_add (S : Sc) (A : St) (t : Nat → Int) (z : Nat) (n : Int) : Nat ⊕ Int32 := if 0 ≤ n ∧ n ≤ z then (if S.nf = 0 ∨ (chk S A).1 ≠ 0 then .inr (i32 (-1)) else (match adR S t n.toNat A with
  | .inl y => .inr (i32 y.1)
  | .inr _ => .inr (i32 0))) else .inl 2
def awI (a j : Nat) : Prop := (a = 2 ∧ 1 ≤ j ∧ j ≤ 5) ∨ a = 5 ∨ a = 6 ∨ a = 7 ∨ (21 ≤ a ∧ a ≤ 52) ∨ (a = 1 ∧ j = 14) ∨ (a = 18 ∧ (j = 1 ∨ j = 3 ∨ j = 4 ∨ j = 5))
def awR (a j : Nat) : Prop := (a = 5 ∧ 2 ≤ j) ∨ (a = 7 ∧ 5 ≤ j) ∨ a = 20
def CAft (M' : Mem) (S : Sc) (A' : St) (n' : Nat) (Bs' : Nat → St) : Prop := CC M' 21 S.fu A' ∧ mI M' 18 1 = i32 A'.rc ∧ ActsC M' 18 20 S.nl n' Bs'
section
variable {M M' : Mem} {S : Sc} {s : Nat} {t : Nat → Int} {z k : Nat} {A : St} {dp : Nat → Nat} {Bs : Nat → St}
theorem awI_lt : ∀ a j, awI a j → a < 165 := fun a j q => by unfold awI at q; omega
theorem awR_lt : ∀ a j, awR a j → a < 165 := fun a j q => by unfold awR at q; omega
theorem awR_dy : ∀ a j, awR a j → DyR a j := fun a j q => by unfold awR at q; unfold DyR; omega
theorem ActsC.fr {P Q : Nat → Nat → Prop} {cl ar nl n : Nat} (h : ActsC M cl ar nl n Bs) (g : Fr P Q M M') (h3 : mI M' cl 3 = mI M cl 3) (hq : ∀ j, ¬ Q ar j) (hP : ∀ a j, P a j → a < 165) (hQ : ∀ a j, Q a j → a < 165) : ActsC M' cl ar nl n Bs := ⟨h.1, by rw [h3]; exact h.2.1, fun k hk => by
  rw [g.r (hq k)]
  exact (h.2.2 k hk).old (g.old hP hQ)⟩
theorem c_add (h : RO M s S A) (hVT : VT S S dp) (hT : TPc M t z) (hac : ActsC M 18 20 S.nl k Bs) (hBs : Bs k = A) (hm2 : mn M + 1 < 900000) (n : Int) (n1 : -2147483648 ≤ n) (n2 : n ≤ 2147483647) : ∃ M', f_X11_add 1 (i32 n) M = some (a_add S A t z n, M') ∧ Gw awI awR M M' ∧ mn M' ≤ mn M + 1 ∧ (if 0 ≤ n ∧ n ≤ z then (mI M' 2 1 = i32 0 ∧ (if S.nf = 0 ∨ (chk S A).1 ≠ 0 then (CAft M' S A k Bs ∧ mI M' 1 14 = mI M 1 14 ∧ mI M' 18 4 = mI M 18 4 ∧ mI M' 18 5 = mI M 18 5 + i32 1) else (mI M' 18 5 = mI M 18 5 ∧ match adR S t n.toNat A with
    | .inl y => CAft M' S A k Bs ∧ mI M' 1 14 = i32 y.2 ∧ mI M' 18 4 = mI M 18 4 + i32 1
    | .inr B => CAft M' S B (nK k) (bsK k Bs B) ∧ mI M' 1 14 = i32 (-1) ∧ mI M' 18 4 = mI M 18 4))) else M' = M) := by
  obtain ⟨hW, hV, -, h8⟩ := h
  have hS := hW.1
  have hnf := hS.1
  have hL := hV.1
  have en := X11_needTape hL hT n n1 n2
  have k1 : mK M 1 = 12 := by simp only [hL.o]
  have r0 : mR M 1 0 = 2 := by simp only [hL.o]
  have k2 : mK M 2 = 10 := by simp only [hL.o]
  unfold a_add
  by_cases c : 0 ≤ n ∧ n ≤ z
  · rw [if_pos c] at en
    simp only [c, and_self, if_true]
    obtain ⟨n, rfl⟩ : ∃ k : Nat, n = k := ⟨n.toNat, by omega⟩
    simp only [Int.toNat_natCast]
    obtain ⟨M1, e1, g1, x1, kk1, s1⟩ := X9_open hL hT (n := n) (by omega)
    have g1a : Fr awI awR M M1 := g1.fr (fun a j q => by unfold awI; omega)
    have hV1 : CV M1 s S A := by
      obtain ⟨v1, v2, v3, v4, v5, v6, v7, v8, v9⟩ := hV
      have gw : Gw (fun a j => a = 2 ∧ 1 ≤ j ∧ j ≤ 5) (fun _ _ => False) M M1 := g1.gw (fun a j q => by omega)
      exact ⟨v1.all g1, v2.all g1, v3.all g1, v4.gw v7 v8 gw (fun a j q => by omega), v5.gw (by omega) gw (fun a j q => by omega), by rw [g1.i (by omega)]; exact v6, v7, v8, by rw [g1.2.2.1]; exact v9⟩
    have hL1 := hV1.1
    have k11 : mK M1 1 = 12 := by simp only [hL1.o]
    have h81 : mR M1 1 8 = s := by rw [g1.r]; exact h8
    have ks1 : mK M1 s = 6 := hV1.2.2.1.o.1
    have en1 := hV1.2.2.2.1.1
    have st1 : ∀ X, (if i32 (S.nf : Int) = 0 then f_X11_add_30 1 M1 else bnd (f_X11_isWrong 1 M1) fun r12 M11 => if r12 = 0 then if mK M11 1 = 12 then if mK M11 (mR M11 1 2) = 5 then bnd (f_X4_read (mR M11 1 2) (mR M11 1 0) (mR M11 1 8) (mR M11 1 6) M11) fun r17 M16 => if mK M16 1 = 12 then bnd (f_X11_noteFault 1 r17 M16) fun r20 M19 => if r20 = 0 then if mK M19 1 = 12 then if mK M19 (mR M19 1 2) = 5 then if mK M19 (mR M19 1 8) = 6 then if mK M19 (mR M19 1 6) = 8 then if okrB M19 [1] = true then bnd (f_X7_addStaged (mR M19 1 6) (mI M19 (mR M19 1 2) 1) (mR M19 (mR M19 1 2) 0) (mI M19 (mR M19 1 8) 1) M19) fun _ M26 => some (.inr (0 : Int32), M26) else none else none else none else none else none else some (.inr r17, M19) else none else none else none else f_X11_add_30 1 M11) = some X → f_X11_add 1 (i32 (n : Int)) M = some X := fun X hX => by
      unfold f_X11_add
      rw [if_pos k1, bxX en, if_pos k1, r0, if_pos k2, bx e1, if_pos k11, h81, if_pos ks1, en1]
      exact hX
    have ref : ∀ M2, Fr awI awR M M2 → CLay M2 → CC M2 21 S.fu A → mI M2 18 1 = i32 A.rc → (∀ j, mR M2 20 j = mR M 20 j) → (∀ j, mI M2 18 j = mI M 18 j) → mI M2 2 1 = i32 0 → mI M2 1 14 = mI M 1 14 → ∃ M', f_X11_add_30 1 M2 = some (.inr (i32 (-1)), M') ∧ Gw awI awR M M' ∧ mn M' ≤ mn M + 1 ∧ mI M' 2 1 = i32 0 ∧ CAft M' S A k Bs ∧ mI M' 1 14 = mI M 1 14 ∧ mI M' 18 4 = mI M 18 4 ∧ mI M' 18 5 = mI M 18 5 + i32 1 := fun M2 g2 hL2 hC2 hr2 h20 h18 h21 h14 => by
      have k12 : mK M2 1 = 12 := by simp only [hL2.o]
      have er := X11_refuse hL2
      have gF : Fr awI awR M (sI M2 18 5 (mI M2 18 5 + i32 1)) := g2.sI (by unfold awI; omega)
      refine ⟨sI M2 18 5 (mI M2 18 5 + i32 1), ?_, gF.gw awI_lt awR_lt, ?_, ?_, ⟨?_, ?_, hac.1, ?_, fun j hj => ?_⟩, ?_, ?_, ?_⟩
      · unfold f_X11_add_30
        rw [if_pos k12, bx er]
      · have := gF.2.2.1
        omega
      · rw [mI_sI_ne (by omega)]; exact h21
      · exact hC2.gw (P := fun a j => a = 18 ∧ j = 5) (Q := fun _ _ => False) (by omega) (((Chg.rf _ M2).sI ⟨rfl, rfl⟩).gw (fun a j q => by omega)) (fun a j q => by omega)
      · rw [mI_sI_ne (by omega)]; exact hr2
      · rw [mI_sI_ne (by omega), h18]; exact hac.2.1
      · rw [mR_sI, h20]
        exact (hac.2.2 j hj).old (gF.old awI_lt awR_lt)
      · rw [mI_sI_ne (by omega)]; exact h14
      · rw [mI_sI_ne (by omega), h18]
      · rw [mI_sI_eq, h18]
    by_cases d : S.nf = 0
    · rw [if_pos (Or.inl d)]
      simp only [d, true_or, if_true]
      obtain ⟨M', e, r⟩ := ref M1 g1a hL1 hV1.2.2.2.2.1 hV1.2.2.2.2.2.1 (fun j => by rw [g1.r]) (fun j => g1.i (by omega)) s1 (g1.i (by omega))
      refine ⟨M', st1 _ ?_, r.1, r.2.1, r.2.2⟩
      rw [d, if_pos (by rfl)]
      exact e
    · have nf0 : ¬ (i32 (S.nf : Int) = i32 0) := i32_ne (by omega) (by omega) (by omega) (by omega) (by omega)
      obtain ⟨M2, e2, g2⟩ := X11_isWrongF hS hV1 h81
      have hV2 := hV1.scr g2.c7s
      have hL2 := hV2.1
      have g2a : Fr awI awR M M2 := g1a.tr (g2.mono (fun a j q => by unfold c7I at q; unfold awI; omega) (fun a j q => by unfold c7R at q; unfold awR; omega))
      by_cases d2 : (chk S A).1 = 0
      · rw [if_pos d2] at e2
        have nr : ¬ (S.nf = 0 ∨ (chk S A).1 ≠ 0) := by omega
        simp only [nr, if_false]
        have hT2 : TXc M2 t n := ⟨by rw [g2.i (by unfold c7I; omega)]; exact x1.1, fun i hi => by rw [g2.i (by unfold c7I; omega)]; exact x1.2.1 i hi, x1.2.2⟩
        have hk2 : CTk M2 t n 0 := kk1.cg (fun i => g2.i (by unfold c7I; omega))
        obtain ⟨x3, M3, e3, g3, c3, m3⟩ := X4_read hW hVT (by omega) hV2 hT2 hk2
        have g3a : Fr awI awR M M3 := g2a.tr (g3.mono (fun a j q => by unfold adC2 adC tkC at q; unfold awI; omega) (fun a j q => by unfold a5R at q; unfold awR; omega))
        have gw3 := g3a.gw awI_lt awR_lt
        have hL3 := hL.gw gw3 awR_dy
        have hc3 := hV.2.1.gw (Or.inl rfl) gw3 awR_dy
        have k12 : mK M2 1 = 12 := by simp only [hL2.o]
        have r22 : mR M2 1 2 = 5 := by simp only [hL2.o]
        have k52 : mK M2 5 = 5 := by simp only [hL2.o]
        have r02 : mR M2 1 0 = 2 := by simp only [hL2.o]
        have r82 : mR M2 1 8 = s := by rw [g2.r (by unfold c7R; omega)]; exact h81
        have r62 : mR M2 1 6 = 18 := by simp only [hL2.o]
        have k13 : mK M3 1 = 12 := by simp only [hL3.o]
        have s3 : mI M3 2 1 = i32 0 := by rw [g3.i (by unfold adC2 adC tkC; omega), g2.i (by unfold c7I; omega)]; exact s1
        have h18 : ∀ j, mI M3 18 j = mI M 18 j := fun j => by rw [g3.i (by unfold adC2 adC tkC; omega), g2.i (by unfold c7I; omega), g1.i (by omega)]
        have h20 : ∀ j, mR M3 20 j = mR M 20 j := fun j => by rw [g3.r (by unfold a5R; omega), g2.r (by unfold c7R; omega), g1.r]
        have hr3 : mI M3 18 1 = i32 A.rc := by rw [h18]; exact hV.2.2.2.2.2.1
        have ac3 : ActsC M3 18 20 S.nl k Bs := ⟨hac.1, by rw [h18]; exact hac.2.1, fun j hj => by
          rw [h20]
          exact (hac.2.2 j hj).old (g3a.old awI_lt awR_lt)⟩
        have r83 : mR M3 1 8 = s := by rw [g3.r (by unfold a5R; omega)]; exact r82
        have hmn3 : mn M3 = mn M := g3a.2.2.1
        have hmn := hV.2.2.2.2.2.2.2.2
        have st2 : ∀ X, (bnd (f_X11_noteFault 1 (i32 x3) M3) fun r20 M19 => if r20 = 0 then if mK M19 1 = 12 then if mK M19 (mR M19 1 2) = 5 then if mK M19 (mR M19 1 8) = 6 then if mK M19 (mR M19 1 6) = 8 then if okrB M19 [1] = true then bnd (f_X7_addStaged (mR M19 1 6) (mI M19 (mR M19 1 2) 1) (mR M19 (mR M19 1 2) 0) (mI M19 (mR M19 1 8) 1) M19) fun _ M26 => some (.inr (0 : Int32), M26) else none else none else none else none else none else some (.inr (i32 x3), M19)) = some X → f_X11_add 1 (i32 (n : Int)) M = some X := fun X hX => by
          refine st1 X ?_
          rw [if_neg (by exact nf0), bx e2, if_pos (by rfl), if_pos k12, r22, if_pos k52, r02, r82, r62, bx e3, if_pos k13]
          exact hX
        have aok := adF_ok (tb := t) (n := n) hW hVT hT.2.2.2 (n + 1) 0 A (by omega) hV.2.2.2.2.1.1 (by
          intro l hl
          have ck := (chk_ok S A).mp d2
          exact (ck l hl).2.1)
        have aok2 : match adR S t n A with
            | .inl y => 1 ≤ y.1 ∧ y.1 ≤ 2 ∧ y.2 ≤ n
            | .inr B' => B'.ok ∧ (∀ l, S.nl ≤ l → B'.sz l = A.sz l) ∧ ∃ m, B'.rc = A.rc + m ∧ Eqv (cutN S.nl m B') A := by
          unfold adR
          by_cases u : tkK t n 0 = 0
          · rw [if_pos u]
            have tb0 := tk_b t (n := n) (e := 0) (by omega)
            exact ⟨by show (1 : Int) ≤ 1; omega, by show (1 : Int) ≤ 2; omega, tb0.2.1⟩
          · rw [if_neg u]
            exact aok
        generalize adR S t n A = w at m3 aok2
        match w, m3, aok2 with
        | .inl y, m3, aok2 =>
          obtain ⟨m4, m5⟩ := m3
          subst m4
          have e4 := X11_noteF hL3 y.1 aok2.1 (by omega)
          have nz1 : ¬ (i32 1 = i32 0) := i32_ne (by omega) (by omega) (by omega) (by omega) (by omega)
          obtain ⟨M4, em⟩ : ∃ M4, sI (sI M3 1 14 (mI M3 2 4)) 18 4 (mI M3 18 4 + i32 1) = M4 := ⟨_, rfl⟩
          rw [em] at e4
          have g4 : Chg (fun a j => (a = 1 ∧ j = 14) ∨ (a = 18 ∧ j = 4)) M3 M4 := by
            rw [← em]
            exact ((Chg.rf _ M3).sI (Or.inl ⟨rfl, rfl⟩)).sI (Or.inr ⟨rfl, rfl⟩)
          have gF : Fr awI awR M M4 := g3a.tr (g4.fr (fun a j q => by unfold awI; omega))
          refine ⟨M4, st2 (.inr (i32 y.1), M4) ?_, gF.gw awI_lt awR_lt, ?_, ?_, ?_, ⟨?_, ?_, hac.1, ?_, fun j hj => ?_⟩, ?_, ?_⟩
          · rw [bx e4, if_neg (by exact nz1)]
          · have := gF.2.2.1
            omega
          · rw [g4.i (by omega)]; exact s3
          · rw [g4.i (by omega), h18]
          · exact c3.gw (by omega) (g4.gw (Q := fun _ _ => False) (fun a j q => by omega)) (fun a j q => by omega)
          · rw [g4.i (by omega)]; exact hr3
          · rw [g4.i (by omega)]; exact ac3.2.1
          · rw [g4.r]
            exact (ac3.2.2 j hj).old (g4.old (fun a j q => by omega))
          · rw [← em, mI_sI_ne (by omega), mI_sI_eq]; exact m5
          · rw [← em, mI_sI_eq, h18]
        | .inr B, m3, aok2 =>
          obtain ⟨m4, m5, m6⟩ := m3
          subst m4
          obtain ⟨b1, b2, m, b3, b4⟩ := aok2
          have e4 := X11_note0 hL3
          obtain ⟨M4, em⟩ : ∃ M4, sI M3 1 14 (i32 (-1)) = M4 := ⟨_, rfl⟩
          rw [em] at e4
          have g4 : Chg (fun a j => a = 1 ∧ j = 14) M3 M4 := by
            rw [← em]
            exact (Chg.rf _ M3).sI ⟨rfl, rfl⟩
          have hL4 := hL3.all g4
          have hc4 := hc3.all g4
          have ac4 : ActsC M4 18 20 S.nl k Bs := ⟨hac.1, by rw [g4.i (by omega)]; exact ac3.2.1, fun j hj => by
            rw [g4.r]
            exact (ac3.2.2 j hj).old (g4.old (fun a j q => by omega))⟩
          have mn4 : mn M4 = mn M := by rw [g4.2.2.1]; exact hmn3
          obtain ⟨M5, e5, g5, c5, r5, a5, n5⟩ := X7_addStaged (M := M4) (B := B) (m := m) hS hL4 hc4 (by omega) (by omega) (m5.cg (fun a j q => g4.i (by omega))) b1 b2 (by rw [g4.i (by omega)]; exact hr3) b3 b4 ac4 hBs
          have k14 : mK M4 1 = 12 := by simp only [hL4.o]
          have r24 : mR M4 1 2 = 5 := by simp only [hL4.o]
          have k54 : mK M4 5 = 5 := by simp only [hL4.o]
          have r84 : mR M4 1 8 = s := by rw [g4.r]; exact r83
          have hsl4 : ShLay M4 s := (hV.2.2.1.gw hV.2.2.2.2.2.2.1 hV.2.2.2.2.2.2.2.1 gw3 awR_dy).all g4
          have ks4 : mK M4 s = 6 := hsl4.o.1
          have r64 : mR M4 1 6 = 18 := by simp only [hL4.o]
          have k184 : mK M4 18 = 8 := by simp only [hL4.o]
          have r504 : mR M4 5 0 = 6 := by simp only [hL4.o]
          have i514 : mI M4 5 1 = i32 B.rc := by rw [g4.i (by omega)]; exact m6
          have inl4 : mI M4 s 1 = i32 S.nl := by
            have q1 := hV.2.2.2.2.2.2.1
            have q2 := hV.2.2.2.2.2.2.2.1
            rw [g4.i (by omega), gw3.i (by omega) (by unfold awI; omega)]
            exact hV.2.2.2.1.2.1
          have gF : Gw awI awR M M5 := (gw3.tr (g4.gw (Q := awR) (fun a j q => by omega) |>.mono (fun a j q => by unfold awI; omega) (fun a j q => q))).tr (g5.mono (fun a j q => by unfold acI at q; unfold awI; omega) (fun a j q => by unfold acR at q; unfold awR; omega))
          refine ⟨M5, st2 (.inr (i32 0), M5) ?_, gF, by omega, ?_, ?_, ⟨c5, r5, a5⟩, ?_, ?_⟩
          · rw [bx e4, if_pos (by rfl), if_pos k14, r24, if_pos k54, r84, if_pos ks4, r64, if_pos k184, if_pos (okBn (fun r hr => by
              simp only [List.mem_cons, List.not_mem_nil, or_false] at hr
              omega)), i514, r504, inl4, bx e5]
            rfl
          · rw [g5.i (by omega) (by unfold acI; omega), g4.i (by omega)]; exact s3
          · rw [g5.i (by omega) (by unfold acI; omega), g4.i (by omega), h18]
          · rw [g5.i (by omega) (by unfold acI; omega), ← em, mI_sI_eq]
          · rw [g5.i (by omega) (by unfold acI; omega), g4.i (by omega), h18]
      · rw [if_neg d2] at e2
        have nz1 : ¬ (i32 1 = i32 0) := i32_ne (by omega) (by omega) (by omega) (by omega) (by omega)
        have yr : S.nf = 0 ∨ (chk S A).1 ≠ 0 := Or.inr d2
        simp only [yr, if_true]
        obtain ⟨M', e, r⟩ := ref M2 g2a hL2 hV2.2.2.2.2.1 hV2.2.2.2.2.2.1 (fun j => by rw [g2.r (by unfold c7R; omega), g1.r]) (fun j => by rw [g2.i (by unfold c7I; omega), g1.i (by omega)]) (by rw [g2.i (by unfold c7I; omega)]; exact s1) (by rw [g2.i (by unfold c7I; omega), g1.i (by omega)])
        refine ⟨M', st1 _ ?_, r.1, r.2.1, r.2.2⟩
        rw [if_neg (by exact nf0), bx e2, if_neg (by exact nz1)]
        exact e
  · rw [if_neg c] at en
    simp only [c, if_false]
    refine ⟨M, ?_, Gw.rf _ _ M, by omega, rfl⟩
    unfold f_X11_add
    rw [if_pos k1, bxL en]
end
