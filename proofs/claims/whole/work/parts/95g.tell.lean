/-! What is told: the reference's recursion -/
/-! the field, up to what is said of it -/
section
variable {M M1 M2 M3 : Mem} {b i e o ld q : Nat} {st : Int32} {kF : Nat → Int32 → Int32 → Int32 → Int32 → Mem → Option (Unit × Mem)}
theorem X12_tf27 (hL : RLay M) (hb : b + i < 48) {kd : Int} (k0 : 0 ≤ kd) (k2 : kd ≤ 2) {tw : Int32} (tk : mI M 139 (b + i) = i32 kd) (tw1 : mI M 145 (b + i) = tw) : f_X12_tellField kF 134 (i32 b) (i32 i) st (i32 e) M = f_X12_tellField_27 kF 134 (i32 b) (i32 i) st (i32 e) tw (if kd = 2 then i32 1 else i32 0) M := by
  have r21 : mR M 134 21 = 145 := by simp only [hL.o]
  have k21 : mK M 145 = 21 := by simp only [hL.o]
  have n21 : mN M 145 = 48 := by simp only [hL.o]
  have r15 : mR M 134 15 = 139 := by simp only [hL.o]
  have k15 : mK M 139 = 21 := by simp only [hL.o]
  have n15 : mN M 139 = 48 := by simp only [hL.o]
  have bi : i32 (b : Int) + i32 (i : Int) = i32 ((b + i : Nat) : Int) := by rw [i32_add]; congr 1
  have inb : inB (i32 ((b + i : Nat) : Int)) 48 = true := by simp (disch := omega) only [↓reduceIte, add_i0, cast_add1, cast_sub1, toNat120, i32_lit, i32_neg, i32_add, i32_sub, i32_mul, i32_nat, i32_le, i32_lt, i32_eq, inB_i, Int.toNat_natCast, mI_sI_eq, mI_sI_ne, mR_sR_eq, mR_sR_ne, mI_sR, mR_sI, mK_sI, mN_sI, mn_sI, mJ_sI, mK_sR, mN_sR, mn_sR, mJ_sR, mI_wI, mR_wI, mK_wI, mN_wI, mn_wI, mJ_wI, ↓bnd_of, ↓bndX_r, ↓bndX_l, ↓ap_nr, bnd_of, bndX_r, bndX_l, if_true, if_false, ite_true, ite_false, not_true_eq_false, not_false_eq_true, Nat.reduceAdd, Nat.reduceMul, Nat.reduceEqDiff, Int.reduceToNat, Int.reduceNeg, Ilt_t, Ilt_f, Ile_t, Ile_f, Ieq_t, Ieq_f, Nlt_t, Nlt_f, Nle_t, Nle_f, Neq_t, Neq_f, or_true, true_or, or_false, false_or, and_true, true_and, and_false, false_and, ne_eq, or_self, and_self, decide_true, decide_false, Bool.false_eq_true]
  have nb := nat_i (k := b + i) (by omega)
  unfold f_X12_tellField
  rw [if_pos hL.k, r21, if_pos k21, bi, n21, if_pos inb, r15, if_pos k15, n15, if_pos inb, nb, tk, tw1]
  by_cases c : kd = 2
  · rw [if_pos (by rw [c]; rfl), if_pos c]
    rfl
  · have c2 : ¬ (i32 kd = i32 2) := i32_ne (by omega) (by omega) (by omega) (by omega) c
    rw [if_neg (by exact c2), if_neg c]
    rfl
theorem X12_tf87 (hL : RLay M) (ho : o < 16) (he : e ≤ 4) (hl : ld < 8) {fl : Int32} (efl : f_X12_firstLeafIn 134 (i32 o) M = some (i32 ld, M)) (hp : mI M 156 (8 * e + ld) = i32 q) {dv sv : Int32} (edf : f_X12_defAt 134 (i32 ld) (i32 q) M = some (dv, M)) (cd : mI M 142 o = sv) : f_X12_tellField_27 kF 134 (i32 b) (i32 i) st (i32 e) (i32 o) fl M = if dv < sv then f_X12_tellField_87 kF 134 (i32 b) (i32 i) st (i32 e) fl (i32 0) M else f_X12_tellField_87 kF 134 (i32 b) (i32 i) st (i32 e) fl (i32 1) M := by
  have r39 : mR M 134 39 = 156 := by simp only [hL.o]
  have k39 : mK M 156 = 21 := by simp only [hL.o]
  have n39 : mN M 156 = 48 := by simp only [hL.o]
  have r18 : mR M 134 18 = 142 := by simp only [hL.o]
  have k18 : mK M 142 = 21 := by simp only [hL.o]
  have n18 : mN M 142 = 48 := by simp only [hL.o]
  have e8 : (8 : Int32) * i32 (e : Int) + i32 (ld : Int) = i32 ((8 * e + ld : Nat) : Int) := by rw [i32_lit, i32_mul, i32_add]; congr 1
  have in8 : inB (i32 ((8 * e + ld : Nat) : Int)) 48 = true := by simp (disch := omega) only [↓reduceIte, add_i0, cast_add1, cast_sub1, toNat120, i32_lit, i32_neg, i32_add, i32_sub, i32_mul, i32_nat, i32_le, i32_lt, i32_eq, inB_i, Int.toNat_natCast, mI_sI_eq, mI_sI_ne, mR_sR_eq, mR_sR_ne, mI_sR, mR_sI, mK_sI, mN_sI, mn_sI, mJ_sI, mK_sR, mN_sR, mn_sR, mJ_sR, mI_wI, mR_wI, mK_wI, mN_wI, mn_wI, mJ_wI, ↓bnd_of, ↓bndX_r, ↓bndX_l, ↓ap_nr, bnd_of, bndX_r, bndX_l, if_true, if_false, ite_true, ite_false, not_true_eq_false, not_false_eq_true, Nat.reduceAdd, Nat.reduceMul, Nat.reduceEqDiff, Int.reduceToNat, Int.reduceNeg, Ilt_t, Ilt_f, Ile_t, Ile_f, Ieq_t, Ieq_f, Nlt_t, Nlt_f, Nle_t, Nle_f, Neq_t, Neq_f, or_true, true_or, or_false, false_or, and_true, true_and, and_false, false_and, ne_eq, or_self, and_self, decide_true, decide_false, Bool.false_eq_true]
  have ino : inB (i32 (o : Int)) 48 = true := by simp (disch := omega) only [↓reduceIte, add_i0, cast_add1, cast_sub1, toNat120, i32_lit, i32_neg, i32_add, i32_sub, i32_mul, i32_nat, i32_le, i32_lt, i32_eq, inB_i, Int.toNat_natCast, mI_sI_eq, mI_sI_ne, mR_sR_eq, mR_sR_ne, mI_sR, mR_sI, mK_sI, mN_sI, mn_sI, mJ_sI, mK_sR, mN_sR, mn_sR, mJ_sR, mI_wI, mR_wI, mK_wI, mN_wI, mn_wI, mJ_wI, ↓bnd_of, ↓bndX_r, ↓bndX_l, ↓ap_nr, bnd_of, bndX_r, bndX_l, if_true, if_false, ite_true, ite_false, not_true_eq_false, not_false_eq_true, Nat.reduceAdd, Nat.reduceMul, Nat.reduceEqDiff, Int.reduceToNat, Int.reduceNeg, Ilt_t, Ilt_f, Ile_t, Ile_f, Ieq_t, Ieq_f, Nlt_t, Nlt_f, Nle_t, Nle_f, Neq_t, Neq_f, or_true, true_or, or_false, false_or, and_true, true_and, and_false, false_and, ne_eq, or_self, and_self, decide_true, decide_false, Bool.false_eq_true]
  have n8 := nat_i (k := 8 * e + ld) (by omega)
  have no := nat_i (k := o) (by omega)
  have nz : ¬ (i32 (o : Int) = i32 (-1)) := i32_ne (by omega) (by omega) (by omega) (by omega) (by omega)
  unfold f_X12_tellField_27
  rw [if_neg (by exact nz), if_pos hL.k, bx efl]
  unfold f_X12_tellField_45
  rw [if_neg (by exact nz), if_pos hL.k, r39, if_pos k39, e8, n39, if_pos in8, n8, hp, bx edf, if_pos hL.k, r18, if_pos k18, n18, if_pos ino, no, cd]
  rfl
theorem X12_tf00 (hL : RLay M) (e1 : f_X12_say 134 (i32 45) M = some ((), M1)) : f_X12_tellField_87 kF 134 (i32 b) (i32 i) st (i32 e) (i32 0) (i32 0) M = some ((), M1) := by
  have e1 : f_X12_say 134 (45 : Int32) M = _ := e1
  unfold f_X12_tellField_87
  rw [if_pos (by rfl)]
  unfold f_X12_tellField_100
  rw [if_pos (by rfl)]
  unfold f_X12_tellField_122
  rw [if_pos (by rfl), if_pos (by rfl), if_pos hL.k, bx e1]
  unfold f_X12_tellField_150
  rw [if_pos (by rfl)]
theorem X12_tf10 (hL : RLay M) (e1 : f_X12_say 134 (i32 91) M = some ((), M1)) (k1 : mK M1 134 = 13) (e2 : f_X12_say 134 (i32 93) M1 = some ((), M2)) : f_X12_tellField_87 kF 134 (i32 b) (i32 i) st (i32 e) (i32 1) (i32 0) M = some ((), M2) := by
  have e1 : f_X12_say 134 (91 : Int32) M = _ := e1
  have e2 : f_X12_say 134 (93 : Int32) M1 = _ := e2
  unfold f_X12_tellField_87
  rw [if_neg (by decide), if_pos hL.k, bx e1]
  unfold f_X12_tellField_100
  rw [if_pos (by rfl)]
  unfold f_X12_tellField_122
  rw [if_pos (by rfl), if_neg (by decide)]
  unfold f_X12_tellField_150
  rw [if_neg (by decide), if_pos k1, bx e2]
theorem X12_tf01 (hL : RLay M) (e3 : f_X12_tellItem kF 134 (i32 b) (i32 i) st (i32 e) M = some ((), M1)) : f_X12_tellField_87 kF 134 (i32 b) (i32 i) st (i32 e) (i32 0) (i32 1) M = some ((), M1) := by
  unfold f_X12_tellField_87
  rw [if_pos (by rfl)]
  unfold f_X12_tellField_100
  rw [if_neg (by decide), if_pos (by rfl)]
  unfold f_X12_tellField_122
  rw [if_neg (by decide), if_pos hL.k, bx e3]
  unfold f_X12_tellField_150
  rw [if_pos (by rfl)]
theorem X12_tf11 (hL : RLay M) (e1 : f_X12_say 134 (i32 91) M = some ((), M1)) (k1 : mK M1 134 = 13) (e6 : f_X12_tellMany kF 134 (i32 b) (i32 i) st (i32 e) M1 = some ((), M2)) (k2 : mK M2 134 = 13) (e4 : f_X12_say 134 (i32 93) M2 = some ((), M3)) : f_X12_tellField_87 kF 134 (i32 b) (i32 i) st (i32 e) (i32 1) (i32 1) M = some ((), M3) := by
  have e1 : f_X12_say 134 (91 : Int32) M = _ := e1
  have e4 : f_X12_say 134 (93 : Int32) M2 = _ := e4
  unfold f_X12_tellField_87
  rw [if_neg (by decide), if_pos hL.k, bx e1]
  unfold f_X12_tellField_100
  rw [if_neg (by decide), if_neg (by decide), if_pos k1, bx e6]
  unfold f_X12_tellField_150
  rw [if_neg (by decide), if_pos k2, bx e4]
theorem X12_tfN (fl : Int32) : f_X12_tellField_27 kF 134 (i32 b) (i32 i) st (i32 e) (i32 (-1)) fl M = f_X12_tellField_87 kF 134 (i32 b) (i32 i) st (i32 e) fl (i32 0) M := by
  unfold f_X12_tellField_27
  rw [if_pos (by rfl)]
  unfold f_X12_tellField_45
  rw [if_pos (by rfl)]
  rfl
end
section
variable {M : Mem} {b : Nat} {S T : Sc} {A : St} {tl : Nat → Bool} {w : Int32} {p : Int32 × Int32} {dp : Nat → Nat} {st : Int32}
theorem X12_many76 (hW : S.wf) (hVT : VT S T dp) (hb : b = 0 ∨ b = 16) {kF : Nat → Int32 → Int32 → Int32 → Int32 → Mem → Option (Unit × Mem)} {sub : Nat → (Nat → Nat) → List Int32} {d : Nat} (hF : RHF b S T A w st dp kF sub d) {i e : Nat} (hi : i < T.nf) (hd : dp i = d) (he : e ≤ d) {o : Nat} (ho : T.tw i = o) {R : Int} (hR : S.sr o = R + 1) : ∀ (k n : Nat) (M : Mem) (pos : Nat → Nat) (p : Int32 × Int32) (fs : Bool), A.sz (leadS S o) - pos (leadS S o) ≤ k → k < n → Al S A o pos → RTV M b S T A → RT M w p → (∀ l, l < S.nl → S.ins (S.fo l) o = true → mI M 156 (8 * (e + 1) + l) = i32 (pos l) ∧ mI M 157 (8 * e + l) = i32 (A.nx l R (pos l))) → ∃ M', f_X12_tellMany_76 kF n 134 (i32 b) (i32 i) st (i32 e) (i32 o) (i32 (leadS S o)) (i32 ((e + 1 : Nat) : Int)) (i32 1) (if fs = true then i32 1 else i32 0) M = some ((), M') ∧ Chg (RC e) M M' ∧ RT M' w (outS w ((if fs = true then [] else [i32 32]) ++ (itemT S A T sub i pos ++ itemsT S A T sub i k pos)) p) := by
  have hS := hW.1
  have hnl := hS.2.1
  have hnf := hS.1
  have hd3 := hVT.2.2.2.2.2.2.2 i hi
  have how := hVT.2.2.2.1 i hi
  have hon : o < S.nf := by omega
  have hld := leadS_b hW hon
  have hlv : S.lv o = S.sr o := by unfold Sc.lv; rw [if_neg (by omega), Int.toNat_natCast]
  have hsci : ∀ l : Nat, S.sc o (S.fo l) → S.ins (S.fo l) o = true := fun l q => by
    rcases q with q | q
    · omega
    · rw [Int.toNat_natCast] at q; exact q
  intro k
  induction k with
  | zero =>
    intro n M pos p fs h1 h2 hal
    have := hal.1 _ hld.2.1 (Or.inr (by rw [Int.toNat_natCast]; exact hld.2.2.1))
    omega
  | succ k ih =>
    intro n M pos p fs h1 h2 hal hV hT hp
    obtain ⟨n, rfl⟩ : ∃ m, n = m + 1 := ⟨n - 1, by omega⟩
    obtain ⟨n, rfl⟩ : ∃ m, n = m + 1 := ⟨n - 1, by omega⟩
    have hps := hal.1 _ hld.2.1 (Or.inr (by rw [Int.toNat_natCast]; exact hld.2.2.1))
    obtain ⟨M1, e1, g1, q1⟩ := X12_many84 hW kF (f_X12_tellMany_76 kF (n + 1)) (i32 b) (i32 i) st (i32 (leadS S o)) (if fs = true then i32 1 else i32 0) hon (show e ≤ 4 by omega) (show R ≤ S.sr o by omega) hal S.nl 0 FUEL M (by omega) (by unfold FUEL; omega) hV.1 hp
    have g1' : Chg (RC e) M M1 := g1.mono (fun a j q => by unfold RC; omega)
    have hV1 := hV.chg hS g1'
    have hT1 : RT M1 w p := ⟨by rw [g1.i (by omega)]; exact hT.1, by rw [g1.i (by omega)]; exact hT.2.1, by rw [g1.i (by omega)]; exact hT.2.2⟩
    have hp1 : ∀ l, l < S.nl → S.ins (S.fo l) o = true → mI M1 156 (8 * (e + 1) + l) = i32 (pos l) ∧ mI M1 157 (8 * e + l) = i32 (A.nx l R (pos l)) := fun l a1 a2 => by
      rw [g1.i (by omega), g1.i (by omega)]
      exact hp l a1 a2
    obtain ⟨fu, hfu⟩ : ∃ fu, FUEL - S.nl = fu + 1 := ⟨FUEL - S.nl - 1, by unfold FUEL; omega⟩
    -- behind the leaves: the item, and on
    have key : ∀ (M2 : Mem) (p2 : Int32 × Int32), Chg (RC 5) M1 M2 → RT M2 w p2 → ∃ M', f_X12_tellMany_205 kF (f_X12_tellMany_76 kF (n + 1)) 134 (i32 b) (i32 i) st (i32 e) (i32 o) (i32 (leadS S o)) (i32 ((e + 1 : Nat) : Int)) M2 = some ((), M') ∧ Chg (RC e) M2 M' ∧ RT M' w (outS w (itemT S A T sub i pos ++ itemsT S A T sub i (k + 1) pos) p2) := by
      intro M2 p2 g2 hT2
      have hV2 := hV1.chg hS g2
      have hpo : RPos M2 S A o (e + 1) pos := fun l a1 a2 => by
        have a3 := hsci l a2
        refine ⟨?_, ?_⟩
        · rw [g2.i (by unfold RC; omega)]
          exact (hp1 l a1 a3).1
        · rw [g2.i (by unfold RC; omega), hlv]
          exact q1 l (by omega) a1 a3
      obtain ⟨M3, e3, g3, q3⟩ := X12_tellItem hW hVT hb hF hi hd (show e + 1 ≤ d + 1 by omega) ho hal hV2 hT2 hpo
      have hV3 := hV2.chg hS g3
      have hx3 : ∀ l, l < S.nl → S.ins (S.fo l) o = true → mI M3 157 (8 * (e + 1) + l) = i32 (A.nx l (S.sr o) (pos l)) := fun l a1 a3 => by
        rw [g3.i (by unfold RC; omega), g2.i (by unfold RC; omega)]
        exact q1 l (by omega) a1 a3
      have hy3 : ∀ l, l < S.nl → S.ins (S.fo l) o = true → mI M3 157 (8 * e + l) = i32 (A.nx l R (pos l)) := fun l a1 a3 => by
        rw [g3.i (by unfold RC; omega), g2.i (by unfold RC; omega)]
        exact (hp1 l a1 a3).2
      have hin := nx_in A hps.1 (show R ≤ S.sr o by omega)
      have nxl := A.nx_le (S.sr o) hps.1
      have nxR := A.nx_le R hps.1
      have hz := hV.1.2.2.1.2.2.2.1 (leadS S o)
      have hL3 := hV3.1.1
      have e0 : ∀ mo : Int32, (mo = if A.nx (leadS S o) (S.sr o) (pos (leadS S o)) < A.nx (leadS S o) R (pos (leadS S o)) then i32 1 else i32 0) → f_X12_tellMany_205 kF (f_X12_tellMany_76 kF (n + 1)) 134 (i32 b) (i32 i) st (i32 e) (i32 o) (i32 (leadS S o)) (i32 ((e + 1 : Nat) : Int)) M2 = f_X12_tellMany_256 kF (f_X12_tellMany_76 kF (n + 1)) FUEL 134 (i32 b) (i32 i) st (i32 e) (i32 o) (i32 (leadS S o)) (i32 ((e + 1 : Nat) : Int)) mo (i32 0) (i32 ((0 : Nat) : Int)) M3 := by
        intro mo hmo
        have k2 := hV2.1.1.k
        have x1 := hx3 _ hld.2.1 hld.2.2.1
        have y1 := hy3 _ hld.2.1 hld.2.2.1
        by_cases c : A.nx (leadS S o) (S.sr o) (pos (leadS S o)) < A.nx (leadS S o) R (pos (leadS S o))
        · rw [if_pos c] at hmo
          subst hmo
          simp (disch := omega) only [↓reduceIte, add_i0, cast_add1, cast_sub1, toNat120, i32_lit, i32_neg, i32_add, i32_sub, i32_mul, i32_nat, i32_le, i32_lt, i32_eq, inB_i, Int.toNat_natCast, mI_sI_eq, mI_sI_ne, mR_sR_eq, mR_sR_ne, mI_sR, mR_sI, mK_sI, mN_sI, mn_sI, mJ_sI, mK_sR, mN_sR, mn_sR, mJ_sR, mI_wI, mR_wI, mK_wI, mN_wI, mn_wI, mJ_wI, ↓bnd_of, ↓bndX_r, ↓bndX_l, ↓ap_nr, bnd_of, bndX_r, bndX_l, if_true, if_false, ite_true, ite_false, not_true_eq_false, not_false_eq_true, Nat.reduceAdd, Nat.reduceMul, Nat.reduceEqDiff, Int.reduceToNat, Int.reduceNeg, Ilt_t, Ilt_f, Ile_t, Ile_f, Ieq_t, Ieq_f, Nlt_t, Nlt_f, Nle_t, Nle_f, Neq_t, Neq_f, or_true, true_or, or_false, false_or, and_true, true_and, and_false, false_and, ne_eq, or_self, and_self, decide_true, decide_false, Bool.false_eq_true, f_X12_tellMany_205, f_X12_tellMany_251, k2, ↓bx e3, hL3.o, toNat8, x1, y1]
          rfl
        · rw [if_neg c] at hmo
          subst hmo
          simp (disch := omega) only [↓reduceIte, add_i0, cast_add1, cast_sub1, toNat120, i32_lit, i32_neg, i32_add, i32_sub, i32_mul, i32_nat, i32_le, i32_lt, i32_eq, inB_i, Int.toNat_natCast, mI_sI_eq, mI_sI_ne, mR_sR_eq, mR_sR_ne, mI_sR, mR_sI, mK_sI, mN_sI, mn_sI, mJ_sI, mK_sR, mN_sR, mn_sR, mJ_sR, mI_wI, mR_wI, mK_wI, mN_wI, mn_wI, mJ_wI, ↓bnd_of, ↓bndX_r, ↓bndX_l, ↓ap_nr, bnd_of, bndX_r, bndX_l, if_true, if_false, ite_true, ite_false, not_true_eq_false, not_false_eq_true, Nat.reduceAdd, Nat.reduceMul, Nat.reduceEqDiff, Int.reduceToNat, Int.reduceNeg, Ilt_t, Ilt_f, Ile_t, Ile_f, Ieq_t, Ieq_f, Nlt_t, Nlt_f, Nle_t, Nle_f, Neq_t, Neq_f, or_true, true_or, or_false, false_or, and_true, true_and, and_false, false_and, ne_eq, or_self, and_self, decide_true, decide_false, Bool.false_eq_true, f_X12_tellMany_205, f_X12_tellMany_251, k2, ↓bx e3, hL3.o, toNat8, x1, y1]
          rfl
      obtain ⟨M4, e4, g4, q4⟩ := X12_many256 (q := fun l => A.nx l (S.sr o) (pos l)) hW kF (f_X12_tellMany_76 kF (n + 1)) (i32 b) (i32 i) st (i32 e) (i32 (leadS S o)) (if A.nx (leadS S o) (S.sr o) (pos (leadS S o)) < A.nx (leadS S o) R (pos (leadS S o)) then i32 1 else i32 0) (i32 0) hon (show e ≤ 4 by omega) S.nl 0 FUEL M3 (by omega) (by unfold FUEL; omega) hV3.1 hx3
      have g4' : Chg (RC e) M3 M4 := g4.mono (fun a j q => by unfold RC; omega)
      have hV4 := hV3.chg hS g4'
      have hT4 : RT M4 w (outS w (itemT S A T sub i pos) p2) := ⟨by rw [g4.i (by omega)]; exact q3.1, by rw [g4.i (by omega)]; exact q3.2.1, by rw [g4.i (by omega)]; exact q3.2.2⟩
      have enl : nextP S A o pos (leadS S o) = A.nx (leadS S o) (S.sr o) (pos (leadS S o)) := by unfold nextP; rw [if_pos ⟨hld.2.1, hld.2.2.1⟩]
      have g34 : Chg (RC e) M2 M4 := (g3.mono (RC_mono (by omega))).tr g4'
      rw [e0 _ rfl, e4]
      rw [itemsT_e ho]
      by_cases c : A.nx (leadS S o) (S.sr o) (pos (leadS S o)) < A.nx (leadS S o) R (pos (leadS S o))
      · have c2 := hin.2.mp c
        have hal1 := Al.item hW hon hal hld.2.1 hld.2.2.1 (by rw [enl]; exact c2.1) (by rw [enl]; rcases nxl.2.2 with q | q; omega; omega)
        have hnx := (Al.next hW hon hal).1
        obtain ⟨M5, e5, g5, q5⟩ := ih (n + 1) M4 (nextP S A o pos) _ false (by rw [enl]; omega) (by omega) hal1 hV4 hT4 (fun l a1 a3 => by
          have hpl := hal.1 l a1 (Or.inr (by rw [Int.toNat_natCast]; exact a3))
          have el : nextP S A o pos l = A.nx l (S.sr o) (pos l) := by unfold nextP; rw [if_pos ⟨a1, a3⟩]
          have a4 := hnx (leadS S o) l hld.2.1 a1 hld.2.2.1 a3 (by rw [enl]; exact c2.1)
          rw [el, enl] at a4
          rw [el]
          refine ⟨q4 l (by omega) a1 a3, ?_⟩
          rw [g4.i (by omega), hy3 l a1 a3, nx_nx A hpl.1 (by omega) a4.1 (by omega)])
        refine ⟨M5, ?_, g34.tr g5, ?_⟩
        · rw [if_pos c]
          simp only [Bool.false_eq_true, if_false] at e5
          exact e5
        · rw [if_pos ⟨by rw [enl]; exact c2.1, by rw [enl]; rcases nxl.2.2 with q | q; omega; omega⟩, outS_app]
          simp only [Bool.false_eq_true, if_false] at q5
          exact q5
      · have c2 : ¬ (A.nx (leadS S o) (S.sr o) (pos (leadS S o)) < A.sz (leadS S o) ∧ A.rp (leadS S o) (A.nx (leadS S o) (S.sr o) (pos (leadS S o))) = S.sr o) := fun q => c (hin.2.mpr ⟨q.1, by omega⟩)
        refine ⟨M4, ?_, g34, ?_⟩
        · rw [if_neg c]
          unfold f_X12_tellMany_76
          rw [if_pos (by rfl)]
        · rw [if_neg (by rw [enl]; exact c2), List.append_nil]
          exact hT4
    have hL1 := hV1.1.1
    have c11 := hV1.1.2.1.2.1
    have e84 : f_X12_tellMany_76 kF (n + 1 + 1) 134 (i32 b) (i32 i) st (i32 e) (i32 o) (i32 (leadS S o)) (i32 ((e + 1 : Nat) : Int)) (i32 1) (if fs = true then i32 1 else i32 0) M = f_X12_tellMany_84 kF (f_X12_tellMany_76 kF (n + 1)) (fu + 1) 134 (i32 b) (i32 i) st (i32 e) (i32 o) (i32 (leadS S o)) (i32 ((e + 1 : Nat) : Int)) (if fs = true then i32 1 else i32 0) (i32 S.nl) M1 := by
      rw [← hfu, ← e1]
      conv => lhs; unfold f_X12_tellMany_76
      rw [if_neg (by simp (disch := omega) only [↓reduceIte, add_i0, cast_add1, cast_sub1, toNat120, i32_lit, i32_neg, i32_add, i32_sub, i32_mul, i32_nat, i32_le, i32_lt, i32_eq, inB_i, Int.toNat_natCast, mI_sI_eq, mI_sI_ne, mR_sR_eq, mR_sR_ne, mI_sR, mR_sI, mK_sI, mN_sI, mn_sI, mJ_sI, mK_sR, mN_sR, mn_sR, mJ_sR, mI_wI, mR_wI, mK_wI, mN_wI, mn_wI, mJ_wI, ↓bnd_of, ↓bndX_r, ↓bndX_l, ↓ap_nr, bnd_of, bndX_r, bndX_l, if_true, if_false, ite_true, ite_false, not_true_eq_false, not_false_eq_true, Nat.reduceAdd, Nat.reduceMul, Nat.reduceEqDiff, Int.reduceToNat, Int.reduceNeg, Ilt_t, Ilt_f, Ile_t, Ile_f, Ieq_t, Ieq_f, Nlt_t, Nlt_f, Nle_t, Nle_f, Neq_t, Neq_f, or_true, true_or, or_false, false_or, and_true, true_and, and_false, false_and, ne_eq, or_self, and_self, decide_true, decide_false, Bool.false_eq_true])]
      rfl
    rw [e84]
    by_cases cf : fs = true
    · obtain ⟨M', e5, g5, q5⟩ := key M1 p (Chg.rf _ M1) hT1
      refine ⟨M', ?_, g1'.tr g5, ?_⟩
      · rw [← e5, show (if fs = true then i32 1 else i32 0) = i32 1 from if_pos cf]
        conv => lhs; unfold f_X12_tellMany_84
        simp (disch := omega) only [↓reduceIte, add_i0, cast_add1, cast_sub1, toNat120, i32_lit, i32_neg, i32_add, i32_sub, i32_mul, i32_nat, i32_le, i32_lt, i32_eq, inB_i, Int.toNat_natCast, mI_sI_eq, mI_sI_ne, mR_sR_eq, mR_sR_ne, mI_sR, mR_sI, mK_sI, mN_sI, mn_sI, mJ_sI, mK_sR, mN_sR, mn_sR, mJ_sR, mI_wI, mR_wI, mK_wI, mN_wI, mn_wI, mJ_wI, ↓bnd_of, ↓bndX_r, ↓bndX_l, ↓ap_nr, bnd_of, bndX_r, bndX_l, if_true, if_false, ite_true, ite_false, not_true_eq_false, not_false_eq_true, Nat.reduceAdd, Nat.reduceMul, Nat.reduceEqDiff, Int.reduceToNat, Int.reduceNeg, Ilt_t, Ilt_f, Ile_t, Ile_f, Ieq_t, Ieq_f, Nlt_t, Nlt_f, Nle_t, Nle_f, Neq_t, Neq_f, or_true, true_or, or_false, false_or, and_true, true_and, and_false, false_and, ne_eq, or_self, and_self, decide_true, decide_false, Bool.false_eq_true, hL1.o, c11]
      · rw [show (if fs = true then [] else [i32 32]) = ([] : List Int32) from if_pos cf]
        exact q5
    · obtain ⟨M2, e2, g2, q2⟩ := X12_say hL1 hT1 (i32 32)
      obtain ⟨M', e5, g5, q5⟩ := key M2 _ g2 q2
      refine ⟨M', ?_, g1'.tr ((g2.mono (RC_mono (by omega))).tr g5), ?_⟩
      · rw [← e5, show (if fs = true then i32 1 else i32 0) = i32 0 from if_neg cf]
        conv => lhs; unfold f_X12_tellMany_84
        simp (disch := omega) only [↓reduceIte, add_i0, cast_add1, cast_sub1, toNat120, i32_lit, i32_neg, i32_add, i32_sub, i32_mul, i32_nat, i32_le, i32_lt, i32_eq, inB_i, Int.toNat_natCast, mI_sI_eq, mI_sI_ne, mR_sR_eq, mR_sR_ne, mI_sR, mR_sI, mK_sI, mN_sI, mn_sI, mJ_sI, mK_sR, mN_sR, mn_sR, mJ_sR, mI_wI, mR_wI, mK_wI, mN_wI, mn_wI, mJ_wI, ↓bnd_of, ↓bndX_r, ↓bndX_l, ↓ap_nr, bnd_of, bndX_r, bndX_l, if_true, if_false, ite_true, ite_false, not_true_eq_false, not_false_eq_true, Nat.reduceAdd, Nat.reduceMul, Nat.reduceEqDiff, Int.reduceToNat, Int.reduceNeg, Ilt_t, Ilt_f, Ile_t, Ile_f, Ieq_t, Ieq_f, Nlt_t, Nlt_f, Nle_t, Nle_f, Neq_t, Neq_f, or_true, true_or, or_false, false_or, and_true, true_and, and_false, false_and, ne_eq, or_self, and_self, decide_true, decide_false, Bool.false_eq_true, hL1.o, c11, ↓bx e2]
      · rw [show (if fs = true then [] else [i32 32]) = [i32 32] from if_neg cf, outS_app]
        exact q5
theorem X12_many27 (hW : S.wf) (kF : Nat → Int32 → Int32 → Int32 → Int32 → Mem → Option (Unit × Mem)) (a1 a2 a3 a5 a6 : Int32) {e : Nat} (he : e ≤ 4) : ∀ (k j n : Nat) (M : Mem), j + k = S.nl → k < n → RV M S A → ∃ M', f_X12_tellMany_27 kF n 134 a1 a2 a3 (i32 e) a5 a6 (i32 ((e + 1 : Nat) : Int)) (i32 j) M = f_X12_tellMany_76 kF FUEL 134 a1 a2 a3 (i32 e) a5 a6 (i32 ((e + 1 : Nat) : Int)) (i32 1) (i32 1) M' ∧ Chg (fun a i => a = 156 ∧ 8 * (e + 1) + j ≤ i) M M' ∧ ∀ l, j ≤ l → l < S.nl → mI M' 156 (8 * (e + 1) + l) = mI M 156 (8 * e + l) := by
  have hS := hW.1
  have hnl := hS.2.1
  intro k
  induction k with
  | zero =>
    intro j n M hj hn hV
    obtain ⟨n, rfl⟩ : ∃ m, n = m + 1 := ⟨n - 1, by omega⟩
    have hL := hV.1
    have c1 := hV.2.1.2.1
    refine ⟨M, ?_, Chg.rf _ M, fun l h1 h2 => by omega⟩
    simp (disch := omega) only [↓reduceIte, add_i0, cast_add1, cast_sub1, toNat120, i32_lit, i32_neg, i32_add, i32_sub, i32_mul, i32_nat, i32_le, i32_lt, i32_eq, inB_i, Int.toNat_natCast, mI_sI_eq, mI_sI_ne, mR_sR_eq, mR_sR_ne, mI_sR, mR_sI, mK_sI, mN_sI, mn_sI, mJ_sI, mK_sR, mN_sR, mn_sR, mJ_sR, mI_wI, mR_wI, mK_wI, mN_wI, mn_wI, mJ_wI, ↓bnd_of, ↓bndX_r, ↓bndX_l, ↓ap_nr, bnd_of, bndX_r, bndX_l, if_true, if_false, ite_true, ite_false, not_true_eq_false, not_false_eq_true, Nat.reduceAdd, Nat.reduceMul, Nat.reduceEqDiff, Int.reduceToNat, Int.reduceNeg, Ilt_t, Ilt_f, Ile_t, Ile_f, Ieq_t, Ieq_f, Nlt_t, Nlt_f, Nle_t, Nle_f, Neq_t, Neq_f, or_true, true_or, or_false, false_or, and_true, true_and, and_false, false_and, ne_eq, or_self, and_self, decide_true, decide_false, Bool.false_eq_true, f_X12_tellMany_27, hL.o, c1]
  | succ k ih =>
    intro j n M hj hn hV
    obtain ⟨n, rfl⟩ : ∃ m, n = m + 1 := ⟨n - 1, by omega⟩
    have hL := hV.1
    have c1 := hV.2.1.2.1
    have g : Chg (fun a i => a = 156 ∧ 8 * (e + 1) + j ≤ i) M (sI M 156 (8 * (e + 1) + j) (mI M 156 (8 * e + j))) := (Chg.rf _ M).sI ⟨rfl, Nat.le_refl _⟩
    have gs := g.scr (fun a i q => sc_153 (by omega))
    obtain ⟨M', q1, q2, q3⟩ := ih (j + 1) n _ (by omega) (by omega) (hV.scr hS gs)
    refine ⟨M', ?_, g.tr (q2.mono (fun a i q => by omega)), fun l h1 h2 => ?_⟩
    · rw [← q1]
      simp (disch := omega) only [↓reduceIte, add_i0, cast_add1, cast_sub1, toNat120, i32_lit, i32_neg, i32_add, i32_sub, i32_mul, i32_nat, i32_le, i32_lt, i32_eq, inB_i, Int.toNat_natCast, mI_sI_eq, mI_sI_ne, mR_sR_eq, mR_sR_ne, mI_sR, mR_sI, mK_sI, mN_sI, mn_sI, mJ_sI, mK_sR, mN_sR, mn_sR, mJ_sR, mI_wI, mR_wI, mK_wI, mN_wI, mn_wI, mJ_wI, ↓bnd_of, ↓bndX_r, ↓bndX_l, ↓ap_nr, bnd_of, bndX_r, bndX_l, if_true, if_false, ite_true, ite_false, not_true_eq_false, not_false_eq_true, Nat.reduceAdd, Nat.reduceMul, Nat.reduceEqDiff, Int.reduceToNat, Int.reduceNeg, Ilt_t, Ilt_f, Ile_t, Ile_f, Ieq_t, Ieq_f, Nlt_t, Nlt_f, Nle_t, Nle_f, Neq_t, Neq_f, or_true, true_or, or_false, false_or, and_true, true_and, and_false, false_and, ne_eq, or_self, and_self, decide_true, decide_false, Bool.false_eq_true, f_X12_tellMany_27, hL.o, c1, toNat8]
    · by_cases e2 : l = j
      · subst e2
        rw [q2.i (by omega)]
        exact mI_sI_eq
      · rw [q3 l (by omega) h2]
        simp (disch := omega) only [↓reduceIte, add_i0, cast_add1, cast_sub1, toNat120, i32_lit, i32_neg, i32_add, i32_sub, i32_mul, i32_nat, i32_le, i32_lt, i32_eq, inB_i, Int.toNat_natCast, mI_sI_eq, mI_sI_ne, mR_sR_eq, mR_sR_ne, mI_sR, mR_sI, mK_sI, mN_sI, mn_sI, mJ_sI, mK_sR, mN_sR, mn_sR, mJ_sR, mI_wI, mR_wI, mK_wI, mN_wI, mn_wI, mJ_wI, ↓bnd_of, ↓bndX_r, ↓bndX_l, ↓ap_nr, bnd_of, bndX_r, bndX_l, if_true, if_false, ite_true, ite_false, not_true_eq_false, not_false_eq_true, Nat.reduceAdd, Nat.reduceMul, Nat.reduceEqDiff, Int.reduceToNat, Int.reduceNeg, Ilt_t, Ilt_f, Ile_t, Ile_f, Ieq_t, Ieq_f, Nlt_t, Nlt_f, Nle_t, Nle_f, Neq_t, Neq_f, or_true, true_or, or_false, false_or, and_true, true_and, and_false, false_and, ne_eq, or_self, and_self, decide_true, decide_false, Bool.false_eq_true]
theorem X12_tellField (hW : S.wf) (hVT : VT S T dp) (hb : b = 0 ∨ b = 16) {kF : Nat → Int32 → Int32 → Int32 → Int32 → Mem → Option (Unit × Mem)} {sub : Nat → (Nat → Nat) → List Int32} {d : Nat} (hF : RHF b S T A w st dp kF sub d) {i e : Nat} (hi : i < T.nf) (hd : dp i = d) (he : e ≤ d) {pos : Nat → Nat} (hal : Al S A (ctxT T (T.gr i)) pos) (hV : RTV M b S T A) (hT : RT M w p) (hp : RPos M S A (ctxT T (T.gr i)) e pos) : ∃ M', f_X12_tellField kF 134 (i32 b) (i32 i) st (i32 e) M = some ((), M') ∧ Chg (RC e) M M' ∧ RT M' w (outS w (fieldT S A T sub i pos) p) := by
  have hS := hW.1
  have hnl := hS.2.1
  have hnf := hS.1
  have hd3 := hVT.2.2.2.2.2.2.2 i hi
  have how := hVT.2.2.2.1 i hi
  have hkd := hVT.2.2.1 i hi
  have hT16 := hVT.1
  obtain ⟨hRV, t1, t2, t3, t4⟩ := id hV
  have hL := hRV.1
  have tk := t2 i hi
  have tw1 := t4 i hi
  by_cases ct : T.tw i = -1
  · have hth : thereT S A T i pos = false := by unfold thereT; simp [ct]
    unfold fieldT
    rw [hth]
    simp only [Bool.false_eq_true, if_false]
    rw [ct] at tw1
    by_cases ck2 : T.kd i = 2
    · rw [if_pos ck2]
      rw [ck2] at tk
      obtain ⟨M1, e1, g1, q1⟩ := X12_say hL hT (i32 91)
      obtain ⟨M2, e2, g2, q2⟩ := X12_say (hL.chg g1) q1 (i32 93)
      have k1 := (hL.chg g1).k
      refine ⟨M2, ?_, (g1.tr g2).mono (RC_mono (by omega)), q2⟩
      rw [X12_tf27 hL (by omega) (by omega) (by omega) tk tw1, if_pos rfl, X12_tfN]
      exact X12_tf10 hL e1 k1 e2
    · rw [if_neg ck2]
      obtain ⟨M1, e1, g1, q1⟩ := X12_say hL hT (i32 45)
      refine ⟨M1, ?_, g1.mono (RC_mono (by omega)), q1⟩
      rw [X12_tf27 hL (by omega) hkd.1 hkd.2 tk tw1, if_neg ck2, X12_tfN]
      exact X12_tf00 hL e1
  · obtain ⟨o, ho⟩ : ∃ o : Nat, T.tw i = o := ⟨(T.tw i).toNat, by omega⟩
    have hon : o < S.nf := by omega
    have hgr := hVT.2.2.2.2.2.1 i hi ct
    have hkk := hVT.2.2.2.2.1 i hi ct
    rw [ho, Int.toNat_natCast] at hgr hkk
    have hgr2 : S.gr o = ctxT T (T.gr i) := by rw [hgr]; rfl
    have halo := Al.down hW hal hon hgr2
    have hgb := Sc.gr_lt hS o
    have hsc : ∀ l, l < S.nl → S.ins (S.fo l) o = true → S.sc (ctxT T (T.gr i)) (S.fo l) := by
      intro l h1 h2
      have bl := Sc.fo_lt hS h1
      by_cases cc : ctxT T (T.gr i) = -1
      · exact Or.inl cc
      · right
        rw [← hgr2] at cc ⊢
        have h3 : S.ins o (S.gr o).toNat = true := (Sc.ins_eq hS (k := o) (by omega) (by omega) _).mpr (Or.inr ⟨by omega, by
          simp only [Int.toNat_natCast]
          exact (Sc.ins_eq hS (by omega) (by omega) _).mpr (Or.inl (by omega))⟩)
        exact Sc.ins_tr hS 17 (S.fo l : Int) o (S.gr o).toNat (by omega) (by omega) (by omega) h2 h3
    have hsr := hW.2.2.1 o hon
    have hlv : S.lv (ctxT T (T.gr i)) = if S.gr o = -1 then 0 else S.sr (S.gr o).toNat := by rw [← hgr2]; rfl
    rw [← hlv] at hsr
    have hld := leadS_b hW hon
    have hpl := hp _ hld.2.1 (hsc _ hld.2.1 hld.2.2.1)
    have hps := halo.1 _ hld.2.1 (Or.inr (by rw [Int.toNat_natCast]; exact hld.2.2.1))
    have efl := X12_firstLeafIn hW hRV hon
    have edf := X12_defAt hL hRV.2.2 (l := leadS S o) (j := pos (leadS S o)) (by omega) hps.1
    have cd := hRV.2.1.2.2.2.2.2.1
    have bd := Sc.sd_b hS o
    have bv := St.b hRV.2.2.1 (leadS S o) (pos (leadS S o))
    have hpl1 := hpl.1
    rw [ho] at tw1
    by_cases th : S.sd o ≤ A.df (leadS S o) (pos (leadS S o))
    · have nlt : ¬ (i32 (A.df (leadS S o) (pos (leadS S o))) < i32 (S.sd o)) := by rw [i32_lt (by omega) (by omega) (by omega) (by omega)]; omega
      have hth : thereT S A T i pos = true := by unfold thereT; rw [ho, Int.toNat_natCast]; exact decide_eq_true ⟨by omega, th⟩
      unfold fieldT
      rw [hth]
      simp only [if_true]
      by_cases ck2 : T.kd i = 2
      · rw [if_pos ck2]
        rw [ck2] at tk
        have hk2 := hkk.mpr ck2
        rw [if_pos hk2] at hsr
        obtain ⟨M1, e1, g1, q1⟩ := X12_say hL hT (i32 91)
        have hV1 := hV.chg hS g1
        have efl1 := X12_firstLeafIn hW hV1.1 hon
        obtain ⟨M2, e2, g2, q2⟩ := X12_many27 hW kF (i32 b) (i32 i) st (i32 o) (i32 (leadS S o)) (show e ≤ 4 by omega) S.nl 0 FUEL M1 (by omega) (by unfold FUEL; omega) hV1.1
        have g2' : Chg (RC e) M1 M2 := g2.mono (fun a j q => by unfold RC; omega)
        have hV2 := hV1.chg hS g2'
        have hT2 : RT M2 w (outS w [i32 91] p) := ⟨by rw [g2.i (by omega)]; exact q1.1, by rw [g2.i (by omega)]; exact q1.2.1, by rw [g2.i (by omega)]; exact q1.2.2⟩
        have hz := hRV.2.2.1.2.2.2.1 (leadS S o)
        obtain ⟨M3, e3, g3, q3⟩ := X12_many76 hW hVT hb hF hi hd he ho hsr 120 FUEL M2 pos _ true (by omega) (by unfold FUEL; omega) halo hV2 hT2 (fun l a1 a3 => by
          have := hp l a1 (hsc l a1 a3)
          refine ⟨?_, ?_⟩
          · rw [q2 l (by omega) a1, g1.i (by unfold RC; omega)]
            exact this.1
          · rw [g2.i (by omega), g1.i (by unfold RC; omega)]
            exact this.2)
        simp only [if_true, List.nil_append] at e3 q3
        have hV3 := hV2.chg hS g3
        obtain ⟨M4, e4, g4, q4⟩ := X12_say hV3.1.1 q3 (i32 93)
        have e6 : f_X12_tellMany kF 134 (i32 b) (i32 i) st (i32 e) M1 = some ((), M3) := by
          rw [← e3, ← e2]
          have hL1 := hV1.1.1
          have tw2 := hV1.2.2.2.2 i hi
          rw [ho] at tw2
          unfold f_X12_tellMany
          simp only [k_add1]
          simp (disch := omega) only [↓reduceIte, add_i0, cast_add1, cast_sub1, toNat120, i32_lit, i32_neg, i32_add, i32_sub, i32_mul, i32_nat, i32_le, i32_lt, i32_eq, inB_i, Int.toNat_natCast, mI_sI_eq, mI_sI_ne, mR_sR_eq, mR_sR_ne, mI_sR, mR_sI, mK_sI, mN_sI, mn_sI, mJ_sI, mK_sR, mN_sR, mn_sR, mJ_sR, mI_wI, mR_wI, mK_wI, mN_wI, mn_wI, mJ_wI, ↓bnd_of, ↓bndX_r, ↓bndX_l, ↓ap_nr, bnd_of, bndX_r, bndX_l, if_true, if_false, ite_true, ite_false, not_true_eq_false, not_false_eq_true, Nat.reduceAdd, Nat.reduceMul, Nat.reduceEqDiff, Int.reduceToNat, Int.reduceNeg, Ilt_t, Ilt_f, Ile_t, Ile_f, Ieq_t, Ieq_f, Nlt_t, Nlt_f, Nle_t, Nle_f, Neq_t, Neq_f, or_true, true_or, or_false, false_or, and_true, true_and, and_false, false_and, ne_eq, or_self, and_self, decide_true, decide_false, Bool.false_eq_true, hL1.o, toNatA, tw2, ↓bx efl1]
          rfl
        refine ⟨M4, ?_, (g1.mono (RC_mono (by omega))).tr (g2'.tr (g3.tr (g4.mono (RC_mono (by omega))))), ?_⟩
        · rw [X12_tf27 hL (by omega) (by omega) (by omega) tk tw1, if_pos rfl, X12_tf87 hL (by omega) (by omega) (by omega) efl hpl1 edf (cd o hon), if_neg nlt]
          exact X12_tf11 hL e1 hV1.1.1.k e6 hV3.1.1.k e4
        · rw [outS_cons, outS_app]
          exact q4
      · rw [if_neg ck2]
        have hk2 : ¬ S.kd o = 2 := fun q => ck2 (hkk.mp q)
        rw [if_neg hk2] at hsr
        have hlo : S.lv o = S.lv (ctxT T (T.gr i)) := by
          unfold Sc.lv
          rw [if_neg (by omega), Int.toNat_natCast, hsr, Int.add_zero]
          rfl
        obtain ⟨M3, e3, g3, q3⟩ := X12_tellItem hW hVT hb hF hi hd (show e ≤ d + 1 by omega) ho halo hV hT (fun l a1 a2 => by
          have a3 : S.ins (S.fo l) o = true := by
            rcases a2 with a2 | a2
            · omega
            · rw [Int.toNat_natCast] at a2; exact a2
          rw [hlo]
          exact hp l a1 (hsc l a1 a3))
        refine ⟨M3, ?_, g3, q3⟩
        rw [X12_tf27 hL (by omega) hkd.1 hkd.2 tk tw1, if_neg ck2, X12_tf87 hL (by omega) (by omega) (by omega) efl hpl1 edf (cd o hon), if_neg nlt]
        exact X12_tf01 hL e3
    · have ylt : i32 (A.df (leadS S o) (pos (leadS S o))) < i32 (S.sd o) := by rw [i32_lt (by omega) (by omega) (by omega) (by omega)]; omega
      have hth : thereT S A T i pos = false := by unfold thereT; rw [ho, Int.toNat_natCast]; exact decide_eq_false (fun q => th q.2)
      unfold fieldT
      rw [hth]
      simp only [Bool.false_eq_true, if_false]
      by_cases ck2 : T.kd i = 2
      · rw [if_pos ck2]
        rw [ck2] at tk
        obtain ⟨M1, e1, g1, q1⟩ := X12_say hL hT (i32 91)
        obtain ⟨M2, e2, g2, q2⟩ := X12_say (hL.chg g1) q1 (i32 93)
        have k1 := (hL.chg g1).k
        refine ⟨M2, ?_, (g1.tr g2).mono (RC_mono (by omega)), q2⟩
        rw [X12_tf27 hL (by omega) (by omega) (by omega) tk tw1, if_pos rfl, X12_tf87 hL (by omega) (by omega) (by omega) efl hpl1 edf (cd o hon), if_pos ylt]
        exact X12_tf10 hL e1 k1 e2
      · rw [if_neg ck2]
        obtain ⟨M1, e1, g1, q1⟩ := X12_say hL hT (i32 45)
        refine ⟨M1, ?_, g1.mono (RC_mono (by omega)), q1⟩
        rw [X12_tf27 hL (by omega) hkd.1 hkd.2 tk tw1, if_neg ck2, X12_tf87 hL (by omega) (by omega) (by omega) efl hpl1 edf (cd o hon), if_pos ylt]
        exact X12_tf00 hL e1
theorem X12_fields27 (hW : S.wf) (hVT : VT S T dp) (hb : b = 0 ∨ b = 16) (htold : ∀ (M : Mem) (f : Nat), RV M S A → f < T.nf → f_X12_isTold 134 (i32 b) (i32 f) st M = some (if tl f = true then i32 1 else i32 0, M)) {kF : Nat → Int32 → Int32 → Int32 → Int32 → Mem → Option (Unit × Mem)} {sub : Nat → (Nat → Nat) → List Int32} {d e : Nat} (hF : RHF b S T A w st dp kF sub d) (ar : Int) (har : -1 ≤ ar ∧ ar < T.nf) (hdp : ∀ i, i < T.nf → T.gr i = ar → dp i = d) (he : e ≤ d) {pos : Nat → Nat} (hal : Al S A (ctxT T ar) pos) : ∀ (k j n : Nat) (fs : Bool) (M : Mem) (p : Int32 × Int32), j + k = T.nf → k < n → RTV M b S T A → RT M w p → RPos M S A (ctxT T ar) e pos → ∃ M', f_X12_tellValues_27 kF n 134 (i32 b) (i32 ar) st (i32 e) (if fs = true then i32 1 else i32 0) (i32 T.nf) (i32 j) M = some ((), M') ∧ Chg (RC e) M M' ∧ RT M' w (outS w (fieldsT S A T tl sub ar k j fs pos) p) := by
  have hS := hW.1
  have hnl := hS.2.1
  have hT16 := hVT.1
  intro k
  induction k with
  | zero =>
    intro j n fs M p hj hn hV hT hp
    obtain ⟨n, rfl⟩ : ∃ m, n = m + 1 := ⟨n - 1, by omega⟩
    refine ⟨M, ?_, Chg.rf _ M, hT⟩
    simp (disch := omega) only [↓reduceIte, add_i0, cast_add1, cast_sub1, toNat120, i32_lit, i32_neg, i32_add, i32_sub, i32_mul, i32_nat, i32_le, i32_lt, i32_eq, inB_i, Int.toNat_natCast, mI_sI_eq, mI_sI_ne, mR_sR_eq, mR_sR_ne, mI_sR, mR_sI, mK_sI, mN_sI, mn_sI, mJ_sI, mK_sR, mN_sR, mn_sR, mJ_sR, mI_wI, mR_wI, mK_wI, mN_wI, mn_wI, mJ_wI, ↓bnd_of, ↓bndX_r, ↓bndX_l, ↓ap_nr, bnd_of, bndX_r, bndX_l, if_true, if_false, ite_true, ite_false, not_true_eq_false, not_false_eq_true, Nat.reduceAdd, Nat.reduceMul, Nat.reduceEqDiff, Int.reduceToNat, Int.reduceNeg, Ilt_t, Ilt_f, Ile_t, Ile_f, Ieq_t, Ieq_f, Nlt_t, Nlt_f, Nle_t, Nle_f, Neq_t, Neq_f, or_true, true_or, or_false, false_or, and_true, true_and, and_false, false_and, ne_eq, or_self, and_self, decide_true, decide_false, Bool.false_eq_true, f_X12_tellValues_27]
  | succ k ih =>
    intro j n fs M p hj hn hV hT hp
    obtain ⟨n, rfl⟩ : ∃ m, n = m + 1 := ⟨n - 1, by omega⟩
    obtain ⟨hRV, t1, t2, t3, t4⟩ := id hV
    have hL := hRV.1
    have hgb := hVT.2.1 j (by omega)
    have tg := t3 j (by omega)
    have eto := htold M j hRV (by omega)
    by_cases c1 : T.gr j = ar
    · rw [c1] at tg
      by_cases c2 : tl j = true
      · rw [fieldsT_y c1 c2]
        rw [if_pos c2] at eto
        have hd3 := hVT.2.2.2.2.2.2.2 j (by omega)
        rw [hdp j (by omega) c1] at hd3
        have key : ∀ (M1 : Mem) (p1 : Int32 × Int32), Chg (RC e) M M1 → RT M1 w p1 → ∃ M', f_X12_tellValues_72 kF (f_X12_tellValues_27 kF n) 134 (i32 b) (i32 ar) st (i32 e) (i32 T.nf) (i32 j) M1 = some ((), M') ∧ Chg (RC e) M1 M' ∧ RT M' w (outS w (fieldT S A T sub j pos ++ fieldsT S A T tl sub ar k (j + 1) false pos) p1) := by
          intro M1 p1 g1 hT1
          have hV1 := hV.chg hS g1
          have hp1 : RPos M1 S A (ctxT T ar) e pos := fun l h1 h2 => by
            rw [g1.i (by unfold RC; omega), g1.i (by unfold RC; omega)]
            exact hp l h1 h2
          obtain ⟨M2, e2, g2, q2⟩ := X12_tellField hW hVT hb hF (show j < T.nf by omega) (hdp j (by omega) c1) he (pos := pos) (by rw [c1]; exact hal) hV1 hT1 (by rw [c1]; exact hp1)
          obtain ⟨M3, e3, g3, q3⟩ := ih (j + 1) n false M2 _ (by omega) (by omega) (hV1.chg hS g2) q2 (fun l h1 h2 => by
            rw [g2.i (by unfold RC; omega), g2.i (by unfold RC; omega)]
            exact hp1 l h1 h2)
          refine ⟨M3, ?_, g2.tr g3, ?_⟩
          · have k1 := hV1.1.1.k
            rw [← e3]
            simp only [Bool.false_eq_true, if_false]
            unfold f_X12_tellValues_72 f_X12_tellValues_85
            rw [if_pos k1, bx e2, k_add1]
            rfl
          · rw [outS_app]
            exact q3
        by_cases cb : fs = true
        · obtain ⟨M3, e3, g3, q3⟩ := key M p (Chg.rf _ M) hT
          refine ⟨M3, ?_, g3, ?_⟩
          · rw [← e3]
            simp (disch := omega) only [↓reduceIte, add_i0, cast_add1, cast_sub1, toNat120, i32_lit, i32_neg, i32_add, i32_sub, i32_mul, i32_nat, i32_le, i32_lt, i32_eq, inB_i, Int.toNat_natCast, mI_sI_eq, mI_sI_ne, mR_sR_eq, mR_sR_ne, mI_sR, mR_sI, mK_sI, mN_sI, mn_sI, mJ_sI, mK_sR, mN_sR, mn_sR, mJ_sR, mI_wI, mR_wI, mK_wI, mN_wI, mn_wI, mJ_wI, ↓bnd_of, ↓bndX_r, ↓bndX_l, ↓ap_nr, bnd_of, bndX_r, bndX_l, if_true, if_false, ite_true, ite_false, not_true_eq_false, not_false_eq_true, Nat.reduceAdd, Nat.reduceMul, Nat.reduceEqDiff, Int.reduceToNat, Int.reduceNeg, Ilt_t, Ilt_f, Ile_t, Ile_f, Ieq_t, Ieq_f, Nlt_t, Nlt_f, Nle_t, Nle_f, Neq_t, Neq_f, or_true, true_or, or_false, false_or, and_true, true_and, and_false, false_and, ne_eq, or_self, and_self, decide_true, decide_false, Bool.false_eq_true, f_X12_tellValues_27, hL.o, toNatA, tg, ↓bx eto, cb]
          · rw [show (if fs = true then [] else [i32 32]) = ([] : List Int32) from if_pos cb]
            exact q3
        · obtain ⟨M1, e1, g1, q1⟩ := X12_say hL hT (i32 32)
          have g1' : Chg (RC e) M M1 := g1.mono (RC_mono (by omega))
          obtain ⟨M3, e3, g3, q3⟩ := key M1 _ g1' q1
          refine ⟨M3, ?_, g1'.tr g3, ?_⟩
          · rw [← e3]
            simp (disch := omega) only [↓reduceIte, add_i0, cast_add1, cast_sub1, toNat120, i32_lit, i32_neg, i32_add, i32_sub, i32_mul, i32_nat, i32_le, i32_lt, i32_eq, inB_i, Int.toNat_natCast, mI_sI_eq, mI_sI_ne, mR_sR_eq, mR_sR_ne, mI_sR, mR_sI, mK_sI, mN_sI, mn_sI, mJ_sI, mK_sR, mN_sR, mn_sR, mJ_sR, mI_wI, mR_wI, mK_wI, mN_wI, mn_wI, mJ_wI, ↓bnd_of, ↓bndX_r, ↓bndX_l, ↓ap_nr, bnd_of, bndX_r, bndX_l, if_true, if_false, ite_true, ite_false, not_true_eq_false, not_false_eq_true, Nat.reduceAdd, Nat.reduceMul, Nat.reduceEqDiff, Int.reduceToNat, Int.reduceNeg, Ilt_t, Ilt_f, Ile_t, Ile_f, Ieq_t, Ieq_f, Nlt_t, Nlt_f, Nle_t, Nle_f, Neq_t, Neq_f, or_true, true_or, or_false, false_or, and_true, true_and, and_false, false_and, ne_eq, or_self, and_self, decide_true, decide_false, Bool.false_eq_true, f_X12_tellValues_27, hL.o, toNatA, tg, ↓bx eto, cb, ↓bx e1]
          · rw [show (if fs = true then [] else [i32 32]) = [i32 32] from if_neg cb, outS_app]
            exact q3
      · rw [fieldsT_n (fun q => c2 q.2)]
        rw [if_neg c2] at eto
        obtain ⟨M3, e3, g3, q3⟩ := ih (j + 1) n fs M p (by omega) (by omega) hV hT hp
        refine ⟨M3, ?_, g3, q3⟩
        rw [← e3]
        simp (disch := omega) only [↓reduceIte, add_i0, cast_add1, cast_sub1, toNat120, i32_lit, i32_neg, i32_add, i32_sub, i32_mul, i32_nat, i32_le, i32_lt, i32_eq, inB_i, Int.toNat_natCast, mI_sI_eq, mI_sI_ne, mR_sR_eq, mR_sR_ne, mI_sR, mR_sI, mK_sI, mN_sI, mn_sI, mJ_sI, mK_sR, mN_sR, mn_sR, mJ_sR, mI_wI, mR_wI, mK_wI, mN_wI, mn_wI, mJ_wI, ↓bnd_of, ↓bndX_r, ↓bndX_l, ↓ap_nr, bnd_of, bndX_r, bndX_l, if_true, if_false, ite_true, ite_false, not_true_eq_false, not_false_eq_true, Nat.reduceAdd, Nat.reduceMul, Nat.reduceEqDiff, Int.reduceToNat, Int.reduceNeg, Ilt_t, Ilt_f, Ile_t, Ile_f, Ieq_t, Ieq_f, Nlt_t, Nlt_f, Nle_t, Nle_f, Neq_t, Neq_f, or_true, true_or, or_false, false_or, and_true, true_and, and_false, false_and, ne_eq, or_self, and_self, decide_true, decide_false, Bool.false_eq_true, f_X12_tellValues_27, f_X12_tellValues_85, hL.o, toNatA, tg, ↓bx eto]
    · rw [fieldsT_n (fun q => c1 q.1)]
      obtain ⟨M3, e3, g3, q3⟩ := ih (j + 1) n fs M p (by omega) (by omega) hV hT hp
      refine ⟨M3, ?_, g3, q3⟩
      rw [← e3]
      simp (disch := omega) only [↓reduceIte, add_i0, cast_add1, cast_sub1, toNat120, i32_lit, i32_neg, i32_add, i32_sub, i32_mul, i32_nat, i32_le, i32_lt, i32_eq, inB_i, Int.toNat_natCast, mI_sI_eq, mI_sI_ne, mR_sR_eq, mR_sR_ne, mI_sR, mR_sI, mK_sI, mN_sI, mn_sI, mJ_sI, mK_sR, mN_sR, mn_sR, mJ_sR, mI_wI, mR_wI, mK_wI, mN_wI, mn_wI, mJ_wI, ↓bnd_of, ↓bndX_r, ↓bndX_l, ↓ap_nr, bnd_of, bndX_r, bndX_l, if_true, if_false, ite_true, ite_false, not_true_eq_false, not_false_eq_true, Nat.reduceAdd, Nat.reduceMul, Nat.reduceEqDiff, Int.reduceToNat, Int.reduceNeg, Ilt_t, Ilt_f, Ile_t, Ile_f, Ieq_t, Ieq_f, Nlt_t, Nlt_f, Nle_t, Nle_f, Neq_t, Neq_f, or_true, true_or, or_false, false_or, and_true, true_and, and_false, false_and, ne_eq, or_self, and_self, decide_true, decide_false, Bool.false_eq_true, f_X12_tellValues_27, f_X12_tellValues_85, hL.o, toNatA, tg, c1]
theorem X12_values_o (hS : S.ok) (hT16 : T.nf ≤ 16) (hb : b = 0 ∨ b = 16) (hV : RTV M b S T A) (kF : Nat → Int32 → Int32 → Int32 → Int32 → Mem → Option (Unit × Mem)) (a2 a4 : Int32) : f_X12_tellValues_o kF 134 (i32 b) a2 st a4 M = f_X12_tellValues_27 kF FUEL 134 (i32 b) a2 st a4 (i32 1) (i32 T.nf) (i32 ((0 : Nat) : Int)) M := by
  have hL := hV.1.1
  have t1 := hV.2.1
  rcases hb with rfl | rfl
  · simp only [Nat.zero_div] at t1
    simp (disch := omega) only [↓reduceIte, add_i0, cast_add1, cast_sub1, toNat120, i32_lit, i32_neg, i32_add, i32_sub, i32_mul, i32_nat, i32_le, i32_lt, i32_eq, inB_i, Int.toNat_natCast, mI_sI_eq, mI_sI_ne, mR_sR_eq, mR_sR_ne, mI_sR, mR_sI, mK_sI, mN_sI, mn_sI, mJ_sI, mK_sR, mN_sR, mn_sR, mJ_sR, mI_wI, mR_wI, mK_wI, mN_wI, mn_wI, mJ_wI, ↓bnd_of, ↓bndX_r, ↓bndX_l, ↓ap_nr, bnd_of, bndX_r, bndX_l, if_true, if_false, ite_true, ite_false, not_true_eq_false, not_false_eq_true, Nat.reduceAdd, Nat.reduceMul, Nat.reduceEqDiff, Int.reduceToNat, Int.reduceNeg, Ilt_t, Ilt_f, Ile_t, Ile_f, Ieq_t, Ieq_f, Nlt_t, Nlt_f, Nle_t, Nle_f, Neq_t, Neq_f, or_true, true_or, or_false, false_or, and_true, true_and, and_false, false_and, ne_eq, or_self, and_self, decide_true, decide_false, Bool.false_eq_true, f_X12_tellValues_o, f_X12_tellValues_22, hL.o, t1]
    rfl
  · simp only [show 16 / 16 = 1 from rfl] at t1
    simp (disch := omega) only [↓reduceIte, add_i0, cast_add1, cast_sub1, toNat120, i32_lit, i32_neg, i32_add, i32_sub, i32_mul, i32_nat, i32_le, i32_lt, i32_eq, inB_i, Int.toNat_natCast, mI_sI_eq, mI_sI_ne, mR_sR_eq, mR_sR_ne, mI_sR, mR_sI, mK_sI, mN_sI, mn_sI, mJ_sI, mK_sR, mN_sR, mn_sR, mJ_sR, mI_wI, mR_wI, mK_wI, mN_wI, mn_wI, mJ_wI, ↓bnd_of, ↓bndX_r, ↓bndX_l, ↓ap_nr, bnd_of, bndX_r, bndX_l, if_true, if_false, ite_true, ite_false, not_true_eq_false, not_false_eq_true, Nat.reduceAdd, Nat.reduceMul, Nat.reduceEqDiff, Int.reduceToNat, Int.reduceNeg, Ilt_t, Ilt_f, Ile_t, Ile_f, Ieq_t, Ieq_f, Nlt_t, Nlt_f, Nle_t, Nle_f, Neq_t, Neq_f, or_true, true_or, or_false, false_or, and_true, true_and, and_false, false_and, ne_eq, or_self, and_self, decide_true, decide_false, Bool.false_eq_true, f_X12_tellValues_o, f_X12_tellValues_22, hL.o, t1]
    rfl
theorem X12_tellValues (hW : S.wf) (hVT : VT S T dp) (hb : b = 0 ∨ b = 16) (htold : ∀ (M : Mem) (f : Nat), RV M S A → f < T.nf → f_X12_isTold 134 (i32 b) (i32 f) st M = some (if tl f = true then i32 1 else i32 0, M)) : ∀ (n d : Nat), n + d = 6 → d ≤ 4 → RHF b S T A w st dp (f_X12_tellValues n) (fun i p => tellT S A T tl n i p) (d - 1) ∨ d = 0 := by
  intro n
  induction n with
  | zero => intro d h1 h2; omega
  | succ n ih =>
    intro d h1 h2
    by_cases c : d = 0
    · exact Or.inr c
    · left
      intro M i e pos p hV hT hi htw hdi he hal hp
      have hdpi := hVT.2.2.2.2.2.2.1
      have hd3 := hVT.2.2.2.2.2.2.2
      have hc : ctxT T (i : Int) = T.tw i := by unfold ctxT; rw [if_neg (by omega), Int.toNat_natCast]
      have hF : RHF b S T A w st dp (f_X12_tellValues n) (fun i p => tellT S A T tl n i p) d := by
        by_cases d4 : d = 4
        · subst d4
          exact fun M i e pos p hV hT hi htw hdi => by
            have := hd3 i hi
            omega
        · rcases ih (d + 1) (by omega) (by omega) with q | q
          · exact q
          · omega
      obtain ⟨M', e1, g, q⟩ := X12_fields27 hW hVT hb htold (e := e) hF (i : Int) ⟨by omega, by omega⟩ (fun k h3 h4 => by
        have e1 := hdpi k h3
        rw [h4, if_neg (by omega), Int.toNat_natCast] at e1
        omega) (by omega) (pos := pos) (by rw [hc]; exact hal) T.nf 0 FUEL true M p (by omega) (by unfold FUEL; have := hVT.1; omega) hV hT (by rw [hc]; exact hp)
      simp only [if_true] at e1
      refine ⟨M', ?_, g, q⟩
      rw [← e1, f_X12_tellValues]
      exact X12_values_o hW.1 hVT.1 hb hV _ _ _
theorem X12_tellTop (hW : S.wf) (hVT : VT S T dp) (hb : b = 0 ∨ b = 16) (htold : ∀ (M : Mem) (f : Nat), RV M S A → f < T.nf → f_X12_isTold 134 (i32 b) (i32 f) st M = some (if tl f = true then i32 1 else i32 0, M)) {pos : Nat → Nat} (hal : Al S A (-1) pos) (hV : RTV M b S T A) (hT : RT M w p) (hp : RPos M S A (-1) 0 pos) : ∃ M', f_X12_tellValues 6 134 (i32 b) (i32 (-1)) st (i32 0) M = some ((), M') ∧ Chg (RC 0) M M' ∧ RT M' w (outS w (tellT S A T tl 6 (-1) pos) p) := by
  have hF : RHF b S T A w st dp (f_X12_tellValues 5) (fun i p => tellT S A T tl 5 i p) 0 := by
    rcases X12_tellValues (w := w) hW hVT hb htold 5 1 (by omega) (by omega) with q | q
    · exact q
    · omega
  have hdpi := hVT.2.2.2.2.2.2.1
  obtain ⟨M', e1, g, q⟩ := X12_fields27 hW hVT hb htold (e := 0) hF (-1) ⟨by omega, by omega⟩ (fun k h3 h4 => by
    have e1 := hdpi k h3
    rw [h4, if_pos rfl] at e1
    exact e1) (by omega) (pos := pos) (by unfold ctxT; rw [if_pos rfl]; exact hal) T.nf 0 FUEL true M p (by omega) (by unfold FUEL; have := hVT.1; omega) hV hT (by unfold ctxT; rw [if_pos rfl]; exact hp)
  simp only [if_true] at e1
  refine ⟨M', ?_, g, q⟩
  rw [← e1, f_X12_tellValues]
  exact X12_values_o hW.1 hVT.1 hb hV _ _ _
end
