/-! What is told: the class's recursion -/
theorem fieldsT_y {S : Sc} {A : St} {T : Sc} {tl : Nat → Bool} {sub : Nat → (Nat → Nat) → List Int32} {ar : Int} {k j : Nat} {b : Bool} {pos : Nat → Nat} (h1 : T.gr j = ar) (h2 : tl j = true) : fieldsT S A T tl sub ar (k + 1) j b pos = (if b = true then [] else [i32 32]) ++ (fieldT S A T sub j pos ++ fieldsT S A T tl sub ar k (j + 1) false pos) := if_pos ⟨h1, h2⟩
theorem fieldsT_n {S : Sc} {A : St} {T : Sc} {tl : Nat → Bool} {sub : Nat → (Nat → Nat) → List Int32} {ar : Int} {k j : Nat} {b : Bool} {pos : Nat → Nat} (h : ¬ (T.gr j = ar ∧ tl j = true)) : fieldsT S A T tl sub ar (k + 1) j b pos = fieldsT S A T tl sub ar k (j + 1) b pos := if_neg h
theorem itemsT_e {S : Sc} {A : St} {T : Sc} {sub : Nat → (Nat → Nat) → List Int32} {i o k : Nat} {pos : Nat → Nat} (ho : T.tw i = o) : itemsT S A T sub i (k + 1) pos = if nextP S A o pos (leadS S o) < A.sz (leadS S o) ∧ A.rp (leadS S o) (nextP S A o pos (leadS S o)) = S.sr o then i32 32 :: (itemT S A T sub i (nextP S A o pos) ++ itemsT S A T sub i k (nextP S A o pos)) else [] := by
  conv => lhs; unfold itemsT
  rw [ho, Int.toNat_natCast]
def ShT2 (M : Mem) (s : Nat) : Prop := mK M s = 6 ∧ mR M s 4 = s + 3 ∧ mK M (s + 3) = 21 ∧ mN M (s + 3) = 16 ∧ mR M s 5 = s + 4 ∧ mK M (s + 4) = 21 ∧ mN M (s + 4) = 16 ∧ mR M s 10 = s + 9 ∧ mK M (s + 9) = 21 ∧ mN M (s + 9) = 16
theorem ShT2.o {M : Mem} {s : Nat} (h : ShT2 M s) : mK M s = 6 ∧ mR M s 4 = s + 3 ∧ mK M (s + 3) = 21 ∧ mN M (s + 3) = 16 ∧ mR M s 5 = s + 4 ∧ mK M (s + 4) = 21 ∧ mN M (s + 4) = 16 ∧ mR M s 10 = s + 9 ∧ mK M (s + 9) = 21 ∧ mN M (s + 9) = 16 := h
theorem ShLay.tel2 {M : Mem} {s : Nat} (hs : ShLay M s) : ShT2 M s := by
  have h := hs.o
  unfold ShT2
  simp only [h, and_self]
theorem nat_i {k : Nat} (h : k ≤ 1000000) : (i32 (k : Int)).toNatClampNeg = k := by
  rw [i32_nat (by omega) (by omega), Int.toNat_natCast]
section
variable {M M1 M2 M3 : Mem} {s o d l q ld i : Nat} {kF : Nat → Int32 → Int32 → Mem → Option (Unit × Mem)}
theorem X8_tiL (hL : CLay M) (r5 : mR M 8 5 = s) (r6 : mR M 8 6 = 18) (hs : ShLay M s) (hc : ColLay M 21) (ho : o < 16) (hl : l < 8) (hd : d + 1 < 5) (hq : q < 120) (cl : mI M (s + 3) o = i32 l) (hp1 : mI M (10 + (d + 1)) l = i32 q) (eh : f_X8_has 8 (i32 l) (i32 q) M = some (i32 1, M)) {v : Int32} (ev : mI M (21 + 4 * l + 3) q = v) (e1 : f_X8_putNumber 8 v M = some ((), M1)) (x : Int32) : f_X8_tellItem kF 8 x (i32 o) (i32 d) M = some ((), M1) := by
  have wa := hL.rowat hd
  have ht := hL.tel
  have hst := hs.tel2
  have hca := hc.at21 hl
  have no := nat_i (k := o) (by omega)
  have nl := nat_i (k := l) (by omega)
  have nd : (i32 (d : Int) + (1 : Int32)).toNatClampNeg = d + 1 := by rw [k_add1, nat_i (by omega)]
  have nq := nat_i (k := q) (by omega)
  unfold f_X8_tellItem
  simp only [no, nd, r5, r6, ht.o.2.1, ht.o.2.2.2.2.2.1, hst.o.2.1, wa.o.1, cl, nl, hp1, nq, hca.o.2.2.2.1, hca.o.2.2.2.2.2.2.2.2.2.2, ev]
  simp (disch := omega) only [↓reduceIte, add_i0, cast_add1, cast_sub1, toNat120, i32_lit, i32_neg, i32_add, i32_sub, i32_mul, i32_nat, i32_le, i32_lt, i32_eq, inB_i, Int.toNat_natCast, mI_sI_eq, mI_sI_ne, mR_sR_eq, mR_sR_ne, mI_sR, mR_sI, mK_sI, mN_sI, mn_sI, mJ_sI, mK_sR, mN_sR, mn_sR, mJ_sR, mI_wI, mR_wI, mK_wI, mN_wI, mn_wI, mJ_wI, ↓bnd_of, ↓bndX_r, ↓bndX_l, ↓ap_nr, bnd_of, bndX_r, bndX_l, if_true, if_false, ite_true, ite_false, not_true_eq_false, not_false_eq_true, Nat.reduceAdd, Nat.reduceMul, Nat.reduceEqDiff, Int.reduceToNat, Int.reduceNeg, Ilt_t, Ilt_f, Ile_t, Ile_f, Ieq_t, Ieq_f, Nlt_t, Nlt_f, Nle_t, Nle_f, Neq_t, Neq_f, or_true, true_or, or_false, false_or, and_true, true_and, and_false, false_and, ne_eq, or_self, and_self, decide_true, decide_false, Bool.false_eq_true, ht.o, r5, r6, hst.o, cl, wa.o, hp1, ↓bx eh, hca.o, ev, ↓bx e1]
theorem X8_tiG (hL : CLay M) (r5 : mR M 8 5 = s) (hs : ShLay M s) (ho : o < 16) (cl : mI M (s + 3) o = i32 (-1)) {x : Int32} (e1 : f_X8_put 8 (i32 40) M = some ((), M1)) (k1 : mK M1 8 = 9) (e2 : kF 8 x (i32 ((d + 1 : Nat) : Int)) M1 = some ((), M2)) (k2 : mK M2 8 = 9) (e3 : f_X8_put 8 (i32 41) M2 = some ((), M3)) : f_X8_tellItem kF 8 x (i32 o) (i32 d) M = some ((), M3) := by
  have ht := hL.tel
  have hst := hs.tel2
  have e1 : f_X8_put 8 (40 : Int32) M = _ := e1
  have e3 : f_X8_put 8 (41 : Int32) M2 = _ := e3
  unfold f_X8_tellItem
  simp only [k_add1]
  simp (disch := omega) only [↓reduceIte, add_i0, cast_add1, cast_sub1, toNat120, i32_lit, i32_neg, i32_add, i32_sub, i32_mul, i32_nat, i32_le, i32_lt, i32_eq, inB_i, Int.toNat_natCast, mI_sI_eq, mI_sI_ne, mR_sR_eq, mR_sR_ne, mI_sR, mR_sI, mK_sI, mN_sI, mn_sI, mJ_sI, mK_sR, mN_sR, mn_sR, mJ_sR, mI_wI, mR_wI, mK_wI, mN_wI, mn_wI, mJ_wI, ↓bnd_of, ↓bndX_r, ↓bndX_l, ↓ap_nr, bnd_of, bndX_r, bndX_l, if_true, if_false, ite_true, ite_false, not_true_eq_false, not_false_eq_true, Nat.reduceAdd, Nat.reduceMul, Nat.reduceEqDiff, Int.reduceToNat, Int.reduceNeg, Ilt_t, Ilt_f, Ile_t, Ile_f, Ieq_t, Ieq_f, Nlt_t, Nlt_f, Nle_t, Nle_f, Neq_t, Neq_f, or_true, true_or, or_false, false_or, and_true, true_and, and_false, false_and, ne_eq, or_self, and_self, decide_true, decide_false, Bool.false_eq_true, ht.o, r5, hst.o, cl, ↓bx e1, k1, ↓bx e2, k2, ↓bx e3]
theorem X8_itS (hL : CLay M) (r5 : mR M 8 5 = s) (r6 : mR M 8 6 = 18) (hs : ShLay M s) (hc : ColLay M 21) (ho : o < 16) (hl : ld < 8) (hd : d < 5) (hq : q < 120) (el : f_X11_lowestBit (mI M (s + 9) o) M = some (i32 ld, M)) (hp1 : mI M (10 + d) ld = i32 q) (eh : f_X8_has 8 (i32 ld) (i32 q) M = some (i32 1, M)) {v w : Int32} (ev : mI M (21 + 4 * ld + 2) q = v) (ew : mI M (s + 4) o = w) : f_X8_isThere 8 (i32 o) (i32 d) M = if v < w then some (i32 0, M) else some (i32 1, M) := by
  have wa := hL.rowat hd
  have ht := hL.tel
  have hst := hs.tel2
  have hca := hc.at21 hl
  have no := nat_i (k := o) (by omega)
  have nl := nat_i (k := ld) (by omega)
  have nd := nat_i (k := d) (by omega)
  have nq := nat_i (k := q) (by omega)
  have b0 : ¬ (i32 (ld : Int) = i32 (-1)) := i32_ne (by omega) (by omega) (by omega) (by omega) (by omega)
  have b0 : ¬ (i32 (ld : Int) = (-1 : Int32)) := b0
  unfold f_X8_isThere
  simp only [no, nd, r5, r6, ht.o.2.1, hst.o.2.2.2.2.2.2.2.1]
  rw [if_pos ht.o.1, if_pos hst.o.1, if_pos hst.o.2.2.2.2.2.2.2.2.1, if_pos (by rw [hst.o.2.2.2.2.2.2.2.2.2]; simp (disch := omega) only [↓reduceIte, add_i0, cast_add1, cast_sub1, toNat120, i32_lit, i32_neg, i32_add, i32_sub, i32_mul, i32_nat, i32_le, i32_lt, i32_eq, inB_i, Int.toNat_natCast, mI_sI_eq, mI_sI_ne, mR_sR_eq, mR_sR_ne, mI_sR, mR_sI, mK_sI, mN_sI, mn_sI, mJ_sI, mK_sR, mN_sR, mn_sR, mJ_sR, mI_wI, mR_wI, mK_wI, mN_wI, mn_wI, mJ_wI, ↓bnd_of, ↓bndX_r, ↓bndX_l, ↓ap_nr, bnd_of, bndX_r, bndX_l, if_true, if_false, ite_true, ite_false, not_true_eq_false, not_false_eq_true, Nat.reduceAdd, Nat.reduceMul, Nat.reduceEqDiff, Int.reduceToNat, Int.reduceNeg, Ilt_t, Ilt_f, Ile_t, Ile_f, Ieq_t, Ieq_f, Nlt_t, Nlt_f, Nle_t, Nle_f, Neq_t, Neq_f, or_true, true_or, or_false, false_or, and_true, true_and, and_false, false_and, ne_eq, or_self, and_self, decide_true, decide_false, Bool.false_eq_true]), bx el, if_neg b0]
  simp only [nl, ht.o.2.1, wa.o.1, hp1, nq, r6, r5, ht.o.2.2.2.2.2.1, hca.o.2.2.1, hca.o.2.2.2.2.2.2.2.2.2.2, hst.o.2.2.2.2.1, ev, ew, no, nd]
  simp (disch := omega) only [↓reduceIte, add_i0, cast_add1, cast_sub1, toNat120, i32_lit, i32_neg, i32_add, i32_sub, i32_mul, i32_nat, i32_le, i32_lt, i32_eq, inB_i, Int.toNat_natCast, mI_sI_eq, mI_sI_ne, mR_sR_eq, mR_sR_ne, mI_sR, mR_sI, mK_sI, mN_sI, mn_sI, mJ_sI, mK_sR, mN_sR, mn_sR, mJ_sR, mI_wI, mR_wI, mK_wI, mN_wI, mn_wI, mJ_wI, ↓bnd_of, ↓bndX_r, ↓bndX_l, ↓ap_nr, bnd_of, bndX_r, bndX_l, if_true, if_false, ite_true, ite_false, not_true_eq_false, not_false_eq_true, Nat.reduceAdd, Nat.reduceMul, Nat.reduceEqDiff, Int.reduceToNat, Int.reduceNeg, Ilt_t, Ilt_f, Ile_t, Ile_f, Ieq_t, Ieq_f, Nlt_t, Nlt_f, Nle_t, Nle_f, Neq_t, Neq_f, or_true, true_or, or_false, false_or, and_true, true_and, and_false, false_and, ne_eq, or_self, and_self, decide_true, decide_false, Bool.false_eq_true, ht.o, r5, r6, hst.o, wa.o, hp1, ↓bx eh, hca.o, ev, ew]
end
section
variable {M : Mem} {t s : Nat} {S T : Sc} {A : St} {tl : Nat → Bool} {w : Int32} {p : Int32 × Int32} {dp : Nat → Nat}
/-- what the call one depth further down must do -/
def HF (t s : Nat) (S T : Sc) (A : St) (tl : Nat → Bool) (w : Int32) (dp : Nat → Nat) (kF : Nat → Int32 → Int32 → Mem → Option (Unit × Mem)) (sub : Nat → (Nat → Nat) → List Int32) (d : Nat) : Prop := ∀ (M : Mem) (i : Nat) (pos : Nat → Nat) (p : Int32 × Int32), TV M t s S T A tl → TS M w p → i < T.nf → T.tw i ≠ -1 → dp i = d → Al S A (T.tw i) pos → (∀ l, l < S.nl → S.ins (S.fo l) (T.tw i).toNat = true → mI M (10 + (d + 1)) l = i32 (pos l)) → ∃ M', kF 8 (i32 i) (i32 ((d + 1 : Nat) : Int)) M = some ((), M') ∧ Chg (TC (d + 1)) M M' ∧ TS M' w (outS w (sub i pos) p)
theorem X8_tellItem (hW : S.wf) (hVT : VT S T dp) {kF : Nat → Int32 → Int32 → Mem → Option (Unit × Mem)} {sub : Nat → (Nat → Nat) → List Int32} {d : Nat} (hF : HF t s S T A tl w dp kF sub d) {i : Nat} (hi : i < T.nf) (hd : dp i = d) {o : Nat} (ho : T.tw i = o) {pos : Nat → Nat} (hal : Al S A o pos) (hV : TV M t s S T A tl) (hT : TS M w p) (hp : ∀ l, l < S.nl → S.ins (S.fo l) o = true → mI M (10 + (d + 1)) l = i32 (pos l)) : ∃ M', f_X8_tellItem kF 8 (i32 i) (i32 o) (i32 d) M = some ((), M') ∧ Chg (TC (d + 1)) M M' ∧ TS M' w (outS w (itemT S A T sub i pos) p) := by
  have hS := hW.1
  have hnl := hS.2.1
  have hnf := hS.1
  have hd3 := hVT.2.2.2.2.2.2.2 i hi
  have how := hVT.2.2.2.1 i hi
  have hon : o < S.nf := by omega
  obtain ⟨hCV, hst, t1, t2, t3, t4, t5, t6, t7, r4, r5, r6⟩ := hV
  have hV : TV M t s S T A tl := ⟨hCV, hst, t1, t2, t3, t4, t5, t6, t7, r4, r5, r6⟩
  obtain ⟨hL, hc, hs, hC, hA, hr, -⟩ := id hCV
  have cl := hC.2.2.2.2.1
  have bl := Sc.lf_b hS o
  unfold itemT
  rw [ho, Int.toNat_natCast]
  by_cases c : S.lf o = -1
  · rw [if_pos c]
    obtain ⟨M1, e1, g1, q1⟩ := X8_put hL hT (i32 40)
    obtain ⟨M2, e2, g2, q2⟩ := hF M1 i pos _ (hV.chg g1) q1 hi (by omega) hd (by rw [ho]; exact hal) (fun l h1 h2 => by
      rw [ho, Int.toNat_natCast] at h2
      rw [g1.i (by unfold TC; omega)]
      exact hp l h1 h2)
    have g12 : Chg (TC (d + 1)) M M2 := (g1.mono (TC_mono (by omega))).tr g2
    obtain ⟨M3, e3, g3, q3⟩ := X8_put (hL.chg g12) q2 (i32 41)
    refine ⟨M3, ?_, g12.tr (g3.mono (TC_mono (by omega))), ?_⟩
    · exact X8_tiG hL r5 hs (by omega) (by rw [cl o hon, c]) e1 (hL.chg g1).k8 e2 (hL.chg g12).k8 e3
    · rw [outS_cons, outS_app]
      exact q3
  · rw [if_neg c]
    obtain ⟨l, hl⟩ : ∃ l : Nat, S.lf o = l := ⟨(S.lf o).toNat, by omega⟩
    have hw5 := hW.2.2.2.2.2.1 o hon c
    rw [hl, Int.toNat_natCast] at hw5 ⊢
    have hfo : S.fo l = o := hw5.2
    have hin : S.ins (S.fo l) o = true := by rw [hfo]; exact Sc.ins_self hS (by omega)
    have hps := hal.1 l (by omega) (Or.inr (by rw [Int.toNat_natCast]; exact hin))
    have hp1 := hp l (by omega) hin
    have hz := hA.1.2.2.2.1 l
    have bv := St.b hA.1 l (pos l)
    have eh := X8_has hCV r6 (l := l) (by omega) (pos l) (by omega) (by omega)
    rw [if_pos (by omega)] at eh
    obtain ⟨M1, e1, g1, q1⟩ := X8_putNumber hL hT (A.vl l (pos l)) bv.2.2.2.2.1 bv.2.2.2.2.2.1
    refine ⟨M1, ?_, g1.mono (TC_mono (by omega)), q1⟩
    have a4 := hA.2.2.2.2.1
    exact X8_tiL hL r5 r6 hs hc (by omega) (by omega) (by omega) (by omega) (by rw [cl o hon, hl]) hp1 eh (a4 l (pos l) (by omega) hps.1) e1 (i32 i)
theorem X8_tellItems30 (hW : S.wf) (hVT : VT S T dp) {kF : Nat → Int32 → Int32 → Mem → Option (Unit × Mem)} {sub : Nat → (Nat → Nat) → List Int32} {d : Nat} (hF : HF t s S T A tl w dp kF sub d) {i : Nat} (hi : i < T.nf) (hd : dp i = d) {o : Nat} (ho : T.tw i = o) : ∀ (k j n : Nat) (M : Mem) (pos : Nat → Nat) (p : Int32 × Int32), j + k = 120 → k < n → Al S A o pos → TV M t s S T A tl → TS M w p → (∀ l, l < S.nl → S.ins (S.fo l) o = true → mI M (10 + (d + 1)) l = i32 (pos l)) → ∃ M', f_X8_tellItems_30 kF n 8 (i32 i) (i32 o) (i32 d) (i32 (leadS S o)) (i32 j) M = some ((), M') ∧ Chg (TC d) M M' ∧ TS M' w (outS w (itemsT S A T sub i k pos) p) := by
  have hS := hW.1
  have hd3 := hVT.2.2.2.2.2.2.2 i hi
  have how := hVT.2.2.2.1 i hi
  have hon : o < S.nf := by omega
  have hld := leadS_b hW hon
  intro k
  induction k with
  | zero =>
    intro j n M pos p hj hn hal hV hT hp
    obtain ⟨n, rfl⟩ : ∃ m, n = m + 1 := ⟨n - 1, by omega⟩
    refine ⟨M, ?_, Chg.rf _ M, hT⟩
    simp (disch := omega) only [↓reduceIte, add_i0, cast_add1, cast_sub1, toNat120, i32_lit, i32_neg, i32_add, i32_sub, i32_mul, i32_nat, i32_le, i32_lt, i32_eq, inB_i, Int.toNat_natCast, mI_sI_eq, mI_sI_ne, mR_sR_eq, mR_sR_ne, mI_sR, mR_sI, mK_sI, mN_sI, mn_sI, mJ_sI, mK_sR, mN_sR, mn_sR, mJ_sR, mI_wI, mR_wI, mK_wI, mN_wI, mn_wI, mJ_wI, ↓bnd_of, ↓bndX_r, ↓bndX_l, ↓ap_nr, bnd_of, bndX_r, bndX_l, if_true, if_false, ite_true, ite_false, not_true_eq_false, not_false_eq_true, Nat.reduceAdd, Nat.reduceMul, Nat.reduceEqDiff, Int.reduceToNat, Int.reduceNeg, Ilt_t, Ilt_f, Ile_t, Ile_f, Ieq_t, Ieq_f, Nlt_t, Nlt_f, Nle_t, Nle_f, Neq_t, Neq_f, or_true, true_or, or_false, false_or, and_true, true_and, and_false, false_and, ne_eq, or_self, and_self, decide_true, decide_false, Bool.false_eq_true, f_X8_tellItems_30]
  | succ k ih =>
    intro j n M pos p hj hn hal hV hT hp
    obtain ⟨n, rfl⟩ : ∃ m, n = m + 1 := ⟨n - 1, by omega⟩
    obtain ⟨M1, e1, g1, q1⟩ := X8_goOn hW hon (show d + 1 < 5 by omega) hal hV.1 hV.2.2.2.2.2.2.2.2.2.2.1 hV.2.2.2.2.2.2.2.2.2.2.2 hp
    have g1' : Chg (TC d) M M1 := g1.mono (fun a j q => by unfold TC; omega)
    have hT1 : TS M1 w p := ⟨by rw [g1.i (by omega)]; exact hT.1, by rw [g1.i (by omega)]; exact hT.2.1, by rw [g1.i (by omega)]; exact hT.2.2⟩
    have hL := hV.1.1
    have hV1 := hV.chg g1'
    rw [itemsT_e ho]
    by_cases c : nextP S A o pos (leadS S o) < A.sz (leadS S o) ∧ A.rp (leadS S o) (nextP S A o pos (leadS S o)) = S.sr o
    · rw [if_pos c] at e1 ⊢
      have hal1 := Al.item hW hon hal hld.2.1 hld.2.2.1 c.1 c.2
      obtain ⟨M2, e2, g2, q2⟩ := X8_put hV1.1.1 hT1 (i32 32)
      have hV2 := hV1.chg g2
      have hp2 : ∀ l, l < S.nl → S.ins (S.fo l) o = true → mI M2 (10 + (d + 1)) l = i32 (nextP S A o pos l) := fun l h1 h2 => by
        rw [g2.i (by unfold TC; omega)]
        exact q1 l h1 h2
      obtain ⟨M3, e3, g3, q3⟩ := X8_tellItem hW hVT hF hi hd ho hal1 hV2 q2 hp2
      have hV3 := hV2.chg g3
      obtain ⟨M4, e4, g4, q4⟩ := ih (j + 1) n M3 _ _ (by omega) (by omega) hal1 hV3 q3 (fun l h1 h2 => by
        rw [g3.i (by unfold TC; omega)]
        exact hp2 l h1 h2)
      refine ⟨M4, ?_, g1'.tr ((g2.mono (TC_mono (by omega))).tr ((g3.mono (TC_mono (by omega))).tr g4)), ?_⟩
      · rw [← e4]
        have k1 := hV1.1.1.k8
        have k2 := hV2.1.1.k8
        have k0 := hL.k8
        conv => lhs; unfold f_X8_tellItems_30
        simp only [k_add1]
        simp (disch := omega) only [↓reduceIte, add_i0, cast_add1, cast_sub1, toNat120, i32_lit, i32_neg, i32_add, i32_sub, i32_mul, i32_nat, i32_le, i32_lt, i32_eq, inB_i, Int.toNat_natCast, mI_sI_eq, mI_sI_ne, mR_sR_eq, mR_sR_ne, mI_sR, mR_sI, mK_sI, mN_sI, mn_sI, mJ_sI, mK_sR, mN_sR, mn_sR, mJ_sR, mI_wI, mR_wI, mK_wI, mN_wI, mn_wI, mJ_wI, ↓bnd_of, ↓bndX_r, ↓bndX_l, ↓ap_nr, bnd_of, bndX_r, bndX_l, if_true, if_false, ite_true, ite_false, not_true_eq_false, not_false_eq_true, Nat.reduceAdd, Nat.reduceMul, Nat.reduceEqDiff, Int.reduceToNat, Int.reduceNeg, Ilt_t, Ilt_f, Ile_t, Ile_f, Ieq_t, Ieq_f, Nlt_t, Nlt_f, Nle_t, Nle_f, Neq_t, Neq_f, or_true, true_or, or_false, false_or, and_true, true_and, and_false, false_and, ne_eq, or_self, and_self, decide_true, decide_false, Bool.false_eq_true, k0, ↓bx e1, k1, ↓bx e2, k2, ↓bx e3]
      · rw [outS_cons, outS_app]
        exact q4
    · rw [if_neg c] at e1 ⊢
      refine ⟨M1, ?_, g1', hT1⟩
      have k0 := hL.k8
      conv => lhs; unfold f_X8_tellItems_30
      simp only [k_add1]
      simp (disch := omega) only [↓reduceIte, add_i0, cast_add1, cast_sub1, toNat120, i32_lit, i32_neg, i32_add, i32_sub, i32_mul, i32_nat, i32_le, i32_lt, i32_eq, inB_i, Int.toNat_natCast, mI_sI_eq, mI_sI_ne, mR_sR_eq, mR_sR_ne, mI_sR, mR_sI, mK_sI, mN_sI, mn_sI, mJ_sI, mK_sR, mN_sR, mn_sR, mJ_sR, mI_wI, mR_wI, mK_wI, mN_wI, mn_wI, mJ_wI, ↓bnd_of, ↓bndX_r, ↓bndX_l, ↓ap_nr, bnd_of, bndX_r, bndX_l, if_true, if_false, ite_true, ite_false, not_true_eq_false, not_false_eq_true, Nat.reduceAdd, Nat.reduceMul, Nat.reduceEqDiff, Int.reduceToNat, Int.reduceNeg, Ilt_t, Ilt_f, Ile_t, Ile_f, Ieq_t, Ieq_f, Nlt_t, Nlt_f, Nle_t, Nle_f, Neq_t, Neq_f, or_true, true_or, or_false, false_or, and_true, true_and, and_false, false_and, ne_eq, or_self, and_self, decide_true, decide_false, Bool.false_eq_true, k0, ↓bx e1]
theorem leaves_lead (hW : S.wf) (hV : CV M s S A) {o : Nat} (ho : o < S.nf) : f_X11_lowestBit (mI M (s + 9) o) M = some (i32 (leadS S o), M) := by
  have hS := hW.1
  have hnl := hS.2.1
  have hld := leadS_b hW ho
  rw [X11_lowestBit, ← hld.1]
  congr 3
  rw [show (32 : Nat) = S.nl + (32 - S.nl) by omega, lowF_trunc]
  · apply lowF_congr
    intro i q1 q2
    rw [hV.2.2.2.1.2.2.2.2.2.2.2.2.2.2.1 o i ho (by omega)]
    simp [show i < S.nl by omega]
  · intro i q
    by_cases c : i < 32
    · rw [hV.2.2.2.1.2.2.2.2.2.2.2.2.2.2.1 o i ho c]
      simp [show ¬ i < S.nl by omega]
    · unfold bt
      rw [BitVec.getLsbD_of_ge _ _ (by omega)]
theorem X8_isThere (hW : S.wf) (hV : CV M s S A) (h5 : mR M 8 5 = s) (h6 : mR M 8 6 = 18) {o d : Nat} (ho : o < S.nf) (hd : d < 5) {pos : Nat → Nat} (hal : Al S A o pos) (hp : ∀ l, l < S.nl → S.ins (S.fo l) o = true → mI M (10 + d) l = i32 (pos l)) : f_X8_isThere 8 (i32 o) (i32 d) M = some (if S.sd o ≤ A.df (leadS S o) (pos (leadS S o)) then i32 1 else i32 0, M) := by
  have hS := hW.1
  have hnl := hS.2.1
  have hnf := hS.1
  have hld := leadS_b hW ho
  have el := leaves_lead hW hV ho
  have hps := hal.1 _ hld.2.1 (Or.inr (by rw [Int.toNat_natCast]; exact hld.2.2.1))
  have hp1 := hp _ hld.2.1 hld.2.2.1
  have eh := X8_has hV h6 (l := leadS S o) (by omega) (pos (leadS S o)) (by omega) (by have := hV.2.2.2.2.1.1.2.2.2.1 (leadS S o); omega)
  rw [if_pos (by omega)] at eh
  have bd := Sc.sd_b hS o
  have bv := St.b hV.2.2.2.2.1.1 (leadS S o) (pos (leadS S o))
  obtain ⟨hL, hc, hs, hC, hA, hr, -⟩ := hV
  have a3 := hA.2.2.2.1
  have cd := hC.2.2.2.2.2.1
  rw [X8_itS hL h5 h6 hs hc (by omega) (by omega) hd (by omega) el hp1 eh (a3 (leadS S o) _ (by omega) hps.1) (cd o ho)]
  by_cases c : S.sd o ≤ A.df (leadS S o) (pos (leadS S o))
  · rw [if_pos c, if_neg (by rw [i32_lt (by omega) (by omega) (by omega) (by omega)]; omega)]
  · rw [if_neg c, if_pos (by rw [i32_lt (by omega) (by omega) (by omega) (by omega)]; omega)]
theorem X8_tellField (hW : S.wf) (hVT : VT S T dp) {kF : Nat → Int32 → Int32 → Mem → Option (Unit × Mem)} {sub : Nat → (Nat → Nat) → List Int32} {d : Nat} (hF : HF t s S T A tl w dp kF sub d) {i : Nat} (hi : i < T.nf) (hd : dp i = d) {pos : Nat → Nat} (hal : Al S A (ctxT T (T.gr i)) pos) (hV : TV M t s S T A tl) (hT : TS M w p) (hp : ∀ l, l < S.nl → S.sc (ctxT T (T.gr i)) (S.fo l) → mI M (10 + d) l = i32 (pos l)) : ∃ M', f_X8_tellField kF 8 (i32 i) (i32 d) M = some ((), M') ∧ Chg (TC d) M M' ∧ TS M' w (outS w (fieldT S A T sub i pos) p) := by
  have hS := hW.1
  have hnl := hS.2.1
  have hnf := hS.1
  have hd3 := hVT.2.2.2.2.2.2.2 i hi
  have how := hVT.2.2.2.1 i hi
  have hkd := hVT.2.2.1 i hi
  have hT16 := hVT.1
  obtain ⟨hCV, hst, t1, t2, t3, t4, t5, t6, t7, r4, r5, r6⟩ := id hV
  have hL := hCV.1
  have hs := hCV.2.2.1
  have ck := hCV.2.2.2.1.2.2.1
  by_cases ct : T.tw i = -1
  · -- a field that is none of the schema
    have hth : thereT S A T i pos = false := by unfold thereT; simp [ct]
    unfold fieldT
    rw [hth]
    simp only [Bool.false_eq_true, if_false]
    by_cases ck2 : T.kd i = 2
    · rw [if_pos ck2]
      obtain ⟨M1, e1, g1, q1⟩ := X8_put hL hT (i32 91)
      obtain ⟨M2, e2, g2, q2⟩ := X8_put (hL.chg g1) q1 (i32 93)
      have k1 := (hL.chg g1).k8
      refine ⟨M2, ?_, (g1.tr g2).mono (TC_mono (by omega)), q2⟩
      simp (disch := omega) only [↓reduceIte, add_i0, cast_add1, cast_sub1, toNat120, i32_lit, i32_neg, i32_add, i32_sub, i32_mul, i32_nat, i32_le, i32_lt, i32_eq, inB_i, Int.toNat_natCast, mI_sI_eq, mI_sI_ne, mR_sR_eq, mR_sR_ne, mI_sR, mR_sI, mK_sI, mN_sI, mn_sI, mJ_sI, mK_sR, mN_sR, mn_sR, mJ_sR, mI_wI, mR_wI, mK_wI, mN_wI, mn_wI, mJ_wI, ↓bnd_of, ↓bndX_r, ↓bndX_l, ↓ap_nr, bnd_of, bndX_r, bndX_l, if_true, if_false, ite_true, ite_false, not_true_eq_false, not_false_eq_true, Nat.reduceAdd, Nat.reduceMul, Nat.reduceEqDiff, Int.reduceToNat, Int.reduceNeg, Ilt_t, Ilt_f, Ile_t, Ile_f, Ieq_t, Ieq_f, Nlt_t, Nlt_f, Nle_t, Nle_f, Neq_t, Neq_f, or_true, true_or, or_false, false_or, and_true, true_and, and_false, false_and, ne_eq, or_self, and_self, decide_true, decide_false, Bool.false_eq_true, f_X8_tellField, f_X8_tellField_36, f_X8_tellField_61, f_X8_tellField_62, f_X8_tellField_88, hL.o, r4, hst.o, t4, t6, ct, ck2, ↓bx e1, k1, ↓bx e2]
    · rw [if_neg ck2]
      obtain ⟨M1, e1, g1, q1⟩ := X8_put hL hT (i32 45)
      refine ⟨M1, ?_, g1.mono (TC_mono (by omega)), q1⟩
      simp (disch := omega) only [↓reduceIte, add_i0, cast_add1, cast_sub1, toNat120, i32_lit, i32_neg, i32_add, i32_sub, i32_mul, i32_nat, i32_le, i32_lt, i32_eq, inB_i, Int.toNat_natCast, mI_sI_eq, mI_sI_ne, mR_sR_eq, mR_sR_ne, mI_sR, mR_sI, mK_sI, mN_sI, mn_sI, mJ_sI, mK_sR, mN_sR, mn_sR, mJ_sR, mI_wI, mR_wI, mK_wI, mN_wI, mn_wI, mJ_wI, ↓bnd_of, ↓bndX_r, ↓bndX_l, ↓ap_nr, bnd_of, bndX_r, bndX_l, if_true, if_false, ite_true, ite_false, not_true_eq_false, not_false_eq_true, Nat.reduceAdd, Nat.reduceMul, Nat.reduceEqDiff, Int.reduceToNat, Int.reduceNeg, Ilt_t, Ilt_f, Ile_t, Ile_f, Ieq_t, Ieq_f, Nlt_t, Nlt_f, Nle_t, Nle_f, Neq_t, Neq_f, or_true, true_or, or_false, false_or, and_true, true_and, and_false, false_and, ne_eq, or_self, and_self, decide_true, decide_false, Bool.false_eq_true, f_X8_tellField, f_X8_tellField_36, f_X8_tellField_61, f_X8_tellField_62, hL.o, r4, hst.o, t4, t6, ct, ck2, ↓bx e1]
  · obtain ⟨o, ho⟩ : ∃ o : Nat, T.tw i = o := ⟨(T.tw i).toNat, by omega⟩
    have hon : o < S.nf := by omega
    have hgr := hVT.2.2.2.2.2.1 i hi ct
    have hkk := hVT.2.2.2.2.1 i hi ct
    rw [ho, Int.toNat_natCast] at hgr hkk
    have hgr2 : S.gr o = ctxT T (T.gr i) := by rw [hgr]; rfl
    have halo := Al.down hW hal hon hgr2
    have hsc : ∀ l, l < S.nl → S.ins (S.fo l) o = true → S.sc (ctxT T (T.gr i)) (S.fo l) := by
      intro l h1 h2
      have b := Sc.gr_lt hS o
      have bl := Sc.fo_lt hS h1
      by_cases cc : ctxT T (T.gr i) = -1
      · exact Or.inl cc
      · right
        rw [← hgr2] at cc ⊢
        have h3 : S.ins o (S.gr o).toNat = true := (Sc.ins_eq hS (k := o) (by omega) (by omega) _).mpr (Or.inr ⟨by omega, by
          simp only [Int.toNat_natCast]
          exact (Sc.ins_eq hS (by omega) (by omega) _).mpr (Or.inl (by omega))⟩)
        exact Sc.ins_tr hS 17 (S.fo l : Int) o (S.gr o).toNat (by omega) (by omega) (by omega) h2 h3
    have hpo : ∀ l, l < S.nl → S.ins (S.fo l) o = true → mI M (10 + d) l = i32 (pos l) := fun l h1 h2 => hp l h1 (hsc l h1 h2)
    have eth := X8_isThere hW hCV r5 r6 hon (show d < 5 by omega) halo hpo
    have bk := Sc.kd_b hS o
    have hld := leadS_b hW hon
    have tw1 := t6 i hi
    rw [ho] at tw1
    by_cases th : S.sd o ≤ A.df (leadS S o) (pos (leadS S o))
    · rw [if_pos th] at eth
      have hth : thereT S A T i pos = true := by unfold thereT; rw [ho, Int.toNat_natCast]; exact decide_eq_true ⟨by omega, th⟩
      unfold fieldT
      rw [hth]
      simp only [if_true]
      by_cases ck2 : T.kd i = 2
      · rw [if_pos ck2]
        have hk2 := hkk.mpr ck2
        obtain ⟨M1, e1, g1, q1⟩ := X8_put hL hT (i32 91)
        have hV1 := hV.chg g1
        have el := leaves_lead hW hV1.1 hon
        obtain ⟨M2, e2, g2, g2b, q2⟩ := X8_beginAt hS hon (show d ≤ 3 by omega) hV1.1 (by rw [g1.r]; exact r5)
        have hV2 := hV1.chg g2
        have hT2 : TS M2 w (outS w [i32 91] p) := ⟨by rw [g2b]; exact q1.1, by rw [g2b]; exact q1.2.1, by rw [g2b]; exact q1.2.2⟩
        have hp2 : ∀ l, l < S.nl → S.ins (S.fo l) o = true → mI M2 (10 + (d + 1)) l = i32 (pos l) := fun l h1 h2 => by
          rw [q2 l h1 h2, g1.i (by unfold TC; omega)]
          exact hpo l h1 h2
        obtain ⟨M3, e3, g3, q3⟩ := X8_tellItem hW hVT hF hi hd ho halo hV2 hT2 hp2
        have hV3 := hV2.chg g3
        obtain ⟨M4, e4, g4, q4⟩ := X8_tellItems30 hW hVT hF hi hd ho 120 0 FUEL M3 pos _ (by omega) (by unfold FUEL; omega) halo hV3 q3 (fun l h1 h2 => by
          rw [g3.i (by unfold TC; omega)]
          exact hp2 l h1 h2)
        have hV4 := hV3.chg g4
        obtain ⟨M5, e5, g5, q5⟩ := X8_put hV4.1.1 q4 (i32 93)
        have e6 : f_X8_tellItems kF 8 (i32 i) (i32 o) (i32 d) M1 = some ((), M4) := by
          rw [← e4]
          have hL1 := hV1.1.1
          have hs1 := hV1.1.2.2.1
          have r51 : mR M1 8 5 = s := by rw [g1.r]; exact r5
          have k2 := hV2.1.1.k8
          simp (disch := omega) only [↓reduceIte, add_i0, cast_add1, cast_sub1, toNat120, i32_lit, i32_neg, i32_add, i32_sub, i32_mul, i32_nat, i32_le, i32_lt, i32_eq, inB_i, Int.toNat_natCast, mI_sI_eq, mI_sI_ne, mR_sR_eq, mR_sR_ne, mI_sR, mR_sI, mK_sI, mN_sI, mn_sI, mJ_sI, mK_sR, mN_sR, mn_sR, mJ_sR, mI_wI, mR_wI, mK_wI, mN_wI, mn_wI, mJ_wI, ↓bnd_of, ↓bndX_r, ↓bndX_l, ↓ap_nr, bnd_of, bndX_r, bndX_l, if_true, if_false, ite_true, ite_false, not_true_eq_false, not_false_eq_true, Nat.reduceAdd, Nat.reduceMul, Nat.reduceEqDiff, Int.reduceToNat, Int.reduceNeg, Ilt_t, Ilt_f, Ile_t, Ile_f, Ieq_t, Ieq_f, Nlt_t, Nlt_f, Nle_t, Nle_f, Neq_t, Neq_f, or_true, true_or, or_false, false_or, and_true, true_and, and_false, false_and, ne_eq, or_self, and_self, decide_true, decide_false, Bool.false_eq_true, f_X8_tellItems, hL1.o, r51, hs1.o, ↓bx el, ↓bx e2, k2, ↓bx e3]
          rfl
        refine ⟨M5, ?_, (g1.mono (TC_mono (by omega))).tr (g2.tr ((g3.mono (TC_mono (by omega))).tr (g4.tr (g5.mono (TC_mono (by omega)))))), ?_⟩
        · have k1 := hV1.1.1.k8
          have k4 := hV4.1.1.k8
          simp (disch := omega) only [↓reduceIte, add_i0, cast_add1, cast_sub1, toNat120, i32_lit, i32_neg, i32_add, i32_sub, i32_mul, i32_nat, i32_le, i32_lt, i32_eq, inB_i, Int.toNat_natCast, mI_sI_eq, mI_sI_ne, mR_sR_eq, mR_sR_ne, mI_sR, mR_sI, mK_sI, mN_sI, mn_sI, mJ_sI, mK_sR, mN_sR, mn_sR, mJ_sR, mI_wI, mR_wI, mK_wI, mN_wI, mn_wI, mJ_wI, ↓bnd_of, ↓bndX_r, ↓bndX_l, ↓ap_nr, bnd_of, bndX_r, bndX_l, if_true, if_false, ite_true, ite_false, not_true_eq_false, not_false_eq_true, Nat.reduceAdd, Nat.reduceMul, Nat.reduceEqDiff, Int.reduceToNat, Int.reduceNeg, Ilt_t, Ilt_f, Ile_t, Ile_f, Ieq_t, Ieq_f, Nlt_t, Nlt_f, Nle_t, Nle_f, Neq_t, Neq_f, or_true, true_or, or_false, false_or, and_true, true_and, and_false, false_and, ne_eq, or_self, and_self, decide_true, decide_false, Bool.false_eq_true, f_X8_tellField, f_X8_tellField_36, f_X8_tellField_62, f_X8_tellField_88, hL.o, r4, r5, hst.o, hs.o, tw1, ck, hk2, ↓bx eth, ↓bx e1, k1, ↓bx e6, k4, ↓bx e5]
        · rw [outS_cons, outS_app, outS_app]
          exact q5
      · rw [if_neg ck2]
        have hk2 : ¬ S.kd o = 2 := fun q => ck2 (hkk.mp q)
        obtain ⟨M2, e2, g2, g2b, q2⟩ := X8_beginAt hS hon (show d ≤ 3 by omega) hCV r5
        have hV2 := hV.chg g2
        have hT2 : TS M2 w p := ⟨by rw [g2b]; exact hT.1, by rw [g2b]; exact hT.2.1, by rw [g2b]; exact hT.2.2⟩
        obtain ⟨M3, e3, g3, q3⟩ := X8_tellItem hW hVT hF hi hd ho halo hV2 hT2 (fun l h1 h2 => by
          rw [q2 l h1 h2]
          exact hpo l h1 h2)
        refine ⟨M3, ?_, g2.tr (g3.mono (TC_mono (by omega))), q3⟩
        have k2 := hV2.1.1.k8
        simp (disch := omega) only [↓reduceIte, add_i0, cast_add1, cast_sub1, toNat120, i32_lit, i32_neg, i32_add, i32_sub, i32_mul, i32_nat, i32_le, i32_lt, i32_eq, inB_i, Int.toNat_natCast, mI_sI_eq, mI_sI_ne, mR_sR_eq, mR_sR_ne, mI_sR, mR_sI, mK_sI, mN_sI, mn_sI, mJ_sI, mK_sR, mN_sR, mn_sR, mJ_sR, mI_wI, mR_wI, mK_wI, mN_wI, mn_wI, mJ_wI, ↓bnd_of, ↓bndX_r, ↓bndX_l, ↓ap_nr, bnd_of, bndX_r, bndX_l, if_true, if_false, ite_true, ite_false, not_true_eq_false, not_false_eq_true, Nat.reduceAdd, Nat.reduceMul, Nat.reduceEqDiff, Int.reduceToNat, Int.reduceNeg, Ilt_t, Ilt_f, Ile_t, Ile_f, Ieq_t, Ieq_f, Nlt_t, Nlt_f, Nle_t, Nle_f, Neq_t, Neq_f, or_true, true_or, or_false, false_or, and_true, true_and, and_false, false_and, ne_eq, or_self, and_self, decide_true, decide_false, Bool.false_eq_true, f_X8_tellField, f_X8_tellField_36, f_X8_tellField_62, hL.o, r4, r5, hst.o, hs.o, tw1, ck, ↓bx eth, ↓bx e2, k2, ↓bx e3]
    · rw [if_neg th] at eth
      have hth : thereT S A T i pos = false := by unfold thereT; rw [ho, Int.toNat_natCast]; exact decide_eq_false (fun q => th q.2)
      unfold fieldT
      rw [hth]
      simp only [Bool.false_eq_true, if_false]
      by_cases ck2 : T.kd i = 2
      · rw [if_pos ck2]
        have hk2 := hkk.mpr ck2
        obtain ⟨M1, e1, g1, q1⟩ := X8_put hL hT (i32 91)
        obtain ⟨M2, e2, g2, q2⟩ := X8_put (hL.chg g1) q1 (i32 93)
        have k1 := (hL.chg g1).k8
        refine ⟨M2, ?_, (g1.tr g2).mono (TC_mono (by omega)), q2⟩
        simp (disch := omega) only [↓reduceIte, add_i0, cast_add1, cast_sub1, toNat120, i32_lit, i32_neg, i32_add, i32_sub, i32_mul, i32_nat, i32_le, i32_lt, i32_eq, inB_i, Int.toNat_natCast, mI_sI_eq, mI_sI_ne, mR_sR_eq, mR_sR_ne, mI_sR, mR_sI, mK_sI, mN_sI, mn_sI, mJ_sI, mK_sR, mN_sR, mn_sR, mJ_sR, mI_wI, mR_wI, mK_wI, mN_wI, mn_wI, mJ_wI, ↓bnd_of, ↓bndX_r, ↓bndX_l, ↓ap_nr, bnd_of, bndX_r, bndX_l, if_true, if_false, ite_true, ite_false, not_true_eq_false, not_false_eq_true, Nat.reduceAdd, Nat.reduceMul, Nat.reduceEqDiff, Int.reduceToNat, Int.reduceNeg, Ilt_t, Ilt_f, Ile_t, Ile_f, Ieq_t, Ieq_f, Nlt_t, Nlt_f, Nle_t, Nle_f, Neq_t, Neq_f, or_true, true_or, or_false, false_or, and_true, true_and, and_false, false_and, ne_eq, or_self, and_self, decide_true, decide_false, Bool.false_eq_true, f_X8_tellField, f_X8_tellField_36, f_X8_tellField_61, f_X8_tellField_62, f_X8_tellField_88, hL.o, r4, r5, hst.o, hs.o, tw1, ck, hk2, ↓bx eth, ↓bx e1, k1, ↓bx e2]
      · rw [if_neg ck2]
        have hk2 : ¬ S.kd o = 2 := fun q => ck2 (hkk.mp q)
        obtain ⟨M1, e1, g1, q1⟩ := X8_put hL hT (i32 45)
        refine ⟨M1, ?_, g1.mono (TC_mono (by omega)), q1⟩
        simp (disch := omega) only [↓reduceIte, add_i0, cast_add1, cast_sub1, toNat120, i32_lit, i32_neg, i32_add, i32_sub, i32_mul, i32_nat, i32_le, i32_lt, i32_eq, inB_i, Int.toNat_natCast, mI_sI_eq, mI_sI_ne, mR_sR_eq, mR_sR_ne, mI_sR, mR_sI, mK_sI, mN_sI, mn_sI, mJ_sI, mK_sR, mN_sR, mn_sR, mJ_sR, mI_wI, mR_wI, mK_wI, mN_wI, mn_wI, mJ_wI, ↓bnd_of, ↓bndX_r, ↓bndX_l, ↓ap_nr, bnd_of, bndX_r, bndX_l, if_true, if_false, ite_true, ite_false, not_true_eq_false, not_false_eq_true, Nat.reduceAdd, Nat.reduceMul, Nat.reduceEqDiff, Int.reduceToNat, Int.reduceNeg, Ilt_t, Ilt_f, Ile_t, Ile_f, Ieq_t, Ieq_f, Nlt_t, Nlt_f, Nle_t, Nle_f, Neq_t, Neq_f, or_true, true_or, or_false, false_or, and_true, true_and, and_false, false_and, ne_eq, or_self, and_self, decide_true, decide_false, Bool.false_eq_true, f_X8_tellField, f_X8_tellField_36, f_X8_tellField_61, f_X8_tellField_62, hL.o, r4, r5, hst.o, hs.o, tw1, ck, ↓bx eth, ↓bx e1]
theorem X8_fields5 (hW : S.wf) (hVT : VT S T dp) {kF : Nat → Int32 → Int32 → Mem → Option (Unit × Mem)} {sub : Nat → (Nat → Nat) → List Int32} {d : Nat} (hF : HF t s S T A tl w dp kF sub d) (ar : Int) (har : -1 ≤ ar ∧ ar < T.nf) (hdp : ∀ i, i < T.nf → T.gr i = ar → dp i = d) {pos : Nat → Nat} (hal : Al S A (ctxT T ar) pos) : ∀ (k j n : Nat) (b : Bool) (M : Mem) (p : Int32 × Int32), j + k = T.nf → k < n → TV M t s S T A tl → TS M w p → (∀ l, l < S.nl → S.sc (ctxT T ar) (S.fo l) → mI M (10 + d) l = i32 (pos l)) → ∃ M', f_X8_tellFields_5 kF n 8 (i32 ar) (i32 d) (if b = true then i32 1 else i32 0) (i32 j) M = some ((), M') ∧ Chg (TC d) M M' ∧ TS M' w (outS w (fieldsT S A T tl sub ar k j b pos) p) := by
  have hT16 := hVT.1
  intro k
  induction k with
  | zero =>
    intro j n b M p hj hn hV hT hp
    obtain ⟨n, rfl⟩ : ∃ m, n = m + 1 := ⟨n - 1, by omega⟩
    obtain ⟨hCV, hst, t1, t2, t3, t4, t5, t6, t7, r4, r5, r6⟩ := id hV
    have hL := hCV.1
    refine ⟨M, ?_, Chg.rf _ M, hT⟩
    simp (disch := omega) only [↓reduceIte, add_i0, cast_add1, cast_sub1, toNat120, i32_lit, i32_neg, i32_add, i32_sub, i32_mul, i32_nat, i32_le, i32_lt, i32_eq, inB_i, Int.toNat_natCast, mI_sI_eq, mI_sI_ne, mR_sR_eq, mR_sR_ne, mI_sR, mR_sI, mK_sI, mN_sI, mn_sI, mJ_sI, mK_sR, mN_sR, mn_sR, mJ_sR, mI_wI, mR_wI, mK_wI, mN_wI, mn_wI, mJ_wI, ↓bnd_of, ↓bndX_r, ↓bndX_l, ↓ap_nr, bnd_of, bndX_r, bndX_l, if_true, if_false, ite_true, ite_false, not_true_eq_false, not_false_eq_true, Nat.reduceAdd, Nat.reduceMul, Nat.reduceEqDiff, Int.reduceToNat, Int.reduceNeg, Ilt_t, Ilt_f, Ile_t, Ile_f, Ieq_t, Ieq_f, Nlt_t, Nlt_f, Nle_t, Nle_f, Neq_t, Neq_f, or_true, true_or, or_false, false_or, and_true, true_and, and_false, false_and, ne_eq, or_self, and_self, decide_true, decide_false, Bool.false_eq_true, f_X8_tellFields_5, hL.o, r4, hst.o, t3]
  | succ k ih =>
    intro j n b M p hj hn hV hT hp
    obtain ⟨n, rfl⟩ : ∃ m, n = m + 1 := ⟨n - 1, by omega⟩
    obtain ⟨hCV, hst, t1, t2, t3, t4, t5, t6, t7, r4, r5, r6⟩ := id hV
    have hL := hCV.1
    have hgb := hVT.2.1 j (by omega)
    have ht7 := t7 j (by omega)
    by_cases c1 : T.gr j = ar
    · by_cases c2 : tl j = true
      · rw [fieldsT_y c1 c2]
        have c3 : ¬ (mI M (t + 9) j &&& mI M 8 3 = i32 0) := fun q => by
          rw [ht7.mp q] at c2
          cases c2
        have key : ∀ (M1 : Mem) (p1 : Int32 × Int32), Chg (TC d) M M1 → TS M1 w p1 → ∃ M', f_X8_tellFields_59 kF (f_X8_tellFields_5 kF n) 8 (i32 ar) (i32 d) (i32 j) M1 = some ((), M') ∧ Chg (TC d) M1 M' ∧ TS M' w (outS w (fieldT S A T sub j pos ++ fieldsT S A T tl sub ar k (j + 1) false pos) p1) := by
          intro M1 p1 g1 hT1
          have hV1 := hV.chg g1
          have hp1 : ∀ l, l < S.nl → S.sc (ctxT T ar) (S.fo l) → mI M1 (10 + d) l = i32 (pos l) := fun l h1 h2 => by
            rw [g1.i (by unfold TC; omega)]
            exact hp l h1 h2
          obtain ⟨M2, e2, g2, q2⟩ := X8_tellField hW hVT hF (show j < T.nf by omega) (hdp j (by omega) c1) (pos := pos) (by rw [c1]; exact hal) hV1 hT1 (by rw [c1]; exact hp1)
          obtain ⟨M3, e3, g3, q3⟩ := ih (j + 1) n false M2 _ (by omega) (by omega) (hV1.chg g2) q2 (fun l h1 h2 => by
            rw [g2.i (by unfold TC; omega)]
            exact hp1 l h1 h2)
          refine ⟨M3, ?_, g2.tr g3, ?_⟩
          · have k1 := hV1.1.1.k8
            rw [← e3]
            simp only [Bool.false_eq_true, if_false]
            unfold f_X8_tellFields_59 f_X8_tellFields_68
            rw [if_pos k1, bx e2, k_add1]
            rfl
          · rw [outS_app]
            exact q3
        by_cases cb : b = true
        · obtain ⟨M3, e3, g3, q3⟩ := key M p (Chg.rf _ M) hT
          refine ⟨M3, ?_, g3, ?_⟩
          · rw [← e3]
            simp (disch := omega) only [↓reduceIte, add_i0, cast_add1, cast_sub1, toNat120, i32_lit, i32_neg, i32_add, i32_sub, i32_mul, i32_nat, i32_le, i32_lt, i32_eq, inB_i, Int.toNat_natCast, mI_sI_eq, mI_sI_ne, mR_sR_eq, mR_sR_ne, mI_sR, mR_sI, mK_sI, mN_sI, mn_sI, mJ_sI, mK_sR, mN_sR, mn_sR, mJ_sR, mI_wI, mR_wI, mK_wI, mN_wI, mn_wI, mJ_wI, ↓bnd_of, ↓bndX_r, ↓bndX_l, ↓ap_nr, bnd_of, bndX_r, bndX_l, if_true, if_false, ite_true, ite_false, not_true_eq_false, not_false_eq_true, Nat.reduceAdd, Nat.reduceMul, Nat.reduceEqDiff, Int.reduceToNat, Int.reduceNeg, Ilt_t, Ilt_f, Ile_t, Ile_f, Ieq_t, Ieq_f, Nlt_t, Nlt_f, Nle_t, Nle_f, Neq_t, Neq_f, or_true, true_or, or_false, false_or, and_true, true_and, and_false, false_and, ne_eq, or_self, and_self, decide_true, decide_false, Bool.false_eq_true, f_X8_tellFields_5, hL.o, r4, hst.o, t3, t5, c1, c3, cb]
          · rw [show (if b = true then [] else [i32 32]) = ([] : List Int32) from if_pos cb]
            exact q3
        · obtain ⟨M1, e1, g1, q1⟩ := X8_put hL hT (i32 32)
          obtain ⟨M3, e3, g3, q3⟩ := key M1 _ (g1.mono (TC_mono (by
            have := hVT.2.2.2.2.2.2.2 j (by omega)
            rw [hdp j (by omega) c1] at this
            omega))) q1
          refine ⟨M3, ?_, (g1.mono (TC_mono (by
            have := hVT.2.2.2.2.2.2.2 j (by omega)
            rw [hdp j (by omega) c1] at this
            omega))).tr g3, ?_⟩
          · rw [← e3]
            simp (disch := omega) only [↓reduceIte, add_i0, cast_add1, cast_sub1, toNat120, i32_lit, i32_neg, i32_add, i32_sub, i32_mul, i32_nat, i32_le, i32_lt, i32_eq, inB_i, Int.toNat_natCast, mI_sI_eq, mI_sI_ne, mR_sR_eq, mR_sR_ne, mI_sR, mR_sI, mK_sI, mN_sI, mn_sI, mJ_sI, mK_sR, mN_sR, mn_sR, mJ_sR, mI_wI, mR_wI, mK_wI, mN_wI, mn_wI, mJ_wI, ↓bnd_of, ↓bndX_r, ↓bndX_l, ↓ap_nr, bnd_of, bndX_r, bndX_l, if_true, if_false, ite_true, ite_false, not_true_eq_false, not_false_eq_true, Nat.reduceAdd, Nat.reduceMul, Nat.reduceEqDiff, Int.reduceToNat, Int.reduceNeg, Ilt_t, Ilt_f, Ile_t, Ile_f, Ieq_t, Ieq_f, Nlt_t, Nlt_f, Nle_t, Nle_f, Neq_t, Neq_f, or_true, true_or, or_false, false_or, and_true, true_and, and_false, false_and, ne_eq, or_self, and_self, decide_true, decide_false, Bool.false_eq_true, f_X8_tellFields_5, hL.o, r4, hst.o, t3, t5, c1, c3, cb, ↓bx e1]
          · rw [show (if b = true then [] else [i32 32]) = [i32 32] from if_neg cb, outS_app]
            exact q3
      · rw [fieldsT_n (fun q => c2 q.2)]
        have c3 : (mI M (t + 9) j &&& mI M 8 3 = i32 0) := ht7.mpr (by simpa using c2)
        obtain ⟨M3, e3, g3, q3⟩ := ih (j + 1) n b M p (by omega) (by omega) hV hT hp
        refine ⟨M3, ?_, g3, q3⟩
        rw [← e3]
        simp (disch := omega) only [↓reduceIte, add_i0, cast_add1, cast_sub1, toNat120, i32_lit, i32_neg, i32_add, i32_sub, i32_mul, i32_nat, i32_le, i32_lt, i32_eq, inB_i, Int.toNat_natCast, mI_sI_eq, mI_sI_ne, mR_sR_eq, mR_sR_ne, mI_sR, mR_sI, mK_sI, mN_sI, mn_sI, mJ_sI, mK_sR, mN_sR, mn_sR, mJ_sR, mI_wI, mR_wI, mK_wI, mN_wI, mn_wI, mJ_wI, ↓bnd_of, ↓bndX_r, ↓bndX_l, ↓ap_nr, bnd_of, bndX_r, bndX_l, if_true, if_false, ite_true, ite_false, not_true_eq_false, not_false_eq_true, Nat.reduceAdd, Nat.reduceMul, Nat.reduceEqDiff, Int.reduceToNat, Int.reduceNeg, Ilt_t, Ilt_f, Ile_t, Ile_f, Ieq_t, Ieq_f, Nlt_t, Nlt_f, Nle_t, Nle_f, Neq_t, Neq_f, or_true, true_or, or_false, false_or, and_true, true_and, and_false, false_and, ne_eq, or_self, and_self, decide_true, decide_false, Bool.false_eq_true, f_X8_tellFields_5, f_X8_tellFields_68, hL.o, r4, hst.o, t3, t5, c1, c3]
    · rw [fieldsT_n (fun q => c1 q.1)]
      obtain ⟨M3, e3, g3, q3⟩ := ih (j + 1) n b M p (by omega) (by omega) hV hT hp
      refine ⟨M3, ?_, g3, q3⟩
      rw [← e3]
      simp (disch := omega) only [↓reduceIte, add_i0, cast_add1, cast_sub1, toNat120, i32_lit, i32_neg, i32_add, i32_sub, i32_mul, i32_nat, i32_le, i32_lt, i32_eq, inB_i, Int.toNat_natCast, mI_sI_eq, mI_sI_ne, mR_sR_eq, mR_sR_ne, mI_sR, mR_sI, mK_sI, mN_sI, mn_sI, mJ_sI, mK_sR, mN_sR, mn_sR, mJ_sR, mI_wI, mR_wI, mK_wI, mN_wI, mn_wI, mJ_wI, ↓bnd_of, ↓bndX_r, ↓bndX_l, ↓ap_nr, bnd_of, bndX_r, bndX_l, if_true, if_false, ite_true, ite_false, not_true_eq_false, not_false_eq_true, Nat.reduceAdd, Nat.reduceMul, Nat.reduceEqDiff, Int.reduceToNat, Int.reduceNeg, Ilt_t, Ilt_f, Ile_t, Ile_f, Ieq_t, Ieq_f, Nlt_t, Nlt_f, Nle_t, Nle_f, Neq_t, Neq_f, or_true, true_or, or_false, false_or, and_true, true_and, and_false, false_and, ne_eq, or_self, and_self, decide_true, decide_false, Bool.false_eq_true, f_X8_tellFields_5, f_X8_tellFields_68, hL.o, r4, hst.o, t3, t5, c1]
theorem X8_tellFields (hW : S.wf) (hVT : VT S T dp) : ∀ (n d : Nat), n + d = 6 → d ≤ 4 → HF t s S T A tl w dp (f_X8_tellFields n) (fun i p => tellT S A T tl n i p) (d - 1) ∨ d = 0 := by
  intro n
  induction n with
  | zero => intro d h1 h2; omega
  | succ n ih =>
    intro d h1 h2
    by_cases c : d = 0
    · exact Or.inr c
    · left
      intro M i pos p hV hT hi htw hdi hal hp
      rw [show d - 1 + 1 = d by omega] at hp ⊢
      have hgl := hVT.2.1
      have hdpi := hVT.2.2.2.2.2.2.1
      have hd3 := hVT.2.2.2.2.2.2.2
      have how := hVT.2.2.2.1 i hi
      have hc : ctxT T (i : Int) = T.tw i := by unfold ctxT; rw [if_neg (by omega), Int.toNat_natCast]
      have hp2 : ∀ l, l < S.nl → S.sc (ctxT T (i : Int)) (S.fo l) → mI M (10 + d) l = i32 (pos l) := fun l q1 q2 => by
        rw [hc] at q2
        rcases q2 with q2 | q2
        · exact absurd q2 htw
        · exact hp l q1 q2
      by_cases d4 : d = 4
      · -- no field stands so deep
        subst d4
        have hF : HF t s S T A tl w dp (f_X8_tellFields n) (fun i p => tellT S A T tl n i p) 4 := fun M i pos p hV hT hi htw hdi => by
          have := hd3 i hi
          omega
        obtain ⟨M', e, g, q⟩ := X8_fields5 hW hVT hF (i : Int) ⟨by omega, by omega⟩ (fun k h3 h4 => by
          have e1 := hdpi k h3
          rw [h4, if_neg (by omega), Int.toNat_natCast] at e1
          omega) (pos := pos) (by rw [hc]; exact hal) T.nf 0 FUEL true M p (by omega) (by unfold FUEL; have := hVT.1; omega) hV hT hp2
        simp only [if_true] at e
        refine ⟨M', ?_, g, q⟩
        rw [f_X8_tellFields, f_X8_tellFields_o]
        exact e
      · have hF : HF t s S T A tl w dp (f_X8_tellFields n) (fun i p => tellT S A T tl n i p) d := by
          rcases ih (d + 1) (by omega) (by omega) with q | q
          · exact q
          · omega
        obtain ⟨M', e, g, q⟩ := X8_fields5 hW hVT hF (i : Int) ⟨by omega, by omega⟩ (fun k h3 h4 => by
          have e1 := hdpi k h3
          rw [h4, if_neg (by omega), Int.toNat_natCast] at e1
          omega) (pos := pos) (by rw [hc]; exact hal) T.nf 0 FUEL true M p (by omega) (by unfold FUEL; have := hVT.1; omega) hV hT hp2
        simp only [if_true] at e
        refine ⟨M', ?_, g, q⟩
        rw [f_X8_tellFields, f_X8_tellFields_o]
        exact e
theorem X8_tellTop (hW : S.wf) (hVT : VT S T dp) {pos : Nat → Nat} (hal : Al S A (-1) pos) (hV : TV M t s S T A tl) (hT : TS M w p) (hp : ∀ l, l < S.nl → mI M 10 l = i32 (pos l)) : ∃ M', f_X8_tellFields 6 8 (i32 (-1)) (i32 0) M = some ((), M') ∧ Chg (TC 0) M M' ∧ TS M' w (outS w (tellT S A T tl 6 (-1) pos) p) := by
  have hF : HF t s S T A tl w dp (f_X8_tellFields 5) (fun i p => tellT S A T tl 5 i p) 0 := by
    rcases X8_tellFields (t := t) (s := s) (A := A) (tl := tl) (w := w) hW hVT 5 1 (by omega) (by omega) with q | q
    · exact q
    · omega
  have hdpi := hVT.2.2.2.2.2.2.1
  obtain ⟨M', e, g, q⟩ := X8_fields5 hW hVT hF (-1) ⟨by omega, by omega⟩ (fun k h3 h4 => by
    have e1 := hdpi k h3
    rw [h4, if_pos rfl] at e1
    exact e1) (pos := pos) (by unfold ctxT; rw [if_pos rfl]; exact hal) T.nf 0 FUEL true M p (by omega) (by unfold FUEL; have := hVT.1; omega) hV hT (fun l q1 _ => hp l q1)
  simp only [if_true] at e
  refine ⟨M', ?_, g, q⟩
  rw [f_X8_tellFields, f_X8_tellFields_o]
  exact e
end
