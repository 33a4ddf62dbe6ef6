/-! set, damage: the reference's calls -/
def stR (a j : Nat) : Prop := (a = 134 ∧ (j = 2 ∨ j = 31)) ∨ a = 150 ∨ a = 152
def RDone (M M' : Mem) (n : Nat) (Bs : Nat → St) (A' : St) : Prop := Chg stR M M' ∧ RE M' A' ∧ mI M' 134 2 = i32 0 ∧ mI M' 134 31 = i32 (nK n) ∧ ActsR M' 152 (nK n) (bsK n Bs A')
def RRef (M M' : Mem) : Prop := Chg (fun a j => (a = 134 ∧ j = 2) ∨ (a = 138 ∧ j = 1)) M M' ∧ mI M' 134 2 = i32 0 ∧ mI M' 138 1 = mI M 138 1 + i32 1
def RThr (M M' : Mem) (k : Nat) : Prop := Chg (fun a j => a = 134 ∧ j = 2) M M' ∧ mI M' 134 2 = i32 k
section
variable {M : Mem} {n : Nat} {S : Sc} {A : St} {Bs : Nat → St}
theorem RE.wVl (hE : RE M A) {l j : Nat} (hl : l < 8) (hj : j < A.sz l) {v : Int} (v0 : 0 ≤ v) (v9 : v ≤ 999) : RE (sI M 150 (120 * l + j) (i32 (10000 * A.rp l j + 1000 * A.df l j + v))) (A.wVl l j v) := by
  obtain ⟨a0, a1, a2, a3⟩ := hE
  refine ⟨St.ok_wVl a0 l j v0 v9, fun a q => ?_, fun a b q r => ?_, ?_⟩
  · rw [mI_sI_ne (by omega)]; exact a1 a q
  · have r' : b < A.sz a := r
    have z1 := a0.2.2.2.1 a
    have z2 := a0.2.2.2.1 l
    by_cases c : a = l ∧ b = j
    · obtain ⟨c1, c2⟩ := c
      subst c1; subst c2
      rw [mI_sI_eq]
      have : (A.wVl a b v).vl a b = v := if_pos ⟨rfl, rfl⟩
      rw [this]
      rfl
    · rw [mI_sI_ne (by omega)]
      have : (A.wVl l j v).vl a b = A.vl a b := if_neg c
      rw [this]
      exact a2 a b q r'
  · rw [mI_sI_ne (by omega)]; exact a3
theorem X12_put (hL : RLay M) {l j : Nat} (hl : l < 8) (hj : j < 120) (r d v : Int) (r0 : 0 ≤ r) (r9 : r ≤ 9) (d0 : 0 ≤ d) (d9 : d ≤ 9) (v0 : 0 ≤ v) (v9 : v ≤ 999) : f_X12_put 134 (i32 l) (i32 j) (i32 r) (i32 d) (i32 v) M = some ((), sI M 150 (120 * l + j) (i32 (10000 * r + 1000 * d + v))) := by
  simp (disch := omega) only [↓reduceIte, add_i0, cast_add1, cast_sub1, toNat120, i32_lit, i32_neg, i32_add, i32_sub, i32_mul, i32_nat, i32_le, i32_lt, i32_eq, inB_i, Int.toNat_natCast, mI_sI_eq, mI_sI_ne, mR_sR_eq, mR_sR_ne, mI_sR, mR_sI, mK_sI, mN_sI, mn_sI, mJ_sI, mK_sR, mN_sR, mn_sR, mJ_sR, mI_wI, mR_wI, mK_wI, mN_wI, mn_wI, mJ_wI, ↓bnd_of, ↓bndX_r, ↓bndX_l, ↓ap_nr, bnd_of, bndX_r, bndX_l, if_true, if_false, ite_true, ite_false, not_true_eq_false, not_false_eq_true, Nat.reduceAdd, Nat.reduceMul, Nat.reduceEqDiff, Int.reduceToNat, Int.reduceNeg, Ilt_t, Ilt_f, Ile_t, Ile_f, Ieq_t, Ieq_f, Nlt_t, Nlt_f, Nle_t, Nle_f, Neq_t, Neq_f, or_true, true_or, or_false, false_or, and_true, true_and, and_false, false_and, ne_eq, or_self, and_self, decide_true, decide_false, Bool.false_eq_true, f_X12_put, hL.o]
theorem X12_refuse (hL : RLay M) : f_X12_refuse 134 M = some (i32 (-1), sI M 138 1 (mI M 138 1 + i32 1)) := by
  simp (disch := omega) only [↓reduceIte, add_i0, cast_add1, cast_sub1, toNat120, i32_lit, i32_neg, i32_add, i32_sub, i32_mul, i32_nat, i32_le, i32_lt, i32_eq, inB_i, Int.toNat_natCast, mI_sI_eq, mI_sI_ne, mR_sR_eq, mR_sR_ne, mI_sR, mR_sI, mK_sI, mN_sI, mn_sI, mJ_sI, mK_sR, mN_sR, mn_sR, mJ_sR, mI_wI, mR_wI, mK_wI, mN_wI, mn_wI, mJ_wI, ↓bnd_of, ↓bndX_r, ↓bndX_l, ↓ap_nr, bnd_of, bndX_r, bndX_l, if_true, if_false, ite_true, ite_false, not_true_eq_false, not_false_eq_true, Nat.reduceAdd, Nat.reduceMul, Nat.reduceEqDiff, Int.reduceToNat, Int.reduceNeg, Ilt_t, Ilt_f, Ile_t, Ile_f, Ieq_t, Ieq_f, Nlt_t, Nlt_f, Nle_t, Nle_f, Neq_t, Neq_f, or_true, true_or, or_false, false_or, and_true, true_and, and_false, false_and, ne_eq, or_self, and_self, decide_true, decide_false, Bool.false_eq_true, f_X12_refuse, hL.o]
theorem isIn_v (v : Int) (z1 : -2147483648 ≤ v) (z2 : v ≤ 2147483647) (a b : Int64) (M : Mem) : f_X12_isIn (i32 v).toInt64 a b M = some (if a.toInt ≤ v ∧ v ≤ b.toInt then i32 1 else i32 0, M) := by
  have e := isIn_g (β := Int32 × Mem) (i32 v) a b M (fun x M => some (x, M))
  rw [i32_toInt z1 z2] at e
  rw [← e]
  unfold bnd
  cases f_X12_isIn (i32 v).toInt64 a b M with
  | none => rfl
  | some q => rfl
theorem RE.cg {M' : Mem} (hE : RE M A) (h1 : ∀ l, l < 8 → mI M' 151 l = mI M 151 l) (h2 : ∀ j, mI M' 150 j = mI M 150 j) (h3 : mI M' 134 30 = mI M 134 30) : RE M' A := ⟨hE.1, fun l q => by rw [h1 l q]; exact hE.2.1 l q, fun l j q r => by rw [h2]; exact hE.2.2.1 l j q r, by rw [h3]; exact hE.2.2.2⟩
/-- keep, then put -/
theorem keepPut (hL : RLay M) (hE : RE M A) (hn : n ≤ 40) (h31 : mI M 134 31 = i32 n) (h : ActsR M 152 n Bs) (hA : Bs n = A) (h2 : mI M 134 2 = i32 0) : ∃ M', f_X12_keep 134 M = some ((), M') ∧ RLay M' ∧ RE M' A ∧ ∀ k x A', RE (sI M' 150 k x) A' → ∀ M0, Chg (fun a j => a = 134 ∧ j = 2) M0 M → RDone M0 (sI M' 150 k x) n Bs A' := by
  obtain ⟨M', e, g, q1, q2⟩ := keepR hL hE hn h31 h hA (A' := A)
  refine ⟨M', e, hL.all g, hE.cg (fun l q => g.i (by omega)) (fun j => g.i (by omega)) (g.i (by omega)), fun k x A' hE' M0 g0 => ?_⟩
  obtain ⟨M2, e2, g2, w1, w2⟩ := keepR hL hE hn h31 h hA (A' := A')
  rw [e] at e2
  obtain rfl : M' = M2 := by injection e2 with e2; injection e2
  refine ⟨((g0.mono (fun a j q => by unfold stR; omega)).tr (g2.mono (fun a j q => by unfold stR; omega))).sI (by unfold stR; omega), hE', ?_, ?_, fun i hi => (w2 i hi).cg (fun t ht => mI_sI_ne (by omega))⟩
  · rw [mI_sI_ne (by omega), g2.i (by omega)]; exact h2
  · rw [mI_sI_ne (by omega)]; exact w1
theorem r_set (hW : S.wf) (hV : RV M S A) (hn : n ≤ 40) (h31 : mI M 134 31 = i32 n) (h : ActsR M 152 n Bs) (hA : Bs n = A) (l j v : Int) (z1 : -2147483648 ≤ l) (z2 : l ≤ 2147483647) (z3 : -2147483648 ≤ j) (z4 : j ≤ 2147483647) (z5 : -2147483648 ≤ v) (z6 : v ≤ 2147483647) : ∃ r M', f_X12_set 134 (i32 l) (i32 j) (i32 v) M = some (r, M') ∧ (if okE S A l j then (a_set S A l j v = .inr r ∧ if stE S A l.toNat j.toNat v then RDone M M' n Bs (A.wVl l.toNat j.toNat v) else RRef M M') else RThr M M' 1) := by
  have b := hW.1.2.1
  have hL := hV.1
  have hV0 : RV (sI M 134 2 (0 : Int32)) S A := hV.scr hW.1 (zero_scr M (i32 0))
  have g0 : Chg (fun a j => a = 134 ∧ j = 2) M (sI M 134 2 (0 : Int32)) := (Chg.rf _ M).sI ⟨rfl, rfl⟩
  have e2 : mI (sI M 134 2 (0 : Int32)) 134 2 = i32 0 := mI_sI_eq
  unfold a_set f_X12_set
  rw [if_pos hL.k, ap_of]
  generalize sI M 134 2 (0 : Int32) = M0 at hV0 g0 e2 ⊢
  have hn0 := X12_isEntry hV0 hW.1 l j z1 z2 z3 z4
  have hf := X12_fail hV0.1 1
  rw [if_pos hV0.1.k]
  by_cases d : okE S A l j
  · rw [if_pos (by exact d)] at hn0
    simp only [if_pos d]
    unfold okE at d
    obtain ⟨l, rfl⟩ : ∃ k : Nat, l = k := ⟨l.toNat, by omega⟩
    obtain ⟨j, rfl⟩ : ∃ k : Nat, j = k := ⟨j.toNat, by omega⟩
    simp only [Int.toNat_natCast] at d ⊢
    have hl8 : l < 8 := by omega
    have hj : j < A.sz l := by omega
    have hz := hV0.2.2.1.2.2.2.1 l
    have bv := St.b hV0.2.2.1 l j
    have e3 := X12_valueAt hV0.1 hV0.2.2 (l := l) (j := j) (by omega) (by omega)
    have e4 := X12_hasValue hV0.1 hW.1 hV0.2.1 hV0.2.2 (l := l) (j := j) (by omega) (by omega)
    have ei := isIn_v v z5 z6 (0 : Int64) (999 : Int64) M0
    have ref : f_X12_set_55 134 M0 = some (i32 (-1), sI M0 138 1 (mI M0 138 1 + i32 1)) := by
      unfold f_X12_set_55
      rw [if_pos hV0.1.k, bx (X12_refuse hV0.1)]
    rw [bx hn0, if_neg (by decide), if_pos hV0.1.k, bx e3, if_pos hV0.1.k, bx e4]
    have hi0 : (0 : Int64).toInt = 0 := rfl
    have hi9 : (999 : Int64).toInt = 999 := rfl
    rw [hi0, hi9] at ei
    by_cases c : stE S A l j v
    · simp only [if_pos c]
      obtain ⟨c1, c2, c3, c4⟩ := c
      rw [if_pos ⟨c2, c3⟩] at ei
      obtain ⟨M1, k1, k2, k3, k4⟩ := keepPut hV0.1 hV0.2.2 hn (by rw [g0.i (by omega)]; exact h31) (fun i hi => (h i hi).cg (fun t ht => g0.i (by omega))) hA e2
      have f1 := X12_repAt k2 k3 (l := l) (j := j) (by omega) (by omega)
      have f2 := X12_defAt k2 k3 (l := l) (j := j) (by omega) (by omega)
      have f3 := X12_put k2 hl8 (j := j) (by omega) (A.rp l j) (A.df l j) v (by omega) (by omega) (by omega) (by omega) c2 c3
      refine ⟨i32 (A.vl l j), _, ?_, rfl, k4 _ _ _ (k3.wVl hl8 hj c2 c3) M g0⟩
      rw [if_neg (by rw [if_pos c1]; decide), bx ei, if_neg (by decide), if_neg (i32_ne (by omega) (by omega) (by omega) (by omega) c4), if_pos hV0.1.k, bx k1, if_pos k2.k, bx f1, if_pos k2.k, bx f2, if_pos k2.k, bx f3]
    · simp only [if_neg c]
      refine ⟨i32 (-1), sI M0 138 1 (mI M0 138 1 + i32 1), ?_, rfl, ⟨(g0.mono (fun a j q => by omega)).sI (by omega), by rw [mI_sI_ne (by omega)]; exact e2, by rw [mI_sI_eq, g0.i (by omega)]⟩⟩
      by_cases c1 : A.df l j = S.fu l
      · rw [if_neg (by rw [if_pos c1]; decide)]
        by_cases c2 : 0 ≤ v ∧ v ≤ 999
        · rw [if_pos c2] at ei
          rw [bx ei, if_neg (by decide), if_pos (by rw [show v = A.vl l j from Decidable.byContradiction (fun q => c ⟨c1, c2.1, c2.2, q⟩)]), ref]
        · rw [if_neg c2] at ei
          rw [bx ei, if_pos (by rfl), ref]
      · rw [if_pos (by rw [if_neg c1]; rfl), ref]
  · rw [if_neg (by exact d)] at hn0
    simp only [if_neg d]
    have hf : f_X12_fail 134 (1 : Int32) M0 = _ := hf
    refine ⟨i32 0, sI M0 134 2 (i32 1), ?_, g0.sI ⟨rfl, rfl⟩, mI_sI_eq⟩
    rw [bx hn0, if_pos (by rfl), if_pos hV0.1.k, bx hf]
theorem X12_damage49 {M0 : Mem} (hV0 : RV M0 S A) (g0 : Chg (fun a j => a = 134 ∧ j = 2) M M0) (e2 : mI M0 134 2 = i32 0) (hn : n ≤ 40) (h31 : mI M 134 31 = i32 n) (h : ActsR M 152 n Bs) (hA : Bs n = A) {l j : Nat} (hl8 : l < 8) (hj : j < A.sz l) {w : Int} (hw : w = 0 ∨ w = 1) (v : Int) (z5 : -2147483648 ≤ v) (z6 : v ≤ 2147483647) : ∃ r M', f_X12_damage_49 134 (i32 l) (i32 j) (i32 w) (i32 v) (i32 (dmO A w l j)) M0 = some (r, M') ∧ (if dmE v (dmO A w l j) then .inr (i32 (dmO A w l j)) else .inr (i32 (-1))) = (.inr r : Nat ⊕ Int32) ∧ (if dmE v (dmO A w l j) then RDone M M' n Bs (dmN A w l j v) else RRef M M') := by
  have hz := hV0.2.2.1.2.2.2.1 l
  have bv := St.b hV0.2.2.1 l j
  have bo : 0 ≤ dmO A w l j ∧ dmO A w l j ≤ 9 := by
    unfold dmO
    split <;> omega
  have ei := isIn_v v z5 z6 (0 : Int64) (9 : Int64) M0
  have ref : f_X12_damage_71 134 M0 = some (i32 (-1), sI M0 138 1 (mI M0 138 1 + i32 1)) := by
    unfold f_X12_damage_71
    rw [if_pos hV0.1.k, bx (X12_refuse hV0.1)]
  have hi0 : (0 : Int64).toInt = 0 := rfl
  have hi9 : (9 : Int64).toInt = 9 := rfl
  rw [hi0, hi9] at ei
  unfold f_X12_damage_49
  by_cases c : dmE v (dmO A w l j)
  · simp only [if_pos c]
    obtain ⟨c2, c3, c4⟩ := c
    rw [if_pos ⟨c2, c3⟩] at ei
    obtain ⟨M1, k1, k2, k3, k4⟩ := keepPut hV0.1 hV0.2.2 hn (by rw [g0.i (by omega)]; exact h31) (fun i hi => (h i hi).cg (fun t ht => g0.i (by omega))) hA e2
    have f1 := X12_repAt k2 k3 (l := l) (j := j) (by omega) (by omega)
    have f2 := X12_defAt k2 k3 (l := l) (j := j) (by omega) (by omega)
    have f4 := X12_valueAt k2 k3 (l := l) (j := j) (by omega) (by omega)
    rw [bx ei, if_neg (by decide), if_neg (i32_ne (by omega) (by omega) (by omega) (by omega) c4), if_pos hV0.1.k, bx k1]
    rcases hw with hw | hw
    · subst hw
      rw [show dmO A 0 l j = A.rp l j from rfl, show dmN A 0 l j v = A.wRp l j v from rfl]
      have f3 := X12_put k2 hl8 (j := j) (by omega) v (A.df l j) (A.vl l j) c2 c3 (by omega) (by omega) (by omega) (by omega)
      refine ⟨i32 (A.rp l j), _, ?_, rfl, k4 _ _ _ (k3.wRp hl8 hj c2 c3) M g0⟩
      unfold f_X12_damage_98 f_X12_damage_113
      rw [if_pos (by rfl), if_pos (by rfl), if_pos k2.k, bx f2, if_pos k2.k, bx f4, if_pos k2.k, bx f3]
    · subst hw
      rw [show dmO A 1 l j = A.df l j from rfl, show dmN A 1 l j v = A.wDf l j v from rfl]
      have f3 := X12_put k2 hl8 (j := j) (by omega) (A.rp l j) v (A.vl l j) (by omega) (by omega) c2 c3 (by omega) (by omega)
      refine ⟨i32 (A.df l j), _, ?_, rfl, k4 _ _ _ (k3.wDf hl8 hj c2 c3) M g0⟩
      unfold f_X12_damage_98 f_X12_damage_113
      rw [if_neg (by decide), if_pos k2.k, bx f1, if_neg (by decide), if_pos k2.k, bx f4, if_pos k2.k, bx f3]
  · simp only [if_neg c]
    refine ⟨i32 (-1), sI M0 138 1 (mI M0 138 1 + i32 1), ?_, rfl, ⟨(g0.mono (fun a j q => by omega)).sI (by omega), by rw [mI_sI_ne (by omega)]; exact e2, by rw [mI_sI_eq, g0.i (by omega)]⟩⟩
    by_cases c2 : 0 ≤ v ∧ v ≤ 9
    · rw [if_pos c2] at ei
      rw [bx ei, if_neg (by decide), if_pos (by rw [show v = dmO A w l j from Decidable.byContradiction (fun q => c ⟨c2.1, c2.2, q⟩)]), ref]
    · rw [if_neg c2] at ei
      rw [bx ei, if_pos (by rfl), ref]
theorem r_damage (hW : S.wf) (hV : RV M S A) (hn : n ≤ 40) (h31 : mI M 134 31 = i32 n) (h : ActsR M 152 n Bs) (hA : Bs n = A) (l j w v : Int) (z1 : -2147483648 ≤ l) (z2 : l ≤ 2147483647) (z3 : -2147483648 ≤ j) (z4 : j ≤ 2147483647) (z5 : -2147483648 ≤ w) (z6 : w ≤ 2147483647) (z7 : -2147483648 ≤ v) (z8 : v ≤ 2147483647) : ∃ r M', f_X12_damage 134 (i32 l) (i32 j) (i32 w) (i32 v) M = some (r, M') ∧ (if okE S A l j ∧ 0 ≤ w ∧ w ≤ 1 then (a_damage S A l j w v = .inr r ∧ if dmE v (dmO A w l.toNat j.toNat) then RDone M M' n Bs (dmN A w l.toNat j.toNat v) else RRef M M') else RThr M M' 1) := by
  have b := hW.1.2.1
  have hL := hV.1
  have hV0 : RV (sI M 134 2 (0 : Int32)) S A := hV.scr hW.1 (zero_scr M (i32 0))
  have g0 : Chg (fun a j => a = 134 ∧ j = 2) M (sI M 134 2 (0 : Int32)) := (Chg.rf _ M).sI ⟨rfl, rfl⟩
  have e2 : mI (sI M 134 2 (0 : Int32)) 134 2 = i32 0 := mI_sI_eq
  unfold a_damage f_X12_damage
  rw [if_pos hL.k, ap_of]
  generalize sI M 134 2 (0 : Int32) = M0 at hV0 g0 e2 ⊢
  have hn0 := X12_isEntry hV0 hW.1 l j z1 z2 z3 z4
  have hf : f_X12_fail 134 (1 : Int32) M0 = _ := X12_fail hV0.1 1
  have hfl : f_X12_damage_24 134 M0 = some (i32 0, sI M0 134 2 (i32 1)) := by
    unfold f_X12_damage_24
    rw [if_pos hV0.1.k, bx hf]
  have hth : RThr M (sI M0 134 2 (i32 1)) 1 := ⟨g0.sI ⟨rfl, rfl⟩, mI_sI_eq⟩
  have ei := isIn_v w z5 z6 (0 : Int64) (1 : Int64) M0
  have hi0 : (0 : Int64).toInt = 0 := rfl
  have hi1 : (1 : Int64).toInt = 1 := rfl
  rw [hi0, hi1] at ei
  rw [if_pos hV0.1.k]
  by_cases d : okE S A l j
  · rw [if_pos (by exact d)] at hn0
    rw [bx hn0, if_neg (by decide)]
    by_cases dw : 0 ≤ w ∧ w ≤ 1
    · simp only [if_pos (show okE S A l j ∧ 0 ≤ w ∧ w ≤ 1 from ⟨d, dw⟩)]
      rw [if_pos dw] at ei
      unfold okE at d
      obtain ⟨l, rfl⟩ : ∃ k : Nat, l = k := ⟨l.toNat, by omega⟩
      obtain ⟨j, rfl⟩ : ∃ k : Nat, j = k := ⟨j.toNat, by omega⟩
      simp only [Int.toNat_natCast] at d ⊢
      have e1 := X12_repAt hV0.1 hV0.2.2 (l := l) (j := j) (by omega) (by omega)
      have e3 := X12_defAt hV0.1 hV0.2.2 (l := l) (j := j) (by omega) (by omega)
      obtain ⟨r, M', k1, k2, k3⟩ := X12_damage49 hV0 g0 e2 hn h31 h hA (l := l) (j := j) (by omega) (by omega) (w := w) (by omega) v z7 z8
      refine ⟨r, M', ?_, k2, k3⟩
      rw [← k1, bx ei, if_neg (by decide)]
      by_cases w0 : w = 0
      · subst w0
        rw [if_pos (by rfl), if_pos hV0.1.k, bx e1]
        rfl
      · have w1 : w = 1 := by omega
        subst w1
        rw [if_neg (by decide), if_pos hV0.1.k, bx e3]
        rfl
    · simp only [if_neg (show ¬ (okE S A l j ∧ 0 ≤ w ∧ w ≤ 1) from fun q => dw q.2)]
      rw [if_neg dw] at ei
      rw [bx ei, if_pos (by rfl)]
      exact ⟨_, _, hfl, hth⟩
  · rw [if_neg (by exact d)] at hn0
    simp only [if_neg (show ¬ (okE S A l j ∧ 0 ≤ w ∧ w ≤ 1) from fun q => d q.1)]
    rw [bx hn0, if_pos (by rfl)]
    exact ⟨_, _, hfl, hth⟩
end
