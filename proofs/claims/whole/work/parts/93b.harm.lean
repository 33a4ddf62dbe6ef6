/-! HARMLESS: by the neighbourhood, or by trying: the same -/
def chkOk (S : Sc) (A : St) : Prop := ∀ l, l < S.nl → (∀ j, j < A.sz l → wrongS S A l j = 0) ∧ A.zs l = A.rc ∧ (0 < l → unlS S A l = -1)
theorem colW_ok (w : Nat → Int) : ∀ (k j : Nat), (colW w k j).1 = 0 ↔ ∀ i, j ≤ i → i < j + k → w i = 0 := by
  intro k
  induction k with
  | zero => intro j; simp [colW]; intro i h1 h2; omega
  | succ k ih =>
    intro j
    unfold colW
    by_cases c : w j = 0
    · rw [if_pos c, ih (j + 1)]
      constructor
      · intro h i h1 h2
        by_cases e : i = j
        · subst e; exact c
        · exact h i (by omega) (by omega)
      · intro h i h1 h2
        exact h i (by omega) (by omega)
    · rw [if_neg c]
      constructor
      · intro h; exact absurd h c
      · intro h; exact absurd (h j (by omega) (by omega)) c
theorem chkL_ok (S : Sc) (A : St) (l : Nat) : (chkL S A l).1 = 0 ↔ (∀ j, j < A.sz l → wrongS S A l j = 0) ∧ A.zs l = A.rc ∧ (0 < l → unlS S A l = -1) := by
  have h := colW_ok (wrongS S A l) (A.sz l) 0
  have h2 : (∀ j, j < A.sz l → wrongS S A l j = 0) ↔ ∀ i, 0 ≤ i → i < 0 + A.sz l → wrongS S A l i = 0 := ⟨fun q i _ h => q i (by omega), fun q j h => q j (by omega) (by omega)⟩
  rw [h2, ← h]
  unfold chkL
  by_cases c1 : (colW (wrongS S A l) (A.sz l) 0).1 = 0
  · by_cases c2 : A.zs l = A.rc
    · by_cases c3 : l = 0 ∨ unlS S A l = -1
      · rw [if_neg (fun q => q c1), if_neg (fun q => q c2), if_pos c3]
        simp only [true_iff]
        refine ⟨c1, c2, fun q => ?_⟩
        rcases c3 with c3 | c3
        · omega
        · exact c3
      · rw [if_neg (fun q => q c1), if_neg (fun q => q c2), if_neg c3]
        constructor
        · intro q; exact absurd (show (5 : Int) = 0 from q) (by decide)
        · rintro ⟨-, -, q⟩
          exact absurd (Or.inr (q (by omega))) c3
    · rw [if_neg (fun q => q c1), if_pos c2]
      constructor
      · intro q; exact absurd (show (4 : Int) = 0 from q) (by decide)
      · rintro ⟨-, q, -⟩; exact absurd q c2
  · rw [if_pos c1]
    constructor
    · intro q; exact absurd q c1
    · rintro ⟨q, -⟩; exact absurd q c1
theorem chkF_ok (S : Sc) (A : St) : ∀ (k l : Nat), (chkF S A k l).1 = 0 ↔ ∀ i, l ≤ i → i < l + k → (chkL S A i).1 = 0 := by
  intro k
  induction k with
  | zero => intro l; simp [chkF]; intro i h1 h2; omega
  | succ k ih =>
    intro l
    unfold chkF
    by_cases c : (chkL S A l).1 = 0
    · rw [if_pos c, ih (l + 1)]
      constructor
      · intro h i h1 h2
        by_cases e : i = l
        · subst e; exact c
        · exact h i (by omega) (by omega)
      · intro h i h1 h2
        exact h i (by omega) (by omega)
    · rw [if_neg c]
      constructor
      · intro h; exact absurd h c
      · intro h; exact absurd (h l (by omega) (by omega)) c
theorem chk_ok (S : Sc) (A : St) : (chk S A).1 = 0 ↔ chkOk S A := by
  unfold chk chkOk
  rw [chkF_ok]
  constructor
  · intro h l hl
    exact (chkL_ok S A l).mp (h l (by omega) (by omega))
  · intro h l _ hl
    exact (chkL_ok S A l).mpr (h l (by omega))
theorem cnt_split (p : Nat → Bool) : ∀ (a b j : Nat), cnt p (a + b) j = cnt p a j + cnt p b (j + a) := by
  intro a
  induction a with
  | zero => intro b j; simp [cnt]
  | succ a ih =>
    intro b j
    rw [show a + 1 + b = (a + b) + 1 by omega]
    simp only [cnt]
    rw [ih b (j + 1), show j + 1 + a = j + (a + 1) by omega]
    omega
theorem cnt_congr {p q : Nat → Bool} : ∀ (k j : Nat), (∀ i, j ≤ i → i < j + k → p i = q i) → cnt p k j = cnt q k j := by
  intro k
  induction k with
  | zero => intro j _; rfl
  | succ k ih =>
    intro j h
    simp only [cnt]
    rw [h j (by omega) (by omega), ih (j + 1) (fun i a b => h i (by omega) (by omega))]
theorem zs_wRp (A : St) {l j : Nat} (h : j < A.sz l) (v : Int) : (A.wRp l j v).zs l + (if A.rp l j = 0 then 1 else 0) = A.zs l + (if v = 0 then 1 else 0) := by
  have key : ∀ p : Nat → Bool, cnt p (A.sz l) 0 = cnt p j 0 + (if p j = true then 1 else 0) + cnt p (A.sz l - (j + 1)) (j + 1) := by
    intro p
    rw [show A.sz l = j + ((A.sz l - (j + 1)) + 1) by omega, cnt_split, show j + (A.sz l - (j + 1) + 1) - (j + 1) = A.sz l - (j + 1) by omega]
    simp only [cnt, Nat.zero_add]
    omega
  have e1 := key (fun i => decide ((A.wRp l j v).rp l i = 0))
  have e2 := key (fun i => decide (A.rp l i = 0))
  have c1 : cnt (fun i => decide ((A.wRp l j v).rp l i = 0)) j 0 = cnt (fun i => decide (A.rp l i = 0)) j 0 := cnt_congr _ _ (fun i a b => by
    show decide ((if l = l ∧ i = j then v else A.rp l i) = 0) = _
    rw [if_neg (by omega)])
  have c2 : cnt (fun i => decide ((A.wRp l j v).rp l i = 0)) (A.sz l - (j + 1)) (j + 1) = cnt (fun i => decide (A.rp l i = 0)) (A.sz l - (j + 1)) (j + 1) := cnt_congr _ _ (fun i a b => by
    show decide ((if l = l ∧ i = j then v else A.rp l i) = 0) = _
    rw [if_neg (by omega)])
  have c3 : (A.wRp l j v).rp l j = v := if_pos ⟨rfl, rfl⟩
  have z1 : (A.wRp l j v).zs l = cnt (fun i => decide ((A.wRp l j v).rp l i = 0)) (A.sz l) 0 := rfl
  have z2 : A.zs l = cnt (fun i => decide (A.rp l i = 0)) (A.sz l) 0 := rfl
  rw [z1, z2, e1, e2, c1, c2]
  simp only [c3, decide_eq_true_eq]
  omega
/-- what the reference asks -/
def wrBy (S : Sc) (A : St) (l j : Nat) (w : Int) : Prop := wrongS S A l j ≠ 0 ∨ (j + 1 < A.sz l ∧ wrongS S A l (j + 1) ≠ 0) ∨ (w = 0 ∧ A.zs l ≠ A.rc) ∨ (0 < l ∧ unlS S A l ≠ -1) ∨ (l + 1 < S.nl ∧ unlS S A (l + 1) ≠ -1)
/-- what the class asks -/
def harmR (S : Sc) (A : St) (l j : Nat) (v : Int) : Prop := v ≠ A.rp l j ∧ v ≠ 0 ∧ A.rp l j ≠ 0 ∧ j ≠ 0 ∧ needS S l v ≤ A.df l j ∧ needS S l v ≤ A.df l (j - 1) ∧ (l = 0 ∨ S.lev l (l - 1) < min v (A.rp l j)) ∧ (S.nl ≤ l + 1 ∨ S.lev l (l + 1) < min v (A.rp l j))
def harmD (S : Sc) (A : St) (l j : Nat) (v : Int) : Prop := v ≠ A.df l j ∧ needS S l (A.rp l j) ≤ v ∧ (j + 1 < A.sz l → needS S l (A.rp l (j + 1)) ≤ v) ∧ (l = 0 ∨ S.lev l (l - 1) < A.rp l j ∨ min v (S.deep l (l - 1)) = min (A.df l j) (S.deep l (l - 1))) ∧ (S.nl ≤ l + 1 ∨ S.lev l (l + 1) < A.rp l j ∨ min v (S.deep l (l + 1)) = min (A.df l j) (S.deep l (l + 1)))
theorem Sc.lev_sym {S : Sc} (hW : S.wf) {a b : Nat} (ha : a < S.nl) (hb : b < S.nl) : S.lev a b = S.lev b a ∧ S.deep a b = S.deep b a := by
  unfold Sc.lev Sc.deep
  rw [Sc.both_sym hW ha hb]
  exact ⟨rfl, rfl⟩
theorem wrBy_rp {S : Sc} {A : St} (hW : S.wf) (hA : A.ok) (hk : chkOk S A) {l j : Nat} (hl : l < S.nl) (hj : j < A.sz l) {v : Int} (v0 : 0 ≤ v) (v1 : v ≤ S.sr (S.fo l)) (hv : v ≠ A.rp l j) : ¬ wrBy S (A.wRp l j v) l j 0 ↔ harmR S A l j v := by
  obtain ⟨k1, k2, k3⟩ := hk l hl
  have b := St.b hA l j
  have w0 := k1 j hj
  have hz := zs_wRp A hj v
  have r1 : (A.wRp l j v).rp l j = v := if_pos ⟨rfl, rfl⟩
  have r2 : (A.wRp l j v).df = A.df := rfl
  have r3 : (A.wRp l j v).rc = A.rc := rfl
  have r4 : (A.wRp l j v).sz = A.sz := rfl
  -- the entry behind is as it was
  have e1 : j + 1 < A.sz l → wrongS S (A.wRp l j v) l (j + 1) = 0 := by
    intro h
    have : wrongS S (A.wRp l j v) l (j + 1) = wrongS S A l (j + 1) := by
      unfold wrongS
      have : (A.wRp l j v).rp l (j + 1) = A.rp l (j + 1) := if_neg (by omega)
      rw [this, r2]
    rw [this]
    exact k1 (j + 1) h
  have e2 : wrongS S (A.wRp l j v) l j ≠ 0 ↔ ((j = 0 ∧ v ≠ 0) ∨ A.df l j < needS S l v ∨ (0 < j ∧ A.df l (j - 1) < needS S l v)) := by
    have hd : ¬ (S.sd (S.fo l) < A.df l j) := by
      intro q
      unfold wrongS at w0
      rw [if_pos q] at w0
      split at w0 <;> omega
    unfold wrongS
    rw [r1, r2]
    by_cases q1 : j = 0 ∧ v ≠ 0
    · rw [if_pos (Or.inr q1)]
      exact ⟨fun _ => Or.inl q1, fun _ => by decide⟩
    · rw [if_neg (fun q => q.elim (fun q => by omega) q1), if_neg hd]
      by_cases q2 : A.df l j < needS S l v ∨ (0 < j ∧ A.df l (j - 1) < needS S l v)
      · rw [if_pos q2]
        exact ⟨fun _ => Or.inr q2, fun _ => by decide⟩
      · rw [if_neg q2]
        exact ⟨fun h => absurd rfl h, fun h => absurd h (fun q => q.elim q1 q2)⟩
  have e3 : 0 < l → (unlS S (A.wRp l j v) l ≠ -1 ↔ ¬ S.lev l (l - 1) < min v (A.rp l j)) := by
    intro h
    have h1 := (unlS_sq S A l).mp (k3 h)
    rw [← sq_wRp A hj hv (S.lev l (l - 1)) (S.deep l (l - 1)), ne_eq, unlS_sq S (A.wRp l j v) l, (sq_other A l j v (a := l - 1) (by omega) _ _).1, h1]
  have e4 : l + 1 < S.nl → (unlS S (A.wRp l j v) (l + 1) ≠ -1 ↔ ¬ S.lev l (l + 1) < min v (A.rp l j)) := by
    intro h
    have k4 := (hk (l + 1) h).2.2 (by omega)
    have h1 := (unlS_sq S A (l + 1)).mp k4
    rw [show l + 1 - 1 = l by omega] at h1
    have s := (Sc.lev_sym hW hl h).1
    rw [s, ← sq_wRp A hj hv (S.lev (l + 1) l) (S.deep (l + 1) l), ne_eq, unlS_sq S (A.wRp l j v) (l + 1), show l + 1 - 1 = l by omega, (sq_other A l j v (a := l + 1) (by omega) _ _).1, h1]
    constructor
    · intro q1 q2; exact q1 q2.symm
    · intro q1 q2; exact q1 q2.symm
  have e5 : (A.wRp l j v).zs l ≠ A.rc ↔ ¬ (v = 0 ↔ A.rp l j = 0) := by
    rw [k2] at hz
    by_cases q1 : v = 0
    · have q2 : A.rp l j ≠ 0 := fun q => hv (by rw [q1, q])
      rw [if_pos q1, if_neg q2] at hz
      exact ⟨fun _ q => q2 (q.mp q1), fun _ => by omega⟩
    · by_cases q2 : A.rp l j = 0
      · rw [if_neg q1, if_pos q2] at hz
        exact ⟨fun _ q => q1 (q.mpr q2), fun _ => by omega⟩
      · rw [if_neg q1, if_neg q2] at hz
        exact ⟨fun h => absurd (by omega) h, fun h => absurd ⟨fun q => absurd q q1, fun q => absurd q q2⟩ h⟩
  have e6 : j = 0 → A.rp l j = 0 := by
    intro q
    subst q
    unfold wrongS at w0
    by_cases c : A.rp l 0 = 0
    · exact c
    · rw [if_pos (Or.inr ⟨rfl, c⟩)] at w0
      cases w0
  unfold wrBy harmR
  rw [r4, r3, e2, e5]
  constructor
  · intro h
    have a1 : ¬ ((j = 0 ∧ v ≠ 0) ∨ A.df l j < needS S l v ∨ (0 < j ∧ A.df l (j - 1) < needS S l v)) := fun q => h (Or.inl q)
    have a2 : (v = 0 ↔ A.rp l j = 0) := Classical.not_not.mp (fun q => h (Or.inr (Or.inr (Or.inl ⟨rfl, q⟩))))
    have hj0 : j ≠ 0 := by
      intro q
      have := e6 q
      have q2 := a2.mpr this
      omega
    have hv0 : v ≠ 0 := by
      intro q
      have := a2.mp q
      omega
    have hr0 : A.rp l j ≠ 0 := fun q => hv0 (a2.mpr q)
    refine ⟨hv, hv0, hr0, hj0, by omega, by omega, ?_, ?_⟩
    · by_cases q : l = 0
      · exact Or.inl q
      · right
        exact Classical.not_not.mp (fun q2 => h (Or.inr (Or.inr (Or.inr (Or.inl ⟨by omega, (e3 (by omega)).mpr q2⟩)))))
    · by_cases q : S.nl ≤ l + 1
      · exact Or.inl q
      · right
        exact Classical.not_not.mp (fun q2 => h (Or.inr (Or.inr (Or.inr (Or.inr ⟨by omega, (e4 (by omega)).mpr q2⟩)))))
  · rintro ⟨-, q2, q3, q4, q5, q6, q7, q8⟩ (h | h | h | h | h)
    · omega
    · exact h.2 (e1 h.1)
    · exact h.2 ⟨fun q => absurd q q2, fun q => absurd q q3⟩
    · rcases q7 with q7 | q7
      · omega
      · exact (e3 h.1).mp h.2 q7
    · rcases q8 with q8 | q8
      · omega
      · exact (e4 h.1).mp h.2 q8
theorem wrBy_df {S : Sc} {A : St} (hW : S.wf) (hA : A.ok) (hk : chkOk S A) {l j : Nat} (hl : l < S.nl) (hj : j < A.sz l) {v : Int} (v0 : 0 ≤ v) (v1 : v ≤ S.sd (S.fo l)) (hv : v ≠ A.df l j) : ¬ wrBy S (A.wDf l j v) l j 1 ↔ harmD S A l j v := by
  obtain ⟨k1, k2, k3⟩ := hk l hl
  have b := St.b hA l j
  have w0 := k1 j hj
  have r1 : (A.wDf l j v).df l j = v := if_pos ⟨rfl, rfl⟩
  have r2 : (A.wDf l j v).rp = A.rp := rfl
  have r4 : (A.wDf l j v).sz = A.sz := rfl
  have r5 : 0 < j → (A.wDf l j v).df l (j - 1) = A.df l (j - 1) := fun q => if_neg (by omega)
  have r6 : (A.wDf l j v).df l (j + 1) = A.df l (j + 1) := if_neg (by omega)
  have e2 : wrongS S (A.wDf l j v) l j ≠ 0 ↔ v < needS S l (A.rp l j) := by
    unfold wrongS at w0
    split at w0
    · exact absurd w0 (by decide)
    · rename_i q1
      split at w0
      · exact absurd w0 (by decide)
      · split at w0
        · exact absurd w0 (by decide)
        · rename_i q2 q3
          unfold wrongS
          rw [r1, r2, if_neg q1, if_neg (by omega)]
          constructor
          · intro h
            split at h
            · rename_i q4
              rcases q4 with q4 | q4
              · exact q4
              · rw [r5 q4.1] at q4
                exact absurd (Or.inr q4) q3
            · exact absurd rfl h
          · intro h
            rw [if_pos (Or.inl h)]
            decide
  have e1 : j + 1 < A.sz l → (wrongS S (A.wDf l j v) l (j + 1) ≠ 0 ↔ v < needS S l (A.rp l (j + 1))) := by
    intro hj1
    have w1 := k1 (j + 1) hj1
    unfold wrongS at w1
    split at w1
    · exact absurd w1 (by decide)
    · rename_i q1
      split at w1
      · exact absurd w1 (by decide)
      · split at w1
        · exact absurd w1 (by decide)
        · rename_i q2 q3
          unfold wrongS
          rw [r6, r2, if_neg q1, if_neg q2, show j + 1 - 1 = j by omega, r1]
          constructor
          · intro h
            split at h
            · rename_i q4
              rcases q4 with q4 | q4
              · exact absurd (Or.inl q4) q3
              · exact q4.2
            · exact absurd rfl h
          · intro h
            rw [if_pos (Or.inr ⟨by omega, h⟩)]
            decide
  have e3 : 0 < l → (unlS S (A.wDf l j v) l ≠ -1 ↔ ¬ (S.lev l (l - 1) < A.rp l j ∨ min v (S.deep l (l - 1)) = min (A.df l j) (S.deep l (l - 1)))) := by
    intro h
    have h1 := (unlS_sq S A l).mp (k3 h)
    rw [← sq_wDf A hj (S.lev l (l - 1)) (S.deep l (l - 1)), ne_eq, unlS_sq S (A.wDf l j v) l, (sq_other A l j v (a := l - 1) (by omega) _ _).2, h1]
  have e4 : l + 1 < S.nl → (unlS S (A.wDf l j v) (l + 1) ≠ -1 ↔ ¬ (S.lev l (l + 1) < A.rp l j ∨ min v (S.deep l (l + 1)) = min (A.df l j) (S.deep l (l + 1)))) := by
    intro h
    have k4 := (hk (l + 1) h).2.2 (by omega)
    have h1 := (unlS_sq S A (l + 1)).mp k4
    rw [show l + 1 - 1 = l by omega] at h1
    have s := Sc.lev_sym hW hl h
    rw [s.1, s.2, ← sq_wDf A hj (S.lev (l + 1) l) (S.deep (l + 1) l), ne_eq, unlS_sq S (A.wDf l j v) (l + 1), show l + 1 - 1 = l by omega, (sq_other A l j v (a := l + 1) (by omega) _ _).2, h1]
    constructor
    · intro q1 q2; exact q1 q2.symm
    · intro q1 q2; exact q1 q2.symm
  unfold wrBy harmD
  rw [r4, e2]
  constructor
  · intro h
    refine ⟨hv, ?_, fun q => ?_, ?_, ?_⟩
    · have : ¬ (v < needS S l (A.rp l j)) := fun q => h (Or.inl q)
      omega
    · have : ¬ (v < needS S l (A.rp l (j + 1))) := fun q2 => h (Or.inr (Or.inl ⟨q, (e1 q).mpr q2⟩))
      omega
    · by_cases q : l = 0
      · exact Or.inl q
      · right
        exact Classical.not_not.mp (fun q2 => h (Or.inr (Or.inr (Or.inr (Or.inl ⟨by omega, (e3 (by omega)).mpr q2⟩)))))
    · by_cases q : S.nl ≤ l + 1
      · exact Or.inl q
      · right
        exact Classical.not_not.mp (fun q2 => h (Or.inr (Or.inr (Or.inr (Or.inr ⟨by omega, (e4 (by omega)).mpr q2⟩)))))
  · rintro ⟨-, q2, q3, q4, q5⟩ (h | h | h | h | h)
    · omega
    · have := q3 h.1
      have := (e1 h.1).mp h.2
      omega
    · exact absurd h.1 (by decide)
    · rcases q4 with q4 | q4
      · omega
      · exact (e3 h.1).mp h.2 q4
    · rcases q5 with q5 | q5
      · omega
      · exact (e4 h.1).mp h.2 q5
