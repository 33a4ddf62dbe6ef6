/-! HARMLESS: rows of what two leaves share -/
def sqF (rp df : Nat → Int) (L D : Int) : Nat → Nat → List (Int × Int)
  | 0, _ => []
  | k + 1, j => if rp j ≤ L then (rp j, min (df j) D) :: sqF rp df L D k (j + 1) else sqF rp df L D k (j + 1)
theorem sqF_skip (rp df : Nat → Int) (L D : Int) : ∀ (k j : Nat), sqF rp df L D k j = sqF rp df L D (k - (behF rp L k j - j)) (behF rp L k j) := by
  intro k
  induction k with
  | zero => intro j; simp [behF]
  | succ k ih =>
    intro j
    by_cases c : rp j ≤ L
    · have : behF rp L (k + 1) j = j := by unfold behF; simp [c]
      rw [this]
      simp
    · have e : behF rp L (k + 1) j = behF rp L k (j + 1) := by
        conv => lhs; unfold behF
        simp [c]
      have hb := behF_le rp L k (j + 1)
      rw [e, show k + 1 - (behF rp L k (j + 1) - j) = k - (behF rp L k (j + 1) - (j + 1)) by omega, ← ih (j + 1)]
      conv => lhs; unfold sqF
      rw [if_neg c]
theorem sqF_app (rp df : Nat → Int) (L D : Int) : ∀ (a b j : Nat), sqF rp df L D (a + b) j = sqF rp df L D a j ++ sqF rp df L D b (j + a) := by
  intro a
  induction a with
  | zero => intro b j; simp [sqF]
  | succ a ih =>
    intro b j
    rw [show a + 1 + b = (a + b) + 1 by omega]
    simp only [sqF]
    rw [ih b (j + 1), show j + 1 + a = j + (a + 1) by omega]
    split
    · rfl
    · rfl
theorem sqF_congr {rp df rp' df' : Nat → Int} {L D : Int} : ∀ (k j : Nat), (∀ i, j ≤ i → i < j + k → rp i = rp' i ∧ df i = df' i) → sqF rp df L D k j = sqF rp' df' L D k j := by
  intro k
  induction k with
  | zero => intro j _; rfl
  | succ k ih =>
    intro j h
    have h1 := h j (by omega) (by omega)
    unfold sqF
    rw [h1.1, h1.2, ih (j + 1) (fun i a b => h i (by omega) (by omega))]
/-- what a leaf shows of a level and a depth -/
def St.sq (A : St) (l : Nat) (L D : Int) : List (Int × Int) := sqF (A.rp l) (A.df l) L D (A.sz l) 0
theorem ulC_sq (S : Sc) (A : St) (l : Nat) : ∀ (k j fe : Nat), fe ≤ A.sz (l - 1) → (fe = A.sz (l - 1) ∨ A.rp (l - 1) fe ≤ S.lev l (l - 1)) → (ulC S A l k j fe = -1 ↔ sqF (A.rp l) (A.df l) (S.lev l (l - 1)) (S.deep l (l - 1)) k j = sqF (A.rp (l - 1)) (A.df (l - 1)) (S.lev l (l - 1)) (S.deep l (l - 1)) (A.sz (l - 1) - fe) fe) := by
  intro k
  induction k with
  | zero =>
    intro j fe h1 h2
    unfold ulC
    by_cases c : fe < A.sz (l - 1)
    · rw [if_pos c]
      have h3 : A.rp (l - 1) fe ≤ S.lev l (l - 1) := by rcases h2 with h2 | h2 <;> omega
      obtain ⟨q, hq⟩ : ∃ q, A.sz (l - 1) - fe = q + 1 := ⟨A.sz (l - 1) - fe - 1, by omega⟩
      rw [hq]
      constructor
      · intro h; omega
      · intro h
        exfalso
        simp only [sqF, if_pos h3] at h
        cases h
    · rw [if_neg c, show A.sz (l - 1) - fe = 0 by omega]
      simp [sqF]
  | succ k ih =>
    intro j fe h1 h2
    by_cases c1 : A.rp l j ≤ S.lev l (l - 1)
    · by_cases c2 : fe < A.sz (l - 1)
      · have h3 : A.rp (l - 1) fe ≤ S.lev l (l - 1) := by rcases h2 with h2 | h2 <;> omega
        have hbl := behF_le (A.rp (l - 1)) (S.lev l (l - 1)) (A.sz (l - 1) - (fe + 1)) (fe + 1)
        have hba := behF_at (A.rp (l - 1)) (S.lev l (l - 1)) (A.sz (l - 1) - (fe + 1)) (fe + 1)
        have e0 : sqF (A.rp (l - 1)) (A.df (l - 1)) (S.lev l (l - 1)) (S.deep l (l - 1)) (A.sz (l - 1) - fe) fe = (A.rp (l - 1) fe, min (A.df (l - 1) fe) (S.deep l (l - 1))) :: sqF (A.rp (l - 1)) (A.df (l - 1)) (S.lev l (l - 1)) (S.deep l (l - 1)) (A.sz (l - 1) - (fe + 1)) (fe + 1) := by
          rw [show A.sz (l - 1) - fe = (A.sz (l - 1) - (fe + 1)) + 1 by omega]
          conv => lhs; unfold sqF
          rw [if_pos h3]
        have e1 : sqF (A.rp l) (A.df l) (S.lev l (l - 1)) (S.deep l (l - 1)) (k + 1) j = (A.rp l j, min (A.df l j) (S.deep l (l - 1))) :: sqF (A.rp l) (A.df l) (S.lev l (l - 1)) (S.deep l (l - 1)) k (j + 1) := by
          conv => lhs; unfold sqF
          rw [if_pos c1]
        rw [e0, e1]
        unfold ulC
        rw [if_pos c1]
        by_cases c3 : A.rp l j = A.rp (l - 1) fe
        · by_cases c4 : min (A.df l j) (S.deep l (l - 1)) = min (A.df (l - 1) fe) (S.deep l (l - 1))
          · have nn : ¬ (A.sz (l - 1) ≤ fe ∨ A.rp l j ≠ A.rp (l - 1) fe ∨ min (A.df l j) (S.deep l (l - 1)) ≠ min (A.df (l - 1) fe) (S.deep l (l - 1))) := by
              rintro (q | q | q)
              · omega
              · exact q c3
              · exact q c4
            rw [if_neg nn, ih (j + 1) _ (by omega) (by omega), c3, c4, sqF_skip (A.rp (l - 1)) (A.df (l - 1)) (S.lev l (l - 1)) (S.deep l (l - 1)) (A.sz (l - 1) - (fe + 1)) (fe + 1), show A.sz (l - 1) - (fe + 1) - (behF (A.rp (l - 1)) (S.lev l (l - 1)) (A.sz (l - 1) - (fe + 1)) (fe + 1) - (fe + 1)) = A.sz (l - 1) - behF (A.rp (l - 1)) (S.lev l (l - 1)) (A.sz (l - 1) - (fe + 1)) (fe + 1) by omega]
            simp
          · rw [if_pos (Or.inr (Or.inr c4))]
            constructor
            · intro h; omega
            · intro h
              injection h with h5
              injection h5 with h6 h7
              exact absurd h7 c4
        · rw [if_pos (Or.inr (Or.inl c3))]
          constructor
          · intro h; omega
          · intro h
            injection h with h5
            injection h5 with h6 h7
            exact absurd h6 c3
      · unfold ulC
        rw [if_pos c1, if_pos (Or.inl (by omega)), show A.sz (l - 1) - fe = 0 by omega]
        constructor
        · intro h; omega
        · intro h
          exfalso
          simp only [sqF, if_pos c1] at h
          cases h
    · unfold ulC
      rw [if_neg c1]
      conv => rhs; lhs; unfold sqF
      rw [if_neg c1]
      exact ih (j + 1) fe h1 h2
/-- nothing is unlike: the two show the same -/
theorem unlS_sq (S : Sc) (A : St) (l : Nat) : unlS S A l = -1 ↔ A.sq l (S.lev l (l - 1)) (S.deep l (l - 1)) = A.sq (l - 1) (S.lev l (l - 1)) (S.deep l (l - 1)) := by
  have hbl := behF_le (A.rp (l - 1)) (S.lev l (l - 1)) (A.sz (l - 1)) 0
  have hba := behF_at (A.rp (l - 1)) (S.lev l (l - 1)) (A.sz (l - 1)) 0
  unfold unlS St.sq
  rw [ulC_sq S A l (A.sz l) 0 _ (by omega) (by omega), sqF_skip (A.rp (l - 1)) (A.df (l - 1)) (S.lev l (l - 1)) (S.deep l (l - 1)) (A.sz (l - 1)) 0, show A.sz (l - 1) - (behF (A.rp (l - 1)) (S.lev l (l - 1)) (A.sz (l - 1)) 0 - 0) = A.sz (l - 1) - behF (A.rp (l - 1)) (S.lev l (l - 1)) (A.sz (l - 1)) 0 by omega]
/-- the stripes with one rep, one def changed -/
def St.wRp (A : St) (l j : Nat) (v : Int) : St := (fun a b => if a = l ∧ b = j then v else A.rp a b, A.df, A.vl, A.sz, A.rc)
def St.wDf (A : St) (l j : Nat) (v : Int) : St := (A.rp, fun a b => if a = l ∧ b = j then v else A.df a b, A.vl, A.sz, A.rc)
def St.wVl (A : St) (l j : Nat) (v : Int) : St := (A.rp, A.df, fun a b => if a = l ∧ b = j then v else A.vl a b, A.sz, A.rc)
theorem sq_split (rp df : Nat → Int) (L D : Int) {n j : Nat} (h : j < n) : sqF rp df L D n 0 = sqF rp df L D j 0 ++ ((if rp j ≤ L then [(rp j, min (df j) D)] else []) ++ sqF rp df L D (n - (j + 1)) (j + 1)) := by
  rw [show n = j + ((n - (j + 1)) + 1) by omega, sqF_app, show j + (n - (j + 1) + 1) - (j + 1) = n - (j + 1) by omega, show 0 + j = j by omega]
  congr 1
  conv => lhs; unfold sqF
  split <;> rfl
theorem sq_other (A : St) (l j : Nat) (v : Int) {a : Nat} (h : a ≠ l) (L D : Int) : (A.wRp l j v).sq a L D = A.sq a L D ∧ (A.wDf l j v).sq a L D = A.sq a L D := by
  constructor
  · exact sqF_congr _ _ (fun i _ _ => ⟨if_neg (fun q => h q.1), rfl⟩)
  · exact sqF_congr _ _ (fun i _ _ => ⟨rfl, if_neg (fun q => h q.1)⟩)
/-- a rep is changed: the leaf shows the same just where neither number counts -/
theorem sq_wRp (A : St) {l j : Nat} (h : j < A.sz l) {v : Int} (hv : v ≠ A.rp l j) (L D : Int) : (A.wRp l j v).sq l L D = A.sq l L D ↔ L < min v (A.rp l j) := by
  have e1 := sq_split ((A.wRp l j v).rp l) ((A.wRp l j v).df l) L D (n := (A.wRp l j v).sz l) (j := j) h
  have e2 := sq_split (A.rp l) (A.df l) L D h
  have c1 : sqF ((A.wRp l j v).rp l) ((A.wRp l j v).df l) L D j 0 = sqF (A.rp l) (A.df l) L D j 0 := sqF_congr _ _ (fun i a b => ⟨if_neg (fun q => by omega), rfl⟩)
  have c2 : sqF ((A.wRp l j v).rp l) ((A.wRp l j v).df l) L D ((A.wRp l j v).sz l - (j + 1)) (j + 1) = sqF (A.rp l) (A.df l) L D (A.sz l - (j + 1)) (j + 1) := sqF_congr _ _ (fun i a b => ⟨if_neg (fun q => by omega), rfl⟩)
  have c3 : (A.wRp l j v).rp l j = v := if_pos ⟨rfl, rfl⟩
  have c4 : (A.wRp l j v).df l j = A.df l j := rfl
  unfold St.sq
  rw [e1, e2, c1, c2, c3, c4]
  simp only [List.append_cancel_left_eq, List.append_cancel_right_eq]
  by_cases d1 : v ≤ L
  · by_cases d2 : A.rp l j ≤ L
    · simp only [d1, d2, if_true]
      constructor
      · intro q
        injection q with q
        injection q with q
        exact absurd q hv
      · intro q; omega
    · simp only [d1, d2, if_true, if_false]
      constructor
      · intro q; cases q
      · intro q; omega
  · by_cases d2 : A.rp l j ≤ L
    · simp only [d1, d2, if_true, if_false]
      constructor
      · intro q; cases q
      · intro q; omega
    · simp only [d1, d2, if_false, true_iff]
      omega
theorem sq_wDf (A : St) {l j : Nat} (h : j < A.sz l) {v : Int} (L D : Int) : (A.wDf l j v).sq l L D = A.sq l L D ↔ (L < A.rp l j ∨ min v D = min (A.df l j) D) := by
  have e1 := sq_split ((A.wDf l j v).rp l) ((A.wDf l j v).df l) L D (n := (A.wDf l j v).sz l) (j := j) h
  have e2 := sq_split (A.rp l) (A.df l) L D h
  have c1 : sqF ((A.wDf l j v).rp l) ((A.wDf l j v).df l) L D j 0 = sqF (A.rp l) (A.df l) L D j 0 := sqF_congr _ _ (fun i a b => ⟨rfl, if_neg (fun q => by omega)⟩)
  have c2 : sqF ((A.wDf l j v).rp l) ((A.wDf l j v).df l) L D ((A.wDf l j v).sz l - (j + 1)) (j + 1) = sqF (A.rp l) (A.df l) L D (A.sz l - (j + 1)) (j + 1) := sqF_congr _ _ (fun i a b => ⟨rfl, if_neg (fun q => by omega)⟩)
  have c3 : (A.wDf l j v).df l j = v := if_pos ⟨rfl, rfl⟩
  have c4 : (A.wDf l j v).rp l j = A.rp l j := rfl
  unfold St.sq
  rw [e1, e2, c1, c2, c3, c4]
  simp only [List.append_cancel_left_eq, List.append_cancel_right_eq]
  by_cases d2 : A.rp l j ≤ L
  · simp only [d2, if_true]
    constructor
    · intro q
      injection q with q
      injection q with q q2
      exact Or.inr q2
    · rintro (q | q)
      · omega
      · rw [q]
  · simp only [d2, if_false, true_iff]
    omega
