/-! Acts: what is undone by each; the invariant of both rows of acts -/
/-- alike as far as anything is read -/
def Eqv (A B : St) : Prop := A.rc = B.rc ∧ ∀ l, l < 8 → A.sz l = B.sz l ∧ ∀ j, j < A.sz l → A.rp l j = B.rp l j ∧ A.df l j = B.df l j ∧ A.vl l j = B.vl l j
theorem Eqv.rf (A : St) : Eqv A A := ⟨rfl, fun _ _ => ⟨rfl, fun _ _ => ⟨rfl, rfl, rfl⟩⟩⟩
theorem Eqv.tr {A B C : St} (h : Eqv A B) (g : Eqv B C) : Eqv A C := ⟨h.1.trans g.1, fun l hl => by
  have a := h.2 l hl
  have b := g.2 l hl
  refine ⟨a.1.trans b.1, fun j hj => ?_⟩
  have c := a.2 j hj
  have d := b.2 j (by omega)
  exact ⟨c.1.trans d.1, c.2.1.trans d.2.1, c.2.2.trans d.2.2⟩⟩
theorem CC.eqv {M : Mem} {b : Nat} {fu : Nat → Int} {A B : St} (h : CC M b fu A) (g : Eqv A B) (hB : B.ok) : CC M b fu B := by
  obtain ⟨h0, h1, h2, h3, h4, h5, h6⟩ := h
  refine ⟨hB, fun l hl => ?_, fun l j hl hj => ?_, fun l j hl hj => ?_, fun l j hl hj => ?_, h5, h6⟩
  · rw [← (g.2 l hl).1]; exact h1 l hl
  · have e := g.2 l hl
    rw [← (e.2 j (by omega)).1]; exact h2 l j hl (by omega)
  · have e := g.2 l hl
    rw [← (e.2 j (by omega)).2.1]; exact h3 l j hl (by omega)
  · have e := g.2 l hl
    rw [← (e.2 j (by omega)).2.2]; exact h4 l j hl (by omega)
/-- the last record is cut off -/
def lastS (B : St) (l : Nat) : Nat := if firstFrom (B.rp l) ((B.rc : Int) - 1) (B.sz l) 0 0 = -1 then B.sz l else (firstFrom (B.rp l) ((B.rc : Int) - 1) (B.sz l) 0 0).toNat
def cutS (nl : Nat) (B : St) : St := (B.rp, B.df, B.vl, fun l => if l < nl then lastS B l else B.sz l, B.rc - 1)
def cutN (nl : Nat) : Nat → St → St
  | 0, B => B
  | k + 1, B => cutN nl k (cutS nl B)
theorem lastS_le (B : St) (l : Nat) : lastS B l ≤ B.sz l := by
  have := firstFrom_b (B.rp l) ((B.rc : Int) - 1) (B.sz l) 0 0
  unfold lastS
  split <;> omega
/-- an entry in one number; where a leaf's entries begin in a row -/
def pkI (B : St) (l j : Nat) : Int := 256 * B.vl l j + 16 * B.rp l j + B.df l j
def rpos (c : Nat → Nat) : Nat → Nat
  | 0 => 0
  | l + 1 => rpos c l + 1 + c l
/-- B is B' and one record more -/
def PreR (nl : Nat) (B' B : St) : Prop := B'.rc + 1 = B.rc ∧ (∀ l, l < 8 → B'.sz l ≤ B.sz l ∧ (nl ≤ l → B'.sz l = B.sz l)) ∧ ∀ l j, l < 8 → j < B'.sz l → B'.rp l j = B.rp l j ∧ B'.df l j = B.df l j ∧ B'.vl l j = B.vl l j
def RowOk (M : Mem) (r nl : Nat) (B' B : St) : Prop := mK M r = 21 ∧ mN M r = rpos (fun l => B.sz l - B'.sz l) nl ∧ ∀ l, l < nl → mI M r (rpos (fun l => B.sz l - B'.sz l) l) = i32 ((B.sz l - B'.sz l : Nat) : Int) ∧ ∀ i, i < B.sz l - B'.sz l → mI M r (rpos (fun l => B.sz l - B'.sz l) l + 1 + i) = i32 (pkI B l (B'.sz l + i))
/-- the act at a, undone, makes B of B' -/
def ActOk (M : Mem) (nl a : Nat) (B B' : St) : Prop := mK M a = 1 ∧ 165 ≤ a ∧ a ≤ mn M ∧ B.ok ∧
  ((mI M a 0 = i32 0 ∧ ∃ k : Nat, mI M a 3 = i32 k ∧ k ≤ B'.rc ∧ Eqv (cutN nl k B') B)
  ∨ (mI M a 0 = i32 1 ∧ 165 ≤ mR M a 4 ∧ mR M a 4 ≤ mn M ∧ PreR nl B' B ∧ RowOk M (mR M a 4) nl B' B)
  ∨ (mI M a 0 = i32 2 ∧ ∃ l j v, l < nl ∧ j < B'.sz l ∧ mI M a 1 = i32 ((l : Nat) : Int) ∧ mI M a 2 = i32 ((j : Nat) : Int) ∧ mI M a 3 = i32 v ∧ Eqv (B'.wVl l j v) B)
  ∨ (mI M a 0 = i32 3 ∧ ∃ l j v, l < nl ∧ j < B'.sz l ∧ mI M a 1 = i32 ((l : Nat) : Int) ∧ mI M a 2 = i32 ((j : Nat) : Int) ∧ mI M a 3 = i32 v ∧ Eqv (B'.wRp l j v) B)
  ∨ (mI M a 0 = i32 4 ∧ ∃ l j v, l < nl ∧ j < B'.sz l ∧ mI M a 1 = i32 ((l : Nat) : Int) ∧ mI M a 2 = i32 ((j : Nat) : Int) ∧ mI M a 3 = i32 v ∧ Eqv (B'.wDf l j v) B))
theorem ActOk.old {M M' : Mem} {nl a : Nat} {B B' : St} (h : ActOk M nl a B B') (g : Old M M') : ActOk M' nl a B B' := by
  obtain ⟨h1, h2, h3, h4, h5⟩ := h
  obtain ⟨g1, g2, g3, g4⟩ := g.2 a h2 h3
  have hm := g.1
  refine ⟨by rw [g1]; exact h1, h2, by omega, h4, ?_⟩
  rw [g3 0, g3 1, g3 2, g3 3, g4 4]
  rcases h5 with h5 | ⟨q1, q2, q3, q4, q5, q6, q7⟩ | h5
  · exact Or.inl h5
  · obtain ⟨e1, e2, e3, e4⟩ := g.2 _ q2 q3
    refine Or.inr (Or.inl ⟨q1, q2, by omega, q4, by rw [e1]; exact q5, by rw [e2]; exact q6, fun l hl => ?_⟩)
    have := q7 l hl
    refine ⟨by rw [e3]; exact this.1, fun i hi => by rw [e3]; exact this.2 i hi⟩
  · exact Or.inr (Or.inr h5)
/-- both sides' acts: n of them; the class's at cl (18, its row ar 20; or 53, 55), the reference's rows at rr -/
def ActsC (M : Mem) (cl ar nl n : Nat) (Bs : Nat → St) : Prop := n ≤ 40 ∧ mI M cl 3 = i32 n ∧ ∀ k, k < n → ActOk M nl (mR M ar k) (Bs k) (Bs (k + 1))
def ActsR (M : Mem) (rr n : Nat) (Bs : Nat → St) : Prop := ∀ k, k < n → RRow M rr (969 * k) (Bs k)
/-- the snapshots when one more is kept -/
def bsK (n : Nat) (Bs : Nat → St) (A' : St) : Nat → St := if n < 40 then upf Bs (n + 1) A' else fun k => if k = 40 then A' else Bs (k + 1)
def nK (n : Nat) : Nat := if n < 40 then n + 1 else 40
section
variable {M : Mem} {nl n a : Nat} {Bs : Nat → St} {A' : St}
theorem keepC (hL : CLay M) (h : ActsC M 18 20 nl n Bs) (ha : ActOk M nl a (Bs n) A') : ∃ M', f_X7_keep 18 a M = some ((), M') ∧ Fr (fun b j => b = 18 ∧ j = 3) (fun b _ => b = 20) M M' ∧ ActsC M' 18 20 nl (nK n) (bsK n Bs A') := by
  obtain ⟨h1, h2, h3⟩ := h
  obtain ⟨M', e, g, q1, q2⟩ := X7_keep hL h1 h2 (fun k hk => (h3 k hk).1) ha.1
  have ho : Old M M' := g.old (fun a j q => by omega) (fun a j q => by omega)
  refine ⟨M', e, g, ?_⟩
  by_cases c : n < 40
  · obtain ⟨w1, w2, w3⟩ := q1 c
    have e1 : nK n = n + 1 := if_pos c
    have e2 : bsK n Bs A' = upf Bs (n + 1) A' := if_pos c
    rw [e1, e2]
    refine ⟨by omega, w1, fun k hk => ?_⟩
    by_cases d : k = n
    · subst d
      rw [w2, upf_ne _ _ (by omega), upf_eq]
      exact ha.old ho
    · rw [w3 k (by omega), upf_ne _ _ (by omega), upf_ne _ _ (by omega)]
      exact (h3 k (by omega)).old ho
  · have hn : n = 40 := by omega
    subst hn
    obtain ⟨w1, w2, w3⟩ := q2 rfl
    have e1 : nK 40 = 40 := rfl
    have e2 : bsK 40 Bs A' = fun k => if k = 40 then A' else Bs (k + 1) := rfl
    rw [e1, e2]
    refine ⟨by omega, w1, fun k hk => ?_⟩
    by_cases d : k = 39
    · subst d
      rw [w2]
      exact ha.old ho
    · show ActOk M' nl (mR M' 20 k) (if k = 40 then A' else Bs (k + 1)) (if k + 1 = 40 then A' else Bs (k + 1 + 1))
      rw [w3 k (by omega), if_neg (by omega), if_neg (by omega)]
      exact (h3 (k + 1) (by omega)).old ho
theorem keepR (hL : RLay M) {A : St} (hE : RE M A) (hn : n ≤ 40) (h31 : mI M 134 31 = i32 n) (h : ActsR M 152 n Bs) (hA : Bs n = A) : ∃ M', f_X12_keep 134 M = some ((), M') ∧ Chg (fun b j => b = 152 ∨ (b = 134 ∧ j = 31)) M M' ∧ mI M' 134 31 = i32 (nK n) ∧ ActsR M' 152 (nK n) (bsK n Bs A') := by
  obtain ⟨M', e, g, q1, q2⟩ := X12_keep hL hE hn h31
  refine ⟨M', e, g, ?_⟩
  by_cases c : n < 40
  · obtain ⟨w1, w2, w3⟩ := q1 c
    have e1 : nK n = n + 1 := if_pos c
    have e2 : bsK n Bs A' = upf Bs (n + 1) A' := if_pos c
    rw [e1, e2]
    refine ⟨w1, fun k hk => ?_⟩
    by_cases d : k = n
    · subst d
      rw [upf_ne _ _ (by omega), hA]
      exact w2
    · rw [upf_ne _ _ (by omega)]
      exact (h k (by omega)).cg (fun i hi => w3 _ (by omega))
  · have hn : n = 40 := by omega
    subst hn
    obtain ⟨w1, w2, w3⟩ := q2 rfl
    have e1 : nK 40 = 40 := rfl
    have e2 : bsK 40 Bs A' = fun k => if k = 40 then A' else Bs (k + 1) := rfl
    rw [e1, e2]
    refine ⟨w1, fun k hk => ?_⟩
    show RRow M' 152 (969 * k) (if k = 40 then A' else Bs (k + 1))
    rw [if_neg (by omega)]
    by_cases d : k = 39
    · subst d
      rw [hA]
      exact w2
    · exact (h (k + 1) (by omega)).cg (fun i hi => by
        rw [w3 _ (by omega), show 969 * k + i + 969 = 969 * (k + 1) + i by omega])
theorem bsK_n (n : Nat) (Bs : Nat → St) (A' : St) (hn : n ≤ 40) : bsK n Bs A' (nK n) = A' := by
  unfold bsK nK
  by_cases c : n < 40
  · rw [if_pos c, if_pos c, upf_eq]
  · rw [if_neg c, if_neg c]
    exact if_pos rfl
end
