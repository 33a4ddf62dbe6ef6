/-! add: records one after the other; what cutting them off leaves -/
def adF (S : Sc) (tb : Nat → Int) (n : Nat) : Nat → Nat → St → (Int × Nat) ⊕ St
  | 0, e, _ => .inl (1, tkB tb n e)
  | k + 1, e, B => if tkK tb n e = 0 then .inr B else if 30 ≤ B.rc then .inl (if canB S tb n 0 e then 2 else 1, tkB tb n e) else match rcF S tb n 4 (-1) 0 0 e with
    | .inl y => .inl y
    | .inr p => if tkK tb n p.1 = 59 then (if fitS S.nl (B.apL p.2).inc then adF S tb n k (tkE tb n p.1) (B.apL p.2).inc else .inl (2, tkB tb n p.1)) else .inl (1, tkB tb n p.1)
def zc : List Int → Nat
  | [] => 0
  | x :: t => (if x = 0 then 1 else 0) + zc t
theorem zc_one : ∀ t : List Int, (∀ x, x ∈ t → 1 ≤ x) → zc t = 0
  | [], _ => rfl
  | x :: t, h => by
    have h1 := h x (List.mem_cons_self ..)
    show (if x = 0 then 1 else 0) + zc t = 0
    rw [if_neg (by omega), zc_one t (fun y hy => h y (List.mem_cons_of_mem _ hy))]
theorem cnt_snoc (p : Nat → Bool) : ∀ (k j : Nat), cnt p (k + 1) j = cnt p k j + (if p (j + k) = true then 1 else 0) := by
  intro k
  induction k with
  | zero =>
    intro j
    show (if p j = true then 1 else 0) + 0 = 0 + _
    rw [Nat.add_zero, Nat.zero_add]
    rfl
  | succ k ih =>
    intro j
    show (if p j = true then 1 else 0) + cnt p (k + 1) (j + 1) = (if p j = true then 1 else 0) + cnt p k (j + 1) + _
    rw [ih, show j + 1 + k = j + (k + 1) by omega]
    omega
theorem cnt_cg {p q : Nat → Bool} : ∀ (k j : Nat), (∀ i, j ≤ i → i < j + k → p i = q i) → cnt p k j = cnt q k j := by
  intro k
  induction k with
  | zero => intro j _; rfl
  | succ k ih =>
    intro j h
    show (if p j = true then 1 else 0) + cnt p k (j + 1) = (if q j = true then 1 else 0) + cnt q k (j + 1)
    rw [h j (by omega) (by omega), ih (j + 1) (fun i h1 h2 => h i (by omega) (by omega))]
theorem app_zs (A : St) (x : En) (l : Nat) : (A.app x).zs l = A.zs l + (if x.1 = l ∧ x.2.1 = 0 then 1 else 0) := by
  have o : cnt (fun j => decide ((A.app x).rp l j = 0)) (A.sz l) 0 = A.zs l := cnt_cg _ _ (fun i _ h2 => by rw [(app_old A x (by omega)).1])
  unfold St.zs
  rw [app_sz]
  by_cases c : x.1 = l
  · rw [if_pos c, cnt_snoc, o, Nat.zero_add]
    have c2 : l = x.1 ∧ A.sz l = A.sz l := ⟨c.symm, rfl⟩
    have a1 : (A.app x).rp l (A.sz l) = x.2.1 := if_pos c2
    rw [a1]
    show A.zs l + _ = A.zs l + _
    congr 1
    by_cases d : x.2.1 = 0
    · rw [if_pos (decide_eq_true d), if_pos ⟨c, d⟩]
    · rw [if_neg (fun q => d (of_decide_eq_true q)), if_neg (fun q => d q.2)]
  · rw [if_neg c, Nat.add_zero, o, if_neg (fun q => c q.1)]
    rfl
theorem apL_zs {l : Nat} : ∀ (E : List En) (A : St), (A.apL E).zs l = A.zs l + zc (rpE l E)
  | [], _ => rfl
  | x :: E, A => by
    show ((A.app x).apL E).zs l = A.zs l + zc (if x.1 = l then x.2.1 :: rpE l E else rpE l E)
    rw [apL_zs E, app_zs]
    by_cases c : x.1 = l
    · rw [if_pos c]
      show _ = A.zs l + ((if x.2.1 = 0 then 1 else 0) + zc (rpE l E))
      by_cases d : x.2.1 = 0
      · rw [if_pos ⟨c, d⟩, if_pos d]
        omega
      · rw [if_neg (fun q => d q.2), if_neg d]
        omega
    · rw [if_neg c, if_neg (fun q => c q.1)]
      rfl
theorem apL_head {l : Nat} {r : Int} : ∀ (E : List En) (A : St) (t : List Int), rpE l E = r :: t → (A.apL E).rp l (A.sz l) = r ∧ A.sz l < (A.apL E).sz l
  | [], _, _, h => by cases h
  | x :: E, A, t, h => by
    have h : (if x.1 = l then x.2.1 :: rpE l E else rpE l E) = r :: t := h
    show ((A.app x).apL E).rp l (A.sz l) = r ∧ A.sz l < ((A.app x).apL E).sz l
    by_cases c : x.1 = l
    · rw [if_pos c] at h
      have hr : x.2.1 = r := by injection h
      have s1 : A.sz l < (A.app x).sz l := by rw [app_sz, if_pos c]; omega
      have c2 : l = x.1 ∧ A.sz l = A.sz l := ⟨c.symm, rfl⟩
      have a1 : (A.app x).rp l (A.sz l) = x.2.1 := if_pos c2
      refine ⟨by rw [(apL_old E (A.app x) s1).1, a1, hr], ?_⟩
      rw [apL_sz]
      omega
    · rw [if_neg c] at h
      have := apL_head E (A.app x) t h
      rw [app_sz, if_neg c, Nat.add_zero] at this
      exact this
theorem ff_at (rp : Nat → Int) (r : Int) (k2 : Nat) : ∀ (k j : Nat) (a : Int), a + (cnt (fun i => decide (rp i = 0)) k j : Nat) = r → rp (j + k) = 0 → firstFrom rp r (k + 1 + k2) j a = ((j + k : Nat) : Int) := by
  intro k
  induction k with
  | zero =>
    intro j a h h0
    have h : a + ((0 : Nat) : Int) = r := h
    rw [show 0 + 1 + k2 = k2 + 1 by omega]
    unfold firstFrom
    rw [if_pos (show rp j = 0 from h0), if_pos (by omega)]
    rfl
  | succ k ih =>
    intro j a h h0
    have h : a + (((if decide (rp j = 0) = true then 1 else 0) + cnt (fun i => decide (rp i = 0)) k (j + 1) : Nat) : Int) = r := h
    have e : j + 1 + k = j + (k + 1) := by omega
    rw [show k + 1 + 1 + k2 = (k + 1 + k2) + 1 by omega]
    unfold firstFrom
    by_cases c : rp j = 0
    · rw [if_pos (decide_eq_true c)] at h
      rw [if_pos c, if_neg (by omega), ih (j + 1) (a + 1) (by omega) (by rw [e]; exact h0), e]
    · rw [if_neg (fun q => c (of_decide_eq_true q))] at h
      rw [if_neg c, ih (j + 1) a (by omega) (by rw [e]; exact h0), e]
theorem ff_cg {rp rp' : Nat → Int} (r : Int) : ∀ (k j : Nat) (a : Int), (∀ i, j ≤ i → i < j + k → rp' i = rp i) → firstFrom rp' r k j a = firstFrom rp r k j a := by
  intro k
  induction k with
  | zero => intro j a _; rfl
  | succ k ih =>
    intro j a h
    unfold firstFrom
    rw [h j (by omega) (by omega), ih (j + 1) (a + 1) (fun i h1 h2 => h i (by omega) (by omega)), ih (j + 1) a (fun i h1 h2 => h i (by omega) (by omega))]
theorem lastS_cg {X Y : St} (h : Eqv X Y) {l : Nat} (hl : l < 8) : lastS X l = lastS Y l := by
  have a := h.2 l hl
  have e : firstFrom (X.rp l) ((X.rc : Int) - 1) (X.sz l) 0 0 = firstFrom (Y.rp l) ((Y.rc : Int) - 1) (Y.sz l) 0 0 := by
    rw [h.1, ← a.1]
    exact ff_cg _ _ _ _ (fun i _ h2 => (a.2 i (by omega)).1)
  unfold lastS
  rw [e, a.1]
theorem cutS_cg {X Y : St} {nl : Nat} (h : Eqv X Y) : Eqv (cutS nl X) (cutS nl Y) := by
  refine ⟨by show X.rc - 1 = Y.rc - 1; rw [h.1], fun l hl => ?_⟩
  have a := h.2 l hl
  have e : (cutS nl X).sz l = (cutS nl Y).sz l := by
    show (if l < nl then lastS X l else X.sz l) = (if l < nl then lastS Y l else Y.sz l)
    rw [lastS_cg h hl, a.1]
  refine ⟨e, fun j hj => ?_⟩
  have hj : j < (if l < nl then lastS X l else X.sz l) := hj
  have := lastS_le X l
  exact a.2 j (by split at hj <;> omega)
theorem cutN_succ {nl : Nat} : ∀ (k : Nat) (B : St), cutN nl (k + 1) B = cutS nl (cutN nl k B)
  | 0, _ => rfl
  | k + 1, B => cutN_succ k (cutS nl B)
section
variable {S : Sc} {tb : Nat → Int} {n : Nat}
/-- each leaf has one beginning for each record -/
def Zs (nl : Nat) (B : St) : Prop := ∀ l, l < nl → B.zs l = B.rc
theorem Zs_inc {B : St} {E : List En} (h : Zs S.nl B) (hE : One S (scJ S (-1) 0) 0 E) (hW : S.wf) : Zs S.nl (B.apL E).inc := fun l hl => by
  obtain ⟨t, e1, e2⟩ := (hE l hl).1 (top_in hW hl)
  show (B.apL E).zs l = (B.apL E).rc + 1
  rw [apL_zs, apL_rc, e1, h l hl]
  show _ + ((if (0 : Int) = 0 then 1 else 0) + zc t) = _
  rw [if_pos rfl, zc_one t e2]
theorem cut_inc {B : St} {E : List En} (hn : S.nl ≤ 8) (h : Zs S.nl B) (hE : One S (scJ S (-1) 0) 0 E) (hW : S.wf) (hg : ∀ x, x ∈ E → GoodE S x) : Eqv (cutS S.nl (B.apL E).inc) B := by
  refine ⟨by show (B.apL E).rc + 1 - 1 = B.rc; rw [apL_rc]; omega, fun l hl => ?_⟩
  have es : (cutS S.nl (B.apL E).inc).sz l = B.sz l := by
    show (if l < S.nl then lastS (B.apL E).inc l else (B.apL E).sz l) = B.sz l
    by_cases c : l < S.nl
    · rw [if_pos c]
      obtain ⟨t, e1, e2⟩ := (hE l c).1 (top_in hW c)
      obtain ⟨a1, a2⟩ := apL_head E B t e1
      have z : cnt (fun i => decide ((B.apL E).rp l i = 0)) (B.sz l) 0 = B.rc := by
        rw [← h l c]
        exact cnt_cg _ _ (fun i _ h2 => by rw [(apL_old E B (by omega)).1])
      have f := ff_at ((B.apL E).rp l) ((B.rc : Nat) : Int) ((B.apL E).sz l - B.sz l - 1) (B.sz l) 0 0 (by rw [z]; omega) (by rw [Nat.zero_add]; exact a1)
      rw [show B.sz l + 1 + ((B.apL E).sz l - B.sz l - 1) = (B.apL E).sz l by omega, Nat.zero_add] at f
      have f2 : firstFrom ((B.apL E).inc.rp l) (((B.apL E).inc.rc : Int) - 1) ((B.apL E).inc.sz l) 0 0 = ((B.sz l : Nat) : Int) := by
        rw [← f]
        show firstFrom ((B.apL E).rp l) ((((B.apL E).rc + 1 : Nat) : Int) - 1) ((B.apL E).sz l) 0 0 = _
        rw [apL_rc, show (((B.rc + 1 : Nat) : Int) - 1) = ((B.rc : Nat) : Int) by omega]
      unfold lastS
      rw [f2, if_neg (by omega), Int.toNat_natCast]
    · rw [if_neg c, apL_sz, cnE_ge (by omega) E hg, Nat.add_zero]
  refine ⟨es, fun j hj => ?_⟩
  rw [es] at hj
  exact apL_old E B hj
theorem adF_ok {dp : Nat → Nat} (hW : S.wf) (hV : VT S S dp) (hb : ∀ i, 0 ≤ tb i ∧ tb i ≤ 255) : ∀ (k e : Nat) (B : St), e ≤ n → B.ok → Zs S.nl B → match adF S tb n k e B with
    | .inl y => 1 ≤ y.1 ∧ y.1 ≤ 2 ∧ y.2 ≤ n
    | .inr B' => B'.ok ∧ (∀ l, S.nl ≤ l → B'.sz l = B.sz l) ∧ ∃ m, B'.rc = B.rc + m ∧ Eqv (cutN S.nl m B') B := by
  have hnl := hW.1.2.1
  intro k
  induction k with
  | zero =>
    intro e B he hB hz
    have t := tk_b tb he
    exact ⟨by show (1 : Int) ≤ 1; omega, by show (1 : Int) ≤ 2; omega, t.2.1⟩
  | succ k ih =>
    intro e B he hB hz
    have t := tk_b tb he
    unfold adF
    by_cases c0 : tkK tb n e = 0
    · rw [if_pos c0]
      exact ⟨hB, fun l _ => rfl, 0, rfl, Eqv.rf B⟩
    · rw [if_neg c0]
      by_cases c30 : 30 ≤ B.rc
      · rw [if_pos c30]
        refine ⟨?_, ?_, t.2.1⟩
        · show 1 ≤ (if canB S tb n 0 e then (2 : Int) else 1)
          split <;> omega
        · show (if canB S tb n 0 e then (2 : Int) else 1) ≤ 2
          split <;> omega
      · rw [if_neg c30]
        have o := rcF_ok (tb := tb) (n := n) hW hV hb 4 0 (by omega) (-1) 0 e (Or.inl ⟨rfl, rfl⟩) (by omega) (by omega) he
        have o : RdP S n e 0 (One S (scJ S (-1) 0) 0) (rcF S tb n 4 (-1) 0 0 e) := o
        generalize rcF S tb n 4 (-1) 0 0 e = y at o
        match y, o with
        | .inl y, o => exact o
        | .inr p, o =>
          obtain ⟨o1, o2, o3, o4⟩ := o
          have t2 := tk_b tb o2
          show match (if tkK tb n p.1 = 59 then (if fitS S.nl (B.apL p.2).inc then adF S tb n k (tkE tb n p.1) (B.apL p.2).inc else .inl (2, tkB tb n p.1)) else .inl (1, tkB tb n p.1) : (Int × Nat) ⊕ St) with
            | .inl y => 1 ≤ y.1 ∧ y.1 ≤ 2 ∧ y.2 ≤ n
            | .inr B' => B'.ok ∧ (∀ l, S.nl ≤ l → B'.sz l = B.sz l) ∧ ∃ m, B'.rc = B.rc + m ∧ Eqv (cutN S.nl m B') B
          by_cases c59 : tkK tb n p.1 = 59
          · rw [if_pos c59]
            by_cases cf : fitS S.nl (B.apL p.2).inc
            · rw [if_pos cf]
              have hB1 : (B.apL p.2).inc.ok := by
                refine St.lvo.ok (apL_lvo (nl := S.nl) p.2 B hB.lvo (fun x hx => (o3.1 x hx).1)) (fun l => ?_) cf.1
                by_cases c : l < S.nl
                · exact cf.2 l c
                · show (B.apL p.2).sz l ≤ 120
                  rw [apL_sz, cnE_ge (by omega) _ o3.1]
                  exact hB.2.2.2.1 l
              have i := ih (tkE tb n p.1) (B.apL p.2).inc t2.2.2.2.1 hB1 (Zs_inc hz o4 hW)
              have cu := cut_inc hnl hz o4 hW o3.1
              generalize adF S tb n k (tkE tb n p.1) (B.apL p.2).inc = z at i
              match z, i with
              | .inl y, i => exact i
              | .inr B', i =>
                obtain ⟨i1, i2, m, i3, i4⟩ := i
                refine ⟨i1, fun l hl => ?_, m + 1, ?_, ?_⟩
                · have := i2 l hl
                  have e : (B.apL p.2).inc.sz l = (B.apL p.2).sz l := rfl
                  rw [e, apL_sz, cnE_ge hl _ o3.1] at this
                  exact this
                · rw [i3]
                  show (B.apL p.2).rc + 1 + m = _
                  rw [apL_rc]
                  omega
                · rw [cutN_succ]
                  exact (cutS_cg i4).tr cu
            · rw [if_neg cf]
              exact ⟨by show (1 : Int) ≤ 2; omega, by show (2 : Int) ≤ 2; omega, t2.2.1⟩
          · rw [if_neg c59]
            exact ⟨by show (1 : Int) ≤ 1; omega, by show (1 : Int) ≤ 2; omega, t2.2.1⟩
end
