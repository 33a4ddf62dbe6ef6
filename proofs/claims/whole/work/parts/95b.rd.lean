/-! reads -/
/-- only ints of P changed -/
def Chg (P : Nat → Nat → Prop) (M M' : Mem) : Prop := mK M' = mK M ∧ mN M' = mN M ∧ mn M' = mn M ∧ mJ M' = mJ M ∧ mR M' = mR M ∧ ∀ a j, ¬ P a j → mI M' a j = mI M a j
theorem Chg.rf (P : Nat → Nat → Prop) (M : Mem) : Chg P M M := ⟨rfl, rfl, rfl, rfl, rfl, fun _ _ _ => rfl⟩
theorem Chg.tr {P : Nat → Nat → Prop} {M M1 M2 : Mem} (h : Chg P M M1) (g : Chg P M1 M2) : Chg P M M2 := ⟨g.1.trans h.1, g.2.1.trans h.2.1, g.2.2.1.trans h.2.2.1, g.2.2.2.1.trans h.2.2.2.1, g.2.2.2.2.1.trans h.2.2.2.2.1, fun a j q => (g.2.2.2.2.2 a j q).trans (h.2.2.2.2.2 a j q)⟩
theorem Chg.sI {P : Nat → Nat → Prop} {M M1 : Mem} (h : Chg P M M1) {a k : Nat} {v : Int32} (q : P a k) : Chg P M (sI M1 a k v) := h.tr ⟨rfl, rfl, rfl, rfl, rfl, fun b j g => mI_sI_ne (by
  by_cases e : b = a
  · by_cases e2 : j = k
    · subst e; subst e2; exact absurd q g
    · exact Or.inr e2
  · exact Or.inl e)⟩
theorem Chg.mono {P Q : Nat → Nat → Prop} {M M' : Mem} (h : Chg P M M') (i : ∀ a j, P a j → Q a j) : Chg Q M M' := ⟨h.1, h.2.1, h.2.2.1, h.2.2.2.1, h.2.2.2.2.1, fun a j q => h.2.2.2.2.2 a j (fun p => q (i a j p))⟩
theorem Chg.scr {P : Nat → Nat → Prop} {M M' : Mem} (h : Chg P M M') (i : ∀ a j, P a j → ScI a j) : Scr M M' := ⟨h.1, h.2.1, h.2.2.1, h.2.2.2.1, fun a j q => h.2.2.2.2.2 a j (fun p => q (i a j p)), fun a j _ => by rw [h.2.2.2.2.1]⟩
theorem Chg.i {P : Nat → Nat → Prop} {M M' : Mem} (h : Chg P M M') {a j : Nat} (q : ¬ P a j) : mI M' a j = mI M a j := h.2.2.2.2.2 a j q
theorem Chg.r {P : Nat → Nat → Prop} {M M' : Mem} (h : Chg P M M') : mR M' = mR M := h.2.2.2.2.1
theorem lowF_some {p : Nat → Bool} {k j : Nat} (h : ∃ i, j ≤ i ∧ i < j + k ∧ p i = true) : (j : Int) ≤ lowF p k j ∧ lowF p k j < j + k ∧ p (lowF p k j).toNat = true ∧ ∀ i, j ≤ i → (i : Int) < lowF p k j → p i = false := by
  rcases lowF_ge p k j with ⟨h1, h2⟩ | h1
  · obtain ⟨i, q1, q2, q3⟩ := h
    rw [h2 i q1 q2] at q3
    cases q3
  · exact h1
def msr (A : St) (ptr : Nat → Nat) : Nat → Nat
  | 0 => 0
  | k + 1 => msr A ptr k + (A.sz k - ptr k)
theorem msr_le (A : St) (hA : A.ok) (ptr : Nat → Nat) : ∀ k, msr A ptr k ≤ 120 * k := by
  intro k
  induction k with
  | zero => simp [msr]
  | succ k ih =>
    have := hA.2.2.2.1 k
    unfold msr
    omega
theorem msr_up (A : St) (ptr : Nat → Nat) {c : Nat} (hc : ptr c < A.sz c) : ∀ k, (k ≤ c → msr A (upf ptr c (ptr c + 1)) k = msr A ptr k) ∧ (c < k → msr A (upf ptr c (ptr c + 1)) k + 1 = msr A ptr k) := by
  intro k
  induction k with
  | zero => exact ⟨fun _ => rfl, fun h => by omega⟩
  | succ k ih =>
    unfold msr
    constructor
    · intro h
      have := ih.1 (by omega)
      have e : upf ptr c (ptr c + 1) k = ptr k := by unfold upf; rw [if_neg (by omega)]
      rw [e]
      omega
    · intro h
      by_cases d : c = k
      · subst d
        have := ih.1 (by omega)
        have e : upf ptr c (ptr c + 1) c = ptr c + 1 := by unfold upf; rw [if_pos rfl]
        rw [e]
        omega
      · have := ih.2 (by omega)
        have e : upf ptr c (ptr c + 1) k = ptr k := by unfold upf; rw [if_neg (by omega)]
        rw [e]
        omega
section
variable {S : Sc} {A : St} {set : Int}
/-- a leaf and the next one of the set: side by side; or the next one has one more -/
def EqP (S : Sc) (A : St) (set : Int) (ptr : Nat → Nat) (l : Nat) : Prop := A.sx l (S.levB set l) (ptr l) = A.sx (S.beh set l).toNat (S.levB set l) (ptr (S.beh set l).toNat)
def AhP (S : Sc) (A : St) (set : Int) (ptr : Nat → Nat) (l : Nat) : Prop := ∃ h, A.sx (S.beh set l).toNat (S.levB set l) (ptr (S.beh set l).toNat) = h :: A.sx l (S.levB set l) (ptr l)
def RdI (S : Sc) (A : St) (set : Int) (c : Nat) (ptr : Nat → Nat) : Prop := (c < S.nl ∧ bt (i32 set) c = true ∧ ptr c < A.sz c) ∧ (∀ l, l < S.nl → bt (i32 set) l = true → S.beh set l ≠ -1 → S.beh set l < c → EqP S A set ptr l) ∧ (∀ l, l < S.nl → bt (i32 set) l = true → S.beh set l = c → (AhP S A set ptr l ∧ A.rp c (ptr c) ≤ S.levB set l) ∨ (EqP S A set ptr l ∧ S.levB set l < A.rp c (ptr c))) ∧ (∀ d, c ≤ d → d < S.nl → bt (i32 set) d = true → S.beh set d ≠ -1 → (EqP S A set ptr d ∧ A.rp d (ptr d) ≤ S.levB set d) ∨ (AhP S A set ptr d ∧ S.levB set d < A.rp d (ptr d))) ∧ (∀ l, l < c → bt (i32 set) l = true → ptr l ≤ A.sz l ∧ (ptr l = A.sz l ∨ A.rp l (ptr l) ≤ S.levB set l)) ∧ (∀ l, l < S.nl → bt (i32 set) l = true → (c : Int) < S.beh set l → ptr (S.beh set l).toNat < A.sz (S.beh set l).toNat ∧ A.rp (S.beh set l).toNat (ptr (S.beh set l).toNat) ≤ S.levB set l)
/-- the next of the set is no further than any of it -/
theorem Sc.beh_le (hnl : S.nl ≤ 8) {l d : Nat} (h : l < d) (hd : d < S.nl) (hb : bt (i32 set) d = true) : (l : Int) < S.beh set l ∧ S.beh set l ≤ d ∧ bt (i32 set) (S.beh set l).toNat = true := by
  have := lowF_some (p := bt (i32 set)) (k := S.nl - (l + 1)) (j := l + 1) ⟨d, by omega, by omega, hb⟩
  unfold Sc.beh
  refine ⟨by omega, ?_, this.2.2.1⟩
  by_cases c : lowF (bt (i32 set)) (S.nl - (l + 1)) (l + 1) ≤ d
  · exact c
  · have q := this.2.2.2 d (by omega) (by omega)
    rw [q] at hb
    cases hb
/-- a field that repeats, around one leaf and not the other: the level of both is below it -/
theorem Sc.lev_lt (hW : S.wf) {l e f : Nat} (hl : l < S.nl) (he : e < S.nl) (hf : f < S.nf) (hk : S.kd f = 2) (h1 : S.ins (S.fo e) f = true) (h2 : ¬ S.ins (S.fo l) f = true) : S.lev l e < S.sr f := by
  have hS := hW.1
  have bl := Sc.fo_lt hS hl
  have be := Sc.fo_lt hS he
  have b := Sc.gr_lt hS (S.fo l)
  have hsr := hW.2.2.1 f hf
  rw [if_pos hk] at hsr
  have bf := Sc.gr_lt hS f
  have bs := Sc.sr_b hS (S.gr f).toNat
  unfold Sc.lev
  by_cases c : S.both l e = -1
  · rw [if_pos c, hsr]
    split <;> omega
  · rw [if_neg c]
    have hb := Sc.both_b hS l e
    have g1 := hb.2.2 c
    have g2 : S.ins (S.gr (S.fo l)) (S.both l e).toNat = true := Sc.up_ins _ c
    have g3 : S.ins (S.fo l) (S.both l e).toNat = true := (Sc.ins_eq hS (k := S.fo l) (by omega) (by omega) _).mpr (Or.inr ⟨by omega, by simpa using g2⟩)
    have hlt : (S.both l e).toNat < f := by
      by_cases d : (S.both l e).toNat < f
      · exact d
      · exfalso
        have := Sc.ins_chain hS 17 (S.fo e : Int) f (S.both l e).toNat (by omega) (by omega) (by omega) h1 g1 (by omega)
        exact h2 (Sc.ins_tr hS 17 (S.fo l : Int) (S.both l e).toNat f (by omega) (by omega) (by omega) g3 this)
    have g4 := Sc.ins_chain hS 17 (S.fo e : Int) (S.both l e).toNat f (by omega) (by omega) (by omega) g1 h1 (by omega)
    rcases (Sc.ins_eq hS (k := f) (by omega) (by omega) _).mp g4 with q | ⟨q, q2⟩
    · omega
    · simp only [Int.toNat_natCast] at q2
      have hg : S.gr f ≠ -1 := by
        intro w
        rw [w, Sc.ins_m1 hS] at q2
        cases q2
      have := Sc.sr_in hW (k := S.gr f) (g := (S.both l e).toNat) bf.1 (by omega) q2
      rw [if_neg hg] at hsr
      omega
theorem upf_ne {α : Type} (c : Nat → α) {i k : Nat} (v : α) (h : k ≠ i) : upf c i v k = c k := if_neg h
theorem upf_eq {α : Type} (c : Nat → α) (i : Nat) (v : α) : upf c i v i = v := if_pos rfl
/-- the level behind the entry that is read -/
def rdX (A : St) (c p : Nat) : Int := if p < A.sz c then A.rp c p else 0
theorem RdI.step (hW : S.wf) (hA : A.ok) (hk : chkOk S A) {c : Nat} {ptr : Nat → Nat} (h : RdI S A set c ptr) : (0 ≤ rdX A c (ptr c + 1) ∧ rdX A c (ptr c + 1) ≤ S.sr (S.fo c)) ∧ (S.nxt set c (rdX A c (ptr c + 1)) = -1 ∨ (0 ≤ S.nxt set c (rdX A c (ptr c + 1)) ∧ RdI S A set (S.nxt set c (rdX A c (ptr c + 1))).toNat (upf ptr c (ptr c + 1)))) := by
  have hS := hW.1
  have hnl := hS.2.1
  obtain ⟨⟨hc, hbc, hpc⟩, J1, J2, J3, J5, J6⟩ := h
  have hx : 0 ≤ rdX A c (ptr c + 1) ∧ rdX A c (ptr c + 1) ≤ S.sr (S.fo c) := by
    unfold rdX
    have b := Sc.sr_b hS (S.fo c)
    split
    · rename_i q
      have b1 := hA.1 c (ptr c + 1)
      have w := (hk c hc).1 (ptr c + 1) q
      refine ⟨b1.1, ?_⟩
      unfold wrongS at w
      split at w
      · omega
      · omega
    · omega
  refine ⟨hx, ?_⟩
  generalize hp' : upf ptr c (ptr c + 1) = p'
  generalize hxx : rdX A c (ptr c + 1) = x at hx ⊢
  have pc : p' c = ptr c + 1 := by rw [← hp']; exact upf_eq _ _ _
  have pn : ∀ l, l ≠ c → p' l = ptr l := fun l q => by rw [← hp']; exact upf_ne _ _ q
  have hlb := Sc.levB_b hS set c
  -- the pair that ends here
  have EQc : ∀ l, l < S.nl → bt (i32 set) l = true → S.beh set l = c → EqP S A set p' l := by
    intro l hl hb hbe
    have hbb := Sc.beh_b (S := S) set l
    have hlc : l ≠ c := by omega
    have q := J2 l hl hb hbe
    unfold EqP AhP at *
    rw [hbe] at q ⊢
    simp only [Int.toNat_natCast] at q ⊢
    rw [pc, pn l hlc]
    rw [A.sx_step hpc] at q
    rcases q with ⟨⟨h, q1⟩, q2⟩ | ⟨q1, q2⟩
    · rw [if_pos q2] at q1
      exact (List.cons.inj q1).2.symm
    · rw [if_neg (by omega)] at q1
      exact q1
  -- the pair that begins here
  have AHc : S.beh set c ≠ -1 → AhP S A set p' c := by
    intro hne
    have hbb := Sc.beh_b (S := S) set c
    have q := J3 c (Nat.le_refl _) hc hbc hne
    have hn : (S.beh set c).toNat ≠ c := by omega
    unfold EqP AhP at *
    rw [pc, pn _ hn]
    rw [A.sx_step hpc] at q
    rcases q with ⟨q1, q2⟩ | ⟨⟨h, q1⟩, q2⟩
    · rw [if_pos q2] at q1
      exact ⟨_, q1.symm⟩
    · rw [if_neg (by omega)] at q1
      exact ⟨_, q1⟩
  have EQo : ∀ l, l ≠ c → (S.beh set l).toNat ≠ c → EqP S A set ptr l → EqP S A set p' l := by
    intro l q1 q2 q
    unfold EqP at *
    rw [pn _ q1, pn _ q2]
    exact q
  have AHo : ∀ l, l ≠ c → (S.beh set l).toNat ≠ c → AhP S A set ptr l → AhP S A set p' l := by
    intro l q1 q2 q
    unfold AhP at *
    rw [pn _ q1, pn _ q2]
    exact q
  -- all pairs up to here
  have EQl : ∀ l, l < c → bt (i32 set) l = true → EqP S A set p' l := by
    intro l hl hb
    have hbb := Sc.beh_le hnl (set := set) hl hc hbc
    by_cases q : S.beh set l = c
    · exact EQc l (by omega) hb q
    · exact EQo l (by omega) (by omega) (J1 l (by omega) hb (by omega) (by omega))
  have hbc2 := Sc.beh_b (S := S) set c
  by_cases d : x ≤ S.levB set c
  · have e : S.nxt set c x = S.beh set c := by unfold Sc.nxt; rw [if_pos d]
    rw [e]
    rcases hbc2 with q | ⟨q1, q2, q3⟩
    · exact Or.inl q
    · right
      obtain ⟨n, hn⟩ : ∃ n : Nat, S.beh set c = n := ⟨(S.beh set c).toNat, by omega⟩
      have j6 := J6 c hc hbc q1
      rw [hn] at q1 q2 q3 j6 ⊢
      simp only [Int.toNat_natCast] at q3 j6 ⊢
      refine ⟨by omega, ⟨by omega, q3, by rw [pn n (by omega)]; exact j6.1⟩, ?_, ?_, ?_, ?_, ?_⟩
      · intro l hl hb hne hlt
        have hbl := Sc.beh_b (S := S) set l
        by_cases w : l < c
        · exact EQl l w hb
        · exfalso
          by_cases w2 : l = c
          · subst w2; omega
          · have := Sc.beh_le hnl (set := set) (show c < l by omega) hl hb
            omega
      · intro l hl hb hbe
        have w : l = c := by
          have hbl := Sc.beh_b (S := S) set l
          by_cases w : l = c
          · exact w
          · exfalso
            by_cases w2 : l < c
            · have := Sc.beh_le hnl (set := set) w2 hc hbc
              omega
            · have := Sc.beh_le hnl (set := set) (show c < l by omega) hl hb
              omega
        subst w
        left
        refine ⟨AHc (by omega), ?_⟩
        rw [pn n (by omega)]
        exact j6.2
      · intro d' h1 h2 h3 h4
        have hbl := Sc.beh_b (S := S) set d'
        have := J3 d' (by omega) h2 h3 h4
        rw [pn d' (by omega)]
        rcases this with ⟨w1, w2⟩ | ⟨w1, w2⟩
        · exact Or.inl ⟨EQo d' (by omega) (by omega) w1, w2⟩
        · exact Or.inr ⟨AHo d' (by omega) (by omega) w1, w2⟩
      · intro l hl hb
        by_cases w : l = c
        · subst w
          rw [pc]
          refine ⟨by omega, ?_⟩
          unfold rdX at hxx
          split at hxx
          · right; omega
          · left; omega
        · have w2 : l < c := by
            by_cases w2 : l < c
            · exact w2
            · exfalso
              have := Sc.beh_le hnl (set := set) (show c < l by omega) (by omega) hb
              omega
          rw [pn l w]
          exact J5 l w2 hb
      · intro l hl hb hlt
        have := J6 l hl hb (by omega)
        rw [pn _ (by omega)]
        exact this
  · have hpx : ptr c + 1 < A.sz c ∧ A.rp c (ptr c + 1) = x := by
      unfold rdX at hxx
      split at hxx
      · exact ⟨by assumption, hxx⟩
      · omega
    have hm := Sc.many_ok hW hc (x := x) (by omega) hx.2
    have hmb := Sc.many_b hS c x
    obtain ⟨f, hf⟩ : ∃ f : Nat, S.many c x = f := ⟨(S.many c x).toNat, by omega⟩
    have hmi := Sc.ins_many hm
    have hmk := hmb.2.2 hm
    rw [hf] at hmi hmk hmb
    simp only [Int.toNat_natCast] at hmi hmk
    have hfo := Sc.fo_lt hS hc
    have hfn : f < S.nf := by omega
    have e : S.nxt set c x = lowF (fun o => bt (i32 set) o && S.ins (S.fo o) f) S.nl 0 := by unfold Sc.nxt; rw [if_neg d, hf]; rfl
    have hlo := lowF_some (p := fun o => bt (i32 set) o && S.ins (S.fo o) f) (k := S.nl) (j := 0) ⟨c, by omega, by omega, by rw [hbc, hmi]; rfl⟩
    rw [e]
    obtain ⟨g, hg⟩ : ∃ g : Nat, lowF (fun o => bt (i32 set) o && S.ins (S.fo o) f) S.nl 0 = g := ⟨(lowF (fun o => bt (i32 set) o && S.ins (S.fo o) f) S.nl 0).toNat, by omega⟩
    rw [hg] at hlo ⊢
    obtain ⟨hg0, hg1, hg2, hg3⟩ := hlo
    simp only [Int.toNat_natCast, Bool.and_eq_true] at hg2 ⊢
    have hgc : g ≤ c := by
      by_cases w : g ≤ c
      · exact w
      · have := hg3 c (by omega) (by omega)
        rw [hbc, hmi] at this
        cases this
    have hin : ∀ m, g ≤ m → m ≤ c → S.ins (S.fo m) f = true := fun m w1 w2 => Sc.conv hW w1 w2 hc hg2.2 hmi
    have hlevm : ∀ m, g ≤ m → m < c → bt (i32 set) m = true → x ≤ S.levB set m ∧ (m : Int) < S.beh set m ∧ S.beh set m ≤ c ∧ bt (i32 set) (S.beh set m).toNat = true := by
      intro m w1 w2 w3
      have hbb := Sc.beh_le hnl (set := set) w2 hc hbc
      refine ⟨?_, hbb⟩
      have := Sc.lev_ge hW (l := m) (m := (S.beh set m).toNat) (f := f) (by omega) (by omega) (by omega) (hin m w1 (by omega)) (hin _ (by omega) (by omega))
      unfold Sc.levB
      rw [if_neg (by omega)]
      omega
    -- all of the set from g to c stand at an entry of rep x
    have hch : ∀ (q m : Nat), c - m ≤ q → g ≤ m → m ≤ c → bt (i32 set) m = true → p' m < A.sz m ∧ A.rp m (p' m) = x := by
      intro q
      induction q with
      | zero =>
        intro m w1 w2 w3 w4
        have : m = c := by omega
        subst this
        rw [pc]
        exact hpx
      | succ q ih =>
        intro m w1 w2 w3 w4
        by_cases w : m = c
        · subst w
          rw [pc]
          exact hpx
        · have hl := hlevm m w2 (by omega) w4
          have i := ih (S.beh set m).toNat (by omega) (by omega) (by omega) hl.2.2.2
          have q1 := EQl m (by omega) w4
          have q2 := J5 m (by omega) w4
          unfold EqP at q1
          rw [A.sx_step i.1, if_pos (by omega)] at q1
          rw [← pn m w] at q2
          by_cases w5 : p' m < A.sz m
          · rcases q2.2 with q3 | q3
            · omega
            · rw [A.sx_step w5, if_pos q3] at q1
              exact ⟨w5, by have := (List.cons.inj q1).1; omega⟩
          · rw [A.sx_end (by omega)] at q1
            cases q1
    right
    have hgx := hch c g (by omega) (Nat.le_refl _) hgc hg2.1
    refine ⟨by omega, ⟨by omega, hg2.1, hgx.1⟩, ?_, ?_, ?_, ?_, ?_⟩
    · intro l hl hb hne hlt
      have hbl := Sc.beh_b (S := S) set l
      exact EQl l (by omega) hb
    · intro l hl hb hbe
      have hbl := Sc.beh_b (S := S) set l
      right
      refine ⟨EQl l (by omega) hb, ?_⟩
      have hni : ¬ S.ins (S.fo l) f = true := by
        intro w
        have := hg3 l (by omega) (by omega)
        rw [hb, w] at this
        cases this
      have := Sc.lev_lt hW (l := l) (e := g) hl (by omega) hfn hmk.1 hg2.2 hni
      unfold Sc.levB
      rw [if_neg (by omega), hbe, Int.toNat_natCast]
      omega
    · intro d' h1 h2 h3 h4
      have hbl := Sc.beh_b (S := S) set d'
      by_cases w : d' < c
      · left
        have q1 := hlevm d' h1 w h3
        have q2 := hch c d' (by omega) h1 (by omega) h3
        exact ⟨EQl d' w h3, by omega⟩
      · by_cases w2 : d' = c
        · subst w2
          right
          refine ⟨AHc h4, ?_⟩
          rw [pc]
          omega
        · have := J3 d' (by omega) h2 h3 h4
          rw [pn d' (by omega)]
          rcases this with ⟨w1, w2⟩ | ⟨w1, w2⟩
          · exact Or.inl ⟨EQo d' (by omega) (by omega) w1, w2⟩
          · exact Or.inr ⟨AHo d' (by omega) (by omega) w1, w2⟩
    · intro l hl hb
      rw [pn l (by omega)]
      exact J5 l (by omega) hb
    · intro l hl hb hlt
      have hbl := Sc.beh_b (S := S) set l
      by_cases w : S.beh set l ≤ c
      · have w2 : g ≤ l := by
          by_cases w2 : g ≤ l
          · exact w2
          · exfalso
            have := Sc.beh_le hnl (set := set) (show l < g by omega) (by omega) hg2.1
            omega
        have q1 := hlevm l w2 (by omega) hb
        have q2 := hch c (S.beh set l).toNat (by omega) (by omega) (by omega) q1.2.2.2
        exact ⟨q2.1, by omega⟩
      · have := J6 l hl hb (by omega)
        rw [pn _ (by omega)]
        exact this
/-- the 0s of all leaves stand side by side -/
theorem rq_zero (rp : Nat → Int) (h : ∀ j, 0 ≤ rp j) : ∀ (k j : Nat), rqF rp 0 k j = List.replicate (cnt (fun i => decide (rp i = 0)) k j) 0 := by
  intro k
  induction k with
  | zero => intro j; rfl
  | succ k ih =>
    intro j
    have b := h j
    unfold rqF cnt
    by_cases c : rp j = 0
    · simp only [c, decide_true, if_true, Int.le_refl]
      rw [ih, Nat.add_comm 1, List.replicate_succ]
    · rw [if_neg (by omega), ih]
      simp [c]
theorem top_eq (hA : A.ok) (hk : chkOk S A) {r : Int} (h0 : 0 ≤ r) (h1 : r < A.rc) {l m : Nat} (hl : l < S.nl) (hm : m < S.nl) : A.sx l 0 (fst0 A r l) = A.sx m 0 (fst0 A r m) := by
  have a1 := fst0_b hk h0 h1 hl
  have a2 := fst0_b hk h0 h1 hm
  have e1 := ff_dz (A.rp l) r (Int.le_refl 0) (A.sz l) 0 0 (by omega)
  have e2 := ff_dz (A.rp m) r (Int.le_refl 0) (A.sz m) 0 0 (by omega)
  rw [a1.1] at e1
  rw [a2.1] at e2
  simp only [Int.toNat_natCast, Nat.sub_zero] at e1 e2
  have z1 := (hk l hl).2.1
  have z2 := (hk m hm).2.1
  unfold St.zs at z1 z2
  unfold St.sx
  rw [e1, e2, rq_zero _ (fun j => (hA.1 l j).1), rq_zero _ (fun j => (hA.1 m j).1), z1, z2]
theorem RdI.start (hW : S.wf) (hA : A.ok) (hk : chkOk S A) {r : Int} (h0 : 0 ≤ r) (h1 : r < A.rc) {c : Nat} (hc : c < S.nl) (hb : bt (i32 set) c = true) (hf : ∀ i, i < c → bt (i32 set) i = false) : RdI S A set c (fst0 A r) := by
  have hS := hW.1
  have hnl := hS.2.1
  have fb := fun l hl => fst0_b hk h0 h1 (l := l) hl
  have lb := fun l => Sc.levB_b hS set l
  have hlc : ∀ l, bt (i32 set) l = true → c ≤ l := by
    intro l hb2
    by_cases w : c ≤ l
    · exact w
    · have := hf l (by omega)
      rw [this] at hb2
      cases hb2
  refine ⟨⟨hc, hb, (fb c hc).2.1⟩, ?_, ?_, ?_, ?_, ?_⟩
  · intro l hl hb2 hne hlt
    have := Sc.beh_b (S := S) set l
    have := hlc l hb2
    omega
  · intro l hl hb2 hbe
    have := Sc.beh_b (S := S) set l
    have := hlc l hb2
    omega
  · intro d h2 h3 h4 h5
    left
    have hbb := Sc.beh_b (S := S) set d
    have fd := fb d h3
    have fn := fb (S.beh set d).toNat (by omega)
    have := lb d
    refine ⟨?_, by omega⟩
    unfold EqP
    have hS2 := Sc.both_b hS d (S.beh set d).toNat
    have bf := Sc.fo_lt hS h3
    have e : S.levB set d = S.lev d (S.beh set d).toNat := by unfold Sc.levB; rw [if_neg h5]
    rw [e]
    unfold Sc.lev
    by_cases w : S.both d (S.beh set d).toNat = -1
    · rw [if_pos w]
      exact top_eq hA hk h0 h1 h3 (by omega)
    · rw [if_neg w]
      have g2 : S.ins (S.gr (S.fo d)) (S.both d (S.beh set d).toNat).toNat = true := Sc.up_ins _ w
      have g3 : S.ins (S.fo d) (S.both d (S.beh set d).toNat).toNat = true := (Sc.ins_eq hS (k := S.fo d) (by omega) (by omega) _).mpr (Or.inr ⟨by omega, by simpa using g2⟩)
      exact (Al_start hW hk h0 h1).2 _ d (S.beh set d).toNat (by omega) (Or.inl rfl) h3 (by omega) g3 (hS2.2.2 w)
  · intro l hl hb2
    have := hlc l hb2
    omega
  · intro l hl hb2 hlt
    have hbb := Sc.beh_b (S := S) set l
    have fn := fb (S.beh set l).toNat (by omega)
    have := lb l
    exact ⟨fn.2.1, by omega⟩
/-- how many entries the machine reads -/
def rdF (S : Sc) (A : St) (set : Int) : Nat → Int → (Nat → Nat) → Nat → Nat
  | 0, _, _, r => r
  | k + 1, c, ptr, r => if c = -1 then r else rdF S A set k (S.nxt set c.toNat (rdX A c.toNat (ptr c.toNat + 1))) (upf ptr c.toNat (ptr c.toNat + 1)) (r + 1)
end
