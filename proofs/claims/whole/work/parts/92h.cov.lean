/-! COVER, the greatest levels, how many entries -/
def bcN (k : Nat) : Nat := cnt (fun i => k.testBit i) 8 0
def bcJ (v : Int32) : Int32 := ((f_J6_bitCount_0f7a4 v M00).map (fun p => p.1)).getD 0
theorem J6_e (v : Int32) (M : Mem) : f_J6_bitCount_0f7a4 v M = some (bcJ v, M) := rfl
theorem J6_bc {k : Nat} (h : k < 256) (M : Mem) : f_J6_bitCount_0f7a4 (i32 k) M = some (i32 (bcN k), M) := by
  have : ∀ k : Fin 256, bcJ (i32 (k.val : Int)) = i32 (bcN k.val) := by decide +kernel
  rw [J6_e, this ⟨k, h⟩]
def bcG : Nat → Int32 → Int32 → Option Int32
  | 0, _, _ => none
  | n + 1, a, b => if b = 0 then some a else bcG n (a + 1) (b &&& (b - 1))
theorem bitsOf_G (M : Mem) : ∀ (n : Nat) (a b : Int32), f_X12_bitsOf_4 n a b M = (bcG n a b).map (fun r => (r, M)) := by
  intro n
  induction n with
  | zero => intro a b; rfl
  | succ n ih =>
    intro a b
    unfold f_X12_bitsOf_4 bcG
    by_cases c : b = 0
    · simp [c]
    · rw [if_neg c, if_neg c]
      exact ih _ _
theorem bcG_mono : ∀ (n m : Nat) (a b r : Int32), bcG n a b = some r → bcG (n + m) a b = some r := by
  intro n
  induction n with
  | zero => intro m a b r h; cases h
  | succ n ih =>
    intro m a b r h
    rw [show n + 1 + m = (n + m) + 1 by omega]
    unfold bcG at h ⊢
    by_cases c : b = 0
    · rw [if_pos c] at h ⊢; exact h
    · rw [if_neg c] at h ⊢; exact ih m _ _ r h
theorem X12_bitsOf {k : Nat} (h : k < 256) (M : Mem) : f_X12_bitsOf (i32 k) M = some (i32 (bcN k), M) := by
  have : ∀ k : Fin 256, bcG 9 0 (i32 (k.val : Int)) = some (i32 (bcN k.val)) := by decide +kernel
  have h2 := bcG_mono 9 999991 0 (i32 k) _ (this ⟨k, h⟩)
  unfold f_X12_bitsOf
  rw [bitsOf_G, show FUEL = 9 + 999991 from rfl, h2]
  rfl
theorem bcN_le (k : Nat) : bcN k ≤ 8 := cnt_le _ 8 0
theorem anyB_iff (p : Nat → Bool) : ∀ (k j : Nat), anyB p k j = true ↔ ∃ i, j ≤ i ∧ i < j + k ∧ p i = true := by
  intro k
  induction k with
  | zero => intro j; simp [anyB]; intro i h1 h2; omega
  | succ k ih =>
    intro j
    unfold anyB
    by_cases c : p j = true
    · rw [if_pos c]
      simp only [true_iff]
      exact ⟨j, by omega, by omega, c⟩
    · rw [if_neg c, ih (j + 1)]
      constructor
      · rintro ⟨i, h1, h2, h3⟩
        exact ⟨i, by omega, by omega, h3⟩
      · rintro ⟨i, h1, h2, h3⟩
        have : i ≠ j := fun q => c (q ▸ h3)
        exact ⟨i, by omega, by omega, h3⟩
theorem and_zero {x y : Int32} : (x &&& y = i32 0) ↔ ∀ i, i < 32 → (bt x i && bt y i) = false := by
  constructor
  · intro h i hi
    rw [← bt_and, h, bt_zero]
  · intro h
    apply bt_ext
    intro i hi
    rw [bt_and, bt_zero, h i hi]
section
variable {M : Mem} {s : Nat} {S : Sc} {A : St}
theorem Sc.ins_tr (hS : S.ok) : ∀ (n : Nat) (k : Int) (g h : Nat), k < n → -1 ≤ k → k ≤ 16 → S.ins k g = true → S.ins g h = true → S.ins k h = true := by
  intro n
  induction n with
  | zero =>
    intro k g h h1 h2 h3 h4 h5
    have : k = -1 := by omega
    subst this
    rw [Sc.ins_m1 hS] at h4
    cases h4
  | succ n ih =>
    intro k g h h1 h2 h3 h4 h5
    rcases (Sc.ins_eq hS h2 h3 g).mp h4 with e | ⟨e, e2⟩
    · rw [e]; exact h5
    · have b := Sc.gr_lt hS k.toNat
      exact (Sc.ins_eq hS h2 h3 h).mpr (Or.inr ⟨e, ih (S.gr k.toNat) g h (by omega) b.1 (by omega) e2 h5⟩)
/-- each field has a leaf in it -/
theorem Sc.has_leaf (hW : S.wf) : ∀ (n f : Nat), S.nf - f ≤ n → f < S.nf → ∃ l, l < S.nl ∧ S.ins (S.fo l) f = true := by
  have hS := hW.1
  have hn := hS.1
  intro n
  induction n with
  | zero => intro f h1 h2; omega
  | succ n ih =>
    intro f h1 h2
    by_cases c : S.lf f = -1
    · have w := hW.2.2.2.2.1 f h2 c
      obtain ⟨l, hl, hi⟩ := ih (f + 1) (by omega) w.1
      have hf := Sc.fo_lt hS hl
      refine ⟨l, hl, Sc.ins_tr hS 17 (S.fo l) (f + 1) f (by omega) (by omega) (by omega) hi ?_⟩
      refine (Sc.ins_eq hS (by omega) (by omega) f).mpr (Or.inr ⟨by omega, ?_⟩)
      simp only [Int.toNat_natCast]
      rw [w.2]
      exact Sc.ins_self hS (by omega)
    · have w := hW.2.2.2.2.2.1 f h2 c
      have b := Sc.lf_b hS f
      refine ⟨(S.lf f).toNat, by omega, ?_⟩
      rw [w.2]
      exact Sc.ins_self hS (by omega)
def Sc.hasL (S : Sc) (f k : Nat) : Bool := anyB (fun l => k.testBit l && S.ins (S.fo l) f) S.nl 0
def Sc.covF (S : Sc) (k : Nat) : Nat → Nat → Bool
  | 0, _ => true
  | n + 1, f => if S.kd f = 0 ∨ S.hasL f k = true then covF S k n (f + 1) else false
def Sc.cov (S : Sc) (k : Nat) : Bool := S.covF k S.nf 0
theorem Sc.cov_full (hW : S.wf) : S.cov (2 ^ S.nl - 1) = true := by
  have key : ∀ (n f : Nat), f + n = S.nf → S.covF (2 ^ S.nl - 1) n f = true := by
    intro n
    induction n with
    | zero => intro f _; rfl
    | succ n ih =>
      intro f h
      unfold Sc.covF
      have : S.hasL f (2 ^ S.nl - 1) = true := by
        obtain ⟨l, hl, hi⟩ := Sc.has_leaf hW S.nf f (by omega) (by omega)
        refine (anyB_iff _ _ _).mpr ⟨l, by omega, by omega, ?_⟩
        simp [Nat.testBit_two_pow_sub_one, hl, hi]
      rw [if_pos (Or.inr this)]
      exact ih (f + 1) (by omega)
  exact key S.nf 0 (by omega)
def covC (cov : Nat → Bool) : Nat → Nat → Nat
  | 0, b => b
  | k + 1, b => if bcN k ≤ bcN b ∧ cov k = true then covC cov k k else covC cov k b
def covR (cov : Nat → Bool) : Nat → Nat → Int → Int
  | 0, _, b => b
  | k + 1, j, b => if (b = -1 ∨ bcN j < bcN b.toNat) ∧ cov j = true then covR cov k (j + 1) j else covR cov k (j + 1) b
theorem covC_spec (cov : Nat → Bool) (N : Nat) : ∀ (k b : Nat), k ≤ N → k ≤ b → b < N → cov b = true → (∀ m, k ≤ m → m < N → cov m = true → bcN b < bcN m ∨ (bcN b = bcN m ∧ b ≤ m)) → covC cov k b < N ∧ cov (covC cov k b) = true ∧ ∀ m, m < N → cov m = true → bcN (covC cov k b) < bcN m ∨ (bcN (covC cov k b) = bcN m ∧ covC cov k b ≤ m) := by
  intro k
  induction k with
  | zero => intro b h1 h2 h3 h4 h5; exact ⟨h3, h4, fun m hm hc => h5 m (by omega) hm hc⟩
  | succ k ih =>
    intro b h1 h2 h3 h4 h5
    unfold covC
    by_cases c : bcN k ≤ bcN b ∧ cov k = true
    · rw [if_pos c]
      refine ih k (by omega) (by omega) (by omega) c.2 (fun m q1 q2 q3 => ?_)
      by_cases e : m = k
      · subst e; right; omega
      · have := h5 m (by omega) q2 q3; omega
    · rw [if_neg c]
      refine ih b (by omega) (by omega) h3 h4 (fun m q1 q2 q3 => ?_)
      by_cases e : m = k
      · subst e
        left
        have : ¬ (bcN m ≤ bcN b) := fun q => c ⟨q, q3⟩
        omega
      · exact h5 m (by omega) q2 q3
theorem covR_spec (cov : Nat → Bool) (N : Nat) : ∀ (k j : Nat) (b : Int), j + k = N → -1 ≤ b → b < j → (b ≠ -1 → cov b.toNat = true) → (∀ m, m < j → cov m = true → b ≠ -1 ∧ (bcN b.toNat < bcN m ∨ (bcN b.toNat = bcN m ∧ b.toNat ≤ m))) → -1 ≤ covR cov k j b ∧ covR cov k j b < N ∧ (covR cov k j b ≠ -1 → cov (covR cov k j b).toNat = true) ∧ ∀ m, m < N → cov m = true → covR cov k j b ≠ -1 ∧ (bcN (covR cov k j b).toNat < bcN m ∨ (bcN (covR cov k j b).toNat = bcN m ∧ (covR cov k j b).toNat ≤ m)) := by
  intro k
  induction k with
  | zero =>
    intro j b h1 h2 h3 h4 h5
    exact ⟨h2, by unfold covR; omega, h4, fun m hm hc => h5 m (by omega) hc⟩
  | succ k ih =>
    intro j b h1 h2 h3 h4 h5
    unfold covR
    by_cases c : (b = -1 ∨ bcN j < bcN b.toNat) ∧ cov j = true
    · rw [if_pos c]
      refine ih (j + 1) j (by omega) (by omega) (by omega) (fun _ => by simpa using c.2) (fun m q1 q2 => ?_)
      refine ⟨by omega, ?_⟩
      simp only [Int.toNat_natCast]
      by_cases e : m = j
      · subst e; right; omega
      · have := h5 m (by omega) q2
        rcases c.1 with c1 | c1
        · exact absurd c1 this.1
        · omega
    · rw [if_neg c]
      refine ih (j + 1) b (by omega) (by omega) (by omega) h4 (fun m q1 q2 => ?_)
      by_cases e : m = j
      · subst e
        have c2 : ¬ (b = -1 ∨ bcN m < bcN b.toNat) := fun q => c ⟨q, q2⟩
        omega
      · exact h5 m (by omega) q2
def Sc.cover (S : Sc) : Nat := covC S.cov (2 ^ S.nl) (2 ^ S.nl - 1)
theorem pow8n {k : Nat} (h : k ≤ 8) : 1 ≤ 2 ^ k ∧ 2 ^ k ≤ 256 := by
  have hc : k = 0 ∨ k = 1 ∨ k = 2 ∨ k = 3 ∨ k = 4 ∨ k = 5 ∨ k = 6 ∨ k = 7 ∨ k = 8 := by omega
  rcases hc with rfl | rfl | rfl | rfl | rfl | rfl | rfl | rfl | rfl <;> decide
theorem cover_eq (hW : S.wf) : covR S.cov (2 ^ S.nl) 0 (-1) = S.cover := by
  have p := pow8n hW.1.2.1
  have f := Sc.cov_full hW
  have h1 := covC_spec S.cov (2 ^ S.nl) (2 ^ S.nl) (2 ^ S.nl - 1) (by omega)
  have h2 := covR_spec S.cov (2 ^ S.nl) (2 ^ S.nl) 0 (-1) (by omega) (by omega) (by omega) (fun h => absurd rfl h) (fun m hm => by omega)
  have h0 : S.cover = covC S.cov (2 ^ S.nl - 1) (2 ^ S.nl - 1) := by
    unfold Sc.cover
    obtain ⟨q, hq⟩ : ∃ q, 2 ^ S.nl = q + 1 := ⟨2 ^ S.nl - 1, by omega⟩
    rw [hq]
    conv => lhs; unfold covC
    rw [show q + 1 - 1 = q by omega]
    split <;> rfl
  have h3 := covC_spec S.cov (2 ^ S.nl) (2 ^ S.nl - 1) (2 ^ S.nl - 1) (by omega) (by omega) (by omega) f (fun m q1 q2 q3 => by
    have e : m = 2 ^ S.nl - 1 := by omega
    rw [e]
    exact Or.inr ⟨rfl, Nat.le_refl _⟩)
  rw [← h0] at h3
  obtain ⟨a1, a2, a3⟩ := h3
  obtain ⟨b1, b2, b3, b4⟩ := h2
  have e1 := b4 S.cover a1 a2
  have e2 := a3 (covR S.cov (2 ^ S.nl) 0 (-1)).toNat (by omega) (b3 e1.1)
  omega
theorem X5_tellsShapes (hW : S.wf) (hL : ShLay M s) (hC : CSh M s S) {k : Nat} (hk : k < 256) : f_X5_tellsShapes s (i32 k) M = some (if S.cov k = true then i32 1 else i32 0, M) := by
  have hS := hW.1
  have hn := hS.1
  have hnl := hS.2.1
  obtain ⟨c0, c1, ck, cg, cl, cd, cr, -, -, -, cb, -, cf⟩ := hC
  have hz : ∀ f, f < S.nf → ((mI M (s + 9) f &&& i32 k = i32 0) ↔ ¬ S.hasL f k = true) := by
    intro f hf
    rw [and_zero]
    unfold Sc.hasL
    rw [anyB_iff]
    constructor
    · rintro h ⟨l, -, h2, h3⟩
      have := h l (by omega)
      rw [cb f l hf (by omega), bt_nat (by omega) (by omega)] at this
      simp [show l < S.nl by omega] at this h3
      rw [this h3.2] at h3
      exact absurd h3.1 (by simp)
    · intro h i hi
      rw [cb f i hf hi, bt_nat (by omega) hi]
      by_cases c : i < S.nl
      · by_cases d : (k.testBit i && S.ins (S.fo i) f) = true
        · exact absurd ⟨i, by omega, by omega, d⟩ h
        · simp [c] at d ⊢
          intro q
          cases e : k.testBit i
          · rfl
          · exact absurd (d e) (by simp [q])
      · simp [c]
  have H : ∀ (q j n : Nat), j + q = S.nf → q < n → f_X5_tellsShapes_2 n s (i32 k) (i32 j) M = some (if S.covF k q j = true then i32 1 else i32 0, M) := by
    intro q
    induction q with
    | zero =>
      intro j n hj hn
      obtain ⟨n, rfl⟩ : ∃ m, n = m + 1 := ⟨n - 1, by omega⟩
      simp (disch := omega) only [add_i0, cast_add1, cast_sub1, toNat120, i32_lit, i32_neg, i32_add, i32_sub, i32_mul, i32_nat, i32_le, i32_lt, i32_eq, inB_i, Int.toNat_natCast, mI_sI_eq, mI_sI_ne, mR_sR_eq, mR_sR_ne, mI_sR, mR_sI, mK_sI, mN_sI, mn_sI, mJ_sI, mK_sR, mN_sR, mn_sR, mJ_sR, mI_wI, mR_wI, mK_wI, mN_wI, mn_wI, mJ_wI, ↓bnd_of, ↓bndX_r, ↓bndX_l, ↓ap_of, bnd_of, bndX_r, bndX_l, if_true, if_false, ite_true, ite_false, not_true_eq_false, not_false_eq_true, Nat.reduceAdd, Nat.reduceMul, Nat.reduceEqDiff, Int.reduceToNat, Int.reduceNeg, Ilt_t, Ilt_f, Ile_t, Ile_f, Ieq_t, Ieq_f, Nlt_t, Nlt_f, Nle_t, Nle_f, Neq_t, Neq_f, or_true, true_or, or_false, false_or, and_true, true_and, and_false, false_and, ne_eq, or_self, and_self, decide_true, decide_false, Bool.false_eq_true, f_X5_tellsShapes_2, Sc.covF, hL.o, c0]
    | succ q ih =>
      intro j n hj hn
      obtain ⟨n, rfl⟩ : ∃ m, n = m + 1 := ⟨n - 1, by omega⟩
      have bk := Sc.kd_b hS j
      have hzj := hz j (by omega)
      unfold Sc.covF
      by_cases d : S.kd j = 0
      · rw [if_pos (Or.inl d)]
        simp (disch := omega) only [add_i0, cast_add1, cast_sub1, toNat120, i32_lit, i32_neg, i32_add, i32_sub, i32_mul, i32_nat, i32_le, i32_lt, i32_eq, inB_i, Int.toNat_natCast, mI_sI_eq, mI_sI_ne, mR_sR_eq, mR_sR_ne, mI_sR, mR_sI, mK_sI, mN_sI, mn_sI, mJ_sI, mK_sR, mN_sR, mn_sR, mJ_sR, mI_wI, mR_wI, mK_wI, mN_wI, mn_wI, mJ_wI, ↓bnd_of, ↓bndX_r, ↓bndX_l, ↓ap_of, bnd_of, bndX_r, bndX_l, if_true, if_false, ite_true, ite_false, not_true_eq_false, not_false_eq_true, Nat.reduceAdd, Nat.reduceMul, Nat.reduceEqDiff, Int.reduceToNat, Int.reduceNeg, Ilt_t, Ilt_f, Ile_t, Ile_f, Ieq_t, Ieq_f, Nlt_t, Nlt_f, Nle_t, Nle_f, Neq_t, Neq_f, or_true, true_or, or_false, false_or, and_true, true_and, and_false, false_and, ne_eq, or_self, and_self, decide_true, decide_false, Bool.false_eq_true, f_X5_tellsShapes_2, f_X5_tellsShapes_32, hL.o, c0, ck, d, ih]
      · by_cases e : S.hasL j k = true
        · rw [if_pos (Or.inr e)]
          have e2 : (mI M (s + 9) j &&& i32 k = i32 0) = False := eq_false (fun q => hzj.mp q e)
          simp (disch := omega) only [add_i0, cast_add1, cast_sub1, toNat120, i32_lit, i32_neg, i32_add, i32_sub, i32_mul, i32_nat, i32_le, i32_lt, i32_eq, inB_i, Int.toNat_natCast, mI_sI_eq, mI_sI_ne, mR_sR_eq, mR_sR_ne, mI_sR, mR_sI, mK_sI, mN_sI, mn_sI, mJ_sI, mK_sR, mN_sR, mn_sR, mJ_sR, mI_wI, mR_wI, mK_wI, mN_wI, mn_wI, mJ_wI, ↓bnd_of, ↓bndX_r, ↓bndX_l, ↓ap_of, bnd_of, bndX_r, bndX_l, if_true, if_false, ite_true, ite_false, not_true_eq_false, not_false_eq_true, Nat.reduceAdd, Nat.reduceMul, Nat.reduceEqDiff, Int.reduceToNat, Int.reduceNeg, Ilt_t, Ilt_f, Ile_t, Ile_f, Ieq_t, Ieq_f, Nlt_t, Nlt_f, Nle_t, Nle_f, Neq_t, Neq_f, or_true, true_or, or_false, false_or, and_true, true_and, and_false, false_and, ne_eq, or_self, and_self, decide_true, decide_false, Bool.false_eq_true, f_X5_tellsShapes_2, f_X5_tellsShapes_32, hL.o, c0, ck, e2, ih]
        · have de : ¬ (S.kd j = 0 ∨ S.hasL j k = true) := fun q => q.elim d e
          rw [if_neg de]
          have e2 : (mI M (s + 9) j &&& i32 k = i32 0) = True := eq_true (hzj.mpr e)
          simp (disch := omega) only [add_i0, cast_add1, cast_sub1, toNat120, i32_lit, i32_neg, i32_add, i32_sub, i32_mul, i32_nat, i32_le, i32_lt, i32_eq, inB_i, Int.toNat_natCast, mI_sI_eq, mI_sI_ne, mR_sR_eq, mR_sR_ne, mI_sR, mR_sI, mK_sI, mN_sI, mn_sI, mJ_sI, mK_sR, mN_sR, mn_sR, mJ_sR, mI_wI, mR_wI, mK_wI, mN_wI, mn_wI, mJ_wI, ↓bnd_of, ↓bndX_r, ↓bndX_l, ↓ap_of, bnd_of, bndX_r, bndX_l, if_true, if_false, ite_true, ite_false, not_true_eq_false, not_false_eq_true, Nat.reduceAdd, Nat.reduceMul, Nat.reduceEqDiff, Int.reduceToNat, Int.reduceNeg, Ilt_t, Ilt_f, Ile_t, Ile_f, Ieq_t, Ieq_f, Nlt_t, Nlt_f, Nle_t, Nle_f, Neq_t, Neq_f, or_true, true_or, or_false, false_or, and_true, true_and, and_false, false_and, ne_eq, or_self, and_self, decide_true, decide_false, Bool.false_eq_true, f_X5_tellsShapes_2, f_X5_tellsShapes_32, hL.o, c0, ck, e2]
  have h := H S.nf 0 FUEL (by omega) (by unfold FUEL; omega)
  unfold f_X5_tellsShapes
  exact h
theorem X5_cover (hW : S.wf) (hL : ShLay M s) (hC : CSh M s S) : f_X5_cover s M = some (i32 S.cover, M) := by
  have hS := hW.1
  have hnl := hS.2.1
  have p := pow8n hnl
  have et := fun k hk => X5_tellsShapes hW hL hC (k := k) hk
  have c1 := hC.2.1
  have H : ∀ (k b n : Nat), k ≤ 256 → b < 256 → k < n → f_X5_cover_11 n s (i32 b) (i32 ((k : Int) - 1)) M = some (i32 (covC S.cov k b), M) := by
    intro k
    induction k with
    | zero =>
      intro b n h1 h2 h3
      obtain ⟨n, rfl⟩ : ∃ m, n = m + 1 := ⟨n - 1, by omega⟩
      simp (disch := omega) only [add_i0, cast_add1, cast_sub1, toNat120, i32_lit, i32_neg, i32_add, i32_sub, i32_mul, i32_nat, i32_le, i32_lt, i32_eq, inB_i, Int.toNat_natCast, mI_sI_eq, mI_sI_ne, mR_sR_eq, mR_sR_ne, mI_sR, mR_sI, mK_sI, mN_sI, mn_sI, mJ_sI, mK_sR, mN_sR, mn_sR, mJ_sR, mI_wI, mR_wI, mK_wI, mN_wI, mn_wI, mJ_wI, ↓bnd_of, ↓bndX_r, ↓bndX_l, ↓ap_of, bnd_of, bndX_r, bndX_l, if_true, if_false, ite_true, ite_false, not_true_eq_false, not_false_eq_true, Nat.reduceAdd, Nat.reduceMul, Nat.reduceEqDiff, Int.reduceToNat, Int.reduceNeg, Ilt_t, Ilt_f, Ile_t, Ile_f, Ieq_t, Ieq_f, Nlt_t, Nlt_f, Nle_t, Nle_f, Neq_t, Neq_f, or_true, true_or, or_false, false_or, and_true, true_and, and_false, false_and, ne_eq, or_self, and_self, decide_true, decide_false, Bool.false_eq_true, f_X5_cover_11, covC]
    | succ k ih =>
      intro b n h1 h2 h3
      obtain ⟨n, rfl⟩ : ∃ m, n = m + 1 := ⟨n - 1, by omega⟩
      have e1 := J6_bc (show k < 256 by omega) M
      have e2 := J6_bc h2 M
      have e3 := et k (by omega)
      have b1 := bcN_le k
      have b2 := bcN_le b
      rw [show ((k + 1 : Nat) : Int) - 1 = (k : Int) by omega]
      have ih1 : ∀ b : Nat, b < 256 → f_X5_cover_36 (f_X5_cover_11 n) s (i32 b) (i32 k) M = some (i32 (covC S.cov k b), M) := by
        intro b hb
        unfold f_X5_cover_36
        have e9 : i32 (k : Int) + (-1 : Int32) = i32 ((k : Int) - 1) := by
          rw [show (-1 : Int32) = i32 (-1) from rfl, i32_add]
          congr 1
        rw [e9]
        exact ih b n (by omega) hb (by omega)
      unfold covC
      by_cases d : bcN k ≤ bcN b
      · by_cases e : S.cov k = true
        · rw [if_pos ⟨d, e⟩]
          rw [if_pos e] at e3
          simp (disch := omega) only [add_i0, cast_add1, cast_sub1, toNat120, i32_lit, i32_neg, i32_add, i32_sub, i32_mul, i32_nat, i32_le, i32_lt, i32_eq, inB_i, Int.toNat_natCast, mI_sI_eq, mI_sI_ne, mR_sR_eq, mR_sR_ne, mI_sR, mR_sI, mK_sI, mN_sI, mn_sI, mJ_sI, mK_sR, mN_sR, mn_sR, mJ_sR, mI_wI, mR_wI, mK_wI, mN_wI, mn_wI, mJ_wI, ↓bnd_of, ↓bndX_r, ↓bndX_l, ↓ap_of, bnd_of, bndX_r, bndX_l, if_true, if_false, ite_true, ite_false, not_true_eq_false, not_false_eq_true, Nat.reduceAdd, Nat.reduceMul, Nat.reduceEqDiff, Int.reduceToNat, Int.reduceNeg, Ilt_t, Ilt_f, Ile_t, Ile_f, Ieq_t, Ieq_f, Nlt_t, Nlt_f, Nle_t, Nle_f, Neq_t, Neq_f, or_true, true_or, or_false, false_or, and_true, true_and, and_false, false_and, ne_eq, or_self, and_self, decide_true, decide_false, Bool.false_eq_true, f_X5_cover_11, ↓bx e1, ↓bx e2, hL.o, ↓bx e3, ih1]
        · rw [if_neg (fun q => e q.2)]
          rw [if_neg e] at e3
          simp (disch := omega) only [add_i0, cast_add1, cast_sub1, toNat120, i32_lit, i32_neg, i32_add, i32_sub, i32_mul, i32_nat, i32_le, i32_lt, i32_eq, inB_i, Int.toNat_natCast, mI_sI_eq, mI_sI_ne, mR_sR_eq, mR_sR_ne, mI_sR, mR_sI, mK_sI, mN_sI, mn_sI, mJ_sI, mK_sR, mN_sR, mn_sR, mJ_sR, mI_wI, mR_wI, mK_wI, mN_wI, mn_wI, mJ_wI, ↓bnd_of, ↓bndX_r, ↓bndX_l, ↓ap_of, bnd_of, bndX_r, bndX_l, if_true, if_false, ite_true, ite_false, not_true_eq_false, not_false_eq_true, Nat.reduceAdd, Nat.reduceMul, Nat.reduceEqDiff, Int.reduceToNat, Int.reduceNeg, Ilt_t, Ilt_f, Ile_t, Ile_f, Ieq_t, Ieq_f, Nlt_t, Nlt_f, Nle_t, Nle_f, Neq_t, Neq_f, or_true, true_or, or_false, false_or, and_true, true_and, and_false, false_and, ne_eq, or_self, and_self, decide_true, decide_false, Bool.false_eq_true, f_X5_cover_11, ↓bx e1, ↓bx e2, hL.o, ↓bx e3, ih1]
      · rw [if_neg (fun q => d q.1)]
        simp (disch := omega) only [add_i0, cast_add1, cast_sub1, toNat120, i32_lit, i32_neg, i32_add, i32_sub, i32_mul, i32_nat, i32_le, i32_lt, i32_eq, inB_i, Int.toNat_natCast, mI_sI_eq, mI_sI_ne, mR_sR_eq, mR_sR_ne, mI_sR, mR_sI, mK_sI, mN_sI, mn_sI, mJ_sI, mK_sR, mN_sR, mn_sR, mJ_sR, mI_wI, mR_wI, mK_wI, mN_wI, mn_wI, mJ_wI, ↓bnd_of, ↓bndX_r, ↓bndX_l, ↓ap_of, bnd_of, bndX_r, bndX_l, if_true, if_false, ite_true, ite_false, not_true_eq_false, not_false_eq_true, Nat.reduceAdd, Nat.reduceMul, Nat.reduceEqDiff, Int.reduceToNat, Int.reduceNeg, Ilt_t, Ilt_f, Ile_t, Ile_f, Ieq_t, Ieq_f, Nlt_t, Nlt_f, Nle_t, Nle_f, Neq_t, Neq_f, or_true, true_or, or_false, false_or, and_true, true_and, and_false, false_and, ne_eq, or_self, and_self, decide_true, decide_false, Bool.false_eq_true, f_X5_cover_11, ↓bx e1, ↓bx e2, hL.o, ih1]
  have h := H (2 ^ S.nl) (2 ^ S.nl - 1) FUEL (by omega) (by omega) (by unfold FUEL; omega)
  have e := shl1 hnl
  have e2 : ((2 : Int) ^ S.nl) = ((2 ^ S.nl : Nat) : Int) := by simp
  rw [e2] at e
  simp (disch := omega) only [add_i0, cast_add1, cast_sub1, toNat120, i32_lit, i32_neg, i32_add, i32_sub, i32_mul, i32_nat, i32_le, i32_lt, i32_eq, inB_i, Int.toNat_natCast, mI_sI_eq, mI_sI_ne, mR_sR_eq, mR_sR_ne, mI_sR, mR_sI, mK_sI, mN_sI, mn_sI, mJ_sI, mK_sR, mN_sR, mn_sR, mJ_sR, mI_wI, mR_wI, mK_wI, mN_wI, mn_wI, mJ_wI, ↓bnd_of, ↓bndX_r, ↓bndX_l, ↓ap_of, bnd_of, bndX_r, bndX_l, if_true, if_false, ite_true, ite_false, not_true_eq_false, not_false_eq_true, Nat.reduceAdd, Nat.reduceMul, Nat.reduceEqDiff, Int.reduceToNat, Int.reduceNeg, Ilt_t, Ilt_f, Ile_t, Ile_f, Ieq_t, Ieq_f, Nlt_t, Nlt_f, Nle_t, Nle_f, Neq_t, Neq_f, or_true, true_or, or_false, false_or, and_true, true_and, and_false, false_and, ne_eq, or_self, and_self, decide_true, decide_false, Bool.false_eq_true, f_X5_cover, hL.o, c1, e]
  rw [show ((2 ^ S.nl - 1 : Nat) : Int) = ((2 ^ S.nl : Nat) : Int) - 1 by omega] at h
  rw [show ((2 ^ S.nl - 1 : Nat) : Int) = ((2 ^ S.nl : Nat) : Int) - 1 by omega]
  exact h
theorem X12_hasLeafOf (hW : S.wf) (hV : RV M S A) {f : Nat} (hf : f < S.nf) {k : Nat} (hk : k < 2147483648) : f_X12_hasLeafOf 134 (i32 f) (i32 k) M = some (if S.hasL f k = true then i32 1 else i32 0, M) := by
  have hS := hW.1
  have hn := hS.1
  have hnl := hS.2.1
  have hL := hV.1
  have hR := hV.2.1
  have ein := fun k g => X12_isInside hL hS hR k g
  obtain ⟨c0, c1, ck, cg, cl, cd, cr, -, -, -, cf⟩ := hR
  have H : ∀ (q j n : Nat) (w : Int), j + q = S.nl → q < n → 0 ≤ w → w ≤ 1 → f_X12_hasLeafOf_5 n 134 (i32 f) (i32 k) (i32 w) (i32 j) M = some (if w = 1 ∨ anyB (fun l => k.testBit l && S.ins (S.fo l) f) q j = true then i32 1 else i32 0, M) := by
    intro q
    induction q with
    | zero =>
      intro j n w hj hn q1 q2
      obtain ⟨n, rfl⟩ : ∃ m, n = m + 1 := ⟨n - 1, by omega⟩
      have hc : w = 0 ∨ w = 1 := by omega
      rcases hc with rfl | rfl
      · simp (disch := omega) only [add_i0, cast_add1, cast_sub1, toNat120, i32_lit, i32_neg, i32_add, i32_sub, i32_mul, i32_nat, i32_le, i32_lt, i32_eq, inB_i, Int.toNat_natCast, mI_sI_eq, mI_sI_ne, mR_sR_eq, mR_sR_ne, mI_sR, mR_sI, mK_sI, mN_sI, mn_sI, mJ_sI, mK_sR, mN_sR, mn_sR, mJ_sR, mI_wI, mR_wI, mK_wI, mN_wI, mn_wI, mJ_wI, ↓bnd_of, ↓bndX_r, ↓bndX_l, ↓ap_of, bnd_of, bndX_r, bndX_l, if_true, if_false, ite_true, ite_false, not_true_eq_false, not_false_eq_true, Nat.reduceAdd, Nat.reduceMul, Nat.reduceEqDiff, Int.reduceToNat, Int.reduceNeg, Ilt_t, Ilt_f, Ile_t, Ile_f, Ieq_t, Ieq_f, Nlt_t, Nlt_f, Nle_t, Nle_f, Neq_t, Neq_f, or_true, true_or, or_false, false_or, and_true, true_and, and_false, false_and, ne_eq, or_self, and_self, decide_true, decide_false, Bool.false_eq_true, f_X12_hasLeafOf_5, anyB, hL.o, c1]
        rfl
      · simp (disch := omega) only [add_i0, cast_add1, cast_sub1, toNat120, i32_lit, i32_neg, i32_add, i32_sub, i32_mul, i32_nat, i32_le, i32_lt, i32_eq, inB_i, Int.toNat_natCast, mI_sI_eq, mI_sI_ne, mR_sR_eq, mR_sR_ne, mI_sR, mR_sI, mK_sI, mN_sI, mn_sI, mJ_sI, mK_sR, mN_sR, mn_sR, mJ_sR, mI_wI, mR_wI, mK_wI, mN_wI, mn_wI, mJ_wI, ↓bnd_of, ↓bndX_r, ↓bndX_l, ↓ap_of, bnd_of, bndX_r, bndX_l, if_true, if_false, ite_true, ite_false, not_true_eq_false, not_false_eq_true, Nat.reduceAdd, Nat.reduceMul, Nat.reduceEqDiff, Int.reduceToNat, Int.reduceNeg, Ilt_t, Ilt_f, Ile_t, Ile_f, Ieq_t, Ieq_f, Nlt_t, Nlt_f, Nle_t, Nle_f, Neq_t, Neq_f, or_true, true_or, or_false, false_or, and_true, true_and, and_false, false_and, ne_eq, or_self, and_self, decide_true, decide_false, Bool.false_eq_true, f_X12_hasLeafOf_5, anyB, hL.o, c1]
        rfl
    | succ q ih =>
      intro j n w hj hn q1 q2
      obtain ⟨n, rfl⟩ : ∃ m, n = m + 1 := ⟨n - 1, by omega⟩
      have ei := X12_isOf (M := M) (i32 k) (i := j) (by omega)
      rw [bt_nat (by omega) (by omega), Int.toNat_natCast] at ei
      have hfj := Sc.fo_lt hS (show j < S.nl by omega)
      have e2 := ein (S.fo j) f (by omega) (by omega) (by omega)
      have hc : w = 0 ∨ w = 1 := by omega
      rcases hc with rfl | rfl
      · by_cases d : k.testBit j = true
        · rw [if_pos d] at ei
          by_cases d2 : S.ins (S.fo j) f = true
          · rw [if_pos d2] at e2
            simp (disch := omega) only [add_i0, cast_add1, cast_sub1, toNat120, i32_lit, i32_neg, i32_add, i32_sub, i32_mul, i32_nat, i32_le, i32_lt, i32_eq, inB_i, Int.toNat_natCast, mI_sI_eq, mI_sI_ne, mR_sR_eq, mR_sR_ne, mI_sR, mR_sI, mK_sI, mN_sI, mn_sI, mJ_sI, mK_sR, mN_sR, mn_sR, mJ_sR, mI_wI, mR_wI, mK_wI, mN_wI, mn_wI, mJ_wI, ↓bnd_of, ↓bndX_r, ↓bndX_l, ↓ap_of, bnd_of, bndX_r, bndX_l, if_true, if_false, ite_true, ite_false, not_true_eq_false, not_false_eq_true, Nat.reduceAdd, Nat.reduceMul, Nat.reduceEqDiff, Int.reduceToNat, Int.reduceNeg, Ilt_t, Ilt_f, Ile_t, Ile_f, Ieq_t, Ieq_f, Nlt_t, Nlt_f, Nle_t, Nle_f, Neq_t, Neq_f, or_true, true_or, or_false, false_or, and_true, true_and, and_false, false_and, ne_eq, or_self, and_self, decide_true, decide_false, Bool.false_eq_true, f_X12_hasLeafOf_5, f_X12_hasLeafOf_44, f_X12_hasLeafOf_48, f_X12_hasLeafOf_49, hL.o, c1, cf, ↓bx ei, e2, ih]
            simp [anyB, d, d2]
          · rw [if_neg d2] at e2
            simp (disch := omega) only [add_i0, cast_add1, cast_sub1, toNat120, i32_lit, i32_neg, i32_add, i32_sub, i32_mul, i32_nat, i32_le, i32_lt, i32_eq, inB_i, Int.toNat_natCast, mI_sI_eq, mI_sI_ne, mR_sR_eq, mR_sR_ne, mI_sR, mR_sI, mK_sI, mN_sI, mn_sI, mJ_sI, mK_sR, mN_sR, mn_sR, mJ_sR, mI_wI, mR_wI, mK_wI, mN_wI, mn_wI, mJ_wI, ↓bnd_of, ↓bndX_r, ↓bndX_l, ↓ap_of, bnd_of, bndX_r, bndX_l, if_true, if_false, ite_true, ite_false, not_true_eq_false, not_false_eq_true, Nat.reduceAdd, Nat.reduceMul, Nat.reduceEqDiff, Int.reduceToNat, Int.reduceNeg, Ilt_t, Ilt_f, Ile_t, Ile_f, Ieq_t, Ieq_f, Nlt_t, Nlt_f, Nle_t, Nle_f, Neq_t, Neq_f, or_true, true_or, or_false, false_or, and_true, true_and, and_false, false_and, ne_eq, or_self, and_self, decide_true, decide_false, Bool.false_eq_true, f_X12_hasLeafOf_5, f_X12_hasLeafOf_44, f_X12_hasLeafOf_48, f_X12_hasLeafOf_49, hL.o, c1, cf, ↓bx ei, e2, ih]
            simp [anyB, d2]
        · rw [if_neg d] at ei
          simp (disch := omega) only [add_i0, cast_add1, cast_sub1, toNat120, i32_lit, i32_neg, i32_add, i32_sub, i32_mul, i32_nat, i32_le, i32_lt, i32_eq, inB_i, Int.toNat_natCast, mI_sI_eq, mI_sI_ne, mR_sR_eq, mR_sR_ne, mI_sR, mR_sI, mK_sI, mN_sI, mn_sI, mJ_sI, mK_sR, mN_sR, mn_sR, mJ_sR, mI_wI, mR_wI, mK_wI, mN_wI, mn_wI, mJ_wI, ↓bnd_of, ↓bndX_r, ↓bndX_l, ↓ap_of, bnd_of, bndX_r, bndX_l, if_true, if_false, ite_true, ite_false, not_true_eq_false, not_false_eq_true, Nat.reduceAdd, Nat.reduceMul, Nat.reduceEqDiff, Int.reduceToNat, Int.reduceNeg, Ilt_t, Ilt_f, Ile_t, Ile_f, Ieq_t, Ieq_f, Nlt_t, Nlt_f, Nle_t, Nle_f, Neq_t, Neq_f, or_true, true_or, or_false, false_or, and_true, true_and, and_false, false_and, ne_eq, or_self, and_self, decide_true, decide_false, Bool.false_eq_true, f_X12_hasLeafOf_5, f_X12_hasLeafOf_44, f_X12_hasLeafOf_48, f_X12_hasLeafOf_49, hL.o, c1, ↓bx ei, ih]
          simp [anyB, d]
      · simp (disch := omega) only [add_i0, cast_add1, cast_sub1, toNat120, i32_lit, i32_neg, i32_add, i32_sub, i32_mul, i32_nat, i32_le, i32_lt, i32_eq, inB_i, Int.toNat_natCast, mI_sI_eq, mI_sI_ne, mR_sR_eq, mR_sR_ne, mI_sR, mR_sI, mK_sI, mN_sI, mn_sI, mJ_sI, mK_sR, mN_sR, mn_sR, mJ_sR, mI_wI, mR_wI, mK_wI, mN_wI, mn_wI, mJ_wI, ↓bnd_of, ↓bndX_r, ↓bndX_l, ↓ap_of, bnd_of, bndX_r, bndX_l, if_true, if_false, ite_true, ite_false, not_true_eq_false, not_false_eq_true, Nat.reduceAdd, Nat.reduceMul, Nat.reduceEqDiff, Int.reduceToNat, Int.reduceNeg, Ilt_t, Ilt_f, Ile_t, Ile_f, Ieq_t, Ieq_f, Nlt_t, Nlt_f, Nle_t, Nle_f, Neq_t, Neq_f, or_true, true_or, or_false, false_or, and_true, true_and, and_false, false_and, ne_eq, or_self, and_self, decide_true, decide_false, Bool.false_eq_true, f_X12_hasLeafOf_5, f_X12_hasLeafOf_44, f_X12_hasLeafOf_49, hL.o, c1, ih]
  have h := H S.nl 0 FUEL 0 (by omega) (by unfold FUEL; omega) (by omega) (by omega)
  simp only [show ¬ ((0 : Int) = 1) by omega, false_or] at h
  unfold f_X12_hasLeafOf
  exact h
theorem X12_coverNow (hW : S.wf) (hV : RV M S A) : f_X12_coverNow 134 M = some (i32 S.cover, M) := by
  have hS := hW.1
  have hn := hS.1
  have hnl := hS.2.1
  have hL := hV.1
  have eh := fun f hf k hk => X12_hasLeafOf hW hV (f := f) hf (k := k) hk
  obtain ⟨c0, c1, ck, -⟩ := hV.2.1
  have p := pow8n hnl
  have e := shl1 hnl
  have e2 : ((2 : Int) ^ S.nl) = ((2 ^ S.nl : Nat) : Int) := by simp
  rw [e2] at e
  -- the fields
  have inner : ∀ (g : Nat → Int32 → Int32 → Mem → Option (Int32 × Mem)) (b : Int32) (set : Nat), set < 256 → ∀ (q j n : Nat) (w : Int), j + q = S.nf → q < n → 0 ≤ w → w ≤ 1 → f_X12_coverNow_41 g n 134 b (i32 set) (i32 w) (i32 j) M = g 134 (if w = 1 ∧ S.covF set q j = true then i32 set else b) (i32 (set + 1 : Nat)) M := by
    intro g b set hset q
    induction q with
    | zero =>
      intro j n w hj hn q1 q2
      obtain ⟨n, rfl⟩ : ∃ m, n = m + 1 := ⟨n - 1, by omega⟩
      have hc : w = 0 ∨ w = 1 := by omega
      rcases hc with rfl | rfl
      · simp (disch := omega) only [add_i0, cast_add1, cast_sub1, toNat120, i32_lit, i32_neg, i32_add, i32_sub, i32_mul, i32_nat, i32_le, i32_lt, i32_eq, inB_i, Int.toNat_natCast, mI_sI_eq, mI_sI_ne, mR_sR_eq, mR_sR_ne, mI_sR, mR_sI, mK_sI, mN_sI, mn_sI, mJ_sI, mK_sR, mN_sR, mn_sR, mJ_sR, mI_wI, mR_wI, mK_wI, mN_wI, mn_wI, mJ_wI, ↓bnd_of, ↓bndX_r, ↓bndX_l, ↓ap_of, bnd_of, bndX_r, bndX_l, if_true, if_false, ite_true, ite_false, not_true_eq_false, not_false_eq_true, Nat.reduceAdd, Nat.reduceMul, Nat.reduceEqDiff, Int.reduceToNat, Int.reduceNeg, Ilt_t, Ilt_f, Ile_t, Ile_f, Ieq_t, Ieq_f, Nlt_t, Nlt_f, Nle_t, Nle_f, Neq_t, Neq_f, or_true, true_or, or_false, false_or, and_true, true_and, and_false, false_and, ne_eq, or_self, and_self, decide_true, decide_false, Bool.false_eq_true, f_X12_coverNow_41, f_X12_coverNow_88, f_X12_coverNow_94, Sc.covF, hL.o, c0]
      · simp (disch := omega) only [add_i0, cast_add1, cast_sub1, toNat120, i32_lit, i32_neg, i32_add, i32_sub, i32_mul, i32_nat, i32_le, i32_lt, i32_eq, inB_i, Int.toNat_natCast, mI_sI_eq, mI_sI_ne, mR_sR_eq, mR_sR_ne, mI_sR, mR_sI, mK_sI, mN_sI, mn_sI, mJ_sI, mK_sR, mN_sR, mn_sR, mJ_sR, mI_wI, mR_wI, mK_wI, mN_wI, mn_wI, mJ_wI, ↓bnd_of, ↓bndX_r, ↓bndX_l, ↓ap_of, bnd_of, bndX_r, bndX_l, if_true, if_false, ite_true, ite_false, not_true_eq_false, not_false_eq_true, Nat.reduceAdd, Nat.reduceMul, Nat.reduceEqDiff, Int.reduceToNat, Int.reduceNeg, Ilt_t, Ilt_f, Ile_t, Ile_f, Ieq_t, Ieq_f, Nlt_t, Nlt_f, Nle_t, Nle_f, Neq_t, Neq_f, or_true, true_or, or_false, false_or, and_true, true_and, and_false, false_and, ne_eq, or_self, and_self, decide_true, decide_false, Bool.false_eq_true, f_X12_coverNow_41, f_X12_coverNow_88, f_X12_coverNow_94, Sc.covF, hL.o, c0]
    | succ q ih =>
      intro j n w hj hn q1 q2
      obtain ⟨n, rfl⟩ : ∃ m, n = m + 1 := ⟨n - 1, by omega⟩
      have bk := Sc.kd_b hS j
      have e3 := eh j (by omega) set (by omega)
      have hc : w = 0 ∨ w = 1 := by omega
      rcases hc with rfl | rfl
      · simp (disch := omega) only [add_i0, cast_add1, cast_sub1, toNat120, i32_lit, i32_neg, i32_add, i32_sub, i32_mul, i32_nat, i32_le, i32_lt, i32_eq, inB_i, Int.toNat_natCast, mI_sI_eq, mI_sI_ne, mR_sR_eq, mR_sR_ne, mI_sR, mR_sI, mK_sI, mN_sI, mn_sI, mJ_sI, mK_sR, mN_sR, mn_sR, mJ_sR, mI_wI, mR_wI, mK_wI, mN_wI, mn_wI, mJ_wI, ↓bnd_of, ↓bndX_r, ↓bndX_l, ↓ap_of, bnd_of, bndX_r, bndX_l, if_true, if_false, ite_true, ite_false, not_true_eq_false, not_false_eq_true, Nat.reduceAdd, Nat.reduceMul, Nat.reduceEqDiff, Int.reduceToNat, Int.reduceNeg, Ilt_t, Ilt_f, Ile_t, Ile_f, Ieq_t, Ieq_f, Nlt_t, Nlt_f, Nle_t, Nle_f, Neq_t, Neq_f, or_true, true_or, or_false, false_or, and_true, true_and, and_false, false_and, ne_eq, or_self, and_self, decide_true, decide_false, Bool.false_eq_true, f_X12_coverNow_41, f_X12_coverNow_88, f_X12_coverNow_94, hL.o, c0]
      · unfold Sc.covF
        by_cases d : S.kd j = 0
        · rw [if_pos (Or.inl d)]
          simp (disch := omega) only [add_i0, cast_add1, cast_sub1, toNat120, i32_lit, i32_neg, i32_add, i32_sub, i32_mul, i32_nat, i32_le, i32_lt, i32_eq, inB_i, Int.toNat_natCast, mI_sI_eq, mI_sI_ne, mR_sR_eq, mR_sR_ne, mI_sR, mR_sI, mK_sI, mN_sI, mn_sI, mJ_sI, mK_sR, mN_sR, mn_sR, mJ_sR, mI_wI, mR_wI, mK_wI, mN_wI, mn_wI, mJ_wI, ↓bnd_of, ↓bndX_r, ↓bndX_l, ↓ap_of, bnd_of, bndX_r, bndX_l, if_true, if_false, ite_true, ite_false, not_true_eq_false, not_false_eq_true, Nat.reduceAdd, Nat.reduceMul, Nat.reduceEqDiff, Int.reduceToNat, Int.reduceNeg, Ilt_t, Ilt_f, Ile_t, Ile_f, Ieq_t, Ieq_f, Nlt_t, Nlt_f, Nle_t, Nle_f, Neq_t, Neq_f, or_true, true_or, or_false, false_or, and_true, true_and, and_false, false_and, ne_eq, or_self, and_self, decide_true, decide_false, Bool.false_eq_true, f_X12_coverNow_41, f_X12_coverNow_76, f_X12_coverNow_81, hL.o, c0, ck, d, ih]
        · by_cases d2 : S.hasL j set = true
          · rw [if_pos d2] at e3
            rw [if_pos (Or.inr d2)]
            simp (disch := omega) only [add_i0, cast_add1, cast_sub1, toNat120, i32_lit, i32_neg, i32_add, i32_sub, i32_mul, i32_nat, i32_le, i32_lt, i32_eq, inB_i, Int.toNat_natCast, mI_sI_eq, mI_sI_ne, mR_sR_eq, mR_sR_ne, mI_sR, mR_sI, mK_sI, mN_sI, mn_sI, mJ_sI, mK_sR, mN_sR, mn_sR, mJ_sR, mI_wI, mR_wI, mK_wI, mN_wI, mn_wI, mJ_wI, ↓bnd_of, ↓bndX_r, ↓bndX_l, ↓ap_of, bnd_of, bndX_r, bndX_l, if_true, if_false, ite_true, ite_false, not_true_eq_false, not_false_eq_true, Nat.reduceAdd, Nat.reduceMul, Nat.reduceEqDiff, Int.reduceToNat, Int.reduceNeg, Ilt_t, Ilt_f, Ile_t, Ile_f, Ieq_t, Ieq_f, Nlt_t, Nlt_f, Nle_t, Nle_f, Neq_t, Neq_f, or_true, true_or, or_false, false_or, and_true, true_and, and_false, false_and, ne_eq, or_self, and_self, decide_true, decide_false, Bool.false_eq_true, f_X12_coverNow_41, f_X12_coverNow_76, f_X12_coverNow_81, hL.o, c0, ck, ↓bx e3, ih]
          · rw [if_neg d2] at e3
            have de : ¬ (S.kd j = 0 ∨ S.hasL j set = true) := fun q => q.elim d d2
            rw [if_neg de]
            simp (disch := omega) only [add_i0, cast_add1, cast_sub1, toNat120, i32_lit, i32_neg, i32_add, i32_sub, i32_mul, i32_nat, i32_le, i32_lt, i32_eq, inB_i, Int.toNat_natCast, mI_sI_eq, mI_sI_ne, mR_sR_eq, mR_sR_ne, mI_sR, mR_sI, mK_sI, mN_sI, mn_sI, mJ_sI, mK_sR, mN_sR, mn_sR, mJ_sR, mI_wI, mR_wI, mK_wI, mN_wI, mn_wI, mJ_wI, ↓bnd_of, ↓bndX_r, ↓bndX_l, ↓ap_of, bnd_of, bndX_r, bndX_l, if_true, if_false, ite_true, ite_false, not_true_eq_false, not_false_eq_true, Nat.reduceAdd, Nat.reduceMul, Nat.reduceEqDiff, Int.reduceToNat, Int.reduceNeg, Ilt_t, Ilt_f, Ile_t, Ile_f, Ieq_t, Ieq_f, Nlt_t, Nlt_f, Nle_t, Nle_f, Neq_t, Neq_f, or_true, true_or, or_false, false_or, and_true, true_and, and_false, false_and, ne_eq, or_self, and_self, decide_true, decide_false, Bool.false_eq_true, f_X12_coverNow_41, f_X12_coverNow_76, f_X12_coverNow_81, hL.o, c0, ck, ↓bx e3, ih]
  have H : ∀ (k j n : Nat) (b : Int), j + k = 2 ^ S.nl → k < n → -1 ≤ b → b < j → f_X12_coverNow_4 n 134 (i32 b) (i32 j) M = some (i32 (covR S.cov k j b), M) := by
    intro k
    induction k with
    | zero =>
      intro j n b hj hn q1 q2
      obtain ⟨n, rfl⟩ : ∃ m, n = m + 1 := ⟨n - 1, by omega⟩
      simp (disch := omega) only [add_i0, cast_add1, cast_sub1, toNat120, i32_lit, i32_neg, i32_add, i32_sub, i32_mul, i32_nat, i32_le, i32_lt, i32_eq, inB_i, Int.toNat_natCast, mI_sI_eq, mI_sI_ne, mR_sR_eq, mR_sR_ne, mI_sR, mR_sI, mK_sI, mN_sI, mn_sI, mJ_sI, mK_sR, mN_sR, mn_sR, mJ_sR, mI_wI, mR_wI, mK_wI, mN_wI, mn_wI, mJ_wI, ↓bnd_of, ↓bndX_r, ↓bndX_l, ↓ap_of, bnd_of, bndX_r, bndX_l, if_true, if_false, ite_true, ite_false, not_true_eq_false, not_false_eq_true, Nat.reduceAdd, Nat.reduceMul, Nat.reduceEqDiff, Int.reduceToNat, Int.reduceNeg, Ilt_t, Ilt_f, Ile_t, Ile_f, Ieq_t, Ieq_f, Nlt_t, Nlt_f, Nle_t, Nle_f, Neq_t, Neq_f, or_true, true_or, or_false, false_or, and_true, true_and, and_false, false_and, ne_eq, or_self, and_self, decide_true, decide_false, Bool.false_eq_true, f_X12_coverNow_4, covR, hL.o, c1, e]
    | succ k ih =>
      intro j n b hj hn q1 q2
      obtain ⟨n, rfl⟩ : ∃ m, n = m + 1 := ⟨n - 1, by omega⟩
      have i1 := inner (f_X12_coverNow_4 n) (i32 b) j (by omega) S.nf 0 FUEL 1 (by omega) (by unfold FUEL; omega) (by omega) (by omega)
      have i0 := inner (f_X12_coverNow_4 n) (i32 b) j (by omega) S.nf 0 FUEL 0 (by omega) (by unfold FUEL; omega) (by omega) (by omega)
      have f32 : f_X12_coverNow_32 (f_X12_coverNow_4 n) 134 (i32 b) (i32 j) M = some (i32 (if S.cov j = true then covR S.cov k (j + 1) j else covR S.cov k (j + 1) b), M) := by
        show f_X12_coverNow_41 (f_X12_coverNow_4 n) FUEL 134 (i32 b) (i32 j) (i32 1) (i32 (0 : Nat)) M = _
        rw [i1]
        by_cases d : S.cov j = true
        · have d' : S.covF j S.nf 0 = true := d
          rw [if_pos ⟨rfl, d'⟩, if_pos d, ih (j + 1) n j (by omega) (by omega) (by omega) (by omega)]
        · have d' : ¬ (((1 : Int) = 1) ∧ S.covF j S.nf 0 = true) := fun q => d q.2
          rw [if_neg d', if_neg d, ih (j + 1) n b (by omega) (by omega) (by omega) (by omega)]
      have f37 : f_X12_coverNow_37 (f_X12_coverNow_4 n) 134 (i32 b) (i32 j) (0 : Int32) M = some (i32 (covR S.cov k (j + 1) b), M) := by
        show f_X12_coverNow_41 (f_X12_coverNow_4 n) FUEL 134 (i32 b) (i32 j) (i32 0) (i32 (0 : Nat)) M = _
        rw [i0, if_neg (by omega), ih (j + 1) n b (by omega) (by omega) (by omega) (by omega)]
      have f37' := f37
      simp only [i32_lit] at f37'
      unfold covR
      by_cases d : b = -1
      · simp (disch := omega) only [add_i0, cast_add1, cast_sub1, toNat120, i32_lit, i32_neg, i32_add, i32_sub, i32_mul, i32_nat, i32_le, i32_lt, i32_eq, inB_i, Int.toNat_natCast, mI_sI_eq, mI_sI_ne, mR_sR_eq, mR_sR_ne, mI_sR, mR_sI, mK_sI, mN_sI, mn_sI, mJ_sI, mK_sR, mN_sR, mn_sR, mJ_sR, mI_wI, mR_wI, mK_wI, mN_wI, mn_wI, mJ_wI, ↓bnd_of, ↓bndX_r, ↓bndX_l, ↓ap_of, bnd_of, bndX_r, bndX_l, if_true, if_false, ite_true, ite_false, not_true_eq_false, not_false_eq_true, Nat.reduceAdd, Nat.reduceMul, Nat.reduceEqDiff, Int.reduceToNat, Int.reduceNeg, Ilt_t, Ilt_f, Ile_t, Ile_f, Ieq_t, Ieq_f, Nlt_t, Nlt_f, Nle_t, Nle_f, Neq_t, Neq_f, or_true, true_or, or_false, false_or, and_true, true_and, and_false, false_and, ne_eq, or_self, and_self, decide_true, decide_false, Bool.false_eq_true, f_X12_coverNow_4, hL.o, c1, e, d]
        rw [d] at f32
        rw [f32]
        (first | done | with_reducible rfl | ((repeat' split) <;> (first | with_reducible rfl | (exfalso; omega) | grind)))
      · obtain ⟨b, rfl⟩ : ∃ k : Nat, b = k := ⟨b.toNat, by omega⟩
        have g1 := X12_bitsOf (show j < 256 by omega) M
        have g2 := X12_bitsOf (show b < 256 by omega) M
        have l1 := bcN_le j
        have l2 := bcN_le b
        by_cases d2 : bcN b ≤ bcN j
        · simp (disch := omega) only [add_i0, cast_add1, cast_sub1, toNat120, i32_lit, i32_neg, i32_add, i32_sub, i32_mul, i32_nat, i32_le, i32_lt, i32_eq, inB_i, Int.toNat_natCast, mI_sI_eq, mI_sI_ne, mR_sR_eq, mR_sR_ne, mI_sR, mR_sI, mK_sI, mN_sI, mn_sI, mJ_sI, mK_sR, mN_sR, mn_sR, mJ_sR, mI_wI, mR_wI, mK_wI, mN_wI, mn_wI, mJ_wI, ↓bnd_of, ↓bndX_r, ↓bndX_l, ↓ap_of, bnd_of, bndX_r, bndX_l, if_true, if_false, ite_true, ite_false, not_true_eq_false, not_false_eq_true, Nat.reduceAdd, Nat.reduceMul, Nat.reduceEqDiff, Int.reduceToNat, Int.reduceNeg, Ilt_t, Ilt_f, Ile_t, Ile_f, Ieq_t, Ieq_f, Nlt_t, Nlt_f, Nle_t, Nle_f, Neq_t, Neq_f, or_true, true_or, or_false, false_or, and_true, true_and, and_false, false_and, ne_eq, or_self, and_self, decide_true, decide_false, Bool.false_eq_true, f_X12_coverNow_4, hL.o, c1, e, ↓bx g1, ↓bx g2, f37']
        · simp (disch := omega) only [add_i0, cast_add1, cast_sub1, toNat120, i32_lit, i32_neg, i32_add, i32_sub, i32_mul, i32_nat, i32_le, i32_lt, i32_eq, inB_i, Int.toNat_natCast, mI_sI_eq, mI_sI_ne, mR_sR_eq, mR_sR_ne, mI_sR, mR_sI, mK_sI, mN_sI, mn_sI, mJ_sI, mK_sR, mN_sR, mn_sR, mJ_sR, mI_wI, mR_wI, mK_wI, mN_wI, mn_wI, mJ_wI, ↓bnd_of, ↓bndX_r, ↓bndX_l, ↓ap_of, bnd_of, bndX_r, bndX_l, if_true, if_false, ite_true, ite_false, not_true_eq_false, not_false_eq_true, Nat.reduceAdd, Nat.reduceMul, Nat.reduceEqDiff, Int.reduceToNat, Int.reduceNeg, Ilt_t, Ilt_f, Ile_t, Ile_f, Ieq_t, Ieq_f, Nlt_t, Nlt_f, Nle_t, Nle_f, Neq_t, Neq_f, or_true, true_or, or_false, false_or, and_true, true_and, and_false, false_and, ne_eq, or_self, and_self, decide_true, decide_false, Bool.false_eq_true, f_X12_coverNow_4, hL.o, c1, e, ↓bx g1, ↓bx g2, f32]
          (first | done | with_reducible rfl | ((repeat' split) <;> (first | with_reducible rfl | (exfalso; omega) | grind)))
  have h := H (2 ^ S.nl) 0 FUEL (-1) (by omega) (by unfold FUEL; omega) (by omega) (by omega)
  rw [cover_eq hW] at h
  unfold f_X12_coverNow
  exact h
end
