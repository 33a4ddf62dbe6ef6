/-! ROW of G: new int[5][k] -/
def mMul (M : Mem) (k : Nat) : Mem :=
  (fun b => if b = mn M + 1 then 25 else if mn M + 1 < b ∧ b ≤ mn M + 6 then 21 else mK M b,
   fun b => if b = mn M + 1 then 5 else if mn M + 1 < b ∧ b ≤ mn M + 6 then k else mN M b,
   fun b => if mn M + 1 ≤ b ∧ b ≤ mn M + 6 then fun _ => 0 else mI M b,
   fun b => if b = mn M + 1 then fun i => if i < 5 then mn M + 2 + i else 0 else if mn M + 1 < b ∧ b ≤ mn M + 6 then fun _ => 0 else mR M b,
   fun b => if mn M + 1 ≤ b ∧ b ≤ mn M + 6 then fun _ => 0 else mJ M b, mn M + 6)
def φMul (φ : Nat → Nat) (n q : Nat) (r : Nat → Nat) : Nat → Nat := fun b => if b = n + 1 then q else if n + 1 < b ∧ b ≤ n + 6 then r (b - n - 2) else φ b
section MU
variable {mi : MI} {fr : Nat} {o : OC} {M' M : Mem} {pc pc' : Nat} {lv lv' : List (Option AV)} {st : List AV} {k u k' u' : Nat}
theorem φMul_okr {φ : Nat → Nat} {q x : Nat} {r : Nat → Nat} (h : okr M x) (hb : mn M + 6 < 900000) : φMul φ (mn M) q r x = φ x := by
  unfold φMul
  rw [if_neg (by rcases h with h | h <;> omega), if_neg (by rcases h with h | h <;> omega)]
theorem cE_mulOld {E : EE} {φ : Nat → Nat} {q j K : Nat} {r : Nat → Nat} (ok : okM M) (hb : mn M + 6 < 900000) (hj : j ≤ mn M) : cE E (φMul φ (mn M) q r) (mMul M K) j = cE E φ M j := by
  have n1 : ¬ j = mn M + 1 := by omega
  have n2 : ¬ (mn M + 1 < j ∧ j ≤ mn M + 6) := by omega
  have n3 : ¬ (mn M + 1 ≤ j ∧ j ≤ mn M + 6) := by omega
  have eK : mK (mMul M K) j = mK M j := by show (if _ then _ else if _ then _ else _) = _; rw [if_neg n1, if_neg n2]
  have eN : mN (mMul M K) j = mN M j := by show (if _ then _ else if _ then _ else _) = _; rw [if_neg n1, if_neg n2]
  have eI : mI (mMul M K) j = mI M j := if_neg n3
  have eJ : mJ (mMul M K) j = mJ M j := if_neg n3
  have eR : mR (mMul M K) j = mR M j := by show (if _ then _ else if _ then _ else _) = _; rw [if_neg n1, if_neg n2]
  have hφ : ∀ x, okr M x → φMul φ (mn M) q r x = φ x := fun x h => φMul_okr h hb
  have hfv : ∀ c, fv (φMul φ (mn M) q r) (mMul M K) c j = fv φ M c j := by
    intro c; funext i; unfold fv; rw [eI, eR]
    unfold av
    dsimp only
    rw [hφ _ (ok.2.1 _ _)]
  have hro : (fun i => rO (φMul φ (mn M) q r) (mR M j i)) = fun i => rO φ (mR M j i) := by
    funext i; unfold rO; rw [hφ _ (ok.2.1 _ _)]
  unfold cE fL
  rw [eK, eN, eI, eR, eJ, hfv, hro]
theorem cE_mulIn {E : EE} {φ : Nat → Nat} {j K : Nat} (h1 : mn M + 1 < j) (h2 : j ≤ mn M + 6) : cE E φ (mMul M K) j = .inl (E.2.2.1 21, K, .inl (fun _ => 0)) := by
  have n1 : ¬ j = mn M + 1 := by omega
  have eK : mK (mMul M K) j = 21 := by show (if _ then _ else if _ then _ else _) = _; rw [if_neg n1, if_pos ⟨h1, h2⟩]
  have eN : mN (mMul M K) j = K := by show (if _ then _ else if _ then _ else _) = _; rw [if_neg n1, if_pos ⟨h1, h2⟩]
  have eI : mI (mMul M K) j = fun _ => 0 := if_pos ⟨Nat.le_of_lt h1, h2⟩
  rw [cE_int eK, eN, eI]
theorem cE_mulOut {E : EE} {φ : Nat → Nat} {q K : Nat} {r : Nat → Nat} : cE E (φMul φ (mn M) q r) (mMul M K) (mn M + 1) = .inl (E.2.2.1 25, 5, .inr (.inr (.inr (.inr (fun i => if i < 5 then some (r i) else none))))) := by
  have eK : mK (mMul M K) (mn M + 1) = 25 := if_pos rfl
  have eN : mN (mMul M K) (mn M + 1) = 5 := if_pos rfl
  have eR : mR (mMul M K) (mn M + 1) = fun i => if i < 5 then mn M + 2 + i else 0 := if_pos rfl
  rw [cE_refs eK (by decide), eN, eR]
  congr 7
  funext i
  dsimp only
  by_cases h : i < 5
  · rw [if_pos h, if_pos h]
    unfold rO φMul
    rw [if_neg (by omega), if_neg (by omega), if_pos (by omega), show mn M + 2 + i - mn M - 2 = i by omega]
  · rw [if_neg h, if_neg h]
    rfl
theorem wl_mul {E : EE} {φ : Nat → Nat} {q K : Nat} {r : Nat → Nat} (ok : okM M) (hb : mn M + 6 < 900000) : wl E (φMul φ (mn M) q r) (mMul M K) = (wl E φ M ++ [(q, .inl (E.2.2.1 25, 5, .inr (.inr (.inr (.inr (fun i => if i < 5 then some (r i) else none))))))]) ++ (List.range 5).map (fun i => (r i, .inl (E.2.2.1 21, K, .inl (fun _ => 0)))) := by
  unfold wl
  show (List.range (mn M + 6)).map _ = _
  rw [show mn M + 6 = mn M + 1 + 5 by omega, List.range_add, List.range_succ, List.map_append, List.map_append]
  congr 1
  · congr 1
    · apply List.map_congr_left
      intro j hj
      have hj : j < mn M := List.mem_range.mp hj
      rw [cE_mulOld ok hb (by omega)]
      have : φMul φ (mn M) q r (j + 1) = φ (j + 1) := φMul_okr (Or.inl (by omega)) hb
      rw [this]
    · show [(φMul φ (mn M) q r (mn M + 1), cE E (φMul φ (mn M) q r) (mMul M K) (mn M + 1))] = _
      rw [cE_mulOut]
      have : φMul φ (mn M) q r (mn M + 1) = q := if_pos rfl
      rw [this]
  · rw [List.map_map]
    apply List.map_congr_left
    intro i hi
    have hi : i < 5 := List.mem_range.mp hi
    show (φMul φ (mn M) q r (mn M + 1 + i + 1), cE E (φMul φ (mn M) q r) (mMul M K) (mn M + 1 + i + 1)) = _
    rw [cE_mulIn (by omega) (by omega)]
    have : φMul φ (mn M) q r (mn M + 1 + i + 1) = r i := by
      unfold φMul
      rw [if_neg (by omega), if_pos (by omega), show mn M + 1 + i + 1 - mn M - 2 = i by omega]
    rw [this]
theorem okM_mul {K : Nat} (ok : okM M) (hb : mn M + 6 < 900000) : okM (mMul M K) := by
  refine ⟨fun a ha => ?_, fun a j => ?_, hb⟩
  · show 1 ≤ a ∧ a ≤ mn M + 6
    by_cases h1 : mn M + 1 ≤ a ∧ a ≤ mn M + 6
    · omega
    · have : mK (mMul M K) a = mK M a := by show (if _ then _ else if _ then _ else _) = _; rw [if_neg (by omega), if_neg (by omega)]
      rw [this] at ha
      have := ok.1 a ha
      omega
  · show mR (mMul M K) a j ≤ mn M + 6 ∨ _
    by_cases h1 : a = mn M + 1
    · have : mR (mMul M K) a = fun i => if i < 5 then mn M + 2 + i else 0 := if_pos h1
      rw [this]
      left
      dsimp only
      by_cases h : j < 5
      · rw [if_pos h]; omega
      · rw [if_neg h]; omega
    · by_cases h2 : mn M + 1 < a ∧ a ≤ mn M + 6
      · have : mR (mMul M K) a = fun _ => 0 := by show (if _ then _ else if _ then _ else _) = _; rw [if_neg h1, if_pos h2]
        rw [this]
        left
        exact Nat.zero_le _
      · have : mR (mMul M K) a = mR M a := by show (if _ then _ else if _ then _ else _) = _; rw [if_neg h1, if_neg h2]
        rw [this]
        rcases ok.2.1 a j with h | h
        · left; omega
        · right; exact h
theorem aC_arr {E : EE} {cA : ClassId} {s : State} (h : va_K E.2.1 vwCl (tysE E ++ [(cA, .array .int)]) s) : cA = E.2.2.1 25 := by
  have h1 : s.vm.findClass ("[" ++ (FieldType.array .int).toString) = some cA := (h.2 6 (cA, .array .int) rfl).2
  have h2 : s.vm.findClass ("[" ++ (FieldType.array .int).toString) = some (E.2.2.1 25) := (h.2 4 (E.2.2.1 25, .array .int) rfl).2
  exact Option.some.inj (h1.symm.trans h2)
theorem g_multi {i : Nat} (hA : miA mi ≠ 0) (w : Cond.classLink (miY mi).cls i ("[" ++ (FieldType.array .int).toString) ∈ WALL) (w2 : Cond.arrayClass .int ∈ WALL) (d : decode (miC mi) pc = .ok (.multianewarray i 2, 4)) (hp : pc + 4 = pc') (hb : mn M + 6 < 900000) (hok : okrs M (rfs lv st)) (hk : k + 6 ≤ k') (hu : u + 45 ≤ u') (hk2 : k' ≤ miMc mi) (hu2 : u' ≤ miMs mi)
    (kk : G mi fr o M' pc' lv (aR (mn M + 1) :: st) (mMul M 8) k' u') : G mi fr o M' pc lv (aI 8 :: aI 5 :: st) M k u := by
  intro p l e s m args below meth c E φ0 n0 B φ H locs ls hE hn hD hS hl
  subst hp
  have hcy : s.vm.findClass (FieldType.array .int).toString = some (E.2.2.1 21) := (B.2.2.2.2.2.2.2.2.2.2.2.1.2 0 (E.2.2.1 21, .int) rfl).2
  have hP0 : va_P E.2.1 vwCl (wl E φ M ++ va_pl [] (fun _ => .inr (0, []))) H := by rw [show va_pl [] (fun _ => (.inr (0, []) : va_E)) = [] from rfl, List.append_nil]; exact hD.1
  have hD0 : va_D (fun q => E.1 ≤ q) (wl E φ M ++ va_pl [] (fun _ => .inr (0, []))) := by rw [show va_pl [] (fun _ => (.inr (0, []) : va_E)) = [] from rfl, List.append_nil]; exact hD.2.1
  refine va_mna (X := wl E φ M) (L := []) (f := fun _ => .inr (0, [])) (ty := .int) (cy := E.2.2.1 21) (z := (8, .inl (fun _ => 0))) B.1 B.2.1 B.2.2.2.2.1 (B.2.2.2.2.2.1 _ w) (B.2.2.2.2.2.2.2.2.2.2.2.nst.2.1 _ (List.mem_of_getElem? (i := 3) rfl)) (B.2.2.2.2.2.1 _ w2) hcy B.2.2.2.2.2.2.2.2.2.2.2.1 hP0 hD0 hS (fun q hq => Nat.le_trans B.2.2.2.2.2.2.2.2.2.2.1 hq) (N' := 5) (K' := 8) (by decide) (by decide) (by decide) (by decide) (by decide) (by decide) (by decide) rfl rfl (Nat.le_trans (by omega) hk2) (Nat.le_trans (by omega) hu2) (fun _ => rfl) d (fun q r cA H1 hr hrL hK h1 h2 h3 => W.widen (by omega) (by omega) ?_)
  cases aC_arr hK
  have el : va_pl ([] ++ (List.range 5).map r) (vr_up (fun _ => (.inr (0, []) : va_E)) ((List.range 5).map r) (.inl (E.2.2.1 21, 8, .inl (fun _ => 0)))) = (List.range 5).map (fun i => (r i, .inl (E.2.2.1 21, 8, .inl (fun _ => 0)))) := by
    rw [List.nil_append]
    unfold va_pl
    rw [List.map_map]
    apply List.map_congr_left
    intro i hi
    show (r i, vr_up _ _ _ (r i)) = _
    rw [vr_up_in (List.mem_map_of_mem hi)]
  rw [el, ← wl_mul hD.2.2 hb] at h1 h2
  have hE2 : Ext (miA mi) n0 φ0 (φMul φ (mn M) q r) := ⟨fun x hx => by
    rw [← hE.1 x hx]
    exact φMul_okr (hx.elim (fun z => Or.inl (Nat.le_trans z hn)) Or.inr) hb, fun z => absurd z hA⟩
  have K := kk p l e s m args below meth c E φ0 n0 B (φMul φ (mn M) q r) H1 locs ls hE2 (Nat.le_trans hn (Nat.le_add_right _ 6)) ⟨h1, h2, okM_mul hD.2.2 hb⟩ h3 (lvR_ext hl (fun i x hx => φMul_okr (hok x (rfs_lv hx)) hb))
  rw [List.map_cons, st_ext (fun x hx => φMul_okr (hok x (rfs_st hx)) hb), av_ref (by omega : mn M + 1 ≠ 0), show φMul φ (mn M) q r (mn M + 1) = q from if_pos rfl] at K
  exact K
end MU
