/-! THE ABSTRACT MEMORY. Cells by relative address (0: null; 1000000 + k: the k-th text constant): tag, length, int slots, reference slots, long slots; how many cells there are. -/
abbrev AV : Type := Int32 ⊕ (Nat ⊕ Int64)
abbrev aI (x : Int32) : AV := .inl x
abbrev aR (r : Nat) : AV := .inr (.inl r)
abbrev aL (x : Int64) : AV := .inr (.inr x)
def av (φ : Nat → Nat) (v : AV) : Value := match v with
  | .inl i => .int i
  | .inr (.inl r) => if r = 0 then .null else .ref (φ r)
  | .inr (.inr x) => .long x
def acat (v : AV) : Nat := match v with
  | .inl _ => 1
  | .inr (.inl _) => 1
  | .inr (.inr _) => 2
theorem av_cat (φ : Nat → Nat) (v : AV) : (av φ v).category = acat v := by
  rcases v with x | r | x
  · rfl
  · unfold av acat
    by_cases h : r = 0
    · simp [h, Value.category]
    · simp [h, Value.category]
  · rfl
theorem av_ref {φ : Nat → Nat} {r : Nat} (h : r ≠ 0) : av φ (aR r) = .ref (φ r) := by
  show (if r = 0 then Value.null else .ref (φ r)) = _
  rw [if_neg h]
theorem av_null {φ : Nat → Nat} : av φ (aR 0) = .null := rfl
abbrev Mem : Type := (Nat → Nat) × (Nat → Nat) × (Nat → Nat → Int32) × (Nat → Nat → Nat) × (Nat → Nat → Int64) × Nat
def mK (M : Mem) : Nat → Nat := M.1
def mN (M : Mem) : Nat → Nat := M.2.1
def mI (M : Mem) : Nat → Nat → Int32 := M.2.2.1
def mR (M : Mem) : Nat → Nat → Nat := M.2.2.2.1
def mJ (M : Mem) : Nat → Nat → Int64 := M.2.2.2.2.1
def mn (M : Mem) : Nat := M.2.2.2.2.2
def up2 {α : Type} (f : Nat → Nat → α) (a k : Nat) (v : α) : Nat → Nat → α := fun b j => if b = a ∧ j = k then v else f b j
def sI (M : Mem) (a k : Nat) (v : Int32) : Mem := (mK M, mN M, up2 (mI M) a k v, mR M, mJ M, mn M)
def sR (M : Mem) (a k : Nat) (v : Nat) : Mem := (mK M, mN M, mI M, up2 (mR M) a k v, mJ M, mn M)
def sJ (M : Mem) (a k : Nat) (v : Int64) : Mem := (mK M, mN M, mI M, mR M, up2 (mJ M) a k v, mn M)
/-- a new cell of a tag and a length, all its slots 0 or null: its address is how many there are then -/
def mNew (M : Mem) (t n : Nat) : Mem := (va_up (mK M) (mn M + 1) t, va_up (mN M) (mn M + 1) n, va_up (mI M) (mn M + 1) (fun _ => 0), va_up (mR M) (mn M + 1) (fun _ => 0), va_up (mJ M) (mn M + 1) (fun _ => 0), mn M + 1)
/-- the classes whose objects the memory holds, by their tags less 1 -/
abbrev vwCl : List vw_C := [(RX0, TX0, 5), (RX1, TX1, 7), (RX2, TX2, 5), (RX3, TX3, 6), (RX4, TX4, 6), (RX5, TX5, 13), (RX6, TX6, 6), (RX7, TX7, 6), (RX8, TX8, 8), (RX9, TX9, 6), (RX10, TX10, 7), (RX11, TX11, 15), (RX12, TX12, 55)]
def cNf (c : Nat) : Nat := [5, 7, 5, 6, 6, 13, 6, 6, 8, 6, 7, 15, 55].getD c 0
/-- the environment: the base, the classes' numbers and slots, the arrays' classes by tag, the texts' byte arrays -/
abbrev EE : Type := Nat × va_G × (Nat → ClassId) × (Nat → Nat)
def rO (φ : Nat → Nat) (r : Nat) : Option Nat := if r = 0 then none else some (φ r)
theorem rO_rf (φ : Nat → Nat) (r : Nat) : va_rf (rO φ r) = av φ (aR r) := by
  unfold rO
  by_cases h : r = 0
  · subst h; rfl
  · rw [if_neg h, av_ref h]; rfl
def cRfT : List (List Bool) := [[false, false, false, false, true],
  [false, false, false, false, false, true, true],
  [true, true, true, false, false],
  [false, true, false, true, true, true],
  [true, false, true, true, true, false],
  [false, false, true, true, true, true, true, true, true, true, true, true, true],
  [true, true, true, false, false, false],
  [true, false, true, false, false, false],
  [false, false, false, false, true, true, true, true],
  [true, false, false, false, false, false],
  [false, false, true, true, false, false, true],
  [true, true, true, true, true, true, true, true, true, true, true, true, true, false, false],
  [true, true, false, true, true, false, false, false, false, false, false, false, false, false, false, true, true, true, true, true, true, true, true, true, true, true, false, true, true, true, false, false, true, true, false, false, false, false, true, true, true, false, false, false, true, true, true, false, false, false, false, false, true, true, true]]
def cRf (c j : Nat) : Bool := (cRfT.getD c []).getD j false
def fv (φ : Nat → Nat) (M : Mem) (c a j : Nat) : Value := if cRf c j = true then av φ (aR (mR M a j)) else .int (mI M a j)
def fL (φ : Nat → Nat) (M : Mem) (c a : Nat) : List Value := (List.range (cNf c)).map (fv φ M c a)
theorem fL_get {φ : Nat → Nat} {M : Mem} {c a j : Nat} (h : j < cNf c) : (fL φ M c a)[j]? = some (fv φ M c a j) := by
  unfold fL
  rw [List.getElem?_map, List.getElem?_range h]
  rfl
theorem fL_len {φ : Nat → Nat} {M : Mem} {c a : Nat} : (fL φ M c a).length = cNf c := by simp [fL]
def cE (E : EE) (φ : Nat → Nat) (M : Mem) (a : Nat) : va_E :=
  if mK M a = 21 then .inl (E.2.2.1 21, mN M a, .inl (mI M a))
  else if mK M a = 22 then .inl (E.2.2.1 22, mN M a, .inr (.inl (mJ M a)))
  else if 23 ≤ mK M a then .inl (E.2.2.1 (mK M a), mN M a, .inr (.inr (.inr (.inr (fun i => rO φ (mR M a i))))))
  else .inr (mK M a - 1, fL φ M (mK M a - 1) a)
def wl (E : EE) (φ : Nat → Nat) (M : Mem) : va_W := (List.range (mn M)).map (fun k => (φ (k + 1), cE E φ M (k + 1)))
theorem wl_get {E : EE} {φ : Nat → Nat} {M : Mem} {a : Nat} (h1 : 1 ≤ a) (h2 : a ≤ mn M) : (wl E φ M)[a - 1]? = some (φ a, cE E φ M a) := by
  unfold wl
  rw [List.getElem?_map, List.getElem?_range (by omega)]
  show some (φ (a - 1 + 1), cE E φ M (a - 1 + 1)) = _
  rw [show a - 1 + 1 = a by omega]
/-- every reference is null, a text, or of a cell that is there; a tag stands at a cell alone -/
def okr (M : Mem) (r : Nat) : Prop := r ≤ mn M ∨ 1000000 ≤ r
def okM (M : Mem) : Prop := (∀ a, mK M a ≠ 0 → 1 ≤ a ∧ a ≤ mn M) ∧ (∀ a j, okr M (mR M a j)) ∧ mn M < 900000
def Dyn (E : EE) (φ : Nat → Nat) (M : Mem) (H : Heap) : Prop := va_P E.2.1 vwCl (wl E φ M) H ∧ va_D (fun q => E.1 ≤ q) (wl E φ M) ∧ okM M
theorem Dyn.at {E : EE} {φ : Nat → Nat} {M : Mem} {H : Heap} (h : Dyn E φ M H) {a : Nat} (ha : mK M a ≠ 0) : (wl E φ M)[a - 1]? = some (φ a, cE E φ M a) ∧ a ≠ 0 := by
  have h1 := h.2.2.1 a ha
  exact ⟨wl_get h1.1 h1.2, by omega⟩
theorem cE_obj {E : EE} {φ : Nat → Nat} {M : Mem} {a c : Nat} (h : mK M a = c + 1) (hc : c < 20) : cE E φ M a = .inr (c, fL φ M c a) := by
  unfold cE
  rw [if_neg (by omega), if_neg (by omega), if_neg (by omega), h]
  rfl
theorem cE_int {E : EE} {φ : Nat → Nat} {M : Mem} {a : Nat} (h : mK M a = 21) : cE E φ M a = .inl (E.2.2.1 21, mN M a, .inl (mI M a)) := by
  unfold cE
  rw [if_pos h]
theorem cE_long {E : EE} {φ : Nat → Nat} {M : Mem} {a : Nat} (h : mK M a = 22) : cE E φ M a = .inl (E.2.2.1 22, mN M a, .inr (.inl (mJ M a))) := by
  unfold cE
  rw [if_neg (by omega), if_pos h]
theorem cE_refs {E : EE} {φ : Nat → Nat} {M : Mem} {a t : Nat} (h : mK M a = t) (ht : 23 ≤ t) : cE E φ M a = .inl (E.2.2.1 t, mN M a, .inr (.inr (.inr (.inr (fun i => rO φ (mR M a i)))))) := by
  unfold cE
  rw [if_neg (by omega), if_neg (by omega), if_pos (by omega), h]
/-- two memories that differ at one cell's slots alone -/
theorem wl_set {E : EE} {φ : Nat → Nat} {M M2 : Mem} {a : Nat} (h1 : 1 ≤ a) (hn : mn M2 = mn M) (hK : mK M2 = mK M) (hN : mN M2 = mN M) (hI : ∀ b, b ≠ a → mI M2 b = mI M b) (hR : ∀ b, b ≠ a → mR M2 b = mR M b) (hJ : ∀ b, b ≠ a → mJ M2 b = mJ M b) :
    (wl E φ M).set (a - 1) (φ a, cE E φ M2 a) = wl E φ M2 := by
  apply List.ext_getElem?
  intro i
  unfold wl
  rw [hn, List.getElem?_set]
  by_cases hi : a - 1 = i
  · subst hi
    rw [if_pos rfl]
    by_cases hl : a - 1 < mn M
    · rw [if_pos (by simpa using hl), List.getElem?_map, List.getElem?_range hl]
      show _ = some (φ (a - 1 + 1), cE E φ M2 (a - 1 + 1))
      rw [show a - 1 + 1 = a by omega]
    · rw [if_neg (by simpa using hl), List.getElem?_eq_none (by simpa using hl)]
  · rw [if_neg hi, List.getElem?_map, List.getElem?_map]
    by_cases hl : i < mn M
    · rw [List.getElem?_range hl]
      have hb : i + 1 ≠ a := by omega
      show some (φ (i + 1), cE E φ M (i + 1)) = some (φ (i + 1), cE E φ M2 (i + 1))
      have : cE E φ M2 (i + 1) = cE E φ M (i + 1) := by
        unfold cE fL
        have hf : fv φ M2 = fv φ M ∨ True := Or.inr trivial
        have hfv : ∀ c, fv φ M2 c (i + 1) = fv φ M c (i + 1) := by
          intro c; funext j; unfold fv; rw [hI _ hb, hR _ hb]
        rw [hK, hN, hI _ hb, hR _ hb, hJ _ hb, hfv]
      rw [this]
    · rw [List.getElem?_eq_none (by simpa using hl)]
      rfl
theorem mI_s (M : Mem) (a k : Nat) (v : Int32) : mI (sI M a k v) a = upd (mI M a) k v := by
  funext j
  show (if a = a ∧ j = k then v else mI M a j) = if j = k then v else mI M a j
  by_cases h : j = k <;> simp [h]
theorem mI_sn (M : Mem) (a k : Nat) (v : Int32) {b : Nat} (h : b ≠ a) : mI (sI M a k v) b = mI M b := by
  funext j
  show (if b = a ∧ j = k then v else mI M b j) = mI M b j
  rw [if_neg (fun q => h q.1)]
theorem mR_s (M : Mem) (a k : Nat) (v : Nat) : mR (sR M a k v) a = va_up (mR M a) k v := by
  funext j
  show (if a = a ∧ j = k then v else mR M a j) = if j = k then v else mR M a j
  by_cases h : j = k <;> simp [h]
theorem mR_sn (M : Mem) (a k : Nat) (v : Nat) {b : Nat} (h : b ≠ a) : mR (sR M a k v) b = mR M b := by
  funext j
  show (if b = a ∧ j = k then v else mR M b j) = mR M b j
  rw [if_neg (fun q => h q.1)]
theorem mJ_s (M : Mem) (a k : Nat) (v : Int64) : mJ (sJ M a k v) a = vp_updL (mJ M a) k v := by
  funext j
  show (if a = a ∧ j = k then v else mJ M a j) = if j = k then v else mJ M a j
  by_cases h : j = k <;> simp [h]
theorem mJ_sn (M : Mem) (a k : Nat) (v : Int64) {b : Nat} (h : b ≠ a) : mJ (sJ M a k v) b = mJ M b := by
  funext j
  show (if b = a ∧ j = k then v else mJ M b j) = mJ M b j
  rw [if_neg (fun q => h q.1)]
theorem fL_sI {φ : Nat → Nat} {M : Mem} {c a k : Nat} {v : Int32} (hr : cRf c k = false) (hk : k < cNf c) : (fL φ M c a).set k (.int v) = fL φ (sI M a k v) c a := by
  apply List.ext_getElem?
  intro i
  rw [List.getElem?_set, fL_len]
  by_cases hi : k = i
  · subst hi
    rw [if_pos rfl, if_pos hk, fL_get hk]
    unfold fv
    rw [hr, if_neg (by decide), mI_s]
    simp [upd]
  · rw [if_neg hi]
    by_cases hl : i < cNf c
    · rw [fL_get hl, fL_get hl]
      unfold fv
      rw [mI_s]
      have : ¬ i = k := fun q => hi q.symm
      simp only [upd, if_neg this]
      rfl
    · rw [List.getElem?_eq_none (by rw [fL_len]; omega), List.getElem?_eq_none (by rw [fL_len]; omega)]
theorem fL_sR {φ : Nat → Nat} {M : Mem} {c a k r : Nat} (hr : cRf c k = true) (hk : k < cNf c) : (fL φ M c a).set k (av φ (aR r)) = fL φ (sR M a k r) c a := by
  apply List.ext_getElem?
  intro i
  rw [List.getElem?_set, fL_len]
  by_cases hi : k = i
  · subst hi
    rw [if_pos rfl, if_pos hk, fL_get hk]
    unfold fv
    rw [hr, if_pos rfl, mR_s]
    simp [va_up]
  · rw [if_neg hi]
    by_cases hl : i < cNf c
    · rw [fL_get hl, fL_get hl]
      unfold fv
      rw [mR_s]
      have : ¬ i = k := fun q => hi q.symm
      simp only [va_up, if_neg this]
      rfl
    · rw [List.getElem?_eq_none (by rw [fL_len]; omega), List.getElem?_eq_none (by rw [fL_len]; omega)]
theorem wl_sI {E : EE} {φ : Nat → Nat} {M : Mem} {a k : Nat} {v : Int32} (h1 : 1 ≤ a) : (wl E φ M).set (a - 1) (φ a, cE E φ (sI M a k v) a) = wl E φ (sI M a k v) :=
  wl_set h1 rfl rfl rfl (fun _ h => mI_sn M a k v h) (fun _ _ => rfl) (fun _ _ => rfl)
theorem wl_sR {E : EE} {φ : Nat → Nat} {M : Mem} {a k v : Nat} (h1 : 1 ≤ a) : (wl E φ M).set (a - 1) (φ a, cE E φ (sR M a k v) a) = wl E φ (sR M a k v) :=
  wl_set h1 rfl rfl rfl (fun _ _ => rfl) (fun _ h => mR_sn M a k v h) (fun _ _ => rfl)
theorem wl_sJ {E : EE} {φ : Nat → Nat} {M : Mem} {a k : Nat} {v : Int64} (h1 : 1 ≤ a) : (wl E φ M).set (a - 1) (φ a, cE E φ (sJ M a k v) a) = wl E φ (sJ M a k v) :=
  wl_set h1 rfl rfl rfl (fun _ _ => rfl) (fun _ _ => rfl) (fun _ h => mJ_sn M a k v h)
theorem okM_sR {M : Mem} {a k r : Nat} (h : okM M) (hr : okr M r) : okM (sR M a k r) := by
  refine ⟨h.1, fun b j => ?_, h.2.2⟩
  show okr M (if b = a ∧ j = k then r else mR M b j)
  by_cases q : b = a ∧ j = k
  · rw [if_pos q]; exact hr
  · rw [if_neg q]; exact h.2.1 b j
/-- a new cell: its address is told by φ anew -/
theorem wl_new {E : EE} {φ : Nat → Nat} {M : Mem} {t n q : Nat} (h : okM M) : wl E (va_up φ (mn M + 1) q) (mNew M t n) = wl E φ M ++ [(q, cE E (va_up φ (mn M + 1) q) (mNew M t n) (mn M + 1))] := by
  obtain ⟨hk, hr, hs⟩ := h
  unfold wl
  show (List.range (mn M + 1)).map _ = _
  rw [List.range_succ, List.map_append]
  congr 1
  · apply List.map_congr_left
    intro k hk2
    have hk2 : k < mn M := List.mem_range.mp hk2
    have hne : ¬ k + 1 = mn M + 1 := by omega
    have hφ : ∀ r, okr M r → va_up φ (mn M + 1) q r = φ r := fun r h => by
      unfold va_up
      rw [if_neg]
      rcases h with h | h <;> omega
    have eI : mI (mNew M t n) (k + 1) = mI M (k + 1) := if_neg hne
    have eR : mR (mNew M t n) (k + 1) = mR M (k + 1) := if_neg hne
    have eJ : mJ (mNew M t n) (k + 1) = mJ M (k + 1) := if_neg hne
    have eK : mK (mNew M t n) (k + 1) = mK M (k + 1) := if_neg hne
    have eN : mN (mNew M t n) (k + 1) = mN M (k + 1) := if_neg hne
    have hfv : ∀ c, fv (va_up φ (mn M + 1) q) (mNew M t n) c (k + 1) = fv φ M c (k + 1) := by
      intro c; funext j; unfold fv; rw [eI, eR]
      unfold av
      dsimp only
      rw [hφ _ (hr _ _)]
    have hro : (fun i => rO (va_up φ (mn M + 1) q) (mR M (k + 1) i)) = fun i => rO φ (mR M (k + 1) i) := by
      funext i; unfold rO; rw [hφ _ (hr _ _)]
    have e1 : va_up φ (mn M + 1) q (k + 1) = φ (k + 1) := if_neg hne
    rw [e1]
    unfold cE fL
    rw [eK, eN, eI, eR, eJ, hfv, hro]
  · show [(va_up φ (mn M + 1) q (mn M + 1), _)] = _
    rw [show va_up φ (mn M + 1) q (mn M + 1) = q from if_pos rfl]
theorem okM_new {M : Mem} {t n : Nat} (h : okM M) (hs : mn M + 1 < 900000) : okM (mNew M t n) := by
  obtain ⟨hk, hr, -⟩ := h
  refine ⟨fun a ha => ?_, fun a j => ?_, hs⟩
  · show 1 ≤ a ∧ a ≤ mn M + 1
    by_cases q : a = mn M + 1
    · omega
    · have : mK M a ≠ 0 := fun z => ha ((if_neg q).trans z)
      have := hk a this
      omega
  · show mR (mNew M t n) a j ≤ mn M + 1 ∨ _
    by_cases q : a = mn M + 1
    · left
      have : mR (mNew M t n) a = fun _ => 0 := if_pos q
      rw [this]; exact Nat.zero_le _
    · have : mR (mNew M t n) a = mR M a := if_neg q
      rw [this]
      rcases hr a j with h | h
      · left; omega
      · right; exact h
/-! THE JUDGEMENTS -/
/-- a method: its name, its word (code, or code with a table), its bytes, locals, answer's type, table; how many cells and slots it may make; whether it makes cells of the memory -/
abbrev MI : Type := MethodName × Cond × ByteArray × Nat × Option FieldType × List (Nat × Nat × Nat × Nat) × Nat × Nat × Nat × Option (Nat × (Nat → Int32))
abbrev miY (m : MI) : MethodName := m.1
abbrev miW (m : MI) : Cond := m.2.1
abbrev miC (m : MI) : ByteArray := m.2.2.1
abbrev miL (m : MI) : Nat := m.2.2.2.1
abbrev miR (m : MI) : Option FieldType := m.2.2.2.2.1
abbrev miH (m : MI) : List (Nat × Nat × Nat × Nat) := m.2.2.2.2.2.1
abbrev miMc (m : MI) : Nat := m.2.2.2.2.2.2.1
abbrev miMs (m : MI) : Nat := m.2.2.2.2.2.2.2.1
abbrev miA (m : MI) : Nat := m.2.2.2.2.2.2.2.2.1
/-- the law's script: its length, its numbers -/
abbrev miS (m : MI) : Option (Nat × (Nat → Int32)) := m.2.2.2.2.2.2.2.2.2
abbrev rmm (fr mc ms : Nat) : Room := { frames := fr, cells := mc, slots := ms, locals := 64 * fr }
/-- a call's end: an answer, or what it throws -/
abbrev OC : Type := Option AV ⊕ String
def Ext (al n0 : Nat) (φ φ' : Nat → Nat) : Prop := (∀ r, (r ≤ n0 ∨ 1000000 ≤ r) → φ' r = φ r) ∧ (al = 0 → φ' = φ)
def QC (E : EE) (φ : Nat → Nat) (n0 al : Nat) (o : OC) (M' : Mem) : Array Value → State → Outcome → State → Prop := fun _ st oc t =>
  (∃ (φ' : Nat → Nat) (r : Option AV), o = .inl r ∧ Ext al n0 φ φ' ∧ oc = .returned (r.map (av φ')) ∧ Dyn E φ' M' t.heap ∧ n0 ≤ mn M') ∧ va_F (fun q => E.1 ≤ q) st t
def QX (E : EE) (φ : Nat → Nat) (n0 al : Nat) (o : OC) (M' : Mem) : String → State → State → Prop := fun En st t =>
  (∃ φ' : Nat → Nat, o = .inr En ∧ Ext al n0 φ φ' ∧ Dyn E φ' M' t.heap ∧ n0 ≤ mn M') ∧ va_F (fun q => E.1 ≤ q) st t
/-- the texts: class, entry, text, bytes -/
def sTab : List (String × Nat × String × List Int32) := [(RX6, 77, "one", [111, 110, 101]), (RX6, 83, "maybe", [109, 97, 121, 98, 101]), (RX6, 85, "many", [109, 97, 110, 121]), (RX3, 49, "plus", [112, 108, 117, 115]), (RX3, 55, "times", [116, 105, 109, 101, 115]), (RX3, 57, "mod", [109, 111, 100]), (RX3, 59, "less", [108, 101, 115, 115]), (RX3, 61, "more", [109, 111, 114, 101]), (RX3, 63, "first", [102, 105, 114, 115, 116]), (RX3, 65, "gap", [103, 97, 112]), (RX12, 11, "one", [111, 110, 101]), (RX12, 13, "maybe", [109, 97, 121, 98, 101]), (RX12, 15, "many", [109, 97, 110, 121]), (RX12, 21, "plus", [112, 108, 117, 115]), (RX12, 23, "times", [116, 105, 109, 101, 115]), (RX12, 25, "mod", [109, 111, 100]), (RX12, 27, "less", [108, 101, 115, 115]), (RX12, 29, "more", [109, 111, 114, 101]), (RX12, 31, "first", [102, 105, 114, 115, 116]), (RX12, 33, "gap", [103, 97, 112])]
/-- the texts of exceptions: entry of LeafStripes, text -/
def xTab : List (Nat × String) := [(342, "the tape has not so many bytes"), (204, "no such what"), (344, "no such field"), (209, "no such letter"), (346, "no such leaf"), (348, "no such entry"), (350, "no such record"), (255, "the leaf isn't in the set"), (352, "no such set of leaves"), (262, "no such level"), (273, "no such byte"), (282, "no such fold"), (287, "no such pick"), (293, "no such size of a page"), (302, "no such value"), (326, "no such number of years")]
def tysE (E : EE) : List (ClassId × FieldType) := [(E.2.2.1 21, .int), (E.2.2.1 22, .long), (E.2.2.1 23, .object RX2), (E.2.2.1 24, .object RX0), (E.2.2.1 25, .array .int), (E.2.2.1 26, .object "java/lang/String")]
def nTab : List (String × Nat × MethodName) := [(RX11, 11, yX9_init), (RX11, 18, yX6_init), (RX11, 25, yX4_init), (RX11, 32, yX1_init), (RX11, 39, yX8_init), (RX11, 46, yX10_init), (RX7, 23, yX2_init), (RX11, 63, yX5_init), (RX11, 76, yX3_init), (RX5, 72, yX11_lowestBit), (RX8, 101, yX11_lowestBit)]
def oTab : List FieldType := [.object RX2, .object RX0, .object "java/lang/String", .array .int]
def xIA : String := "java/lang/IllegalArgumentException"
def xNS : String := "java/util/NoSuchElementException"
def cTab : List (String × String) := [(xIA, xIA), (xNS, xNS)]
def dTab : List MethodName := [Bundle.initS "java/lang/RuntimeException", Bundle.initS "java/lang/Exception", Bundle.initS Bundle.tN]
/-- words that stay, but that the kit carries one by one -/
def Nst (U : State) : Prop := (∀ q ∈ nTab, va_Nw (.methodLinkNest q.1 q.2.1 q.2.2 RX11) U) ∧ (∀ ty ∈ oTab, va_Nw (.arrayOver ty) U) ∧ (∀ q ∈ cTab, va_Nw (.castable q.1 q.2) U) ∧ va_Nc xIA xNS U ∧ ∀ x ∈ dTab, va_Nw (.declares x) U
theorem Nst.warm {s U : State} (hW : s.WarmedH U.vm) (h : Nst s) : Nst U :=
  ⟨fun q hq => va_Nw.warmM hW (h.1 q hq), fun ty ht => (show (Cond.arrayOver ty).before #[] (s.setVm U.vm) = true by rw [Cond.arrayOver_setVmC hW.alike]; exact h.2.1 ty ht), fun q hq => va_Nw.warmC hW (h.2.2.1 q hq), va_Nc.moved hW.alike h.2.2.2.1, fun x hx => va_Nw.warmD hW (h.2.2.2.2 x hx)⟩
/-- what stays: classes, texts, the two statics that a throw reads -/
def Sta (E : EE) (φ : Nat → Nat) (U : State) (H : Heap) : Prop :=
  va_K E.2.1 vwCl (tysE E) U ∧
  (∀ (k : Nat) (q : String × Nat × String × List Int32), sTab[k]? = some q → vk_R q.1 q.2.1 q.2.2.1 (φ (1000000 + k)) U ∧ va_O "java/lang/String" (φ (1000000 + k)) (fun q => E.1 ≤ q) U H ∧ va_OF "java/lang/String" "coder" "B" (.int 0) (φ (1000000 + k)) (fun q => E.1 ≤ q) U H ∧ va_OF "java/lang/String" "value" "[B" (.ref (E.2.2.2 k)) (φ (1000000 + k)) (fun q => E.1 ≤ q) U H ∧ va_T .byte (E.2.2.2 k) q.2.2.2.length (fun j => .int (q.2.2.2.getD j 0)) (fun q => E.1 ≤ q) U H) ∧
  (∀ q ∈ xTab, ∃ sa, vk_R RX11 q.1 q.2 sa U) ∧
  vx_Zq Bundle.tN "UNASSIGNED_STACK" Bundle.steD (fun q => E.1 ≤ q) U H ∧ vx_Zq Bundle.tN "SUPPRESSED_SENTINEL" Bundle.listD (fun q => E.1 ≤ q) U H ∧ Nst U ∧
  (∀ k, k < 20 → φ (2000000 + k) = E.2.2.2 k) ∧ va_Z "java/lang/String" "COMPACT_STRINGS" "Z" (.int 1) (fun q => E.1 ≤ q) U H ∧
  (va_Z "jdk/internal/util/Preconditions" "SIOOBE_FORMATTER" "Ljava/util/function/BiFunction;" .null (fun q => E.1 ≤ q) U H ∨ va_Z "jdk/internal/util/Preconditions" "SIOOBE_FORMATTER" "Ljava/util/function/BiFunction;" (.ref (φ 3000000)) (fun q => E.1 ≤ q) U H)
theorem Sta.move {E : EE} {φ φ' : Nat → Nat} {s U : State} {H H1 : Heap} (h : Sta E φ s H) (hW : s.WarmedH U.vm) (hq : ∀ a : Nat, a < H.size → ¬ E.1 ≤ a → H1[a]? = H[a]?) (hφ : ∀ r, 1000000 ≤ r → φ' r = φ r) : Sta E φ' U H1 := by
  obtain ⟨h1, h2, h3, h4, h5, h6, h7, h8, h9⟩ := h
  refine ⟨va_K.moved hW.alike h1, fun k q hk => ?_, fun q hq2 => ?_, ?_, ?_, h6.warm hW, fun k hk => (hφ _ (by omega)).trans (h7 k hk), va_Z.moved hW.alike (h8.kept hq), ?_⟩
  · obtain ⟨a1, a2, a3, a4, a5⟩ := h2 k q hk
    rw [hφ _ (by omega)]
    exact ⟨vk_R.warm hW a1, va_O.moved hW.alike (a2.kept hq), va_OF.moved hW.alike (a3.kept hq), va_OF.moved hW.alike (a4.kept hq), va_T.moved hW.alike (a5.kept hq)⟩
  · obtain ⟨sa, h⟩ := h3 q hq2
    exact ⟨sa, vk_R.warm hW h⟩
  · exact vx_Zq.moved hW.alike (h4.kept hq)
  · exact vx_Zq.moved hW.alike (h5.kept hq)
  · rcases h9 with h | h
    · exact Or.inl (va_Z.moved hW.alike (h.kept hq))
    · rw [hφ _ (by omega)]
      exact Or.inr (va_Z.moved hW.alike (h.kept hq))
theorem Sta.nst {E : EE} {φ : Nat → Nat} {U : State} {H : Heap} (h : Sta E φ U H) : Nst U := h.2.2.2.2.2.1
/-- a method's contract at these arguments and this memory -/
def Sem (mi : MI) (fr : Nat) (as : List AV) (M : Mem) (o : OC) (M' : Mem) : Prop :=
  ∀ (l : Launch), l.stackTraces = false → ∀ (E : EE) (φ : Nat → Nat),
    vx_Met l (miY mi) (miW mi :: WALL) (rmm fr (miMc mi) (miMs mi)) (fun v U => v = (as.map (av φ)).toArray ∧ E.1 ≤ U.heap.size ∧ Dyn E φ M U.heap ∧ Sta E φ U U.heap) (QC E φ (mn M) (miA mi) o M') (QX E φ (mn M) (miA mi) o M') (miMc mi) (miMs mi) (fun q => E.1 ≤ q)
def lvR (φ : Nat → Nat) (nL : Nat) (lv : List (Option AV)) (ls : Array Slot) : Prop := ls.size = nL ∧ lv_wf ls ∧ ∀ (i : Nat) (v : AV), lv[i]? = some (some v) → ls[i]? = some (.val (av φ v))
def Bd (mi : MI) (p : Program) (l : Launch) (s : State) (m : MethodId) (args : Array Value) (meth : Method) (c : Code) (E : EE) (φ0 : Nat → Nat) : Prop :=
  p.tables.exec = Jvm.exec ∧ c.code = miC mi ∧ c.maxLocals = miL mi ∧ meth.sig.returnType = miR mi ∧ s.vm.findClass (miY mi).cls = some m.cls ∧ (∀ w ∈ WALL, w.before args s = true) ∧ meth.locks = false ∧ l.stackTraces = false ∧ c.exceptionTable.toList = tableOf (miH mi) ∧ (meth.name = (miY mi).name ∧ ∀ q, miS mi = some q → va_X (φ0 4000000) q.1 q.2 s s.heap ∧ φ0 4000000 < s.heap.size ∧ ¬ E.1 ≤ φ0 4000000) ∧ E.1 ≤ s.heap.size ∧ Sta E φ0 s s.heap
/-- at pc, with these locals, this stack and this memory, the method comes to its end o, M' -/
def G (mi : MI) (fr : Nat) (o : OC) (M' : Mem) (pc : Nat) (lv : List (Option AV)) (st : List AV) (M : Mem) (k u : Nat) : Prop :=
  ∀ (p : Program) (l : Launch) (e : Env) (s : State) (m : MethodId) (args : Array Value) (below : List Frame) (meth : Method) (c : Code) (E : EE) (φ0 : Nat → Nat) (n0 : Nat),
    Bd mi p l s m args meth c E φ0 → ∀ (φ : Nat → Nat) (H : Heap) (locs : List Loc) (ls : Array Slot), Ext (miA mi) n0 φ0 φ → n0 ≤ mn M → Dyn E φ M H → va_S (fun q => E.1 ≤ q) s.heap H locs → lvR φ (miL mi) lv ls →
    W p l e (rmm fr (miMc mi) (miMs mi)) s m args below meth c H locs k u (vx_MQ below (QC E φ0 n0 (miA mi) o M') (QX E φ0 n0 (miA mi) o M') args s (miMc mi) (miMs mi) (fun q => E.1 ≤ q)) (F0 m pc ls (st.map (av φ)))
