/-! FROM a method's body to its contract; rows of single callees -/
def lvA : List AV → List (Option AV)
  | [] => []
  | v :: vs => if acat v = 2 then some v :: none :: lvA vs else some v :: lvA vs
def lv0 (as : List AV) (n : Nat) : List (Option AV) := lvA as ++ List.replicate (n - (lvA as).length) none
theorem lvA_args {φ : Nat → Nat} : ∀ (as : List AV) (i j : Nat) (v : AV), (lvA as)[j]? = some (some v) → (i + j, av φ v) ∈ lv_args i (as.map (av φ))
  | [], i, j, v, h => by simp [lvA] at h
  | w :: ws, i, j, v, h => by
    have hc := av_cat φ w
    show _ ∈ (i, av φ w) :: lv_args (if (av φ w).category = 2 then i + 2 else i + 1) (ws.map (av φ))
    rw [hc]
    unfold lvA at h
    by_cases h2 : acat w = 2
    · rw [if_pos h2] at h ⊢
      match j, h with
      | 0, h => cases h; exact List.mem_cons_self
      | 1, h => cases h
      | j + 2, h =>
        have := lvA_args (φ := φ) ws (i + 2) j v h
        rw [show i + (j + 2) = i + 2 + j by omega]
        exact List.mem_cons_of_mem _ this
    · rw [if_neg h2] at h ⊢
      match j, h with
      | 0, h => cases h; exact List.mem_cons_self
      | j + 1, h =>
        have := lvA_args (φ := φ) ws (i + 1) j v h
        rw [show i + (j + 1) = i + 1 + j by omega]
        exact List.mem_cons_of_mem _ this
theorem lvA_len {φ : Nat → Nat} : ∀ as : List AV, (lg_sl (as.map (av φ))).length = (lvA as).length
  | [] => rfl
  | w :: ws => by
    have ih := lvA_len (φ := φ) ws
    have hc := av_cat φ w
    show (((if (av φ w).category = 2 then [Slot.val (av φ w), .second] else [.val (av φ w)]) ++ lg_sl (ws.map (av φ))).length) = (lvA (w :: ws)).length
    rw [hc]
    unfold lvA
    by_cases h2 : acat w = 2
    · rw [if_pos h2, if_pos h2]; simp [ih]
    · rw [if_neg h2, if_neg h2]; simp [ih]
section RB
variable {mi mi2 : MI} {fr fr2 : Nat} {o : OC} {M' M M1 : Mem} {pc pc' : Nat} {lv lv' : List (Option AV)} {st : List AV} {k u k' u' : Nat} {as : List AV}
theorem lvR_entry {φ : Nat → Nat} (hlen : (lvA as).length ≤ miL mi) : lvR φ (miL mi) (lv0 as (miL mi)) ((lg_sl (as.map (av φ)) ++ List.replicate (miL mi - (lg_sl (as.map (av φ))).length) Slot.unset).toArray) := by
  have h := lv_entry (as.map (av φ)) (n := miL mi) (by rw [lvA_len]; exact hlen)
  refine ⟨h.1, h.2.1, fun i v hv => ?_⟩
  unfold lv0 at hv
  rcases Nat.lt_or_ge i (lvA as).length with hi | hi
  · rw [List.getElem?_append_left hi] at hv
    have := lvA_args (φ := φ) as 0 i v hv
    rw [Nat.zero_add] at this
    exact h.2.2 _ this
  · rw [List.getElem?_append_right hi, List.getElem?_replicate] at hv
    split at hv
    · cases hv
    · cases hv
theorem sem_of (hy : plainName (miY mi).cls = true) (hw : miW mi = Cond.code (miY mi) (miC mi) (miL mi) (miR mi)) (hh : miH mi = []) (hs : miS mi = none) (hlen : (lvA as).length ≤ miL mi) (hlv : lv0 as (miL mi) = lv) (hG : G mi fr o M' 0 lv [] M 0 0) : Sem mi fr as M o M' := by
  subst hlv
  intro l hst E φ
  refine vx_ofW (cc := miC mi) (maxL := miL mi) (ret := miR mi) hy (by rw [hw]) ?_
  intro p e s m args below meth c s₁ B hml ht hP
  obtain ⟨rfl, hE1, hD, hSt⟩ := hP
  rw [lg_entry_eq]
  have hts := atoms_spec (ws := miW mi :: WALL) B.pre
  exact hG p l e s m _ below meth c E φ (mn M) ⟨B.exec, B.bytes, hml, B.returns, findClass_of_methodNamed B.named, fun w hw => hts w (List.mem_cons_of_mem _ hw), B.notSynchronized, hst, by
      rw [hh]
      cases hx : c.exceptionTable.toList with
      | nil => rfl
      | cons x xs => exact (ht x (by rw [hx]; exact List.mem_cons_self)).elim, ⟨(name_of_methodNamed B.named B.method).1, fun q hq => by rw [hs] at hq; cases hq⟩, hE1, hSt⟩ φ s.heap [] _ ⟨fun _ _ => rfl, fun _ => rfl⟩ (Nat.le_refl _) hD va_S.rf (lvR_entry hlen)
theorem sem_ofH (hy : plainName (miY mi).cls = true) (hw : miW mi = Cond.codeWith (miY mi) (miC mi) (miL mi) (miR mi) (miH mi)) (hs : miS mi = none) (hlen : (lvA as).length ≤ miL mi) (hlv : lv0 as (miL mi) = lv) (hG : G mi fr o M' 0 lv [] M 0 0) : Sem mi fr as M o M' := by
  subst hlv
  intro l hst E φ
  refine vx_ofWH (cc := miC mi) (maxL := miL mi) (ret := miR mi) (hh := miH mi) hy (by rw [hw]) ?_
  intro p e s m args below meth c s₁ B hml hP
  obtain ⟨rfl, hE1, hD, hSt⟩ := hP
  rw [lg_entry_eq]
  have hts := atoms_spec (ws := miW mi :: WALL) B.pre
  have htab : c.exceptionTable.toList = tableOf (miH mi) := vx_table (x := miY mi) B (by rw [← hw]; exact hts _ List.mem_cons_self)
  exact hG p l e s m _ below meth c E φ (mn M) ⟨B.exec, B.bytes, hml, B.returns, findClass_of_methodNamed B.named, fun w hw => hts w (List.mem_cons_of_mem _ hw), B.notSynchronized, hst, htab, ⟨(name_of_methodNamed B.named B.method).1, fun q hq => by rw [hs] at hq; cases hq⟩, hE1, hSt⟩ φ s.heap [] _ ⟨fun _ _ => rfl, fun _ => rfl⟩ (Nat.le_refl _) hD va_S.rf (lvR_entry hlen)
/-- Object.<init> -/
theorem g_obj {i b : Nat} (hl2 : Cond.methodLink (miY mi).cls i objectInit ∈ WALL) (w1 : Cond.instanceMethod objectInit ∈ WALL) (w2 : Cond.code objectInit ⟨#[0xb1]⟩ 1 none ∈ WALL) (hf : 1 ≤ fr) (hb0 : b ≠ 0) (hcs : csum st ≤ 8) (d : decode (miC mi) pc = .ok (.invokespecial i, 3)) (hp : pc + 3 = pc')
    (kk : G mi fr o M' pc' lv st M k u) : G mi fr o M' pc lv (aR b :: st) M k u := by
  intro p l e s m args below meth c E φ0 n0 B φ H locs ls hE hn hD hS hl
  subst hp
  rw [List.map_cons, av_ref hb0]
  have hr := lv_room (m := m) (pc := pc) (ls := ls) (rest := Value.ref (φ b) :: st.map (av φ)) (st := st.map (av φ)) (by rw [csum_eq]; exact hcs)
  exact W.objInit B.1 B.2.1 B.2.2.2.2.1 (B.2.2.2.2.2.1 _ hl2) (B.2.2.2.2.2.1 _ w1) (B.2.2.2.2.2.1 _ w2) (g := F0 m pc ls (Value.ref (φ b) :: st.map (av φ))) rfl (hl.1.trans B.2.2.1.symm) rfl d hf (by show _ ≤ 64 * fr; omega) (kk p l e s m args below meth c E φ0 n0 B φ H locs ls hE hn hD hS hl)
theorem g_min {i : Nat} {x y : Int32} (hl2 : Cond.methodLink (miY mi).cls i Lib.Math.min.name ∈ WALL) (w1 : Cond.static Lib.Math.min.name ∈ WALL) (w2 : Cond.initialized "java/lang/Math" ∈ WALL) (w3 : Cond.code Lib.Math.min.name Lib.Math.min.code 2 (some .int) ∈ WALL) (hf : 1 ≤ fr) (hcs : csum st ≤ 8) (hk : k ≤ miMc mi) (hu : u ≤ miMs mi) (d : decode (miC mi) pc = .ok (.invokestatic i, 3)) (hp : pc + 3 = pc')
    (kk : G mi fr o M' pc' lv (aI (if y < x then y else x) :: st) M k u) : G mi fr o M' pc lv (aI y :: aI x :: st) M k u := by
  intro p l e s m args below meth c E φ0 n0 B φ H locs ls hE hn hD hS hl
  subst hp
  exact va_mmin B.1 B.2.1 (B.2.2.1.trans hl.1.symm) B.2.2.2.2.1 (B.2.2.2.2.2.1 _ hl2) (B.2.2.2.2.2.1 _ w1) (B.2.2.2.2.2.1 _ w2) (B.2.2.2.2.2.1 _ w3) hf (by rw [csum_eq]; show csum st + 13 ≤ 64 * fr; omega) hk hu d (kk p l e s m args below meth c E φ0 n0 B φ H locs ls hE hn hD hS hl)
theorem g_max {i : Nat} {x y : Int32} (hl2 : Cond.methodLink (miY mi).cls i Lib.Math.max.name ∈ WALL) (w1 : Cond.static Lib.Math.max.name ∈ WALL) (w2 : Cond.initialized "java/lang/Math" ∈ WALL) (w3 : Cond.code Lib.Math.max.name Lib.Math.max.code 2 (some .int) ∈ WALL) (hf : 1 ≤ fr) (hcs : csum st ≤ 8) (hk : k ≤ miMc mi) (hu : u ≤ miMs mi) (d : decode (miC mi) pc = .ok (.invokestatic i, 3)) (hp : pc + 3 = pc')
    (kk : G mi fr o M' pc' lv (aI (if x < y then y else x) :: st) M k u) : G mi fr o M' pc lv (aI y :: aI x :: st) M k u := by
  intro p l e s m args below meth c E φ0 n0 B φ H locs ls hE hn hD hS hl
  subst hp
  exact va_mmax B.1 B.2.1 (B.2.2.1.trans hl.1.symm) B.2.2.2.2.1 (B.2.2.2.2.2.1 _ hl2) (B.2.2.2.2.2.1 _ w1) (B.2.2.2.2.2.1 _ w2) (B.2.2.2.2.2.1 _ w3) hf (by rw [csum_eq]; show csum st + 13 ≤ 64 * fr; omega) hk hu d (kk p l e s m args below meth c E φ0 n0 B φ H locs ls hE hn hD hS hl)
/-- a stretch of an int array into another -/
def cpI (M : Mem) (a0 a : Nat) (sp dp n : Nat) : Mem := (mK M, mN M, va_up (mI M) a (va_cpy (mI M a0) (mI M a) sp dp n), mR M, mJ M, mn M)
def cpR (M : Mem) (a0 a : Nat) (sp dp n : Nat) : Mem := (mK M, mN M, mI M, va_up (mR M) a (va_cpy (mR M a0) (mR M a) sp dp n), mJ M, mn M)
def cpOk (M : Mem) (a0 a : Nat) (sp dp n : Int32) : Prop := ¬ sp < 0 ∧ ¬ dp < 0 ∧ ¬ n < 0 ∧ sp.toNatClampNeg + n.toNatClampNeg ≤ mN M a0 ∧ dp.toNatClampNeg + n.toNatClampNeg ≤ mN M a
theorem g_copyI {i a0 a : Nat} {sp dp n : Int32} (hl2 : Cond.methodLink (miY mi).cls i arraycopyName ∈ WALL) (w1 : Cond.native arraycopyName ∈ WALL) (w2 : Cond.static arraycopyName ∈ WALL) (w3 : Cond.initialized "java/lang/System" ∈ WALL) (hf : 1 ≤ fr) (hcs : csum st ≤ 8) (d : decode (miC mi) pc = .ok (.invokestatic i, 3)) (hp : pc + 3 = pc') (hK0 : mK M a0 = 21) (hK : mK M a = 21) (hc : cpOk M a0 a sp dp n)
    (kk : G mi fr o M' pc' lv st (cpI M a0 a sp.toNatClampNeg dp.toNatClampNeg n.toNatClampNeg) k u) : G mi fr o M' pc lv (aI n :: aI dp :: aR a :: aI sp :: aR a0 :: st) M k u := by
  intro p l e s m args below meth c E φ0 n0 B φ H locs ls hE hn hD hS hl
  subst hp
  obtain ⟨hat0, ha00⟩ := hD.at (a := a0) (by omega)
  obtain ⟨hat, ha0⟩ := hD.at (a := a) (by omega)
  rw [cE_int hK0] at hat0
  rw [cE_int hK] at hat
  rw [List.map_cons, List.map_cons, List.map_cons, List.map_cons, List.map_cons, av_ref ha0, av_ref ha00]
  refine va_copyi B.1 B.2.1 (B.2.2.1.trans hl.1.symm) B.2.2.2.2.1 (B.2.2.2.2.2.1 _ hl2) (B.2.2.2.2.2.1 _ w1) (B.2.2.2.2.2.1 _ w2) (B.2.2.2.2.2.1 _ w3) B.2.2.2.2.2.2.2.2.2.2.2.1 hD.1 hD.2.1 hS (a0 - 1) (a - 1) 0 0 hat0 hat rfl rfl rfl hc.1 hc.2.1 hc.2.2.1 hc.2.2.2.1 hc.2.2.2.2 (fun _ _ => rfl) hf (by rw [csum_eq]; show csum st + (nativeFrameWords "java/lang/System" "arraycopy" 5 + 11) ≤ 64 * fr; have h9 : nativeFrameWords "java/lang/System" "arraycopy" 5 + 11 ≤ 56 := (by decide +kernel); omega) d (fun H1 locs1 h1 h2 h3 => ?_)
  have e1 : mI (cpI M a0 a sp.toNatClampNeg dp.toNatClampNeg n.toNatClampNeg) a = va_cpy (mI M a0) (mI M a) sp.toNatClampNeg dp.toNatClampNeg n.toNatClampNeg := if_pos rfl
  rw [← e1, show mN M a = mN (cpI M a0 a sp.toNatClampNeg dp.toNatClampNeg n.toNatClampNeg) a from rfl, ← cE_int (E := E) (φ := φ) (M := cpI M a0 a sp.toNatClampNeg dp.toNatClampNeg n.toNatClampNeg) hK, wl_set (M := M) (M2 := cpI M a0 a sp.toNatClampNeg dp.toNatClampNeg n.toNatClampNeg) (by omega) rfl rfl rfl (fun b hb => if_neg hb) (fun _ _ => rfl) (fun _ _ => rfl)] at h1 h2
  exact kk p l e s m args below meth c E φ0 n0 B φ H1 locs1 ls hE hn ⟨h1, h2, hD.2.2⟩ h3 hl
theorem okM_cpR {a0 a sp dp n : Nat} (h : okM M) : okM (cpR M a0 a sp dp n) := by
  refine ⟨h.1, fun b j => ?_, h.2.2⟩
  show okr M (va_up (mR M) a (va_cpy (mR M a0) (mR M a) sp dp n) b j)
  unfold va_up
  by_cases q : b = a
  · rw [if_pos q]
    unfold va_cpy
    by_cases z : dp ≤ j ∧ j < dp + n
    · rw [if_pos z]; exact h.2.1 _ _
    · rw [if_neg z]; exact h.2.1 _ _
  · rw [if_neg q]; exact h.2.1 b j
/-- a stretch of an Act array into another; all that is copied are Acts -/
theorem g_copyA {i a0 a : Nat} {sp dp n : Int32} (hl2 : Cond.methodLink (miY mi).cls i arraycopyName ∈ WALL) (w1 : Cond.native arraycopyName ∈ WALL) (w2 : Cond.static arraycopyName ∈ WALL) (w3 : Cond.initialized "java/lang/System" ∈ WALL) (hf : 1 ≤ fr) (hcs : csum st ≤ 8) (d : decode (miC mi) pc = .ok (.invokestatic i, 3)) (hp : pc + 3 = pc') (hK0 : mK M a0 = 24) (hK : mK M a = 24) (hc : cpOk M a0 a sp dp n) (hel : ∀ j, j < n.toNatClampNeg → mK M (mR M a0 (sp.toNatClampNeg + j)) = 1)
    (kk : G mi fr o M' pc' lv st (cpR M a0 a sp.toNatClampNeg dp.toNatClampNeg n.toNatClampNeg) k u) : G mi fr o M' pc lv (aI n :: aI dp :: aR a :: aI sp :: aR a0 :: st) M k u := by
  intro p l e s m args below meth c E φ0 n0 B φ H locs ls hE hn hD hS hl
  subst hp
  obtain ⟨hat0, ha00⟩ := hD.at (a := a0) (by omega)
  obtain ⟨hat, ha0⟩ := hD.at (a := a) (by omega)
  rw [cE_refs hK0 (by decide)] at hat0
  rw [cE_refs hK (by decide)] at hat
  rw [List.map_cons, List.map_cons, List.map_cons, List.map_cons, List.map_cons, av_ref ha0, av_ref ha00]
  refine va_copyq (C := RX0) (E0 := RX0) (E1 := RX0) B.1 B.2.1 (B.2.2.1.trans hl.1.symm) B.2.2.2.2.1 (B.2.2.2.2.2.1 _ hl2) (B.2.2.2.2.2.1 _ w1) (B.2.2.2.2.2.1 _ w2) (B.2.2.2.2.2.1 _ w3) B.2.2.2.2.2.2.2.2.2.2.2.1 hD.1 hD.2.1 hS (a0 - 1) (a - 1) 3 3 hat0 hat rfl rfl hc.1 hc.2.1 hc.2.2.1 hc.2.2.2.1 hc.2.2.2.2 (fun j hj y hy => ?_) (fun comp c0 h1 h2 => ?_) hf (by rw [csum_eq]; show csum st + (nativeFrameWords "java/lang/System" "arraycopy" 5 + 11) ≤ 64 * fr; have h9 : nativeFrameWords "java/lang/System" "arraycopy" 5 + 11 ≤ 56 := (by decide +kernel); omega) d (fun H1 locs1 h1 h2 h3 => ?_)
  · have h1 := hel j hj
    obtain ⟨hrt, hr0⟩ := hD.at (a := mR M a0 (sp.toNatClampNeg + j)) (by omega)
    rw [cE_obj (c := 0) h1 (by decide)] at hrt
    have hy : rO φ (mR M a0 (sp.toNatClampNeg + j)) = some y := hy
    unfold rO at hy
    rw [if_neg hr0] at hy
    cases hy
    exact va_recv B.2.2.2.2.2.2.2.2.2.2.2.1 hD.1 (ci := 0) (q := (RX0, TX0, 5)) rfl hrt
  · have hka := B.2.2.2.2.2.2.2.2.2.2.2.1.1 0 (RX0, TX0, 5) rfl
    have h4 : s.vm.findClass RX0 = some (E.2.1.1 0) := hka.2.1
    cases Option.some.inj (h1.symm.trans h4)
    cases Option.some.inj (h2.symm.trans h4)
    exact va_assign hka.2
  · have e1 : mR (cpR M a0 a sp.toNatClampNeg dp.toNatClampNeg n.toNatClampNeg) a = va_cpy (mR M a0) (mR M a) sp.toNatClampNeg dp.toNatClampNeg n.toNatClampNeg := if_pos rfl
    have e2 : va_cpy (fun i => rO φ (mR M a0 i)) (fun i => rO φ (mR M a i)) sp.toNatClampNeg dp.toNatClampNeg n.toNatClampNeg = fun i => rO φ (mR (cpR M a0 a sp.toNatClampNeg dp.toNatClampNeg n.toNatClampNeg) a i) := by
      rw [e1]
      funext j
      unfold va_cpy
      by_cases z : dp.toNatClampNeg ≤ j ∧ j < dp.toNatClampNeg + n.toNatClampNeg
      · rw [if_pos z, if_pos z]
      · rw [if_neg z, if_neg z]
    rw [e2, show mN M a = mN (cpR M a0 a sp.toNatClampNeg dp.toNatClampNeg n.toNatClampNeg) a from rfl, ← cE_refs (E := E) (φ := φ) (M := cpR M a0 a sp.toNatClampNeg dp.toNatClampNeg n.toNatClampNeg) hK (by decide), wl_set (M := M) (M2 := cpR M a0 a sp.toNatClampNeg dp.toNatClampNeg n.toNatClampNeg) (by omega) rfl rfl rfl (fun _ _ => rfl) (fun b hb => if_neg hb) (fun _ _ => rfl)] at h1 h2
    exact kk p l e s m args below meth c E φ0 n0 B φ H1 locs1 ls hE hn ⟨h1, h2, okM_cpR hD.2.2⟩ h3 hl
end RB
