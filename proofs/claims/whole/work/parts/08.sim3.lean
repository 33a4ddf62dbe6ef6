/-! ROWS of G over the memory -/
/-- the references among locals and stack -/
def rfs (lv : List (Option AV)) (st : List AV) : List Nat := (lv.filterMap fun o => match o with | some (.inr (.inl r)) => some r | _ => none) ++ (st.filterMap fun v => match v with | .inr (.inl r) => some r | _ => none)
def okrs (M : Mem) (rs : List Nat) : Prop := ∀ r ∈ rs, okr M r
theorem rfs_lv {lv : List (Option AV)} {st : List AV} {i r : Nat} (h : lv[i]? = some (some (aR r))) : r ∈ rfs lv st := List.mem_append_left _ (List.mem_filterMap.mpr ⟨_, List.mem_of_getElem? h, rfl⟩)
theorem rfs_st {lv : List (Option AV)} {st : List AV} {r : Nat} (h : aR r ∈ st) : r ∈ rfs lv st := List.mem_append_right _ (List.mem_filterMap.mpr ⟨_, h, rfl⟩)
theorem av_ext {φ φ' : Nat → Nat} {v : AV} (h : ∀ r, v = aR r → φ' r = φ r) : av φ' v = av φ v := by
  rcases v with x | r | x
  · rfl
  · unfold av
    dsimp only
    rw [h r rfl]
  · rfl
theorem lvR_ext {φ φ' : Nat → Nat} {nL : Nat} {lv : List (Option AV)} {ls : Array Slot} (h : lvR φ nL lv ls) (hφ : ∀ (i r : Nat), lv[i]? = some (some (aR r)) → φ' r = φ r) : lvR φ' nL lv ls := by
  refine ⟨h.1, h.2.1, fun i v hv => ?_⟩
  rw [av_ext (fun r hr => hφ i r (by rw [hv, hr]))]
  exact h.2.2 i v hv
theorem st_ext {φ φ' : Nat → Nat} {st : List AV} (hφ : ∀ r, aR r ∈ st → φ' r = φ r) : st.map (av φ') = st.map (av φ) := by
  apply List.map_congr_left
  intro v hv
  exact av_ext (fun r hr => hφ r (hr ▸ hv))
section RH
variable {mi : MI} {fr : Nat} {o : OC} {M' M : Mem} {pc pc' : Nat} {lv lv' : List (Option AV)} {st : List AV} {k u : Nat}
theorem g_getI {i a : Nat} {C : String} {T : u_T} {N : Nat} (ci j : Nat) (hc : vwCl[ci]? = some (C, T, N)) (hN : cNf ci = N) (h20 : ci < 20) (hin : ∀ w ∈ u_ws C T N, w ∈ WALL) (hj : j < N) (hr : cRf ci j = false) (hd : (T j).1 = C) (hw : Cond.fieldLink (miY mi).cls i C (T j).2.1 (T j).2.2.1 ∈ WALL)
    (d : decode (miC mi) pc = .ok (.getfield i, 3)) (hp : pc + 3 = pc') (hK : mK M a = ci + 1) (kk : G mi fr o M' pc' lv (aI (mI M a j) :: st) M k u) : G mi fr o M' pc lv (aR a :: st) M k u := by
  intro p l e s m args below meth c E φ0 n0 B φ H locs ls hE hn hD hS hl
  subst hp
  obtain ⟨hat, ha0⟩ := hD.at (a := a) (by omega)
  rw [cE_obj hK h20] at hat
  rw [List.map_cons, av_ref ha0]
  have hv : (fL φ M ci a)[j]? = some (.int (mI M a j)) := by
    rw [fL_get (by omega)]; unfold fv; rw [hr, if_neg (by decide)]
  exact va_get B.1 B.2.1 B.2.2.2.2.2.1 hin B.2.2.2.2.1 B.2.2.2.2.2.2.2.2.2.2.2.1 hD.1 (a - 1) hat hc j hj (B.2.2.2.2.2.1 _ hw) (fun x hx => by rw [hd] at hx; exact hx) hv d (kk p l e s m args below meth c E φ0 n0 B φ H locs ls hE hn hD hS hl)
theorem g_getR {i a : Nat} {C : String} {T : u_T} {N : Nat} (ci j : Nat) (hc : vwCl[ci]? = some (C, T, N)) (hN : cNf ci = N) (h20 : ci < 20) (hin : ∀ w ∈ u_ws C T N, w ∈ WALL) (hj : j < N) (hr : cRf ci j = true) (hd : (T j).1 = C) (hw : Cond.fieldLink (miY mi).cls i C (T j).2.1 (T j).2.2.1 ∈ WALL)
    (d : decode (miC mi) pc = .ok (.getfield i, 3)) (hp : pc + 3 = pc') (hK : mK M a = ci + 1) (kk : G mi fr o M' pc' lv (aR (mR M a j) :: st) M k u) : G mi fr o M' pc lv (aR a :: st) M k u := by
  intro p l e s m args below meth c E φ0 n0 B φ H locs ls hE hn hD hS hl
  subst hp
  obtain ⟨hat, ha0⟩ := hD.at (a := a) (by omega)
  rw [cE_obj hK h20] at hat
  rw [List.map_cons, av_ref ha0]
  have hv : (fL φ M ci a)[j]? = some (av φ (aR (mR M a j))) := by
    rw [fL_get (by omega)]; unfold fv; rw [hr, if_pos rfl]
  exact va_get B.1 B.2.1 B.2.2.2.2.2.1 hin B.2.2.2.2.1 B.2.2.2.2.2.2.2.2.2.2.2.1 hD.1 (a - 1) hat hc j hj (B.2.2.2.2.2.1 _ hw) (fun x hx => by rw [hd] at hx; exact hx) hv d (kk p l e s m args below meth c E φ0 n0 B φ H locs ls hE hn hD hS hl)
theorem Dyn.sI {E : EE} {φ : Nat → Nat} {H1 : Heap} {a j : Nat} {x : Int32} (ha : a ≠ 0) (ok : okM M) (h1 : va_P E.2.1 vwCl ((wl E φ M).set (a - 1) (φ a, cE E φ (sI M a j x) a)) H1) (h2 : va_D (fun q => E.1 ≤ q) ((wl E φ M).set (a - 1) (φ a, cE E φ (sI M a j x) a))) : Dyn E φ (sI M a j x) H1 := by
  rw [wl_sI (by omega)] at h1 h2
  exact ⟨h1, h2, ok⟩
theorem Dyn.sR {E : EE} {φ : Nat → Nat} {H1 : Heap} {a j r : Nat} (ha : a ≠ 0) (ok : okM M) (hr : okr M r) (h1 : va_P E.2.1 vwCl ((wl E φ M).set (a - 1) (φ a, cE E φ (sR M a j r) a)) H1) (h2 : va_D (fun q => E.1 ≤ q) ((wl E φ M).set (a - 1) (φ a, cE E φ (sR M a j r) a))) : Dyn E φ (sR M a j r) H1 := by
  rw [wl_sR (by omega)] at h1 h2
  exact ⟨h1, h2, okM_sR ok hr⟩
theorem g_putI {i a : Nat} {x : Int32} {C : String} {T : u_T} {N : Nat} {ty0 : Nat → FieldType} (ci j : Nat) (hc : vwCl[ci]? = some (C, T, N)) (hN : cNf ci = N) (h20 : ci < 20) (hin : ∀ w ∈ u_ws C T N, w ∈ WALL) (hty : ∀ k, k < N → parseFieldDescriptor (T k).2.2.1 = some (ty0 k)) (hnm : ∀ a, a < N → ∀ b, b < N → a ≠ b → (T a).2.1 ≠ (T b).2.1) (hj : j < N) (hr : cRf ci j = false) (hd : (T j).1 = C) (hf : (T j).2.2.2 = false) (hI : ty0 j = .int) (hw : Cond.fieldLink (miY mi).cls i C (T j).2.1 (T j).2.2.1 ∈ WALL)
    (d : decode (miC mi) pc = .ok (.putfield i, 3)) (hp : pc + 3 = pc') (hK : mK M a = ci + 1) (kk : G mi fr o M' pc' lv st (sI M a j x) k u) : G mi fr o M' pc lv (aI x :: aR a :: st) M k u := by
  intro p l e s m args below meth c E φ0 n0 B φ H locs ls hE hn hD hS hl
  subst hp
  obtain ⟨hat, ha0⟩ := hD.at (a := a) (by omega)
  rw [cE_obj hK h20] at hat
  rw [List.map_cons, List.map_cons, av_ref ha0]
  refine va_put B.1 B.2.1 B.2.2.2.2.2.1 hin ty0 hty hnm B.2.2.2.2.1 B.2.2.2.2.2.2.2.2.2.2.2.1 hD.1 hD.2.1 hS (a - 1) hat hc j hj (B.2.2.2.2.2.1 _ hw) (fun x hx => by rw [hd] at hx; exact hx) hf (v := .int x) (hty j hj) (by rw [hI]; rfl) (by rw [hI]; rfl) (by rw [fL_len]; omega) d (fun H1 locs1 h1 h2 h3 => ?_)
  rw [fL_sI hr (by omega), ← cE_obj (E := E) (M := sI M a j x) hK h20] at h1 h2
  exact kk p l e s m args below meth c E φ0 n0 B φ H1 locs1 ls hE hn (Dyn.sI ha0 hD.2.2 h1 h2) h3 hl
theorem g_putZ {i a : Nat} {x : Int32} {C : String} {T : u_T} {N : Nat} {ty0 : Nat → FieldType} (ci j : Nat) (hc : vwCl[ci]? = some (C, T, N)) (hN : cNf ci = N) (h20 : ci < 20) (hin : ∀ w ∈ u_ws C T N, w ∈ WALL) (hty : ∀ k, k < N → parseFieldDescriptor (T k).2.2.1 = some (ty0 k)) (hnm : ∀ a, a < N → ∀ b, b < N → a ≠ b → (T a).2.1 ≠ (T b).2.1) (hj : j < N) (hr : cRf ci j = false) (hd : (T j).1 = C) (hf : (T j).2.2.2 = false) (hI : ty0 j = .boolean) (hz : x = 0 ∨ x = 1) (hw : Cond.fieldLink (miY mi).cls i C (T j).2.1 (T j).2.2.1 ∈ WALL)
    (d : decode (miC mi) pc = .ok (.putfield i, 3)) (hp : pc + 3 = pc') (hK : mK M a = ci + 1) (kk : G mi fr o M' pc' lv st (sI M a j x) k u) : G mi fr o M' pc lv (aI x :: aR a :: st) M k u := by
  intro p l e s m args below meth c E φ0 n0 B φ H locs ls hE hn hD hS hl
  subst hp
  obtain ⟨hat, ha0⟩ := hD.at (a := a) (by omega)
  rw [cE_obj hK h20] at hat
  rw [List.map_cons, List.map_cons, av_ref ha0]
  refine va_put B.1 B.2.1 B.2.2.2.2.2.1 hin ty0 hty hnm B.2.2.2.2.1 B.2.2.2.2.2.2.2.2.2.2.2.1 hD.1 hD.2.1 hS (a - 1) hat hc j hj (B.2.2.2.2.2.1 _ hw) (fun x hx => by rw [hd] at hx; exact hx) hf (v := .int x) (hty j hj) (by rw [hI]; rcases hz with rfl | rfl <;> rfl) (by rw [hI]; rcases hz with rfl | rfl <;> rfl) (by rw [fL_len]; omega) d (fun H1 locs1 h1 h2 h3 => ?_)
  rw [fL_sI hr (by omega), ← cE_obj (E := E) (M := sI M a j x) hK h20] at h1 h2
  exact kk p l e s m args below meth c E φ0 n0 B φ H1 locs1 ls hE hn (Dyn.sI ha0 hD.2.2 h1 h2) h3 hl
theorem narrow_rf {φ : Nat → Nat} {r : Nat} {ty : FieldType} (h : (∃ n, ty = .object n) ∨ ∃ t, ty = .array t) : narrow ty (av φ (aR r)) = av φ (aR r) ∧ fits ty (av φ (aR r)) = true := by
  by_cases hr : r = 0
  · subst hr
    rcases h with ⟨n, rfl⟩ | ⟨t, rfl⟩ <;> exact ⟨rfl, rfl⟩
  · rw [av_ref hr]
    rcases h with ⟨n, rfl⟩ | ⟨t, rfl⟩ <;> exact ⟨rfl, rfl⟩
theorem g_putR {i a r : Nat} {C : String} {T : u_T} {N : Nat} {ty0 : Nat → FieldType} (ci j : Nat) (hc : vwCl[ci]? = some (C, T, N)) (hN : cNf ci = N) (h20 : ci < 20) (hin : ∀ w ∈ u_ws C T N, w ∈ WALL) (hty : ∀ k, k < N → parseFieldDescriptor (T k).2.2.1 = some (ty0 k)) (hnm : ∀ a, a < N → ∀ b, b < N → a ≠ b → (T a).2.1 ≠ (T b).2.1) (hj : j < N) (hr : cRf ci j = true) (hd : (T j).1 = C) (hf : (T j).2.2.2 = false) (hI : (∃ n, ty0 j = .object n) ∨ ∃ t, ty0 j = .array t) (hok : okr M r) (hw : Cond.fieldLink (miY mi).cls i C (T j).2.1 (T j).2.2.1 ∈ WALL)
    (d : decode (miC mi) pc = .ok (.putfield i, 3)) (hp : pc + 3 = pc') (hK : mK M a = ci + 1) (kk : G mi fr o M' pc' lv st (sR M a j r) k u) : G mi fr o M' pc lv (aR r :: aR a :: st) M k u := by
  intro p l e s m args below meth c E φ0 n0 B φ H locs ls hE hn hD hS hl
  subst hp
  obtain ⟨hat, ha0⟩ := hD.at (a := a) (by omega)
  rw [cE_obj hK h20] at hat
  rw [List.map_cons, List.map_cons, av_ref (r := a) ha0]
  refine va_put B.1 B.2.1 B.2.2.2.2.2.1 hin ty0 hty hnm B.2.2.2.2.1 B.2.2.2.2.2.2.2.2.2.2.2.1 hD.1 hD.2.1 hS (a - 1) hat hc j hj (B.2.2.2.2.2.1 _ hw) (fun x hx => by rw [hd] at hx; exact hx) hf (v := av φ (aR r)) (hty j hj) (narrow_rf hI).1 (narrow_rf hI).2 (by rw [fL_len]; omega) d (fun H1 locs1 h1 h2 h3 => ?_)
  rw [fL_sR hr (by omega), ← cE_obj (E := E) (M := sR M a j r) hK h20] at h1 h2
  exact kk p l e s m args below meth c E φ0 n0 B φ H1 locs1 ls hE hn (Dyn.sR ha0 hD.2.2 hok h1 h2) h3 hl
theorem g_putFR {i a r : Nat} {C : String} {T : u_T} {N : Nat} {ty0 : Nat → FieldType} (ci j : Nat) (hc : vwCl[ci]? = some (C, T, N)) (hN : cNf ci = N) (h20 : ci < 20) (hin : ∀ w ∈ u_ws C T N, w ∈ WALL) (hty : ∀ k, k < N → parseFieldDescriptor (T k).2.2.1 = some (ty0 k)) (hnm : ∀ a, a < N → ∀ b, b < N → a ≠ b → (T a).2.1 ≠ (T b).2.1) (hj : j < N) (hr : cRf ci j = true) (hd : (T j).1 = C) (hf : (T j).2.2.2 = true) (hnm2 : (miY mi).name = "<init>") (hown : (T j).1 = (miY mi).cls) (hI : (∃ n, ty0 j = .object n) ∨ ∃ t, ty0 j = .array t) (hok : okr M r) (hw : Cond.fieldLink (miY mi).cls i C (T j).2.1 (T j).2.2.1 ∈ WALL)
    (d : decode (miC mi) pc = .ok (.putfield i, 3)) (hp : pc + 3 = pc') (hK : mK M a = ci + 1) (kk : G mi fr o M' pc' lv st (sR M a j r) k u) : G mi fr o M' pc lv (aR r :: aR a :: st) M k u := by
  intro p l e s m args below meth c E φ0 n0 B φ H locs ls hE hn hD hS hl
  subst hp
  obtain ⟨hat, ha0⟩ := hD.at (a := a) (by omega)
  rw [cE_obj hK h20] at hat
  rw [List.map_cons, List.map_cons, av_ref (r := a) ha0]
  refine va_putF B.1 B.2.1 B.2.2.2.2.2.1 hin ty0 hty hnm B.2.2.2.2.1 B.2.2.2.2.2.2.2.2.2.2.2.1 hD.1 hD.2.1 hS (a - 1) hat hc j hj (B.2.2.2.2.2.1 _ hw) (fun x hx => by rw [hd] at hx; exact hx) hf (B.2.2.2.2.2.2.2.2.2.1.1.trans hnm2) hown (v := av φ (aR r)) (hty j hj) (narrow_rf hI).1 (narrow_rf hI).2 (by rw [fL_len]; omega) d (fun H1 locs1 h1 h2 h3 => ?_)
  rw [fL_sR hr (by omega), ← cE_obj (E := E) (M := sR M a j r) hK h20] at h1 h2
  exact kk p l e s m args below meth c E φ0 n0 B φ H1 locs1 ls hE hn (Dyn.sR ha0 hD.2.2 hok h1 h2) h3 hl
theorem g_putFI {i a : Nat} {x : Int32} {C : String} {T : u_T} {N : Nat} {ty0 : Nat → FieldType} (ci j : Nat) (hc : vwCl[ci]? = some (C, T, N)) (hN : cNf ci = N) (h20 : ci < 20) (hin : ∀ w ∈ u_ws C T N, w ∈ WALL) (hty : ∀ k, k < N → parseFieldDescriptor (T k).2.2.1 = some (ty0 k)) (hnm : ∀ a, a < N → ∀ b, b < N → a ≠ b → (T a).2.1 ≠ (T b).2.1) (hj : j < N) (hr : cRf ci j = false) (hd : (T j).1 = C) (hf : (T j).2.2.2 = true) (hnm2 : (miY mi).name = "<init>") (hown : (T j).1 = (miY mi).cls) (hI : ty0 j = .int) (hw : Cond.fieldLink (miY mi).cls i C (T j).2.1 (T j).2.2.1 ∈ WALL)
    (d : decode (miC mi) pc = .ok (.putfield i, 3)) (hp : pc + 3 = pc') (hK : mK M a = ci + 1) (kk : G mi fr o M' pc' lv st (sI M a j x) k u) : G mi fr o M' pc lv (aI x :: aR a :: st) M k u := by
  intro p l e s m args below meth c E φ0 n0 B φ H locs ls hE hn hD hS hl
  subst hp
  obtain ⟨hat, ha0⟩ := hD.at (a := a) (by omega)
  rw [cE_obj hK h20] at hat
  rw [List.map_cons, List.map_cons, av_ref ha0]
  refine va_putF B.1 B.2.1 B.2.2.2.2.2.1 hin ty0 hty hnm B.2.2.2.2.1 B.2.2.2.2.2.2.2.2.2.2.2.1 hD.1 hD.2.1 hS (a - 1) hat hc j hj (B.2.2.2.2.2.1 _ hw) (fun x hx => by rw [hd] at hx; exact hx) hf (B.2.2.2.2.2.2.2.2.2.1.1.trans hnm2) hown (v := .int x) (hty j hj) (by rw [hI]; rfl) (by rw [hI]; rfl) (by rw [fL_len]; omega) d (fun H1 locs1 h1 h2 h3 => ?_)
  rw [fL_sI hr (by omega), ← cE_obj (E := E) (M := sI M a j x) hK h20] at h1 h2
  exact kk p l e s m args below meth c E φ0 n0 B φ H1 locs1 ls hE hn (Dyn.sI ha0 hD.2.2 h1 h2) h3 hl
theorem g_iald {a : Nat} {i : Int32} (d : decode (miC mi) pc = .ok (.iaload, 1)) (hp : pc + 1 = pc') (hK : mK M a = 21) (hi : vp_in i (mN M a)) (kk : G mi fr o M' pc' lv (aI (mI M a i.toNatClampNeg) :: st) M k u) : G mi fr o M' pc lv (aI i :: aR a :: st) M k u := by
  intro p l e s m args below meth c E φ0 n0 B φ H locs ls hE hn hD hS hl
  subst hp
  obtain ⟨hat, ha0⟩ := hD.at (a := a) (by omega)
  rw [cE_int hK] at hat
  rw [List.map_cons, List.map_cons, av_ref ha0]
  exact va_iald B.1 B.2.1 B.2.2.2.2.2.2.2.2.2.2.2.1 hD.1 (a - 1) 0 hat rfl hi d (kk p l e s m args below meth c E φ0 n0 B φ H locs ls hE hn hD hS hl)
theorem g_iast {a : Nat} {i x : Int32} (d : decode (miC mi) pc = .ok (.iastore, 1)) (hp : pc + 1 = pc') (hK : mK M a = 21) (hi : vp_in i (mN M a)) (kk : G mi fr o M' pc' lv st (sI M a i.toNatClampNeg x) k u) : G mi fr o M' pc lv (aI x :: aI i :: aR a :: st) M k u := by
  intro p l e s m args below meth c E φ0 n0 B φ H locs ls hE hn hD hS hl
  subst hp
  obtain ⟨hat, ha0⟩ := hD.at (a := a) (by omega)
  rw [cE_int hK] at hat
  rw [List.map_cons, List.map_cons, List.map_cons, av_ref ha0]
  refine va_iast B.1 B.2.1 B.2.2.2.2.2.2.2.2.2.2.2.1 hD.1 hD.2.1 hS (a - 1) 0 hat rfl hi d (fun H1 locs1 h1 h2 h3 => ?_)
  rw [← mI_s, show mN M a = mN (sI M a i.toNatClampNeg x) a from rfl, ← cE_int (E := E) (M := sI M a i.toNatClampNeg x) hK] at h1 h2
  exact kk p l e s m args below meth c E φ0 n0 B φ H1 locs1 ls hE hn (Dyn.sI ha0 hD.2.2 h1 h2) h3 hl
theorem g_lald {a : Nat} {i : Int32} (d : decode (miC mi) pc = .ok (.laload, 1)) (hp : pc + 1 = pc') (hK : mK M a = 22) (hi : vp_in i (mN M a)) (kk : G mi fr o M' pc' lv (aL (mJ M a i.toNatClampNeg) :: st) M k u) : G mi fr o M' pc lv (aI i :: aR a :: st) M k u := by
  intro p l e s m args below meth c E φ0 n0 B φ H locs ls hE hn hD hS hl
  subst hp
  obtain ⟨hat, ha0⟩ := hD.at (a := a) (by omega)
  rw [cE_long hK] at hat
  rw [List.map_cons, List.map_cons, av_ref ha0]
  exact va_lald B.1 B.2.1 B.2.2.2.2.2.2.2.2.2.2.2.1 hD.1 (a - 1) 1 hat rfl hi d (kk p l e s m args below meth c E φ0 n0 B φ H locs ls hE hn hD hS hl)
theorem g_last {a : Nat} {i : Int32} {x : Int64} (d : decode (miC mi) pc = .ok (.lastore, 1)) (hp : pc + 1 = pc') (hK : mK M a = 22) (hi : vp_in i (mN M a)) (kk : G mi fr o M' pc' lv st (sJ M a i.toNatClampNeg x) k u) : G mi fr o M' pc lv (aL x :: aI i :: aR a :: st) M k u := by
  intro p l e s m args below meth c E φ0 n0 B φ H locs ls hE hn hD hS hl
  subst hp
  obtain ⟨hat, ha0⟩ := hD.at (a := a) (by omega)
  rw [cE_long hK] at hat
  rw [List.map_cons, List.map_cons, List.map_cons, av_ref ha0]
  refine va_last B.1 B.2.1 B.2.2.2.2.2.2.2.2.2.2.2.1 hD.1 hD.2.1 hS (a - 1) 1 hat rfl hi d (fun H1 locs1 h1 h2 h3 => ?_)
  rw [← mJ_s, show mN M a = mN (sJ M a i.toNatClampNeg x) a from rfl, ← cE_long (E := E) (M := sJ M a i.toNatClampNeg x) hK, wl_sJ (by omega)] at h1 h2
  exact kk p l e s m args below meth c E φ0 n0 B φ H1 locs1 ls hE hn ⟨h1, h2, hD.2.2⟩ h3 hl
theorem g_aald {a t t0 : Nat} {C : String} {i : Int32} (ht0 : ∀ E : EE, (tysE E)[t0]? = some (E.2.2.1 t, .object C)) (ht : 23 ≤ t) (d : decode (miC mi) pc = .ok (.aaload, 1)) (hp : pc + 1 = pc') (hK : mK M a = t) (hi : vp_in i (mN M a)) (kk : G mi fr o M' pc' lv (aR (mR M a i.toNatClampNeg) :: st) M k u) : G mi fr o M' pc lv (aI i :: aR a :: st) M k u := by
  intro p l e s m args below meth c E φ0 n0 B φ H locs ls hE hn hD hS hl
  subst hp
  obtain ⟨hat, ha0⟩ := hD.at (a := a) (by omega)
  rw [cE_refs hK ht] at hat
  rw [List.map_cons, List.map_cons, av_ref ha0]
  refine va_aldq B.1 B.2.1 B.2.2.2.2.2.2.2.2.2.2.2.1 hD.1 (a - 1) t0 hat (ht0 E) hi d ?_
  rw [rO_rf]
  exact kk p l e s m args below meth c E φ0 n0 B φ H locs ls hE hn hD hS hl
theorem g_aald2 {a : Nat} {i : Int32} (d : decode (miC mi) pc = .ok (.aaload, 1)) (hp : pc + 1 = pc') (hK : mK M a = 25) (hi : vp_in i (mN M a)) (kk : G mi fr o M' pc' lv (aR (mR M a i.toNatClampNeg) :: st) M k u) : G mi fr o M' pc lv (aI i :: aR a :: st) M k u := by
  intro p l e s m args below meth c E φ0 n0 B φ H locs ls hE hn hD hS hl
  subst hp
  obtain ⟨hat, ha0⟩ := hD.at (a := a) (by omega)
  rw [cE_refs hK (by decide)] at hat
  rw [List.map_cons, List.map_cons, av_ref ha0]
  have hlt : i.toNatClampNeg < mN M a := Nat.not_le.mp fun q => hi (Or.inr q)
  have K := kk p l e s m args below meth c E φ0 n0 B φ H locs ls hE hn hD hS hl
  rw [List.map_cons, ← rO_rf] at K
  exact W.aald (v := va_rf (rO φ (mR M a i.toNatClampNeg))) (ty := .array .int) B.1 B.2.1 (hD.1 (a - 1) _ hat) ((B.2.2.2.2.2.2.2.2.2.2.2.1.2 4 (E.2.2.1 25, .array .int) rfl).1 (mN M a) (fun j => va_rf (rO φ (mR M a j)))) rfl (fun q => by cases q) (by show ¬ (i < 0 ∨ (arrV _ _ _).slots.size ≤ _); rw [arrV_size]; exact hi) (by show (arrV _ _ _).slots[_]? = _; rw [arrV_read _ _ hlt]) rfl rfl d K
theorem rO_up {φ : Nat → Nat} {f : Nat → Nat} {j r : Nat} : (fun i => rO φ (va_up f j r i)) = va_up (fun i => rO φ (f i)) j (rO φ r) := by
  funext i
  unfold va_up
  by_cases h : i = j <;> simp [h]
theorem g_aast {a t t0 r ci N : Nat} {C : String} {T : u_T} {i : Int32} (ht0 : ∀ E : EE, (tysE E)[t0]? = some (E.2.2.1 t, .object C)) (ht : 23 ≤ t) (hc : vwCl[ci]? = some (C, T, N)) (h20 : ci < 20) (d : decode (miC mi) pc = .ok (.aastore, 1)) (hp : pc + 1 = pc') (hK : mK M a = t) (hi : vp_in i (mN M a)) (hr : mK M r = ci + 1) (kk : G mi fr o M' pc' lv st (sR M a i.toNatClampNeg r) k u) : G mi fr o M' pc lv (aR r :: aI i :: aR a :: st) M k u := by
  intro p l e s m args below meth c E φ0 n0 B φ H locs ls hE hn hD hS hl
  subst hp
  obtain ⟨hat, ha0⟩ := hD.at (a := a) (by omega)
  obtain ⟨hrt, hr0⟩ := hD.at (a := r) (by omega)
  have hok : okr M r := Or.inl (hD.2.2.1 r (by omega)).2
  rw [cE_refs hK ht] at hat
  rw [cE_obj hr h20] at hrt
  rw [List.map_cons, List.map_cons, List.map_cons, av_ref ha0, av_ref hr0]
  refine va_astq B.1 B.2.1 B.2.2.2.2.2.2.2.2.2.2.2.1 hD.1 hD.2.1 hS (a - 1) t0 (r - 1) ci (r := (C, T, N)) hat (ht0 E) hrt hc hi d (fun H1 locs1 h1 h2 h3 => ?_)
  have e1 : va_up (fun i => rO φ (mR M a i)) i.toNatClampNeg (some (φ r)) = fun j => rO φ (mR (sR M a i.toNatClampNeg r) a j) := by
    rw [mR_s, rO_up]
    unfold rO
    rw [if_neg hr0]
  rw [e1, show mN M a = mN (sR M a i.toNatClampNeg r) a from rfl, ← cE_refs (E := E) (M := sR M a i.toNatClampNeg r) hK ht] at h1 h2
  exact kk p l e s m args below meth c E φ0 n0 B φ H1 locs1 ls hE hn (Dyn.sR ha0 hD.2.2 hok h1 h2) h3 hl
theorem g_alen {a t t0 : Nat} {ty : FieldType} (ht0 : ∀ E : EE, (tysE E)[t0]? = some (E.2.2.1 t, ty)) (ht : 21 ≤ t) (d : decode (miC mi) pc = .ok (.arraylength, 1)) (hp : pc + 1 = pc') (hK : mK M a = t) (kk : G mi fr o M' pc' lv (aI (Int32.ofNat (mN M a)) :: st) M k u) : G mi fr o M' pc lv (aR a :: st) M k u := by
  intro p l e s m args below meth c E φ0 n0 B φ H locs ls hE hn hD hS hl
  subst hp
  obtain ⟨hat, ha0⟩ := hD.at (a := a) (by omega)
  rw [List.map_cons, av_ref ha0]
  have K := kk p l e s m args below meth c E φ0 n0 B φ H locs ls hE hn hD hS hl
  by_cases h1 : t = 21
  · subst h1
    rw [cE_int hK] at hat
    exact va_alen B.1 B.2.1 B.2.2.2.2.2.2.2.2.2.2.2.1 hD.1 (a - 1) t0 hat (ht0 E) rfl d K
  · by_cases h2 : t = 22
    · subst h2
      rw [cE_long hK] at hat
      exact va_alen B.1 B.2.1 B.2.2.2.2.2.2.2.2.2.2.2.1 hD.1 (a - 1) t0 hat (ht0 E) rfl d K
    · rw [cE_refs hK (by omega)] at hat
      exact va_alen B.1 B.2.1 B.2.2.2.2.2.2.2.2.2.2.2.1 hD.1 (a - 1) t0 hat (ht0 E) rfl d K
end RH
