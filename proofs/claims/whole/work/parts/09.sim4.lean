/-! ROWS of G: what is made, what is called -/
section RN
variable {mi : MI} {fr : Nat} {o : OC} {M' M : Mem} {pc pc' : Nat} {lv lv' : List (Option AV)} {st : List AV} {k u k' u' : Nat}
theorem Ext.up {al n0 n q : Nat} {φ0 φ : Nat → Nat} (h : Ext al n0 φ0 φ) (hn : n0 ≤ n) (hb : n + 1 < 900000) (hA : al ≠ 0) : Ext al n0 φ0 (va_up φ (n + 1) q) := by
  refine ⟨fun r hr => ?_, fun h0 => absurd h0 hA⟩
  rw [← h.1 r hr]
  unfold va_up
  rw [if_neg]
  rcases hr with hr | hr <;> omega
theorem up_okr {φ : Nat → Nat} {q r : Nat} (hr : okr M r) (hb : mn M + 1 < 900000) : va_up φ (mn M + 1) q r = φ r := by
  unfold va_up
  rw [if_neg]
  rcases hr with hr | hr <;> omega
/-- the world with a new cell, and what goes on there -/
theorem g_made {q : Nat} {t n : Nat} {H1 : Heap} {locs : List Loc} {ls : Array Slot} {φ0 φ : Nat → Nat} {n0 : Nat} {E : EE} {s : State} {p : Program} {l : Launch} {e : Env} {m : MethodId} {args : Array Value} {below : List Frame} {meth : Method} {c : Code} {x : va_E}
    (B : Bd mi p l s m args meth c E φ0) (hE : Ext (miA mi) n0 φ0 φ) (hn : n0 ≤ mn M) (ok : okM M) (hl : lvR φ (miL mi) lv ls) (hA : miA mi ≠ 0) (hb : mn M + 1 < 900000) (hok : okrs M (rfs lv st)) (hx : cE E (va_up φ (mn M + 1) q) (mNew M t n) (mn M + 1) = x)
    (h1 : va_P E.2.1 vwCl (wl E φ M ++ [(q, x)]) H1) (h2 : va_D (fun q => E.1 ≤ q) (wl E φ M ++ [(q, x)])) (h3 : va_S (fun q => E.1 ≤ q) s.heap H1 locs)
    (kk : G mi fr o M' pc' lv (aR (mn M + 1) :: st) (mNew M t n) k' u') :
    W p l e (rmm fr (miMc mi) (miMs mi)) s m args below meth c H1 locs k' u' (vx_MQ below (QC E φ0 n0 (miA mi) o M') (QX E φ0 n0 (miA mi) o M') args s (miMc mi) (miMs mi) (fun q => E.1 ≤ q)) (F0 m pc' ls (.ref q :: st.map (av φ))) := by
  subst hx
  rw [← wl_new ok] at h1 h2
  have K := kk p l e s m args below meth c E φ0 n0 B (va_up φ (mn M + 1) q) H1 locs ls (hE.up hn hb hA) (Nat.le_trans hn (Nat.le_succ _)) ⟨h1, h2, okM_new ok hb⟩ h3 (lvR_ext hl (fun i r hr => up_okr (hok r (rfs_lv hr)) hb))
  rw [List.map_cons, st_ext (fun r hr => up_okr (hok r (rfs_st hr)) hb), av_ref (by omega : mn M + 1 ≠ 0), show va_up φ (mn M + 1) q (mn M + 1) = q from if_pos rfl] at K
  exact K
theorem mK_new {t n : Nat} : mK (mNew M t n) (mn M + 1) = t := if_pos rfl
theorem g_new {i : Nat} {C : String} {T : u_T} {N : Nat} {ty0 : Nat → FieldType} (ci : Nat) (hc : vwCl[ci]? = some (C, T, N)) (hN : cNf ci = N) (h20 : ci < 20) (hin : ∀ w ∈ u_ws C T N, w ∈ WALL) (hty : ∀ k, k < N → parseFieldDescriptor (T k).2.2.1 = some (ty0 k)) (hdf : ∀ j, j < N → defaultValue (ty0 j) = (if cRf ci j = true then Value.null else .int 0)) (hA : miA mi ≠ 0) (w1 : Cond.classLink (miY mi).cls i C ∈ WALL) (w2 : Cond.instantiable C N ∈ WALL) (w3 : Cond.initialized C ∈ WALL)
    (d : decode (miC mi) pc = .ok (.new i, 3)) (hp : pc + 3 = pc') (hb : mn M + 1 < 900000) (hok : okrs M (rfs lv st)) (hk : k + 1 ≤ k') (hu : u + N ≤ u') (hk2 : k' ≤ miMc mi) (hu2 : u' ≤ miMs mi)
    (kk : G mi fr o M' pc' lv (aR (mn M + 1) :: st) (mNew M (ci + 1) 0) k' u') : G mi fr o M' pc lv st M k u := by
  intro p l e s m args below meth c E φ0 n0 B φ H locs ls hE hn hD hS hl
  subst hp
  have hx : ∀ q, cE E (va_up φ (mn M + 1) q) (mNew M (ci + 1) 0) (mn M + 1) = .inr (ci, (List.range N).map (fun j => if cRf ci j = true then Value.null else .int 0)) := by
    intro q
    rw [cE_obj (c := ci) mK_new h20]
    unfold fL
    rw [hN]
    congr 2
    apply List.map_congr_left
    intro j _
    unfold fv
    have e1 : mR (mNew M (ci + 1) 0) (mn M + 1) = fun _ => 0 := if_pos rfl
    have e2 : mI (mNew M (ci + 1) 0) (mn M + 1) = fun _ => 0 := if_pos rfl
    rw [e1, e2]
    rfl
  refine va_new B.1 B.2.1 B.2.2.2.2.2.1 hin ty0 hty B.2.2.2.2.1 (B.2.2.2.2.2.1 _ w1) (B.2.2.2.2.2.1 _ w2) (B.2.2.2.2.2.1 _ w3) B.2.2.2.2.2.2.2.2.2.2.2.1 hD.1 hD.2.1 hS (fun q hq => Nat.le_trans B.2.2.2.2.2.2.2.2.2.2.1 hq) hc (fs := (List.range N).map (fun j => if cRf ci j = true then Value.null else .int 0)) (fun j hj => ?_) (Nat.le_trans hk hk2) (Nat.le_trans hu hu2) d (fun q H1 h1 h2 h3 => W.widen hk hu (g_made B hE hn hD.2.2 hl hA hb hok (hx q) h1 h2 h3 kk))
  rw [hdf j hj]
  unfold vp_V
  rw [List.getD_eq_getElem?_getD, List.getElem?_map, List.getElem?_range hj]
  rfl
theorem aC_int {E : EE} {cA : ClassId} {s : State} (h : va_K E.2.1 vwCl (tysE E ++ [(cA, .int)]) s) : cA = E.2.2.1 21 := by
  have h1 : s.vm.findClass ("[" ++ FieldType.int.toString) = some cA := (h.2 6 (cA, .int) rfl).2
  have h2 : s.vm.findClass ("[" ++ FieldType.int.toString) = some (E.2.2.1 21) := (h.2 0 (E.2.2.1 21, .int) rfl).2
  exact Option.some.inj (h1.symm.trans h2)
theorem aC_long {E : EE} {cA : ClassId} {s : State} (h : va_K E.2.1 vwCl (tysE E ++ [(cA, .long)]) s) : cA = E.2.2.1 22 := by
  have h1 : s.vm.findClass ("[" ++ FieldType.long.toString) = some cA := (h.2 6 (cA, .long) rfl).2
  have h2 : s.vm.findClass ("[" ++ FieldType.long.toString) = some (E.2.2.1 22) := (h.2 1 (E.2.2.1 22, .long) rfl).2
  exact Option.some.inj (h1.symm.trans h2)
theorem aC_obj {E : EE} {cA : ClassId} {s : State} {C : String} {t0 t : Nat} (ht0 : (tysE E)[t0]? = some (E.2.2.1 t, .object C)) (h : va_K E.2.1 vwCl (tysE E ++ [(cA, .object C)]) s) : cA = E.2.2.1 t := by
  obtain ⟨-, -, -, -, -, h1⟩ := (h.2 6 (cA, .object C) rfl).2
  obtain ⟨-, -, -, -, -, h2⟩ := (h.2 t0 (E.2.2.1 t, .object C) (by rw [List.getElem?_append_left (List.getElem?_eq_some_iff.mp ht0).1]; exact ht0)).2
  exact Option.some.inj (h1.symm.trans h2)
theorem g_newI {n : Int32} (hA : miA mi ≠ 0) (w : Cond.arrayClass .int ∈ WALL) (d : decode (miC mi) pc = .ok (.newarray .int, 2)) (hp : pc + 2 = pc') (hn0 : ¬ n < 0) (hbt : n.toNatClampNeg ≤ 100000000) (hb : mn M + 1 < 900000) (hok : okrs M (rfs lv st)) (hk : k + 1 ≤ k') (hu : u + n.toNatClampNeg ≤ u') (hk2 : k' ≤ miMc mi) (hu2 : u' ≤ miMs mi)
    (kk : G mi fr o M' pc' lv (aR (mn M + 1) :: st) (mNew M 21 n.toNatClampNeg) k' u') : G mi fr o M' pc lv (aI n :: st) M k u := by
  intro p l e s m args below meth c E φ0 n0 B φ H locs ls hE hn hD hS hl
  subst hp
  have hx : ∀ q, cE E (va_up φ (mn M + 1) q) (mNew M 21 n.toNatClampNeg) (mn M + 1) = .inl (E.2.2.1 21, n.toNatClampNeg, .inl (fun _ => 0)) := by
    intro q
    rw [cE_int mK_new]
    have e1 : mN (mNew M 21 n.toNatClampNeg) (mn M + 1) = n.toNatClampNeg := if_pos rfl
    have e2 : mI (mNew M 21 n.toNatClampNeg) (mn M + 1) = fun _ => 0 := if_pos rfl
    rw [e1, e2]
  refine va_newa (atype := .int) (ty := .int) (a0 := (n.toNatClampNeg, .inl (fun _ => 0))) B.1 B.2.1 (B.2.2.2.2.2.1 _ w) rfl B.2.2.2.2.2.2.2.2.2.2.2.1 hD.1 hD.2.1 hS (fun q hq => Nat.le_trans B.2.2.2.2.2.2.2.2.2.2.1 hq) (fun _ => rfl) hn0 rfl (by show n.toNatClampNeg * 4 ≤ _; omega) (Nat.le_trans hk hk2) (Nat.le_trans hu hu2) d (fun q cA H1 hK h1 h2 h3 => W.widen hk hu ?_)
  cases aC_int hK
  exact g_made B hE hn hD.2.2 hl hA hb hok (hx q) h1 h2 h3 kk
theorem g_newJ {n : Int32} (hA : miA mi ≠ 0) (w : Cond.arrayClass .long ∈ WALL) (d : decode (miC mi) pc = .ok (.newarray .long, 2)) (hp : pc + 2 = pc') (hn0 : ¬ n < 0) (hbt : n.toNatClampNeg ≤ 60000000) (hb : mn M + 1 < 900000) (hok : okrs M (rfs lv st)) (hk : k + 1 ≤ k') (hu : u + n.toNatClampNeg ≤ u') (hk2 : k' ≤ miMc mi) (hu2 : u' ≤ miMs mi)
    (kk : G mi fr o M' pc' lv (aR (mn M + 1) :: st) (mNew M 22 n.toNatClampNeg) k' u') : G mi fr o M' pc lv (aI n :: st) M k u := by
  intro p l e s m args below meth c E φ0 n0 B φ H locs ls hE hn hD hS hl
  subst hp
  have hx : ∀ q, cE E (va_up φ (mn M + 1) q) (mNew M 22 n.toNatClampNeg) (mn M + 1) = .inl (E.2.2.1 22, n.toNatClampNeg, .inr (.inl (fun _ => 0))) := by
    intro q
    rw [cE_long mK_new]
    have e1 : mN (mNew M 22 n.toNatClampNeg) (mn M + 1) = n.toNatClampNeg := if_pos rfl
    have e2 : mJ (mNew M 22 n.toNatClampNeg) (mn M + 1) = fun _ => 0 := if_pos rfl
    rw [e1, e2]
  refine va_newa (atype := .long) (ty := .long) (a0 := (n.toNatClampNeg, .inr (.inl (fun _ => 0)))) B.1 B.2.1 (B.2.2.2.2.2.1 _ w) rfl B.2.2.2.2.2.2.2.2.2.2.2.1 hD.1 hD.2.1 hS (fun q hq => Nat.le_trans B.2.2.2.2.2.2.2.2.2.2.1 hq) (fun _ => rfl) hn0 rfl (by show n.toNatClampNeg * 8 ≤ _; omega) (Nat.le_trans hk hk2) (Nat.le_trans hu hu2) d (fun q cA H1 hK h1 h2 h3 => W.widen hk hu ?_)
  cases aC_long hK
  exact g_made B hE hn hD.2.2 hl hA hb hok (hx q) h1 h2 h3 kk
theorem g_newQ {n : Int32} {i t t0 : Nat} {C : String} (ht0 : ∀ E : EE, (tysE E)[t0]? = some (E.2.2.1 t, .object C)) (ht : 23 ≤ t) (ho : FieldType.object C ∈ oTab) (hA : miA mi ≠ 0) (w : Cond.classLink (miY mi).cls i C ∈ WALL) (d : decode (miC mi) pc = .ok (.anewarray i, 3)) (hp : pc + 3 = pc') (hn0 : ¬ n < 0) (hbt : n.toNatClampNeg ≤ 100000000) (hb : mn M + 1 < 900000) (hok : okrs M (rfs lv st)) (hk : k + 1 ≤ k') (hu : u + n.toNatClampNeg ≤ u') (hk2 : k' ≤ miMc mi) (hu2 : u' ≤ miMs mi)
    (kk : G mi fr o M' pc' lv (aR (mn M + 1) :: st) (mNew M t n.toNatClampNeg) k' u') : G mi fr o M' pc lv (aI n :: st) M k u := by
  intro p l e s m args below meth c E φ0 n0 B φ H locs ls hE hn hD hS hl
  subst hp
  have hx : ∀ q, cE E (va_up φ (mn M + 1) q) (mNew M t n.toNatClampNeg) (mn M + 1) = .inl (E.2.2.1 t, n.toNatClampNeg, .inr (.inr (.inr (.inr (fun _ => none))))) := by
    intro q
    rw [cE_refs (t := t) mK_new ht]
    have e1 : mN (mNew M t n.toNatClampNeg) (mn M + 1) = n.toNatClampNeg := if_pos rfl
    have e2 : mR (mNew M t n.toNatClampNeg) (mn M + 1) = fun _ => 0 := if_pos rfl
    rw [e1, e2]
    rfl
  refine va_newq (C := C) B.1 B.2.1 B.2.2.2.2.1 (B.2.2.2.2.2.1 _ w) (B.2.2.2.2.2.2.2.2.2.2.2.nst.2.1 _ ho) B.2.2.2.2.2.2.2.2.2.2.2.1 hD.1 hD.2.1 hS (fun q hq => Nat.le_trans B.2.2.2.2.2.2.2.2.2.2.1 hq) hn0 rfl (by omega) (Nat.le_trans hk hk2) (Nat.le_trans hu hu2) d (fun q cA H1 hK h1 h2 h3 => W.widen hk hu ?_)
  cases aC_obj (ht0 E) hK
  exact g_made B hE hn hD.2.2 hl hA hb hok (hx q) h1 h2 h3 kk
end RN
