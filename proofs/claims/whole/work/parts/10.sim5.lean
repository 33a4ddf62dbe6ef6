/-! ROWS of G: calls -/
/-- what a callee's words say, once for each callee; n: how many arguments it takes -/
def CFb (m : MI) (n : Nat) : Prop := miW m = Cond.code (miY m) (miC m) (miL m) (miR m) ∧ miW m ∈ WALL ∧ Cond.initialized (miY m).cls ∈ WALL ∧ ((miY m).cls ≠ "java/lang/invoke/MethodHandle" ∧ (miY m).cls ≠ "java/lang/invoke/VarHandle" ∧ (parseMethodDescriptor (miY m).desc).map (fun d => d.parameters.length) = some n) ∧ miL m ≤ 40
def CFv (m : MI) (n : Nat) : Prop := CFb m n ∧ Cond.instanceMethod (miY m) ∈ WALL ∧ Cond.selects (miY m).cls (miY m) (miY m) ∈ WALL
def CFs (m : MI) (n : Nat) : Prop := CFb m n ∧ Cond.static (miY m) ∈ WALL
def CFi (m : MI) (n : Nat) : Prop := CFb m n ∧ Cond.instanceMethod (miY m) ∈ WALL ∧ (miY m).name = "<init>" ∧ miR m = none
section RC
variable {mi mi2 : MI} {fr fr2 : Nat} {o : OC} {M' M M1 : Mem} {pc pc' : Nat} {lv lv' : List (Option AV)} {st : List AV} {k u k' u' : Nat}
theorem sem_blind {E : EE} {φ : Nat → Nat} {as : List AV} : FrameBlind (fun v U => v = (as.map (av φ)).toArray ∧ E.1 ≤ U.heap.size ∧ Dyn E φ M U.heap ∧ Sta E φ U U.heap) := by
  intro a U g mk h
  exact ⟨h.1, h.2.1, h.2.2.1, h.2.2.2.move (U := U.calling g mk a) (State.WarmedH.refl U) (fun _ _ _ => rfl) (fun _ _ => rfl)⟩
theorem sem_pre {p : Program} {l : Launch} {s : State} {m : MethodId} {args : Array Value} {meth : Method} {c : Code} {E : EE} {φ0 φ : Nat → Nat} {n0 : Nat} {H : Heap} {locs : List Loc} {as : List AV} (B : Bd mi p l s m args meth c E φ0) (hE : Ext (miA mi) n0 φ0 φ) (hD : Dyn E φ M H) (hS : va_S (fun q => E.1 ≤ q) s.heap H locs) {vs : List Value} (hv : vs = as.map (av φ)) :
    ∀ U : State, U.heap = H → s.WarmedH U.vm → (fun (v : Array Value) (U : State) => v = (as.map (av φ)).toArray ∧ E.1 ≤ U.heap.size ∧ Dyn E φ M U.heap ∧ Sta E φ U U.heap) vs.toArray U := by
  intro U hU hW
  subst hU
  exact ⟨by rw [hv], Nat.le_trans B.2.2.2.2.2.2.2.2.2.2.1 hS.1, hD, B.2.2.2.2.2.2.2.2.2.2.2.move hW (fun a h1 h2 => hS.2.1 a h1 h2) (fun r hr => hE.1 r (Or.inr hr))⟩
theorem ext_trans {al al2 n0 : Nat} {φ0 φ φ' : Nat → Nat} (h : Ext al n0 φ0 φ) (h2 : Ext al2 (mn M) φ φ') (hn : n0 ≤ mn M) (hal : al2 = 0 ∨ al ≠ 0) : Ext al n0 φ0 φ' := by
  refine ⟨fun r hr => ?_, fun h0 => ?_⟩
  · rw [h2.1 r (hr.elim (fun q => Or.inl (Nat.le_trans q hn)) Or.inr), h.1 r hr]
  · rcases hal with q | q
    · rw [h2.2 q, h.2 h0]
    · exact absurd h0 q
/-- behind a call that has run: it returned -/
theorem g_ran {rv : Option AV} {p : Program} {l : Launch} {e : Env} {s : State} {m : MethodId} {args : Array Value} {below : List Frame} {meth : Method} {c : Code} {E : EE} {φ0 φ : Nat → Nat} {n0 : Nat} {H : Heap} {locs : List Loc} {ls : Array Slot} {st0 : List Value} {a : Array Value} {mc ms al2 : Nat}
    (B : Bd mi p l s m args meth c E φ0) (hE : Ext (miA mi) n0 φ0 φ) (hn : n0 ≤ mn M) (hS : va_S (fun q => E.1 ≤ q) s.heap H locs) (hl : lvR φ (miL mi) lv ls) (hal : al2 = 0 ∨ (miA mi ≠ 0 ∧ okrs M (rfs lv st)))
    (hr : vx_Run p l e (rmm fr (miMc mi) (miMs mi)) s m args below meth c H locs k u mc ms (F0 m pc ls st0) (st.map (av φ)) (QC E φ (mn M) al2 (.inl rv) M1 a) (QX E φ (mn M) al2 (.inl rv) M1) (fun q => E.1 ≤ q)) (hp : pc + 3 = pc') (hk : k + mc ≤ k') (hu : u + ms ≤ u')
    (kk : G mi fr o M' pc' lv (rv.toList ++ st) M1 k' u') :
    W p l e (rmm fr (miMc mi) (miMs mi)) s m args below meth c H locs k u (vx_MQ below (QC E φ0 n0 (miA mi) o M') (QX E φ0 n0 (miA mi) o M') args s (miMc mi) (miMs mi) (fun q => E.1 ≤ q)) (F0 m pc ls st0) := by
  subst hp
  intro T hT X
  rcases hr T hT X with ⟨v, st₀, t, T', L, h0, X', hL, e1, e2, ⟨⟨φ', r, hor, hE2, hv, hD2, hn2⟩, hF⟩, sp⟩ | ⟨q, st₀, t, T', L, En, ce, h0, X', hL, e1, e2, ⟨⟨φ', ho, -⟩, -⟩, -⟩
  · cases hor
    cases hv
    obtain ⟨k1, k2, k3⟩ := vx_keep (A0 := fun q => E.1 ≤ q) (A1 := fun q => E.1 ≤ q) h0 e1 hS (fun _ _ h => h) (fun _ h => h) hL hF
    have hlv : ∀ r, r ∈ rfs lv st → φ' r = φ r := fun r hr => by
      rcases hal with q | q
      · rw [hE2.2 q]
      · exact hE2.1 r (q.2 r hr)
    have K := kk p l e s m args below meth c E φ0 n0 B φ' T'.heap (locs ++ L) ls (ext_trans hE hE2 hn (hal.imp id And.left)) (Nat.le_trans hn hn2) (by rw [e1]; exact hD2) k3 (lvR_ext hl (fun i r hr => hlv r (rfs_lv hr)))
    rw [List.map_append, st_ext (fun r hr => hlv r (rfs_st hr))] at K
    obtain ⟨t2, a1, b1⟩ := K T' rfl (stand_widen X' hk hu)
    refine ⟨t2, sp t2 ?_, b1⟩
    have e3 : (Option.map (av φ') rv).toList = rv.toList.map (av φ') := by cases rv <;> rfl
    rw [e3]
    exact a1
  · cases ho
/-- it threw, and no handler stands here -/
theorem g_ranX {En : String} {p : Program} {l : Launch} {e : Env} {s : State} {m : MethodId} {args : Array Value} {below : List Frame} {meth : Method} {c : Code} {E : EE} {φ0 φ : Nat → Nat} {n0 : Nat} {H : Heap} {locs : List Loc} {ls : Array Slot} {st0 : List Value} {a : Array Value} {mc ms al2 : Nat}
    (B : Bd mi p l s m args meth c E φ0) (hE : Ext (miA mi) n0 φ0 φ) (hn : n0 ≤ mn M) (hS : va_S (fun q => E.1 ≤ q) s.heap H locs) (hal : al2 = 0 ∨ miA mi ≠ 0) (hh : miH mi = [])
    (hr : vx_Run p l e (rmm fr (miMc mi) (miMs mi)) s m args below meth c H locs k u mc ms (F0 m pc ls st0) (st.map (av φ)) (QC E φ (mn M) al2 (.inr En) M1 a) (QX E φ (mn M) al2 (.inr En) M1) (fun q => E.1 ≤ q)) (hk : k + mc ≤ miMc mi) (hu : u + ms ≤ miMs mi) :
    W p l e (rmm fr (miMc mi) (miMs mi)) s m args below meth c H locs k u (vx_MQ below (QC E φ0 n0 (miA mi) (.inr En) M1) (QX E φ0 n0 (miA mi) (.inr En) M1) args s (miMc mi) (miMs mi) (fun q => E.1 ≤ q)) (F0 m pc ls st0) := by
  intro T hT X
  rcases hr T hT X with ⟨v, st₀, t, T', L, h0, X', hL, e1, e2, ⟨⟨φ', r, hor, -⟩, -⟩, -⟩ | ⟨q, st₀, t, T', L, En2, ce, h0, X', hL, e1, e2, ⟨⟨φ', ho, hE2, hD2, hn2⟩, hF⟩, hce, hcv, hcl, sp⟩
  · cases hor
  · cases ho
    obtain ⟨k1, k2, k3⟩ := vx_keep (A0 := fun q => E.1 ≤ q) (A1 := fun q => E.1 ≤ q) h0 e1 hS (fun _ _ h => h) (fun _ h => h) hL hF
    have K := vx_out (p := p) (l := l) (e := e) (R := rmm fr (miMc mi) (miMs mi)) (s := s) (m := m) (args := args) (below := below) (meth := meth) (c := c) (H := T'.heap) (locs := locs ++ L) (cells := k + mc) (slots := u + ms) (Qc := QC E φ0 n0 (miA mi) (.inr En) M1) (XC := QX E φ0 n0 (miA mi) (.inr En) M1) (pc := pc) (ls := ls) (rest := st.map (av φ)) (E := En) (ce := ce) (q := q) (mc := miMc mi) (ms := miMs mi) (free := fun q => E.1 ≤ q)
      (fun x hx => by rw [B.2.2.2.2.2.2.2.2.1, hh] at hx; cases hx) B.2.2.2.2.2.2.1 (by rw [e1]; exact hce) hcv hcl (fun t2 ht2 _ => ⟨⟨φ', rfl, ext_trans hE hE2 hn hal, by rw [ht2, e1]; exact hD2, Nat.le_trans hn hn2⟩, k3.F ht2⟩) k3.2.2 hk hu
    obtain ⟨t2, a1, b1⟩ := K T' rfl X'
    exact ⟨t2, sp.trans a1, b1⟩
theorem cb_of {R : Room} {p : Program} {l : Launch} {s : State} {m : MethodId} {args : Array Value} {meth : Method} {c : Code} {E : EE} {φ0 : Nat → Nat} {n i : Nat} (B : Bd mi p l s m args meth c E φ0) (cf : CFb mi2 n) (hl : Cond.methodLink (miY mi).cls i (miY mi2) ∈ WALL) (hf : fr2 + 1 ≤ fr) :
    CallB (rmm fr (miMc mi) (miMs mi)) s args (miY mi).cls i (miY mi2) (miC mi2) (miL mi2) (miR mi2) (miW mi2 :: WALL) (rmm fr2 (miMc mi2) (miMs mi2)) (miMc mi2) (miMs mi2) n := by
  obtain ⟨h1, h2, h3, h4, h5⟩ := cf
  exact callB_of n B.2.2.2.2.2.1 (wall_gi h2) (by rw [h1]) rfl rfl (B.2.2.2.2.2.1 _ h3) (B.2.2.2.2.2.1 _ hl) h4 ⟨hf, by show 8 + (miL mi2 + 11) + 64 * fr2 ≤ 64 * fr; omega⟩
def csum (st : List AV) : Nat := (st.map acat).sum
theorem csum_eq (φ : Nat → Nat) (st : List AV) : ((st.map (av φ)).map fun v => v.category).sum = csum st := by
  unfold csum
  rw [List.map_map]
  congr 1
  apply List.map_congr_left
  intro v _
  exact av_cat φ v
theorem map_rev {φ : Nat → Nat} {As st : List AV} {b : Nat} (hb : b ≠ 0) : (As.reverse ++ aR b :: st).map (av φ) = (As.map (av φ)).reverse ++ .ref (φ b) :: st.map (av φ) := by
  rw [List.map_append, List.map_reverse, List.map_cons, av_ref hb]
theorem g_callV {i b n ci N : Nat} {C : String} {T : u_T} {As st0 : List AV} {rv : Option AV} (cf : CFv mi2 n) (hl2 : Cond.methodLink (miY mi).cls i (miY mi2) ∈ WALL) (hf : fr2 + 1 ≤ fr) (hc : vwCl[ci]? = some (C, T, N)) (hC : (miY mi2).cls = C) (h20 : ci < 20)
    (d : decode (miC mi) pc = .ok (.invokevirtual i, 3)) (hp : pc + 3 = pc') (hst : As.reverse ++ aR b :: st = st0) (hn2 : As.length = n) (hcs : csum st ≤ 8) (hal : miA mi2 = 0 ∨ (miA mi ≠ 0 ∧ okrs M (rfs lv st))) (hk : k + miMc mi2 ≤ k') (hu : u + miMs mi2 ≤ u') (hk2 : k' ≤ miMc mi) (hu2 : u' ≤ miMs mi)
    (hK : mK M b = ci + 1) (hs : Sem mi2 fr2 (aR b :: As) M (.inl rv) M1) (kk : G mi fr o M' pc' lv (rv.toList ++ st) M1 k' u') : G mi fr o M' pc lv st0 M k u := by
  intro p l e s m args below meth c E φ0 n0 B φ H locs ls hE hn hD hS hl
  subst hst
  obtain ⟨hat, hb0⟩ := hD.at (a := b) (by omega)
  rw [cE_obj hK h20] at hat
  refine g_ran B hE hn hS hl hal (mc := miMc mi2) (ms := miMs mi2) (al2 := miA mi2) (a := (Value.ref (φ b) :: As.map (av φ)).toArray) (rv := rv) ?_ hp hk hu kk
  subst hC
  exact vx_runV (b := φ b) (As := As.map (av φ)) ⟨B.1, B.2.1, B.2.2.1, B.2.2.2.2.1, B.2.2.2.2.2.1⟩ (hs l B.2.2.2.2.2.2.2.1 E φ) ⟨cb_of (R := rmm fr (miMc mi) (miMs mi)) B cf.1 hl2 hf, B.2.2.2.2.2.1 _ cf.2.1, B.2.2.2.2.2.1 _ cf.2.2⟩ ⟨sem_blind, va_recv B.2.2.2.2.2.2.2.2.2.2.2.1 hD.1 hc hat, sem_pre B hE hD hS (by rw [List.map_cons, av_ref hb0])⟩ rfl (by rw [List.length_map]; exact hn2) hl.1 (map_rev hb0) (lv_room (by rw [csum_eq]; exact hcs)) d ⟨Nat.le_trans hk hk2, Nat.le_trans hu hu2⟩
theorem g_callVX {i b n ci N : Nat} {C En : String} {T : u_T} {As st0 : List AV} (cf : CFv mi2 n) (hl2 : Cond.methodLink (miY mi).cls i (miY mi2) ∈ WALL) (hf : fr2 + 1 ≤ fr) (hc : vwCl[ci]? = some (C, T, N)) (hC : (miY mi2).cls = C) (h20 : ci < 20)
    (d : decode (miC mi) pc = .ok (.invokevirtual i, 3)) (hst : As.reverse ++ aR b :: st = st0) (hn2 : As.length = n) (hcs : csum st ≤ 8) (hal : miA mi2 = 0 ∨ miA mi ≠ 0) (hh : miH mi = []) (hk : k + miMc mi2 ≤ miMc mi) (hu : u + miMs mi2 ≤ miMs mi)
    (hK : mK M b = ci + 1) (hs : Sem mi2 fr2 (aR b :: As) M (.inr En) M1) : G mi fr (.inr En) M1 pc lv st0 M k u := by
  intro p l e s m args below meth c E φ0 n0 B φ H locs ls hE hn hD hS hl
  subst hst
  obtain ⟨hat, hb0⟩ := hD.at (a := b) (by omega)
  rw [cE_obj hK h20] at hat
  refine g_ranX B hE hn hS hal hh (mc := miMc mi2) (ms := miMs mi2) (al2 := miA mi2) (a := (Value.ref (φ b) :: As.map (av φ)).toArray) (st := st) ?_ hk hu
  subst hC
  exact vx_runV (b := φ b) (As := As.map (av φ)) ⟨B.1, B.2.1, B.2.2.1, B.2.2.2.2.1, B.2.2.2.2.2.1⟩ (hs l B.2.2.2.2.2.2.2.1 E φ) ⟨cb_of (R := rmm fr (miMc mi) (miMs mi)) B cf.1 hl2 hf, B.2.2.2.2.2.1 _ cf.2.1, B.2.2.2.2.2.1 _ cf.2.2⟩ ⟨sem_blind, va_recv B.2.2.2.2.2.2.2.2.2.2.2.1 hD.1 hc hat, sem_pre B hE hD hS (by rw [List.map_cons, av_ref hb0])⟩ rfl (by rw [List.length_map]; exact hn2) hl.1 (map_rev hb0) (lv_room (by rw [csum_eq]; exact hcs)) d ⟨hk, hu⟩
theorem map_revS {φ : Nat → Nat} {As st : List AV} : (As.reverse ++ st).map (av φ) = (As.map (av φ)).reverse ++ st.map (av φ) := by
  rw [List.map_append, List.map_reverse]
theorem g_callS {i n : Nat} {As st0 : List AV} {rv : Option AV} (cf : CFs mi2 n) (hl2 : Cond.methodLink (miY mi).cls i (miY mi2) ∈ WALL) (hf : fr2 + 1 ≤ fr)
    (d : decode (miC mi) pc = .ok (.invokestatic i, 3)) (hp : pc + 3 = pc') (hst : As.reverse ++ st = st0) (hn2 : As.length = n) (hcs : csum st ≤ 8) (hal : miA mi2 = 0 ∨ (miA mi ≠ 0 ∧ okrs M (rfs lv st))) (hk : k + miMc mi2 ≤ k') (hu : u + miMs mi2 ≤ u') (hk2 : k' ≤ miMc mi) (hu2 : u' ≤ miMs mi)
    (hs : Sem mi2 fr2 As M (.inl rv) M1) (kk : G mi fr o M' pc' lv (rv.toList ++ st) M1 k' u') : G mi fr o M' pc lv st0 M k u := by
  intro p l e s m args below meth c E φ0 n0 B φ H locs ls hE hn hD hS hl
  subst hst
  refine g_ran B hE hn hS hl hal (mc := miMc mi2) (ms := miMs mi2) (al2 := miA mi2) (a := (As.map (av φ)).toArray) (rv := rv) ?_ hp hk hu kk
  exact vx_runS (As := As.map (av φ)) ⟨B.1, B.2.1, B.2.2.1, B.2.2.2.2.1, B.2.2.2.2.2.1⟩ (hs l B.2.2.2.2.2.2.2.1 E φ) ⟨cb_of (R := rmm fr (miMc mi) (miMs mi)) B cf.1 hl2 hf, B.2.2.2.2.2.1 _ cf.2⟩ ⟨sem_blind, sem_pre B hE hD hS rfl⟩ rfl (by rw [List.length_map]; exact hn2) hl.1 map_revS (lv_room (by rw [csum_eq]; exact hcs)) d ⟨Nat.le_trans hk hk2, Nat.le_trans hu hu2⟩
theorem g_callI {i b n : Nat} {As st0 : List AV} {rv : Option AV} (cf : CFi mi2 n) (hl2 : Cond.methodLink (miY mi).cls i (miY mi2) ∈ WALL) (hf : fr2 + 1 ≤ fr) (hb0 : b ≠ 0)
    (d : decode (miC mi) pc = .ok (.invokespecial i, 3)) (hp : pc + 3 = pc') (hst : As.reverse ++ aR b :: st = st0) (hn2 : As.length = n) (hcs : csum st ≤ 8) (hal : miA mi2 = 0 ∨ (miA mi ≠ 0 ∧ okrs M (rfs lv st))) (hk : k + miMc mi2 ≤ k') (hu : u + miMs mi2 ≤ u') (hk2 : k' ≤ miMc mi) (hu2 : u' ≤ miMs mi)
    (hs : Sem mi2 fr2 (aR b :: As) M (.inl rv) M1) (kk : G mi fr o M' pc' lv (rv.toList ++ st) M1 k' u') : G mi fr o M' pc lv st0 M k u := by
  intro p l e s m args below meth c E φ0 n0 B φ H locs ls hE hn hD hS hl
  subst hst
  refine g_ran B hE hn hS hl hal (mc := miMc mi2) (ms := miMs mi2) (al2 := miA mi2) (a := (Value.ref (φ b) :: As.map (av φ)).toArray) (rv := rv) ?_ hp hk hu kk
  have hcb := cb_of (R := rmm fr (miMc mi) (miMs mi)) B cf.1 hl2 hf
  rw [cf.2.2.2] at hcb
  exact vx_runI (b := φ b) (As := As.map (av φ)) ⟨B.1, B.2.1, B.2.2.1, B.2.2.2.2.1, B.2.2.2.2.2.1⟩ (hs l B.2.2.2.2.2.2.2.1 E φ) ⟨hcb, cf.2.2.1, B.2.2.2.2.2.1 _ cf.2.1⟩ ⟨sem_blind, sem_pre B hE hD hS (by rw [List.map_cons, av_ref hb0])⟩ rfl (by rw [List.length_map]; exact hn2) hl.1 (map_rev hb0) (lv_room (by rw [csum_eq]; exact hcs)) d ⟨Nat.le_trans hk hk2, Nat.le_trans hu hu2⟩
theorem cn_of {p : Program} {l : Launch} {s : State} {m : MethodId} {args : Array Value} {meth : Method} {c : Code} {E : EE} {φ0 : Nat → Nat} {n i : Nat} (B : Bd mi p l s m args meth c E φ0) (cf : CFb mi2 n) (hl : ((miY mi).cls, i, miY mi2) ∈ nTab) (hf : fr2 + 1 ≤ fr) :
    va_CN (rmm fr (miMc mi) (miMs mi)) s args (miY mi).cls i (miY mi2) RX11 (miC mi2) (miL mi2) (miR mi2) (miW mi2 :: WALL) (rmm fr2 (miMc mi2) (miMs mi2)) (miMc mi2) (miMs mi2) n := by
  obtain ⟨h1, h2, h3, h4, h5⟩ := cf
  exact va_cnB n B.2.2.2.2.2.1 (wall_gi h2) (by rw [h1]) rfl rfl (B.2.2.2.2.2.2.2.2.2.2.2.nst.1 _ hl) (B.2.2.2.2.2.1 _ h3) h4 ⟨hf, by show 8 + (miL mi2 + 11) + 64 * fr2 ≤ 64 * fr; omega⟩
theorem g_callSN {i n : Nat} {As st0 : List AV} {rv : Option AV} (cf : CFs mi2 n) (hl2 : ((miY mi).cls, i, miY mi2) ∈ nTab) (hf : fr2 + 1 ≤ fr)
    (d : decode (miC mi) pc = .ok (.invokestatic i, 3)) (hp : pc + 3 = pc') (hst : As.reverse ++ st = st0) (hn2 : As.length = n) (hcs : csum st ≤ 8) (hal : miA mi2 = 0 ∨ (miA mi ≠ 0 ∧ okrs M (rfs lv st))) (hk : k + miMc mi2 ≤ k') (hu : u + miMs mi2 ≤ u') (hk2 : k' ≤ miMc mi) (hu2 : u' ≤ miMs mi)
    (hs : Sem mi2 fr2 As M (.inl rv) M1) (kk : G mi fr o M' pc' lv (rv.toList ++ st) M1 k' u') : G mi fr o M' pc lv st0 M k u := by
  intro p l e s m args below meth c E φ0 n0 B φ H locs ls hE hn hD hS hl
  subst hst
  refine g_ran B hE hn hS hl hal (mc := miMc mi2) (ms := miMs mi2) (al2 := miA mi2) (a := (As.map (av φ)).toArray) (rv := rv) ?_ hp hk hu kk
  exact vx_runSN (As := As.map (av φ)) ⟨B.1, B.2.1, B.2.2.1, B.2.2.2.2.1, B.2.2.2.2.2.1⟩ (hs l B.2.2.2.2.2.2.2.1 E φ) ⟨cn_of B cf.1 hl2 hf, B.2.2.2.2.2.1 _ cf.2, trivial⟩ ⟨sem_blind, sem_pre B hE hD hS rfl⟩ rfl (by rw [List.length_map]; exact hn2) hl.1 map_revS (lv_room (by rw [csum_eq]; exact hcs)) d ⟨Nat.le_trans hk hk2, Nat.le_trans hu hu2⟩
theorem g_callIN {i b n : Nat} {As st0 : List AV} {rv : Option AV} (cf : CFi mi2 n) (hl2 : ((miY mi).cls, i, miY mi2) ∈ nTab) (hf : fr2 + 1 ≤ fr) (hb0 : b ≠ 0)
    (d : decode (miC mi) pc = .ok (.invokespecial i, 3)) (hp : pc + 3 = pc') (hst : As.reverse ++ aR b :: st = st0) (hn2 : As.length = n) (hcs : csum st ≤ 8) (hal : miA mi2 = 0 ∨ (miA mi ≠ 0 ∧ okrs M (rfs lv st))) (hk : k + miMc mi2 ≤ k') (hu : u + miMs mi2 ≤ u') (hk2 : k' ≤ miMc mi) (hu2 : u' ≤ miMs mi)
    (hs : Sem mi2 fr2 (aR b :: As) M (.inl rv) M1) (kk : G mi fr o M' pc' lv (rv.toList ++ st) M1 k' u') : G mi fr o M' pc lv st0 M k u := by
  intro p l e s m args below meth c E φ0 n0 B φ H locs ls hE hn hD hS hl
  subst hst
  refine g_ran B hE hn hS hl hal (mc := miMc mi2) (ms := miMs mi2) (al2 := miA mi2) (a := (Value.ref (φ b) :: As.map (av φ)).toArray) (rv := rv) ?_ hp hk hu kk
  have hcb := cn_of (fr := fr) (fr2 := fr2) B cf.1 hl2 hf
  rw [cf.2.2.2] at hcb
  exact vx_runIN (b := φ b) (As := As.map (av φ)) ⟨B.1, B.2.1, B.2.2.1, B.2.2.2.2.1, B.2.2.2.2.2.1⟩ (hs l B.2.2.2.2.2.2.2.1 E φ) ⟨hcb, cf.2.2.1, B.2.2.2.2.2.1 _ cf.2.1⟩ ⟨sem_blind, sem_pre B hE hD hS (by rw [List.map_cons, av_ref hb0])⟩ rfl (by rw [List.length_map]; exact hn2) hl.1 (map_rev hb0) (lv_room (by rw [csum_eq]; exact hcs)) d ⟨Nat.le_trans hk hk2, Nat.le_trans hu hu2⟩
end RC
