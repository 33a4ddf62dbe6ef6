/-! ROWS of G: a call that throws and is caught here; a static call of a method with a table; the law's script -/
def catchX {α β : Type} (x : Option ((Nat ⊕ α) × Mem)) (h : Nat → Mem → Option β) (f : α → Mem → Option β) : Option β := match x with
  | some (.inr r, M) => f r M
  | some (.inl e, M) => h e M
  | none => none
theorem catchX_some {α β : Type} {x : Option ((Nat ⊕ α) × Mem)} {h : Nat → Mem → Option β} {f : α → Mem → Option β} {r : β} (hx : catchX x h f = some r) : (∃ e M, x = some (.inl e, M) ∧ h e M = some r) ∨ ∃ y M, x = some (.inr y, M) ∧ f y M = some r := by
  cases x with
  | none => cases hx
  | some y =>
    obtain ⟨y, M⟩ := y
    cases y with
    | inl e => exact Or.inl ⟨e, M, rfl, hx⟩
    | inr v => exact Or.inr ⟨v, M, rfl, hx⟩
section CT
variable {mi mi2 : MI} {fr fr2 : Nat} {o : OC} {M' M M1 : Mem} {pc pc' : Nat} {lv lv' : List (Option AV)} {st : List AV} {k u k' u' : Nat}
/-- what stands behind 'astore' of what was caught: a local that nobody reads -/
theorem lvR_drop {φ : Nat → Nat} {nL i : Nat} {lv : List (Option AV)} {ls : Array Slot} {v : Value} (hn : noL lv = true) (hi : lv[i]? = some none) (h : lv_has ls nL ((i, v) :: (prs φ lv).filter (fun q => !(q.1 == i) && !(q.1 + 1 == i && q.2.category == 2)))) : lvR φ nL lv ls := by
  refine ⟨h.1, h.2.1, fun j w hj => ?_⟩
  have hij : ¬ i = j := fun e => by subst e; rw [hi] at hj; cases hj
  refine h.2.2 (j, av φ w) (List.mem_cons_of_mem _ (List.mem_filter.mpr ⟨prs_mem.mpr ⟨w, hj, rfl⟩, ?_⟩))
  have hc : (av φ w).category = 1 := (av_cat φ w).trans (noL_cat hn hj)
  have hji : (j == i) = false := by simp; exact fun q => hij q.symm
  simp [hc, hji]
theorem g_callVC {i b n ci N j len : Nat} {C En : String} {T : u_T} {As st0 : List AV} (pre : List (Nat × Nat × Nat × Nat)) (x : Nat × Nat × Nat × Nat) (suf : List (Nat × Nat × Nat × Nat)) (hH : miH mi = pre ++ x :: suf) (hcov : covers ⟨x.1, x.2.1, x.2.2.1, x.2.2.2⟩ pc = true) (hct : x.2.2.2 ≠ 0)
    (hlk : Cond.classLink (miY mi).cls x.2.2.2 En ∈ WALL) (hcast : (En, En) ∈ cTab) (hpass : ∀ z ∈ pre, z.2.2.2 ≠ 0 ∧ Cond.classLink (miY mi).cls z.2.2.2 xNS ∈ WALL ∧ En = xIA)
    (cf : CFv mi2 n) (hl2 : Cond.methodLink (miY mi).cls i (miY mi2) ∈ WALL) (hf : fr2 + 1 ≤ fr) (hc : vwCl[ci]? = some (C, T, N)) (hC : (miY mi2).cls = C) (h20 : ci < 20)
    (d : decode (miC mi) pc = .ok (.invokevirtual i, 3)) (hst : As.reverse ++ aR b :: st = st0) (hn2 : As.length = n) (hcs : csum st ≤ 8) (hal : miA mi2 = 0 ∨ (miA mi ≠ 0 ∧ okrs M (rfs lv st))) (hk : k + miMc mi2 ≤ k') (hu : u + miMs mi2 ≤ u') (hk2 : k' ≤ miMc mi) (hu2 : u' ≤ miMs mi)
    (dA : decode (miC mi) x.2.2.1 = .ok (.astore j, len) ∨ ∃ f : Fin 4, (f : Nat) = j ∧ len = 1 ∧ decode (miC mi) x.2.2.1 = .ok (.astore_n f, 1)) (hlen : len = 1 ∨ len = 2) (hlen2 : decode (miC mi) x.2.2.1 = .ok (.astore j, len) → len = 2) (hp : x.2.2.1 + len = pc') (hN : noL lv = true) (hj : lv[j]? = some none) (hjL : j < miL mi)
    (hK : mK M b = ci + 1) (hs : Sem mi2 fr2 (aR b :: As) M (.inr En) M1) (kk : G mi fr o M' pc' lv [] M1 k' u') : G mi fr o M' pc lv st0 M k u := by
  intro p l e s m args below meth c E φ0 n0 B φ H locs ls hE hn hD hS hl
  subst hst
  obtain ⟨hat, hb0⟩ := hD.at (a := b) (by omega)
  rw [cE_obj hK h20] at hat
  subst hC
  have hr := vx_runV (p := p) (l := l) (e := e) (R := rmm fr (miMc mi) (miMs mi)) (s := s) (m := m) (args := args) (below := below) (meth := meth) (c := c) (H := H) (locs := locs) (cells := k) (slots := u) (g := F0 m pc ls ((As.reverse ++ aR b :: st).map (av φ))) (rest := st.map (av φ)) (b := φ b) (As := As.map (av φ)) ⟨B.1, B.2.1, B.2.2.1, B.2.2.2.2.1, B.2.2.2.2.2.1⟩ (hs l B.2.2.2.2.2.2.2.1 E φ) ⟨cb_of (R := rmm fr (miMc mi) (miMs mi)) B cf.1 hl2 hf, B.2.2.2.2.2.1 _ cf.2.1, B.2.2.2.2.2.1 _ cf.2.2⟩ ⟨sem_blind, va_recv B.2.2.2.2.2.2.2.2.2.2.2.1 hD.1 hc hat, sem_pre B hE hD hS (by rw [List.map_cons, av_ref hb0])⟩ rfl (by rw [List.length_map]; exact hn2) hl.1 (map_rev hb0) (lv_room (by rw [csum_eq]; exact hcs)) d ⟨Nat.le_trans hk hk2, Nat.le_trans hu hu2⟩
  intro T2 hT X
  rcases hr T2 hT X with ⟨v, st₀, t, T', L, h0, X', hL, e1, e2, ⟨⟨φ', r, hor, -⟩, -⟩, -⟩ | ⟨q, st₀, t, T', L, En2, ce, h0, X', hL, e1, e2, ⟨⟨φ', ho, hE2, hD2, hn3⟩, hF⟩, hce, hcv, hcl, sp⟩
  · cases hor
  · cases ho
    obtain ⟨k1, k2, k3⟩ := vx_keep (A0 := fun q => E.1 ≤ q) (A1 := fun q => E.1 ≤ q) h0 e1 hS (fun _ _ h => h) (fun _ h => h) hL hF
    have hlv : ∀ r, r ∈ rfs lv st → φ' r = φ r := fun r hr => by
      rcases hal with q | q
      · rw [hE2.2 q]
      · exact hE2.1 r (q.2 r hr)
    have hl' : lvR φ' (miL mi) lv ls := lvR_ext hl (fun i r hr => hlv r (rfs_lv hr))
    have K : ∀ ls2, lvR φ' (miL mi) lv ls2 → W p l e (rmm fr (miMc mi) (miMs mi)) s m args below meth c T'.heap (locs ++ L) k' u' (vx_MQ below (QC E φ0 n0 (miA mi) o M') (QX E φ0 n0 (miA mi) o M') args s (miMc mi) (miMs mi) (fun q => E.1 ≤ q)) (F0 m pc' ls2 []) := fun ls2 h2 => kk p l e s m args below meth c E φ0 n0 B φ' T'.heap (locs ++ L) ls2 (ext_trans hE hE2 hn (hal.imp id And.left)) (Nat.le_trans hn hn3) (by rw [e1]; exact hD2) k3 h2
    have KA : W p l e (rmm fr (miMc mi) (miMs mi)) s m args below meth c T'.heap (locs ++ L) k' u' (vx_MQ below (QC E φ0 n0 (miA mi) o M') (QX E φ0 n0 (miA mi) o M') args s (miMc mi) (miMs mi) (fun q => E.1 ≤ q)) (F0 m x.2.2.1 ls [.ref q]) := by
      subst hp
      rcases dA with dA | ⟨f, hfj, hl1, dA⟩
      · have := hlen2 dA
        subst this
        exact lv_astore B.1 B.2.1 dA (lvR_has hl') hjL rfl (fun ls2 h2 => K ls2 (lvR_drop hN hj h2))
      · subst hfj; subst hl1
        exact lv_astore_n B.1 B.2.1 dA rfl (lvR_has hl') hjL rfl (fun ls2 h2 => K ls2 (lvR_drop hN hj h2))
    have KC := vx_catch (E := En) (name := En) (own := (miY mi).cls) (pc := pc) (ls := ls) (rest := st.map (av φ)) (ce := ce) (q := q) B.2.2.2.2.1 (pre.map fun q => ⟨q.1, q.2.1, q.2.2.1, q.2.2.2⟩) ⟨x.1, x.2.1, x.2.2.1, x.2.2.2⟩ (suf.map fun q => ⟨q.1, q.2.1, q.2.2.1, q.2.2.2⟩) (by rw [B.2.2.2.2.2.2.2.2.1, hH]; unfold tableOf; rw [List.map_append, List.map_cons]) (fun z hz => by
        obtain ⟨y, hy, rfl⟩ := List.mem_map.mp hz
        obtain ⟨y1, y2, y3⟩ := hpass y hy
        exact Or.inr ⟨y1, xNS, B.2.2.2.2.2.1 _ y2, by rw [y3]; exact B.2.2.2.2.2.2.2.2.2.2.2.nst.2.2.2.1⟩) hcov hct (B.2.2.2.2.2.1 _ hlk) (va_Nw.use rfl (B.2.2.2.2.2.2.2.2.2.2.2.nst.2.2.1 _ hcast)) (by rw [e1]; exact hce) hcv hcl KA
    obtain ⟨t2, a1, b1⟩ := KC T' rfl (stand_widen X' hk hu)
    exact ⟨t2, sp.trans a1, b1⟩
/-- what a callee with a table says of itself -/
def CFw (m : MI) (n : Nat) : Prop := miW m = Cond.codeWith (miY m) (miC m) (miL m) (miR m) (miH m) ∧ miW m ∈ WALL ∧ Cond.initialized (miY m).cls ∈ WALL ∧ ((miY m).cls ≠ "java/lang/invoke/MethodHandle" ∧ (miY m).cls ≠ "java/lang/invoke/VarHandle" ∧ (parseMethodDescriptor (miY m).desc).map (fun d => d.parameters.length) = some n) ∧ miL m ≤ 40 ∧ Cond.static (miY m) ∈ WALL
theorem g_callSWi {i n : Nat} {As st0 : List AV} {x : Int32} (cf : CFw mi2 n) (hl2 : Cond.methodLink (miY mi).cls i (miY mi2) ∈ WALL) (hf : fr2 + 1 ≤ fr)
    (d : decode (miC mi) pc = .ok (.invokestatic i, 3)) (hp : pc + 3 = pc') (hst : As.reverse ++ st = st0) (hn2 : As.length = n) (hcs : csum st ≤ 8) (hal : miA mi2 = 0 ∨ (miA mi ≠ 0 ∧ okrs M (rfs lv st))) (hk : k + miMc mi2 ≤ k') (hu : u + miMs mi2 ≤ u') (hk2 : k' ≤ miMc mi) (hu2 : u' ≤ miMs mi)
    (hs : Sem mi2 fr2 As M (.inl (some (aI x))) M1) (kk : G mi fr o M' pc' lv (aI x :: st) M1 k' u') : G mi fr o M' pc lv st0 M k u := by
  intro p l e s m args below meth c E φ0 n0 B φ H locs ls hE hn hD hS hl
  subst hst
  refine g_ran B hE hn hS hl hal (mc := miMc mi2) (ms := miMs mi2) (al2 := miA mi2) (a := (As.map (av φ)).toArray) (rv := some (aI x)) ?_ hp hk hu kk
  obtain ⟨h1, h2, h3, h4, h5, h6⟩ := cf
  have cw : vx_CSW (rmm fr (miMc mi) (miMs mi)) s args (miY mi).cls i (miY mi2) (miC mi2) (miL mi2) (miR mi2) (miH mi2) (miW mi2 :: WALL) (rmm fr2 (miMc mi2) (miMs mi2)) (miMc mi2) (miMs mi2) n :=
    vx_cwSW n B.2.2.2.2.2.1 (fun w hw => by
      rcases List.mem_append.mp hw with h | h
      · simp only [List.mem_cons, List.not_mem_nil, or_false] at h
        rcases h with rfl | rfl | rfl
        · exact ⟨hl2, wall_good hl2⟩
        · exact ⟨h6, wall_good h6⟩
        · exact ⟨h3, wall_good h3⟩
      · exact wall_gi h2 w h) (by rw [h1]) rfl rfl h4 ⟨hf, by show 8 + (miL mi2 + 11) + 64 * fr2 ≤ 64 * fr; omega⟩
  exact vx_runSX (As := As.map (av φ)) ⟨B.1, B.2.1, B.2.2.1, B.2.2.2.2.1, B.2.2.2.2.2.1⟩ (hs l B.2.2.2.2.2.2.2.1 E φ) cw ⟨sem_blind, sem_pre B hE hD hS rfl⟩ rfl (by rw [List.length_map]; exact hn2) hl.1 map_revS (lv_room (by rw [csum_eq]; exact hcs)) d ⟨Nat.le_trans hk hk2, Nat.le_trans hu hu2⟩
theorem g_scrLen {L : Nat} {xs : Nat → Int32} (hm : miS mi = some (L, xs)) (d : decode (miC mi) pc = .ok (.arraylength, 1)) (hp : pc + 1 = pc') (kk : G mi fr o M' pc' lv (aI (Int32.ofNat L) :: st) M k u) : G mi fr o M' pc lv (aR 4000000 :: st) M k u := by
  intro p l e s m args below meth c E φ0 n0 B φ H locs ls hE hn hD hS hl
  subst hp
  obtain ⟨h1, h2, h3⟩ := B.2.2.2.2.2.2.2.2.2.1.2 _ hm
  rw [List.map_cons, av_ref (by omega : 4000000 ≠ 0), hE.1 _ (Or.inr (by omega))]
  exact va_slen B.1 B.2.1 h1 h2 h3 hS d (kk p l e s m args below meth c E φ0 n0 B φ H locs ls hE hn hD hS hl)
theorem g_scrAt {L : Nat} {xs : Nat → Int32} {i : Int32} (hm : miS mi = some (L, xs)) (d : decode (miC mi) pc = .ok (.iaload, 1)) (hp : pc + 1 = pc') (hi : vp_in i L) (kk : G mi fr o M' pc' lv (aI (xs i.toNatClampNeg) :: st) M k u) : G mi fr o M' pc lv (aI i :: aR 4000000 :: st) M k u := by
  intro p l e s m args below meth c E φ0 n0 B φ H locs ls hE hn hD hS hl
  subst hp
  obtain ⟨h1, h2, h3⟩ := B.2.2.2.2.2.2.2.2.2.1.2 _ hm
  rw [List.map_cons, List.map_cons, av_ref (by omega : 4000000 ≠ 0), hE.1 _ (Or.inr (by omega))]
  exact va_sld B.1 B.2.1 h1 h2 h3 hS hi d (kk p l e s m args below meth c E φ0 n0 B φ H locs ls hE hn hD hS hl)
end CT
