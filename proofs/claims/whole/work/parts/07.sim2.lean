/-! ROWS of G: an instruction each -/
def prs (φ : Nat → Nat) (lv : List (Option AV)) : List (Nat × Value) := (List.range lv.length).filterMap (fun i => match lv[i]? with | some (some v) => some (i, av φ v) | _ => none)
theorem prs_mem {φ : Nat → Nat} {lv : List (Option AV)} {q : Nat × Value} : q ∈ prs φ lv ↔ ∃ v, lv[q.1]? = some (some v) ∧ q.2 = av φ v := by
  unfold prs
  rw [List.mem_filterMap]
  constructor
  · rintro ⟨i, -, hi⟩
    cases h : lv[i]? with
    | none => rw [h] at hi; cases hi
    | some w =>
      cases w with
      | none => rw [h] at hi; cases hi
      | some v =>
        rw [h] at hi
        cases hi
        exact ⟨v, h, rfl⟩
  · rintro ⟨v, h1, h2⟩
    refine ⟨q.1, List.mem_range.mpr (List.getElem?_eq_some_iff.mp h1).1, ?_⟩
    rw [h1]
    show some (q.1, av φ v) = some q
    rw [← h2]
theorem lvR_has {φ : Nat → Nat} {nL : Nat} {lv : List (Option AV)} {ls : Array Slot} (h : lvR φ nL lv ls) : lv_has ls nL (prs φ lv) := by
  refine ⟨h.1, h.2.1, fun q hq => ?_⟩
  obtain ⟨v, h1, h2⟩ := prs_mem.mp hq
  rw [h2]
  exact h.2.2 _ _ h1
def noL (lv : List (Option AV)) : Bool := lv.all (fun o => match o with | some (.inr (.inr _)) => false | _ => true)
theorem noL_cat {lv : List (Option AV)} (h : noL lv = true) {i : Nat} {v : AV} (hi : lv[i]? = some (some v)) : acat v = 1 := by
  have := List.all_eq_true.mp h _ (List.mem_of_getElem? hi)
  rcases v with x | r | x
  · rfl
  · rfl
  · cases this
theorem lvR_set {φ : Nat → Nat} {nL i : Nat} {lv : List (Option AV)} {ls : Array Slot} {v : AV} (hn : noL lv = true) (h : lv_has ls nL ((i, av φ v) :: (prs φ lv).filter (fun q => !(q.1 == i) && !(q.1 + 1 == i && q.2.category == 2)))) : lvR φ nL (lv.set i (some v)) ls := by
  refine ⟨h.1, h.2.1, fun j w hj => ?_⟩
  rw [List.getElem?_set] at hj
  by_cases hi : i = j
  · subst hi
    rw [if_pos rfl] at hj
    by_cases hl : i < lv.length
    · rw [if_pos hl] at hj
      cases hj
      exact h.2.2 (i, av φ v) List.mem_cons_self
    · rw [if_neg hl] at hj; cases hj
  · rw [if_neg hi] at hj
    refine h.2.2 (j, av φ w) (List.mem_cons_of_mem _ (List.mem_filter.mpr ⟨prs_mem.mpr ⟨w, hj, rfl⟩, ?_⟩))
    have hc : (av φ w).category = 1 := (av_cat φ w).trans (noL_cat hn hj)
    have hji : (j == i) = false := by simp; exact fun q => hi q.symm
    simp [hc, hji]
section RW
variable {mi : MI} {fr : Nat} {o : OC} {M' M : Mem} {pc pc' : Nat} {lv lv' : List (Option AV)} {st : List AV} {k u : Nat}
theorem g_iconst {n : Int} (v : Int32) (d : decode (miC mi) pc = .ok (.iconst n, 1)) (hp : pc + 1 = pc') (hv : Int32.ofInt n = v)
    (kk : G mi fr o M' pc' lv (aI v :: st) M k u) : G mi fr o M' pc lv (st) M k u := by
  intro p l e s m args below meth c E φ0 n0 B φ H locs ls hE hn hD hS hl
  subst hp
  exact lv_iconst B.1 B.2.1 d hv (kk p l e s m args below meth c E φ0 n0 B φ H locs ls hE hn hD hS hl)
theorem g_bipush {n : Int} (v : Int32) (d : decode (miC mi) pc = .ok (.bipush n, 2)) (hp : pc + 2 = pc') (hv : (Int8.ofInt n).toInt32 = v)
    (kk : G mi fr o M' pc' lv (aI v :: st) M k u) : G mi fr o M' pc lv (st) M k u := by
  intro p l e s m args below meth c E φ0 n0 B φ H locs ls hE hn hD hS hl
  subst hp
  exact lv_bipush B.1 B.2.1 d hv (kk p l e s m args below meth c E φ0 n0 B φ H locs ls hE hn hD hS hl)
theorem g_sipush {n : Int} (v : Int32) (d : decode (miC mi) pc = .ok (.sipush n, 3)) (hp : pc + 3 = pc') (hv : (Int16.ofInt n).toInt32 = v)
    (kk : G mi fr o M' pc' lv (aI v :: st) M k u) : G mi fr o M' pc lv (st) M k u := by
  intro p l e s m args below meth c E φ0 n0 B φ H locs ls hE hn hD hS hl
  subst hp
  exact lv_sipush B.1 B.2.1 d hv (kk p l e s m args below meth c E φ0 n0 B φ H locs ls hE hn hD hS hl)
theorem g_lconst {n : Fin 2} (v : Int64) (d : decode (miC mi) pc = .ok (.lconst n, 1)) (hp : pc + 1 = pc') (hv : Int64.ofNat (n : Nat) = v)
    (kk : G mi fr o M' pc' lv (aL v :: st) M k u) : G mi fr o M' pc lv (st) M k u := by
  intro p l e s m args below meth c E φ0 n0 B φ H locs ls hE hn hD hS hl
  subst hp
  exact lv_lconst B.1 B.2.1 d hv (kk p l e s m args below meth c E φ0 n0 B φ H locs ls hE hn hD hS hl)
theorem g_ldc {i : Nat} {v : Int32} (d : decode (miC mi) pc = .ok (.ldc i, 2)) (hp : pc + 2 = pc') (hw : Cond.constant (miY mi).cls i v ∈ WALL)
    (kk : G mi fr o M' pc' lv (aI v :: st) M k u) : G mi fr o M' pc lv (st) M k u := by
  intro p l e s m args below meth c E φ0 n0 B φ H locs ls hE hn hD hS hl
  subst hp
  exact lv_ldc B.1 B.2.1 B.2.2.2.2.1 (B.2.2.2.2.2.1 _ hw) d (kk p l e s m args below meth c E φ0 n0 B φ H locs ls hE hn hD hS hl)
theorem g_ldcw {i : Nat} {v : Int32} (d : decode (miC mi) pc = .ok (.ldc_w i, 3)) (hp : pc + 3 = pc') (hw : Cond.constant (miY mi).cls i v ∈ WALL)
    (kk : G mi fr o M' pc' lv (aI v :: st) M k u) : G mi fr o M' pc lv (st) M k u := by
  intro p l e s m args below meth c E φ0 n0 B φ H locs ls hE hn hD hS hl
  subst hp
  exact lv_ldcw B.1 B.2.1 B.2.2.2.2.1 (B.2.2.2.2.2.1 _ hw) d (kk p l e s m args below meth c E φ0 n0 B φ H locs ls hE hn hD hS hl)
theorem g_ldc2 {i : Nat} {v : Int64} (d : decode (miC mi) pc = .ok (.ldc2_w i, 3)) (hp : pc + 3 = pc') (hw : Cond.constantLong (miY mi).cls i v ∈ WALL)
    (kk : G mi fr o M' pc' lv (aL v :: st) M k u) : G mi fr o M' pc lv (st) M k u := by
  intro p l e s m args below meth c E φ0 n0 B φ H locs ls hE hn hD hS hl
  subst hp
  exact lv_ldc2 B.1 B.2.1 B.2.2.2.2.1 (B.2.2.2.2.2.1 _ hw) d (kk p l e s m args below meth c E φ0 n0 B φ H locs ls hE hn hD hS hl)
theorem g_null  (d : decode (miC mi) pc = .ok (.aconst_null, 1)) (hp : pc + 1 = pc') 
    (kk : G mi fr o M' pc' lv (aR 0 :: st) M k u) : G mi fr o M' pc lv (st) M k u := by
  intro p l e s m args below meth c E φ0 n0 B φ H locs ls hE hn hD hS hl
  subst hp
  exact lv_null B.1 B.2.1 d (kk p l e s m args below meth c E φ0 n0 B φ H locs ls hE hn hD hS hl)
theorem g_iload_n {i : Fin 4} {x : Int32} (d : decode (miC mi) pc = .ok (.iload_n i, 1)) (hp : pc + 1 = pc') (h : lv[(i : Nat)]? = some (some (aI x)))
    (kk : G mi fr o M' pc' lv (aI x :: st) M k u) : G mi fr o M' pc lv (st) M k u := by
  intro p l e s m args below meth c E φ0 n0 B φ H locs ls hE hn hD hS hl
  subst hp
  exact lv_iload_n B.1 B.2.1 d rfl (hl.2.2 _ _ h) (kk p l e s m args below meth c E φ0 n0 B φ H locs ls hE hn hD hS hl)
theorem g_iload {i : Nat} {x : Int32} (d : decode (miC mi) pc = .ok (.iload i, 2)) (hp : pc + 2 = pc') (h : lv[i]? = some (some (aI x)))
    (kk : G mi fr o M' pc' lv (aI x :: st) M k u) : G mi fr o M' pc lv (st) M k u := by
  intro p l e s m args below meth c E φ0 n0 B φ H locs ls hE hn hD hS hl
  subst hp
  exact lv_iload B.1 B.2.1 d (hl.2.2 _ _ h) (kk p l e s m args below meth c E φ0 n0 B φ H locs ls hE hn hD hS hl)
theorem g_lload_n {i : Fin 4} {x : Int64} (d : decode (miC mi) pc = .ok (.lload_n i, 1)) (hp : pc + 1 = pc') (h : lv[(i : Nat)]? = some (some (aL x)))
    (kk : G mi fr o M' pc' lv (aL x :: st) M k u) : G mi fr o M' pc lv (st) M k u := by
  intro p l e s m args below meth c E φ0 n0 B φ H locs ls hE hn hD hS hl
  subst hp
  exact lv_lload_n B.1 B.2.1 d rfl (hl.2.2 _ _ h) (kk p l e s m args below meth c E φ0 n0 B φ H locs ls hE hn hD hS hl)
theorem g_lload {i : Nat} {x : Int64} (d : decode (miC mi) pc = .ok (.lload i, 2)) (hp : pc + 2 = pc') (h : lv[i]? = some (some (aL x)))
    (kk : G mi fr o M' pc' lv (aL x :: st) M k u) : G mi fr o M' pc lv (st) M k u := by
  intro p l e s m args below meth c E φ0 n0 B φ H locs ls hE hn hD hS hl
  subst hp
  exact lv_lload B.1 B.2.1 d (hl.2.2 _ _ h) (kk p l e s m args below meth c E φ0 n0 B φ H locs ls hE hn hD hS hl)
theorem g_aload_n {i : Fin 4} {r : Nat} (d : decode (miC mi) pc = .ok (.aload_n i, 1)) (hp : pc + 1 = pc') (h : lv[(i : Nat)]? = some (some (aR r)))
    (kk : G mi fr o M' pc' lv (aR r :: st) M k u) : G mi fr o M' pc lv (st) M k u := by
  intro p l e s m args below meth c E φ0 n0 B φ H locs ls hE hn hD hS hl
  subst hp
  have h2 := hl.2.2 _ _ h
  have K := kk p l e s m args below meth c E φ0 n0 B φ H locs ls hE hn hD hS hl
  by_cases hr : r = 0
  · subst hr
    exact lv_aload_nN B.1 B.2.1 d rfl h2 K
  · rw [av_ref hr] at h2
    rw [List.map_cons, av_ref hr] at K
    exact lv_aload_n B.1 B.2.1 d rfl h2 K
theorem g_aload {i : Nat} {r : Nat} (d : decode (miC mi) pc = .ok (.aload i, 2)) (hp : pc + 2 = pc') (h : lv[i]? = some (some (aR r)))
    (kk : G mi fr o M' pc' lv (aR r :: st) M k u) : G mi fr o M' pc lv (st) M k u := by
  intro p l e s m args below meth c E φ0 n0 B φ H locs ls hE hn hD hS hl
  subst hp
  have h2 := hl.2.2 _ _ h
  have K := kk p l e s m args below meth c E φ0 n0 B φ H locs ls hE hn hD hS hl
  by_cases hr : r = 0
  · subst hr
    exact lv_aloadN B.1 B.2.1 d h2 K
  · rw [av_ref hr] at h2
    rw [List.map_cons, av_ref hr] at K
    exact lv_aload B.1 B.2.1 d h2 K
theorem g_istore_n {i : Fin 4} {x : Int32} (d : decode (miC mi) pc = .ok (.istore_n i, 1)) (hp : pc + 1 = pc') (hN : noL lv = true) (hi : (i : Nat) < miL mi) (hlv : lv.set (i : Nat) (some (aI x)) = lv')
    (kk : G mi fr o M' pc' lv' st M k u) : G mi fr o M' pc lv (aI x :: st) M k u := by
  intro p l e s m args below meth c E φ0 n0 B φ H locs ls hE hn hD hS hl
  subst hp
  subst hlv
  exact lv_istore_n B.1 B.2.1 d rfl (lvR_has hl) hi rfl (fun ls2 h2 => kk p l e s m args below meth c E φ0 n0 B φ H locs ls2 hE hn hD hS (lvR_set hN h2))
theorem g_istore {i : Nat} {x : Int32} (d : decode (miC mi) pc = .ok (.istore i, 2)) (hp : pc + 2 = pc') (hN : noL lv = true) (hi : i < miL mi) (hlv : lv.set i (some (aI x)) = lv')
    (kk : G mi fr o M' pc' lv' st M k u) : G mi fr o M' pc lv (aI x :: st) M k u := by
  intro p l e s m args below meth c E φ0 n0 B φ H locs ls hE hn hD hS hl
  subst hp
  subst hlv
  exact lv_istore B.1 B.2.1 d (lvR_has hl) hi rfl (fun ls2 h2 => kk p l e s m args below meth c E φ0 n0 B φ H locs ls2 hE hn hD hS (lvR_set hN h2))
theorem g_astore_n {i : Fin 4} {r : Nat} (d : decode (miC mi) pc = .ok (.astore_n i, 1)) (hp : pc + 1 = pc') (hN : noL lv = true) (hi : (i : Nat) < miL mi) (hlv : lv.set (i : Nat) (some (aR r)) = lv')
    (kk : G mi fr o M' pc' lv' st M k u) : G mi fr o M' pc lv (aR r :: st) M k u := by
  intro p l e s m args below meth c E φ0 n0 B φ H locs ls hE hn hD hS hl
  subst hp
  subst hlv
  by_cases hr : r = 0
  · subst hr
    exact lv_astore_nN B.1 B.2.1 d rfl (lvR_has hl) hi rfl (fun ls2 h2 => kk p l e s m args below meth c E φ0 n0 B φ H locs ls2 hE hn hD hS (lvR_set hN h2))
  · rw [List.map_cons, av_ref hr]
    exact lv_astore_n B.1 B.2.1 d rfl (lvR_has hl) hi rfl (fun ls2 h2 => kk p l e s m args below meth c E φ0 n0 B φ H locs ls2 hE hn hD hS (lvR_set (v := aR r) hN (by rw [av_ref hr]; exact h2)))
theorem g_astore {i : Nat} {r : Nat} (d : decode (miC mi) pc = .ok (.astore i, 2)) (hp : pc + 2 = pc') (hN : noL lv = true) (hi : i < miL mi) (hlv : lv.set i (some (aR r)) = lv')
    (kk : G mi fr o M' pc' lv' st M k u) : G mi fr o M' pc lv (aR r :: st) M k u := by
  intro p l e s m args below meth c E φ0 n0 B φ H locs ls hE hn hD hS hl
  subst hp
  subst hlv
  by_cases hr : r = 0
  · subst hr
    exact lv_astoreN B.1 B.2.1 d (lvR_has hl) hi rfl (fun ls2 h2 => kk p l e s m args below meth c E φ0 n0 B φ H locs ls2 hE hn hD hS (lvR_set hN h2))
  · rw [List.map_cons, av_ref hr]
    exact lv_astore B.1 B.2.1 d (lvR_has hl) hi rfl (fun ls2 h2 => kk p l e s m args below meth c E φ0 n0 B φ H locs ls2 hE hn hD hS (lvR_set (v := aR r) hN (by rw [av_ref hr]; exact h2)))
theorem g_iinc {i : Nat} {n : Int} {x : Int32} (v : Int32) (d : decode (miC mi) pc = .ok (.iinc i n, 3)) (hp : pc + 3 = pc') (h : lv[i]? = some (some (aI x))) (hv : x + Int32.ofInt n = v) (hN : noL lv = true) (hi : i < miL mi) (hlv : lv.set i (some (aI v)) = lv')
    (kk : G mi fr o M' pc' lv' st M k u) : G mi fr o M' pc lv st M k u := by
  intro p l e s m args below meth c E φ0 n0 B φ H locs ls hE hn hD hS hl
  subst hp
  subst hlv
  obtain ⟨j, hj⟩ := List.getElem?_of_mem (prs_mem (φ := φ) (q := (i, .int x)).mpr ⟨_, h, rfl⟩)
  exact lv_iinc B.1 B.2.1 d (lvR_has hl) hj hv hi rfl (fun ls2 h2 => kk p l e s m args below meth c E φ0 n0 B φ H locs ls2 hE hn hD hS (lvR_set hN h2))
theorem g_iadd {x y : Int32} (d : decode (miC mi) pc = .ok (.iadd, 1)) (hp : pc + 1 = pc') 
    (kk : G mi fr o M' pc' lv (aI (x + y) :: st) M k u) : G mi fr o M' pc lv (aI y :: aI x :: st) M k u := by
  intro p l e s m args below meth c E φ0 n0 B φ H locs ls hE hn hD hS hl
  subst hp
  exact lv_iadd B.1 B.2.1 d (kk p l e s m args below meth c E φ0 n0 B φ H locs ls hE hn hD hS hl)
theorem g_isub {x y : Int32} (d : decode (miC mi) pc = .ok (.isub, 1)) (hp : pc + 1 = pc') 
    (kk : G mi fr o M' pc' lv (aI (x - y) :: st) M k u) : G mi fr o M' pc lv (aI y :: aI x :: st) M k u := by
  intro p l e s m args below meth c E φ0 n0 B φ H locs ls hE hn hD hS hl
  subst hp
  exact lv_isub B.1 B.2.1 d (kk p l e s m args below meth c E φ0 n0 B φ H locs ls hE hn hD hS hl)
theorem g_imul {x y : Int32} (d : decode (miC mi) pc = .ok (.imul, 1)) (hp : pc + 1 = pc') 
    (kk : G mi fr o M' pc' lv (aI (x * y) :: st) M k u) : G mi fr o M' pc lv (aI y :: aI x :: st) M k u := by
  intro p l e s m args below meth c E φ0 n0 B φ H locs ls hE hn hD hS hl
  subst hp
  exact lv_imul B.1 B.2.1 d (kk p l e s m args below meth c E φ0 n0 B φ H locs ls hE hn hD hS hl)
theorem g_iand {x y : Int32} (d : decode (miC mi) pc = .ok (.iand, 1)) (hp : pc + 1 = pc') 
    (kk : G mi fr o M' pc' lv (aI (x &&& y) :: st) M k u) : G mi fr o M' pc lv (aI y :: aI x :: st) M k u := by
  intro p l e s m args below meth c E φ0 n0 B φ H locs ls hE hn hD hS hl
  subst hp
  exact lv_iand B.1 B.2.1 d (kk p l e s m args below meth c E φ0 n0 B φ H locs ls hE hn hD hS hl)
theorem g_ior {x y : Int32} (d : decode (miC mi) pc = .ok (.ior, 1)) (hp : pc + 1 = pc') 
    (kk : G mi fr o M' pc' lv (aI (x ||| y) :: st) M k u) : G mi fr o M' pc lv (aI y :: aI x :: st) M k u := by
  intro p l e s m args below meth c E φ0 n0 B φ H locs ls hE hn hD hS hl
  subst hp
  exact lv_ior B.1 B.2.1 d (kk p l e s m args below meth c E φ0 n0 B φ H locs ls hE hn hD hS hl)
theorem g_ishl {x y : Int32} (d : decode (miC mi) pc = .ok (.ishl, 1)) (hp : pc + 1 = pc') 
    (kk : G mi fr o M' pc' lv (aI (x <<< (y &&& 31)) :: st) M k u) : G mi fr o M' pc lv (aI y :: aI x :: st) M k u := by
  intro p l e s m args below meth c E φ0 n0 B φ H locs ls hE hn hD hS hl
  subst hp
  exact lv_ishl B.1 B.2.1 d (kk p l e s m args below meth c E φ0 n0 B φ H locs ls hE hn hD hS hl)
theorem g_ishr {x y : Int32} (d : decode (miC mi) pc = .ok (.ishr, 1)) (hp : pc + 1 = pc') 
    (kk : G mi fr o M' pc' lv (aI (x >>> (y &&& 31)) :: st) M k u) : G mi fr o M' pc lv (aI y :: aI x :: st) M k u := by
  intro p l e s m args below meth c E φ0 n0 B φ H locs ls hE hn hD hS hl
  subst hp
  exact lv_ishr B.1 B.2.1 d (kk p l e s m args below meth c E φ0 n0 B φ H locs ls hE hn hD hS hl)
theorem g_iushr {x y : Int32} (d : decode (miC mi) pc = .ok (.iushr, 1)) (hp : pc + 1 = pc') 
    (kk : G mi fr o M' pc' lv (aI ((x.toUInt32 >>> (y.toUInt32 &&& Int32.toUInt32 31)).toInt32) :: st) M k u) : G mi fr o M' pc lv (aI y :: aI x :: st) M k u := by
  intro p l e s m args below meth c E φ0 n0 B φ H locs ls hE hn hD hS hl
  subst hp
  exact lv_iushr B.1 B.2.1 d rfl (kk p l e s m args below meth c E φ0 n0 B φ H locs ls hE hn hD hS hl)
theorem g_idiv {x y : Int32} (d : decode (miC mi) pc = .ok (.idiv, 1)) (hp : pc + 1 = pc') (hy : ¬ y = 0)
    (kk : G mi fr o M' pc' lv (aI (x / y) :: st) M k u) : G mi fr o M' pc lv (aI y :: aI x :: st) M k u := by
  intro p l e s m args below meth c E φ0 n0 B φ H locs ls hE hn hD hS hl
  subst hp
  exact lv_idiv B.1 B.2.1 d hy (kk p l e s m args below meth c E φ0 n0 B φ H locs ls hE hn hD hS hl)
theorem g_irem {x y : Int32} (d : decode (miC mi) pc = .ok (.irem, 1)) (hp : pc + 1 = pc') (hy : ¬ y = 0)
    (kk : G mi fr o M' pc' lv (aI (x - x / y * y) :: st) M k u) : G mi fr o M' pc lv (aI y :: aI x :: st) M k u := by
  intro p l e s m args below meth c E φ0 n0 B φ H locs ls hE hn hD hS hl
  subst hp
  exact lv_irem B.1 B.2.1 d hy (kk p l e s m args below meth c E φ0 n0 B φ H locs ls hE hn hD hS hl)
theorem g_i2l {x : Int32} (d : decode (miC mi) pc = .ok (.i2l, 1)) (hp : pc + 1 = pc') 
    (kk : G mi fr o M' pc' lv (aL x.toInt64 :: st) M k u) : G mi fr o M' pc lv (aI x :: st) M k u := by
  intro p l e s m args below meth c E φ0 n0 B φ H locs ls hE hn hD hS hl
  subst hp
  exact lv_i2l B.1 B.2.1 d rfl (kk p l e s m args below meth c E φ0 n0 B φ H locs ls hE hn hD hS hl)
theorem g_lcmp {x y : Int64} (d : decode (miC mi) pc = .ok (.lcmp, 1)) (hp : pc + 1 = pc') 
    (kk : G mi fr o M' pc' lv (aI (lg_cmp x y) :: st) M k u) : G mi fr o M' pc lv (aL y :: aL x :: st) M k u := by
  intro p l e s m args below meth c E φ0 n0 B φ H locs ls hE hn hD hS hl
  subst hp
  exact W.lcmp B.1 B.2.1 d (kk p l e s m args below meth c E φ0 n0 B φ H locs ls hE hn hD hS hl)
theorem g_dup {v : AV} (d : decode (miC mi) pc = .ok (.dup, 1)) (hp : pc + 1 = pc') (hc : acat v = 1)
    (kk : G mi fr o M' pc' lv (v :: v :: st) M k u) : G mi fr o M' pc lv (v :: st) M k u := by
  intro p l e s m args below meth c E φ0 n0 B φ H locs ls hE hn hD hS hl
  subst hp
  exact lv_dup B.1 B.2.1 d ((av_cat φ v).trans hc) (kk p l e s m args below meth c E φ0 n0 B φ H locs ls hE hn hD hS hl)
theorem g_pop {v : AV} (d : decode (miC mi) pc = .ok (.pop, 1)) (hp : pc + 1 = pc') (hc : acat v = 1)
    (kk : G mi fr o M' pc' lv (st) M k u) : G mi fr o M' pc lv (v :: st) M k u := by
  intro p l e s m args below meth c E φ0 n0 B φ H locs ls hE hn hD hS hl
  subst hp
  exact lv_pop B.1 B.2.1 d ((av_cat φ v).trans hc) (kk p l e s m args below meth c E φ0 n0 B φ H locs ls hE hn hD hS hl)
theorem g_dup2 {v w : AV} (d : decode (miC mi) pc = .ok (.dup2, 1)) (hp : pc + 1 = pc') (hc : acat v = 1) (hc2 : acat w = 1)
    (kk : G mi fr o M' pc' lv (v :: w :: v :: w :: st) M k u) : G mi fr o M' pc lv (v :: w :: st) M k u := by
  intro p l e s m args below meth c E φ0 n0 B φ H locs ls hE hn hD hS hl
  subst hp
  exact lv_dup2_11 B.1 B.2.1 d ((av_cat φ v).trans hc) ((av_cat φ w).trans hc2) (kk p l e s m args below meth c E φ0 n0 B φ H locs ls hE hn hD hS hl)
theorem g_goto {off : Int} (d : decode (miC mi) pc = .ok (.goto off, 3)) (ht : (pc : Int) + off = (pc' : Int)) (kk : G mi fr o M' pc' lv st M k u) : G mi fr o M' pc lv st M k u := by
  intro p l e s m args below meth c E φ0 n0 B φ H locs ls hE hn hD hS hl
  exact lv_goto B.1 B.2.1 d ht (kk p l e s m args below meth c E φ0 n0 B φ H locs ls hE hn hD hS hl)
theorem g_if_eq {x : Int32} {off : Int} (tgt : Nat) (d : decode (miC mi) pc = .ok (.ifCond .eq off, 3)) (hp : pc + 3 = pc') (ht : (pc : Int) + off = (tgt : Int)) (kt : x = 0 → G mi fr o M' tgt lv st M k u) (kf : ¬ x = 0 → G mi fr o M' pc' lv st M k u) : G mi fr o M' pc lv (aI x :: st) M k u := by
  intro p l e s m args below meth c E φ0 n0 B φ H locs ls hE hn hD hS hl
  subst hp
  exact lv_if_eq B.1 B.2.1 d ht (fun hh => kt hh p l e s m args below meth c E φ0 n0 B φ H locs ls hE hn hD hS hl) (fun hh => kf hh p l e s m args below meth c E φ0 n0 B φ H locs ls hE hn hD hS hl)
theorem g_if_ne {x : Int32} {off : Int} (tgt : Nat) (d : decode (miC mi) pc = .ok (.ifCond .ne off, 3)) (hp : pc + 3 = pc') (ht : (pc : Int) + off = (tgt : Int)) (kt : ¬ x = 0 → G mi fr o M' tgt lv st M k u) (kf : x = 0 → G mi fr o M' pc' lv st M k u) : G mi fr o M' pc lv (aI x :: st) M k u := by
  intro p l e s m args below meth c E φ0 n0 B φ H locs ls hE hn hD hS hl
  subst hp
  exact lv_if_ne B.1 B.2.1 d ht (fun hh => kt hh p l e s m args below meth c E φ0 n0 B φ H locs ls hE hn hD hS hl) (fun hh => kf hh p l e s m args below meth c E φ0 n0 B φ H locs ls hE hn hD hS hl)
theorem g_if_lt {x : Int32} {off : Int} (tgt : Nat) (d : decode (miC mi) pc = .ok (.ifCond .lt off, 3)) (hp : pc + 3 = pc') (ht : (pc : Int) + off = (tgt : Int)) (kt : x < 0 → G mi fr o M' tgt lv st M k u) (kf : ¬ x < 0 → G mi fr o M' pc' lv st M k u) : G mi fr o M' pc lv (aI x :: st) M k u := by
  intro p l e s m args below meth c E φ0 n0 B φ H locs ls hE hn hD hS hl
  subst hp
  exact lv_if_lt B.1 B.2.1 d ht (fun hh => kt hh p l e s m args below meth c E φ0 n0 B φ H locs ls hE hn hD hS hl) (fun hh => kf hh p l e s m args below meth c E φ0 n0 B φ H locs ls hE hn hD hS hl)
theorem g_if_ge {x : Int32} {off : Int} (tgt : Nat) (d : decode (miC mi) pc = .ok (.ifCond .ge off, 3)) (hp : pc + 3 = pc') (ht : (pc : Int) + off = (tgt : Int)) (kt : 0 ≤ x → G mi fr o M' tgt lv st M k u) (kf : ¬ 0 ≤ x → G mi fr o M' pc' lv st M k u) : G mi fr o M' pc lv (aI x :: st) M k u := by
  intro p l e s m args below meth c E φ0 n0 B φ H locs ls hE hn hD hS hl
  subst hp
  exact lv_if_ge B.1 B.2.1 d ht (fun hh => kt hh p l e s m args below meth c E φ0 n0 B φ H locs ls hE hn hD hS hl) (fun hh => kf hh p l e s m args below meth c E φ0 n0 B φ H locs ls hE hn hD hS hl)
theorem g_if_gt {x : Int32} {off : Int} (tgt : Nat) (d : decode (miC mi) pc = .ok (.ifCond .gt off, 3)) (hp : pc + 3 = pc') (ht : (pc : Int) + off = (tgt : Int)) (kt : 0 < x → G mi fr o M' tgt lv st M k u) (kf : ¬ 0 < x → G mi fr o M' pc' lv st M k u) : G mi fr o M' pc lv (aI x :: st) M k u := by
  intro p l e s m args below meth c E φ0 n0 B φ H locs ls hE hn hD hS hl
  subst hp
  exact lv_if_gt B.1 B.2.1 d ht (fun hh => kt hh p l e s m args below meth c E φ0 n0 B φ H locs ls hE hn hD hS hl) (fun hh => kf hh p l e s m args below meth c E φ0 n0 B φ H locs ls hE hn hD hS hl)
theorem g_if_le {x : Int32} {off : Int} (tgt : Nat) (d : decode (miC mi) pc = .ok (.ifCond .le off, 3)) (hp : pc + 3 = pc') (ht : (pc : Int) + off = (tgt : Int)) (kt : x ≤ 0 → G mi fr o M' tgt lv st M k u) (kf : ¬ x ≤ 0 → G mi fr o M' pc' lv st M k u) : G mi fr o M' pc lv (aI x :: st) M k u := by
  intro p l e s m args below meth c E φ0 n0 B φ H locs ls hE hn hD hS hl
  subst hp
  exact lv_if_le B.1 B.2.1 d ht (fun hh => kt hh p l e s m args below meth c E φ0 n0 B φ H locs ls hE hn hD hS hl) (fun hh => kf hh p l e s m args below meth c E φ0 n0 B φ H locs ls hE hn hD hS hl)
theorem g_icmp_eq {x y : Int32} {off : Int} (tgt : Nat) (d : decode (miC mi) pc = .ok (.if_icmp .eq off, 3)) (hp : pc + 3 = pc') (ht : (pc : Int) + off = (tgt : Int)) (kt : x = y → G mi fr o M' tgt lv st M k u) (kf : ¬ x = y → G mi fr o M' pc' lv st M k u) : G mi fr o M' pc lv (aI y :: aI x :: st) M k u := by
  intro p l e s m args below meth c E φ0 n0 B φ H locs ls hE hn hD hS hl
  subst hp
  exact lv_icmp_eq B.1 B.2.1 d ht (fun hh => kt hh p l e s m args below meth c E φ0 n0 B φ H locs ls hE hn hD hS hl) (fun hh => kf hh p l e s m args below meth c E φ0 n0 B φ H locs ls hE hn hD hS hl)
theorem g_icmp_ne {x y : Int32} {off : Int} (tgt : Nat) (d : decode (miC mi) pc = .ok (.if_icmp .ne off, 3)) (hp : pc + 3 = pc') (ht : (pc : Int) + off = (tgt : Int)) (kt : ¬ x = y → G mi fr o M' tgt lv st M k u) (kf : x = y → G mi fr o M' pc' lv st M k u) : G mi fr o M' pc lv (aI y :: aI x :: st) M k u := by
  intro p l e s m args below meth c E φ0 n0 B φ H locs ls hE hn hD hS hl
  subst hp
  exact lv_icmp_ne B.1 B.2.1 d ht (fun hh => kt hh p l e s m args below meth c E φ0 n0 B φ H locs ls hE hn hD hS hl) (fun hh => kf hh p l e s m args below meth c E φ0 n0 B φ H locs ls hE hn hD hS hl)
theorem g_icmp_lt {x y : Int32} {off : Int} (tgt : Nat) (d : decode (miC mi) pc = .ok (.if_icmp .lt off, 3)) (hp : pc + 3 = pc') (ht : (pc : Int) + off = (tgt : Int)) (kt : x < y → G mi fr o M' tgt lv st M k u) (kf : ¬ x < y → G mi fr o M' pc' lv st M k u) : G mi fr o M' pc lv (aI y :: aI x :: st) M k u := by
  intro p l e s m args below meth c E φ0 n0 B φ H locs ls hE hn hD hS hl
  subst hp
  exact lv_icmp_lt B.1 B.2.1 d ht (fun hh => kt hh p l e s m args below meth c E φ0 n0 B φ H locs ls hE hn hD hS hl) (fun hh => kf hh p l e s m args below meth c E φ0 n0 B φ H locs ls hE hn hD hS hl)
theorem g_icmp_ge {x y : Int32} {off : Int} (tgt : Nat) (d : decode (miC mi) pc = .ok (.if_icmp .ge off, 3)) (hp : pc + 3 = pc') (ht : (pc : Int) + off = (tgt : Int)) (kt : y ≤ x → G mi fr o M' tgt lv st M k u) (kf : ¬ y ≤ x → G mi fr o M' pc' lv st M k u) : G mi fr o M' pc lv (aI y :: aI x :: st) M k u := by
  intro p l e s m args below meth c E φ0 n0 B φ H locs ls hE hn hD hS hl
  subst hp
  exact lv_icmp_ge B.1 B.2.1 d ht (fun hh => kt hh p l e s m args below meth c E φ0 n0 B φ H locs ls hE hn hD hS hl) (fun hh => kf hh p l e s m args below meth c E φ0 n0 B φ H locs ls hE hn hD hS hl)
theorem g_icmp_gt {x y : Int32} {off : Int} (tgt : Nat) (d : decode (miC mi) pc = .ok (.if_icmp .gt off, 3)) (hp : pc + 3 = pc') (ht : (pc : Int) + off = (tgt : Int)) (kt : y < x → G mi fr o M' tgt lv st M k u) (kf : ¬ y < x → G mi fr o M' pc' lv st M k u) : G mi fr o M' pc lv (aI y :: aI x :: st) M k u := by
  intro p l e s m args below meth c E φ0 n0 B φ H locs ls hE hn hD hS hl
  subst hp
  exact lv_icmp_gt B.1 B.2.1 d ht (fun hh => kt hh p l e s m args below meth c E φ0 n0 B φ H locs ls hE hn hD hS hl) (fun hh => kf hh p l e s m args below meth c E φ0 n0 B φ H locs ls hE hn hD hS hl)
theorem g_icmp_le {x y : Int32} {off : Int} (tgt : Nat) (d : decode (miC mi) pc = .ok (.if_icmp .le off, 3)) (hp : pc + 3 = pc') (ht : (pc : Int) + off = (tgt : Int)) (kt : x ≤ y → G mi fr o M' tgt lv st M k u) (kf : ¬ x ≤ y → G mi fr o M' pc' lv st M k u) : G mi fr o M' pc lv (aI y :: aI x :: st) M k u := by
  intro p l e s m args below meth c E φ0 n0 B φ H locs ls hE hn hD hS hl
  subst hp
  exact lv_icmp_le B.1 B.2.1 d ht (fun hh => kt hh p l e s m args below meth c E φ0 n0 B φ H locs ls hE hn hD hS hl) (fun hh => kf hh p l e s m args below meth c E φ0 n0 B φ H locs ls hE hn hD hS hl)
theorem g_ifnull {r : Nat} {off : Int} (tgt : Nat) (d : decode (miC mi) pc = .ok (.ifnull off, 3)) (hp : pc + 3 = pc') (ht : (pc : Int) + off = (tgt : Int)) (kt : r = 0 → G mi fr o M' tgt lv st M k u) (kf : ¬ r = 0 → G mi fr o M' pc' lv st M k u) : G mi fr o M' pc lv (aR r :: st) M k u := by
  intro p l e s m args below meth c E φ0 n0 B φ H locs ls hE hn hD hS hl
  subst hp
  by_cases hr : r = 0
  · subst hr
    exact lv_ifnullN B.1 B.2.1 d ht (kt rfl p l e s m args below meth c E φ0 n0 B φ H locs ls hE hn hD hS hl)
  · rw [List.map_cons, av_ref hr]
    exact lv_ifnull B.1 B.2.1 d (kf hr p l e s m args below meth c E φ0 n0 B φ H locs ls hE hn hD hS hl)
theorem g_ifnonnull {r : Nat} {off : Int} (tgt : Nat) (d : decode (miC mi) pc = .ok (.ifnonnull off, 3)) (hp : pc + 3 = pc') (ht : (pc : Int) + off = (tgt : Int)) (kt : ¬ r = 0 → G mi fr o M' tgt lv st M k u) (kf : r = 0 → G mi fr o M' pc' lv st M k u) : G mi fr o M' pc lv (aR r :: st) M k u := by
  intro p l e s m args below meth c E φ0 n0 B φ H locs ls hE hn hD hS hl
  subst hp
  by_cases hr : r = 0
  · subst hr
    exact lv_ifnonnullN B.1 B.2.1 d (kf rfl p l e s m args below meth c E φ0 n0 B φ H locs ls hE hn hD hS hl)
  · rw [List.map_cons, av_ref hr]
    exact lv_ifnonnull B.1 B.2.1 d ht (kt hr p l e s m args below meth c E φ0 n0 B φ H locs ls hE hn hD hS hl)
theorem g_tableOut {dflt lo hi : Int} {offs : Array Int} {len : Nat} {x : Int32} (d : decode (miC mi) pc = .ok (.tableswitch dflt lo hi offs, len)) (h : x.toInt < lo ∨ hi < x.toInt) (ht : (pc : Int) + dflt = (pc' : Int)) (kk : G mi fr o M' pc' lv st M k u) : G mi fr o M' pc lv (aI x :: st) M k u := by
  intro p l e s m args below meth c E φ0 n0 B φ H locs ls hE hn hD hS hl
  exact lv_tableOut B.1 B.2.1 d h ht (kk p l e s m args below meth c E φ0 n0 B φ H locs ls hE hn hD hS hl)
theorem g_tableIn {dflt lo hi : Int} {offs : Array Int} {len : Nat} {x : Int32} {off : Int} (d : decode (miC mi) pc = .ok (.tableswitch dflt lo hi offs, len)) (h1 : ¬ x.toInt < lo) (h2 : ¬ hi < x.toInt) (ho : offs[(x.toInt - lo).toNat]? = some off) (ht : (pc : Int) + off = (pc' : Int)) (kk : G mi fr o M' pc' lv st M k u) : G mi fr o M' pc lv (aI x :: st) M k u := by
  intro p l e s m args below meth c E φ0 n0 B φ H locs ls hE hn hD hS hl
  exact lv_tableIn B.1 B.2.1 d h1 h2 ho ht (kk p l e s m args below meth c E φ0 n0 B φ H locs ls hE hn hD hS hl)
theorem g_ireturn {x : Int32} (d : decode (miC mi) pc = .ok (.ireturn, 1)) (hr : miR mi = some .int) (hk : k ≤ miMc mi) (hu : u ≤ miMs mi) : G mi fr (.inl (some (aI x))) M pc lv ([aI x]) M k u := by
  intro p l e s m args below meth c E φ0 n0 B φ H locs ls hE hn hD hS hl
  refine vx_ret (W.widen (k := miMc mi) (n := miMs mi) hk hu ?_)
  exact W.iret B.1 B.2.1 (B.2.2.2.1.trans hr) (fun t ht _ => ⟨⟨φ, some (aI x), rfl, hE, rfl, by rw [ht]; exact hD, hn⟩, hS.F ht⟩) hS.2.2 d B.2.2.2.2.2.2.1
theorem g_zreturn {x : Int32} (d : decode (miC mi) pc = .ok (.ireturn, 1)) (hr : miR mi = some .boolean) (hz : x = 0 ∨ x = 1) (hk : k ≤ miMc mi) (hu : u ≤ miMs mi) : G mi fr (.inl (some (aI x))) M pc lv ([aI x]) M k u := by
  intro p l e s m args below meth c E φ0 n0 B φ H locs ls hE hn hD hS hl
  refine vx_ret (W.widen (k := miMc mi) (n := miMs mi) hk hu ?_)
  exact W.zret B.1 B.2.1 (B.2.2.2.1.trans hr) (by rcases hz with rfl | rfl <;> rfl) (fun t ht _ => ⟨⟨φ, some (aI x), rfl, hE, rfl, by rw [ht]; exact hD, hn⟩, hS.F ht⟩) hS.2.2 d B.2.2.2.2.2.2.1
theorem g_return  (d : decode (miC mi) pc = .ok (.return_, 1)) (hr : miR mi = none) (hk : k ≤ miMc mi) (hu : u ≤ miMs mi) : G mi fr (.inl (none)) M pc lv ([]) M k u := by
  intro p l e s m args below meth c E φ0 n0 B φ H locs ls hE hn hD hS hl
  refine vx_ret (W.widen (k := miMc mi) (n := miMs mi) hk hu ?_)
  exact W.vret B.1 B.2.1 (B.2.2.2.1.trans hr) (fun t ht _ => ⟨⟨φ, none, rfl, hE, rfl, by rw [ht]; exact hD, hn⟩, hS.F ht⟩) hS.2.2 d B.2.2.2.2.2.2.1
theorem g_areturn {r : Nat} (d : decode (miC mi) pc = .ok (.areturn, 1)) (hr : miR mi = some (.array .int)) (hk : k ≤ miMc mi) (hu : u ≤ miMs mi) : G mi fr (.inl (some (aR r))) M pc lv [aR r] M k u := by
  intro p l e s m args below meth c E φ0 n0 B φ H locs ls hE hn hD hS hl
  refine vx_ret (W.widen (k := miMc mi) (n := miMs mi) hk hu ?_)
  refine W.aret B.1 B.2.1 (B.2.2.2.1.trans hr) (Or.inr ⟨_, rfl⟩) ?_ (fun t ht _ => ⟨⟨φ, some (aR r), rfl, hE, rfl, by rw [ht]; exact hD, hn⟩, hS.F ht⟩) hS.2.2 d B.2.2.2.2.2.2.1
  by_cases h : r = 0
  · subst h; exact Or.inl rfl
  · rw [av_ref h]; exact Or.inr ⟨_, rfl⟩
end RW
