/-! SUPPORT of the printed contracts -/
section SU
variable {mi mi2 : MI} {fr fr2 : Nat} {o : OC} {M' M M1 : Mem} {pc pc' : Nat} {lv lv' : List (Option AV)} {st : List AV} {k u k' u' : Nat}
theorem gM (h : ∀ M1, M1 = M → G mi fr o M' pc lv st M1 k u) : G mi fr o M' pc lv st M k u := h M rfl
theorem ap_eq {α β : Type} {x y : α} {f : α → Option β} {r : β} (h : ap x f = some r) (e : y = x) : f y = some r := by subst e; exact h
theorem g_callVi {i b n ci N : Nat} {C : String} {T : u_T} {As st0 : List AV} {x : Int32} (cf : CFv mi2 n) (hl2 : Cond.methodLink (miY mi).cls i (miY mi2) ∈ WALL) (hf : fr2 + 1 ≤ fr) (hc : vwCl[ci]? = some (C, T, N)) (hC : (miY mi2).cls = C) (h20 : ci < 20)
    (d : decode (miC mi) pc = .ok (.invokevirtual i, 3)) (hp : pc + 3 = pc') (hst : As.reverse ++ aR b :: st = st0) (hn2 : As.length = n) (hcs : csum st ≤ 8) (hal : miA mi2 = 0 ∨ (miA mi ≠ 0 ∧ okrs M (rfs lv st))) (hk : k + miMc mi2 ≤ k') (hu : u + miMs mi2 ≤ u') (hk2 : k' ≤ miMc mi) (hu2 : u' ≤ miMs mi)
    (hK : mK M b = ci + 1) (hs : Sem mi2 fr2 (aR b :: As) M (.inl (some (aI x))) M1) (kk : G mi fr o M' pc' lv (aI x :: st) M1 k' u') : G mi fr o M' pc lv st0 M k u := g_callV (rv := some (aI x)) cf hl2 hf hc hC h20 d hp hst hn2 hcs hal hk hu hk2 hu2 hK hs kk
theorem g_callVr {i b n ci N : Nat} {C : String} {T : u_T} {As st0 : List AV} {x : Nat} (cf : CFv mi2 n) (hl2 : Cond.methodLink (miY mi).cls i (miY mi2) ∈ WALL) (hf : fr2 + 1 ≤ fr) (hc : vwCl[ci]? = some (C, T, N)) (hC : (miY mi2).cls = C) (h20 : ci < 20)
    (d : decode (miC mi) pc = .ok (.invokevirtual i, 3)) (hp : pc + 3 = pc') (hst : As.reverse ++ aR b :: st = st0) (hn2 : As.length = n) (hcs : csum st ≤ 8) (hal : miA mi2 = 0 ∨ (miA mi ≠ 0 ∧ okrs M (rfs lv st))) (hk : k + miMc mi2 ≤ k') (hu : u + miMs mi2 ≤ u') (hk2 : k' ≤ miMc mi) (hu2 : u' ≤ miMs mi)
    (hK : mK M b = ci + 1) (hs : Sem mi2 fr2 (aR b :: As) M (.inl (some (aR x))) M1) (kk : G mi fr o M' pc' lv (aR x :: st) M1 k' u') : G mi fr o M' pc lv st0 M k u := g_callV (rv := some (aR x)) cf hl2 hf hc hC h20 d hp hst hn2 hcs hal hk hu hk2 hu2 hK hs kk
theorem g_callVv {i b n ci N : Nat} {C : String} {T : u_T} {As st0 : List AV} (cf : CFv mi2 n) (hl2 : Cond.methodLink (miY mi).cls i (miY mi2) ∈ WALL) (hf : fr2 + 1 ≤ fr) (hc : vwCl[ci]? = some (C, T, N)) (hC : (miY mi2).cls = C) (h20 : ci < 20)
    (d : decode (miC mi) pc = .ok (.invokevirtual i, 3)) (hp : pc + 3 = pc') (hst : As.reverse ++ aR b :: st = st0) (hn2 : As.length = n) (hcs : csum st ≤ 8) (hal : miA mi2 = 0 ∨ (miA mi ≠ 0 ∧ okrs M (rfs lv st))) (hk : k + miMc mi2 ≤ k') (hu : u + miMs mi2 ≤ u') (hk2 : k' ≤ miMc mi) (hu2 : u' ≤ miMs mi)
    (hK : mK M b = ci + 1) (hs : Sem mi2 fr2 (aR b :: As) M (.inl none) M1) (kk : G mi fr o M' pc' lv st M1 k' u') : G mi fr o M' pc lv st0 M k u := g_callV (rv := none) cf hl2 hf hc hC h20 d hp hst hn2 hcs hal hk hu hk2 hu2 hK hs kk
theorem g_callSi {i n : Nat} {As st0 : List AV} {x : Int32} (cf : CFs mi2 n) (hl2 : Cond.methodLink (miY mi).cls i (miY mi2) ∈ WALL) (hf : fr2 + 1 ≤ fr)
    (d : decode (miC mi) pc = .ok (.invokestatic i, 3)) (hp : pc + 3 = pc') (hst : As.reverse ++ st = st0) (hn2 : As.length = n) (hcs : csum st ≤ 8) (hal : miA mi2 = 0 ∨ (miA mi ≠ 0 ∧ okrs M (rfs lv st))) (hk : k + miMc mi2 ≤ k') (hu : u + miMs mi2 ≤ u') (hk2 : k' ≤ miMc mi) (hu2 : u' ≤ miMs mi)
    (hs : Sem mi2 fr2 As M (.inl (some (aI x))) M1) (kk : G mi fr o M' pc' lv (aI x :: st) M1 k' u') : G mi fr o M' pc lv st0 M k u := g_callS (rv := some (aI x)) cf hl2 hf d hp hst hn2 hcs hal hk hu hk2 hu2 hs kk
theorem g_callSr {i n : Nat} {As st0 : List AV} {x : Nat} (cf : CFs mi2 n) (hl2 : Cond.methodLink (miY mi).cls i (miY mi2) ∈ WALL) (hf : fr2 + 1 ≤ fr)
    (d : decode (miC mi) pc = .ok (.invokestatic i, 3)) (hp : pc + 3 = pc') (hst : As.reverse ++ st = st0) (hn2 : As.length = n) (hcs : csum st ≤ 8) (hal : miA mi2 = 0 ∨ (miA mi ≠ 0 ∧ okrs M (rfs lv st))) (hk : k + miMc mi2 ≤ k') (hu : u + miMs mi2 ≤ u') (hk2 : k' ≤ miMc mi) (hu2 : u' ≤ miMs mi)
    (hs : Sem mi2 fr2 As M (.inl (some (aR x))) M1) (kk : G mi fr o M' pc' lv (aR x :: st) M1 k' u') : G mi fr o M' pc lv st0 M k u := g_callS (rv := some (aR x)) cf hl2 hf d hp hst hn2 hcs hal hk hu hk2 hu2 hs kk
theorem g_callSv {i n : Nat} {As st0 : List AV} (cf : CFs mi2 n) (hl2 : Cond.methodLink (miY mi).cls i (miY mi2) ∈ WALL) (hf : fr2 + 1 ≤ fr)
    (d : decode (miC mi) pc = .ok (.invokestatic i, 3)) (hp : pc + 3 = pc') (hst : As.reverse ++ st = st0) (hn2 : As.length = n) (hcs : csum st ≤ 8) (hal : miA mi2 = 0 ∨ (miA mi ≠ 0 ∧ okrs M (rfs lv st))) (hk : k + miMc mi2 ≤ k') (hu : u + miMs mi2 ≤ u') (hk2 : k' ≤ miMc mi) (hu2 : u' ≤ miMs mi)
    (hs : Sem mi2 fr2 As M (.inl none) M1) (kk : G mi fr o M' pc' lv st M1 k' u') : G mi fr o M' pc lv st0 M k u := g_callS (rv := none) cf hl2 hf d hp hst hn2 hcs hal hk hu hk2 hu2 hs kk
theorem g_callSNi {i n : Nat} {As st0 : List AV} {x : Int32} (cf : CFs mi2 n) (hl2 : ((miY mi).cls, i, miY mi2) ∈ nTab) (hf : fr2 + 1 ≤ fr)
    (d : decode (miC mi) pc = .ok (.invokestatic i, 3)) (hp : pc + 3 = pc') (hst : As.reverse ++ st = st0) (hn2 : As.length = n) (hcs : csum st ≤ 8) (hal : miA mi2 = 0 ∨ (miA mi ≠ 0 ∧ okrs M (rfs lv st))) (hk : k + miMc mi2 ≤ k') (hu : u + miMs mi2 ≤ u') (hk2 : k' ≤ miMc mi) (hu2 : u' ≤ miMs mi)
    (hs : Sem mi2 fr2 As M (.inl (some (aI x))) M1) (kk : G mi fr o M' pc' lv (aI x :: st) M1 k' u') : G mi fr o M' pc lv st0 M k u := g_callSN (rv := some (aI x)) cf hl2 hf d hp hst hn2 hcs hal hk hu hk2 hu2 hs kk
theorem g_callSNr {i n : Nat} {As st0 : List AV} {x : Nat} (cf : CFs mi2 n) (hl2 : ((miY mi).cls, i, miY mi2) ∈ nTab) (hf : fr2 + 1 ≤ fr)
    (d : decode (miC mi) pc = .ok (.invokestatic i, 3)) (hp : pc + 3 = pc') (hst : As.reverse ++ st = st0) (hn2 : As.length = n) (hcs : csum st ≤ 8) (hal : miA mi2 = 0 ∨ (miA mi ≠ 0 ∧ okrs M (rfs lv st))) (hk : k + miMc mi2 ≤ k') (hu : u + miMs mi2 ≤ u') (hk2 : k' ≤ miMc mi) (hu2 : u' ≤ miMs mi)
    (hs : Sem mi2 fr2 As M (.inl (some (aR x))) M1) (kk : G mi fr o M' pc' lv (aR x :: st) M1 k' u') : G mi fr o M' pc lv st0 M k u := g_callSN (rv := some (aR x)) cf hl2 hf d hp hst hn2 hcs hal hk hu hk2 hu2 hs kk
theorem g_callSNv {i n : Nat} {As st0 : List AV} (cf : CFs mi2 n) (hl2 : ((miY mi).cls, i, miY mi2) ∈ nTab) (hf : fr2 + 1 ≤ fr)
    (d : decode (miC mi) pc = .ok (.invokestatic i, 3)) (hp : pc + 3 = pc') (hst : As.reverse ++ st = st0) (hn2 : As.length = n) (hcs : csum st ≤ 8) (hal : miA mi2 = 0 ∨ (miA mi ≠ 0 ∧ okrs M (rfs lv st))) (hk : k + miMc mi2 ≤ k') (hu : u + miMs mi2 ≤ u') (hk2 : k' ≤ miMc mi) (hu2 : u' ≤ miMs mi)
    (hs : Sem mi2 fr2 As M (.inl none) M1) (kk : G mi fr o M' pc' lv st M1 k' u') : G mi fr o M' pc lv st0 M k u := g_callSN (rv := none) cf hl2 hf d hp hst hn2 hcs hal hk hu hk2 hu2 hs kk
theorem g_callIv {i b n : Nat} {As st0 : List AV} (cf : CFi mi2 n) (hl2 : Cond.methodLink (miY mi).cls i (miY mi2) ∈ WALL) (hf : fr2 + 1 ≤ fr) (hb0 : b ≠ 0)
    (d : decode (miC mi) pc = .ok (.invokespecial i, 3)) (hp : pc + 3 = pc') (hst : As.reverse ++ aR b :: st = st0) (hn2 : As.length = n) (hcs : csum st ≤ 8) (hal : miA mi2 = 0 ∨ (miA mi ≠ 0 ∧ okrs M (rfs lv st))) (hk : k + miMc mi2 ≤ k') (hu : u + miMs mi2 ≤ u') (hk2 : k' ≤ miMc mi) (hu2 : u' ≤ miMs mi)
    (hs : Sem mi2 fr2 (aR b :: As) M (.inl none) M1) (kk : G mi fr o M' pc' lv st M1 k' u') : G mi fr o M' pc lv st0 M k u := g_callI (rv := none) cf hl2 hf hb0 d hp hst hn2 hcs hal hk hu hk2 hu2 hs kk
theorem g_callINv {i b n : Nat} {As st0 : List AV} (cf : CFi mi2 n) (hl2 : ((miY mi).cls, i, miY mi2) ∈ nTab) (hf : fr2 + 1 ≤ fr) (hb0 : b ≠ 0)
    (d : decode (miC mi) pc = .ok (.invokespecial i, 3)) (hp : pc + 3 = pc') (hst : As.reverse ++ aR b :: st = st0) (hn2 : As.length = n) (hcs : csum st ≤ 8) (hal : miA mi2 = 0 ∨ (miA mi ≠ 0 ∧ okrs M (rfs lv st))) (hk : k + miMc mi2 ≤ k') (hu : u + miMs mi2 ≤ u') (hk2 : k' ≤ miMc mi) (hu2 : u' ≤ miMs mi)
    (hs : Sem mi2 fr2 (aR b :: As) M (.inl none) M1) (kk : G mi fr o M' pc' lv st M1 k' u') : G mi fr o M' pc lv st0 M k u := g_callIN (rv := none) cf hl2 hf hb0 d hp hst hn2 hcs hal hk hu hk2 hu2 hs kk
end SU
theorem wall_i_LeafStripesLaw : Cond.initialized RL ∈ WALL := wall_t1 0 rfl rfl
theorem wall_i_LeafStripesModel : Cond.initialized RX12 ∈ WALL := wall_t1 12 rfl rfl
theorem wall_i_java_lang_Math : Cond.initialized RJ9 ∈ WALL := wall_t1 21 rfl rfl
theorem wall_i_java_lang_System : Cond.initialized RJ10 ∈ WALL := wall_t1 23 rfl rfl
theorem wall_i_java_lang_Integer : Cond.initialized RJ6 ∈ WALL := wall_t1 24 rfl rfl
theorem wall_i_java_lang_String : Cond.initialized RJ0 ∈ WALL := wall_t1 17 rfl rfl
theorem wall_i_java_lang_StringLatin1 : Cond.initialized RJ1 ∈ WALL := wall_t1 18 rfl rfl
theorem wall_i_jdk_internal_util_Preconditions : Cond.initialized RJ3 ∈ WALL := wall_t1 19 rfl rfl
theorem wall_i_java_lang_IllegalArgumentException : Cond.initialized "java/lang/IllegalArgumentException" ∈ WALL := wall_t1 16 rfl rfl
theorem wall_i_java_util_NoSuchElementException : Cond.initialized "java/util/NoSuchElementException" ∈ WALL := wall_t1 25 rfl rfl
theorem wall_i_LeafStripes_Act : Cond.initialized RX0 ∈ WALL := wall_t1 22 rfl rfl
theorem wall_i_LeafStripes_Check : Cond.initialized RX1 ∈ WALL := wall_t1 5 rfl rfl
theorem wall_i_LeafStripes_Column : Cond.initialized RX2 ∈ WALL := wall_t1 9 rfl rfl
theorem wall_i_LeafStripes_Pipe : Cond.initialized RX3 ∈ WALL := wall_t1 11 rfl rfl
theorem wall_i_LeafStripes_RecordText : Cond.initialized RX4 ∈ WALL := wall_t1 4 rfl rfl
theorem wall_i_LeafStripes_Shape : Cond.initialized RX5 ∈ WALL := wall_t1 10 rfl rfl
theorem wall_i_LeafStripes_ShapeText : Cond.initialized RX6 ∈ WALL := wall_t1 3 rfl rfl
theorem wall_i_LeafStripes_State : Cond.initialized RX7 ∈ WALL := wall_t1 8 rfl rfl
theorem wall_i_LeafStripes_Teller : Cond.initialized RX8 ∈ WALL := wall_t1 6 rfl rfl
theorem wall_i_LeafStripes_Text : Cond.initialized RX9 ∈ WALL := wall_t1 2 rfl rfl
theorem wall_i_LeafStripes_Years : Cond.initialized RX10 ∈ WALL := wall_t1 7 rfl rfl
theorem wall_i_LeafStripes : Cond.initialized RX11 ∈ WALL := wall_t1 1 rfl rfl
theorem wall_aint : Cond.arrayClass .int ∈ WALL := wall_t1 66 rfl rfl
theorem wall_along : Cond.arrayClass .long ∈ WALL := wall_t9 104 rfl rfl
theorem dfX0 : ∀ j, j < 5 → defaultValue (tyX0 j) = (if cRf 0 j = true then Value.null else .int 0) := by decide +kernel
theorem dfX1 : ∀ j, j < 7 → defaultValue (tyX1 j) = (if cRf 1 j = true then Value.null else .int 0) := by decide +kernel
theorem dfX2 : ∀ j, j < 5 → defaultValue (tyX2 j) = (if cRf 2 j = true then Value.null else .int 0) := by decide +kernel
theorem dfX3 : ∀ j, j < 6 → defaultValue (tyX3 j) = (if cRf 3 j = true then Value.null else .int 0) := by decide +kernel
theorem dfX4 : ∀ j, j < 6 → defaultValue (tyX4 j) = (if cRf 4 j = true then Value.null else .int 0) := by decide +kernel
theorem dfX5 : ∀ j, j < 13 → defaultValue (tyX5 j) = (if cRf 5 j = true then Value.null else .int 0) := by decide +kernel
theorem dfX6 : ∀ j, j < 6 → defaultValue (tyX6 j) = (if cRf 6 j = true then Value.null else .int 0) := by decide +kernel
theorem dfX7 : ∀ j, j < 6 → defaultValue (tyX7 j) = (if cRf 7 j = true then Value.null else .int 0) := by decide +kernel
theorem dfX8 : ∀ j, j < 8 → defaultValue (tyX8 j) = (if cRf 8 j = true then Value.null else .int 0) := by decide +kernel
theorem dfX9 : ∀ j, j < 6 → defaultValue (tyX9 j) = (if cRf 9 j = true then Value.null else .int 0) := by decide +kernel
theorem dfX10 : ∀ j, j < 7 → defaultValue (tyX10 j) = (if cRf 10 j = true then Value.null else .int 0) := by decide +kernel
theorem dfX11 : ∀ j, j < 15 → defaultValue (tyX11 j) = (if cRf 11 j = true then Value.null else .int 0) := by decide +kernel
theorem dfX12 : ∀ j, j < 55 → defaultValue (tyX12 j) = (if cRf 12 j = true then Value.null else .int 0) := by decide +kernel
