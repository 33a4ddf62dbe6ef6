/-! TEXTS: rows of the text constants, and contracts of the JDK's methods on them -/
def sBy (r : Nat) : List Int32 := ((sTab[r - 1000000]?).map (fun q => q.2.2.2)).getD []
def isT (r : Nat) : Bool := decide (1000000 ≤ r) && decide (r < 1000020)
def sLen (r : Nat) : Int32 := Int32.ofNat (sBy r).length
def sAt (r : Nat) (i : Int32) : Int32 := (sBy r).getD i.toNatClampNeg 0
def tIn (r : Nat) (i : Int32) : Bool := isT r && inB i (sBy r).length
theorem isT_ok {r : Nat} (h : isT r = true) : ∃ k q, r = 1000000 + k ∧ k < 20 ∧ sTab[k]? = some q ∧ sBy r = q.2.2.2 := by
  unfold isT at h
  simp only [Bool.and_eq_true, decide_eq_true_eq] at h
  obtain ⟨k, rfl⟩ : ∃ k, r = 1000000 + k := ⟨r - 1000000, by omega⟩
  have hk : k < 20 := by omega
  have hl : k < sTab.length := hk
  refine ⟨k, sTab[k], rfl, hk, List.getElem?_eq_getElem hl, ?_⟩
  unfold sBy
  rw [show 1000000 + k - 1000000 = k by omega, List.getElem?_eq_getElem hl]
  rfl
theorem sTab_ascii : ∀ q ∈ sTab, ∀ b ∈ q.2.2.2, ((b &&& 255).toUInt32 % 65536).toInt32 = b ∧ narrow .char (.int b) = .int b := by decide +kernel
theorem sTab_len : ∀ q ∈ sTab, q.2.2.2.length < 10 := by decide +kernel
section RT
variable {mi mi2 : MI} {fr fr2 : Nat} {o : OC} {M' M M1 : Mem} {pc pc' : Nat} {lv lv' : List (Option AV)} {st : List AV} {k u k' u' : Nat} {k1 : Nat} {q : String × Nat × String × List Int32}
theorem g_ldcS {i : Nat} {tx : String} {bs : List Int32} (hk : sTab[k1]? = some ((miY mi).cls, i, tx, bs)) (d : decode (miC mi) pc = .ok (.ldc i, 2)) (hp : pc + 2 = pc') (kk : G mi fr o M' pc' lv (aR (1000000 + k1) :: st) M k u) : G mi fr o M' pc lv st M k u := by
  intro p l e s m args below meth c E φ0 n0 B φ H locs ls hE hn hD hS hl
  subst hp
  have h1 := (B.2.2.2.2.2.2.2.2.2.2.2.2.1 k1 _ hk).1
  have K := kk p l e s m args below meth c E φ0 n0 B φ H locs ls hE hn hD hS hl
  rw [List.map_cons, av_ref (by omega : 1000000 + k1 ≠ 0), hE.1 _ (Or.inr (by omega))] at K
  exact va_ldcS B.1 B.2.1 B.2.2.2.2.1 h1 d K
theorem g_aastS {a : Nat} {i : Int32} (hk : sTab[k1]? = some q) (d : decode (miC mi) pc = .ok (.aastore, 1)) (hp : pc + 1 = pc') (hK : mK M a = 26) (hi : vp_in i (mN M a)) (kk : G mi fr o M' pc' lv st (sR M a i.toNatClampNeg (1000000 + k1)) k u) : G mi fr o M' pc lv (aR (1000000 + k1) :: aI i :: aR a :: st) M k u := by
  intro p l e s m args below meth c E φ0 n0 B φ H locs ls hE hn hD hS hl
  subst hp
  obtain ⟨hat, ha0⟩ := hD.at (a := a) (by omega)
  have hr0 : 1000000 + k1 ≠ 0 := by omega
  have hφ : φ (1000000 + k1) = φ0 (1000000 + k1) := hE.1 _ (Or.inr (by omega))
  obtain ⟨cell, c1, c2, c3, -⟩ := (B.2.2.2.2.2.2.2.2.2.2.2.2.1 k1 q hk).2.1.kept hS.2.1
  rw [cE_refs hK (by decide)] at hat
  rw [List.map_cons, List.map_cons, List.map_cons, av_ref ha0, av_ref hr0]
  have hany : va_Any "java/lang/String" s H (φ (1000000 + k1)) := by
    rw [hφ]
    refine ⟨cell, c1, c2, ?_, fun comp hc => ?_⟩
    · obtain ⟨k9, h9, -⟩ := Vm.findClass_spec c3
      exact ⟨k9, h9⟩
    · cases Option.some.inj (c3.symm.trans hc)
      show (cell.cls == cell.cls || _) = true
      rw [BEq.rfl, Bool.true_or]
  refine va_astqM (E := "java/lang/String") B.1 B.2.1 B.2.2.2.2.2.2.2.2.2.2.2.1 hD.1 hD.2.1 hS (a - 1) 5 hat rfl hany hi d (fun H1 locs1 h1 h2 h3 => ?_)
  have e1 : va_up (fun i => rO φ (mR M a i)) i.toNatClampNeg (some (φ (1000000 + k1))) = fun j => rO φ (mR (sR M a i.toNatClampNeg (1000000 + k1)) a j) := by
    rw [mR_s, rO_up]
    unfold rO
    rw [if_neg hr0]
  rw [e1, show mN M a = mN (sR M a i.toNatClampNeg (1000000 + k1)) a from rfl, ← cE_refs (E := E) (M := sR M a i.toNatClampNeg (1000000 + k1)) hK (by decide)] at h1 h2
  exact kk p l e s m args below meth c E φ0 n0 B φ H1 locs1 ls hE hn (Dyn.sR ha0 hD.2.2 (Or.inr (by omega)) h1 h2) h3 hl
/-- what stands of a text, here -/
theorem txt {p : Program} {l : Launch} {s : State} {m : MethodId} {args : Array Value} {meth : Method} {c : Code} {E : EE} {φ0 φ : Nat → Nat} {n0 : Nat} (B : Bd mi p l s m args meth c E φ0) (hE : Ext (miA mi) n0 φ0 φ) (hk : sTab[k1]? = some q) : φ (1000000 + k1) = φ0 (1000000 + k1) ∧ φ (2000000 + k1) = E.2.2.2 k1 := by
  have hlt : k1 < 20 := (List.getElem?_eq_some_iff.mp hk).1
  exact ⟨hE.1 _ (Or.inr (by omega)), (hE.1 _ (Or.inr (by omega))).trans (B.2.2.2.2.2.2.2.2.2.2.2.2.2.2.2.2.2.1 k1 hlt)⟩
theorem g_sget {i : Nat} (hk : sTab[k1]? = some q) (hw : Cond.fieldLink (miY mi).cls i "java/lang/String" "value" "[B" ∈ WALL) (d : decode (miC mi) pc = .ok (.getfield i, 3)) (hp : pc + 3 = pc') (kk : G mi fr o M' pc' lv (aR (2000000 + k1) :: st) M k u) : G mi fr o M' pc lv (aR (1000000 + k1) :: st) M k u := by
  intro p l e s m args below meth c E φ0 n0 B φ H locs ls hE hn hD hS hl
  subst hp
  obtain ⟨e1, e2⟩ := txt B hE hk
  have h1 := (B.2.2.2.2.2.2.2.2.2.2.2.2.1 k1 q hk).2.2.2.1
  have K := kk p l e s m args below meth c E φ0 n0 B φ H locs ls hE hn hD hS hl
  rw [List.map_cons, av_ref (by omega : 2000000 + k1 ≠ 0), e2] at K
  rw [List.map_cons, av_ref (by omega : 1000000 + k1 ≠ 0), e1]
  exact vk_getf B.1 B.2.1 h1 hS B.2.2.2.2.1 (B.2.2.2.2.2.1 _ hw) (fun _ h => h) d K
theorem g_sgetc {i : Nat} (hk : sTab[k1]? = some q) (hw : Cond.fieldLink (miY mi).cls i "java/lang/String" "coder" "B" ∈ WALL) (d : decode (miC mi) pc = .ok (.getfield i, 3)) (hp : pc + 3 = pc') (kk : G mi fr o M' pc' lv (aI 0 :: st) M k u) : G mi fr o M' pc lv (aR (1000000 + k1) :: st) M k u := by
  intro p l e s m args below meth c E φ0 n0 B φ H locs ls hE hn hD hS hl
  subst hp
  obtain ⟨e1, e2⟩ := txt B hE hk
  have h1 := (B.2.2.2.2.2.2.2.2.2.2.2.2.1 k1 q hk).2.2.1
  rw [List.map_cons, av_ref (by omega : 1000000 + k1 ≠ 0), e1]
  exact vk_getf B.1 B.2.1 h1 hS B.2.2.2.2.1 (B.2.2.2.2.2.1 _ hw) (fun _ h => h) d (kk p l e s m args below meth c E φ0 n0 B φ H locs ls hE hn hD hS hl)
theorem g_slenb (hk : sTab[k1]? = some q) (d : decode (miC mi) pc = .ok (.arraylength, 1)) (hp : pc + 1 = pc') (kk : G mi fr o M' pc' lv (aI (Int32.ofNat q.2.2.2.length) :: st) M k u) : G mi fr o M' pc lv (aR (2000000 + k1) :: st) M k u := by
  intro p l e s m args below meth c E φ0 n0 B φ H locs ls hE hn hD hS hl
  subst hp
  obtain ⟨e1, e2⟩ := txt B hE hk
  have h1 := (B.2.2.2.2.2.2.2.2.2.2.2.2.1 k1 q hk).2.2.2.2
  rw [List.map_cons, av_ref (by omega : 2000000 + k1 ≠ 0), e2]
  exact va_tlen B.1 B.2.1 h1 hS rfl d (kk p l e s m args below meth c E φ0 n0 B φ H locs ls hE hn hD hS hl)
theorem g_sbald {i : Int32} (hk : sTab[k1]? = some q) (d : decode (miC mi) pc = .ok (.baload, 1)) (hp : pc + 1 = pc') (hi : vp_in i q.2.2.2.length) (kk : G mi fr o M' pc' lv (aI (q.2.2.2.getD i.toNatClampNeg 0) :: st) M k u) : G mi fr o M' pc lv (aI i :: aR (2000000 + k1) :: st) M k u := by
  intro p l e s m args below meth c E φ0 n0 B φ H locs ls hE hn hD hS hl
  subst hp
  obtain ⟨e1, e2⟩ := txt B hE hk
  have h1 := (B.2.2.2.2.2.2.2.2.2.2.2.2.1 k1 q hk).2.2.2.2
  rw [List.map_cons, List.map_cons, av_ref (by omega : 2000000 + k1 ≠ 0), e2]
  exact va_tb B.1 B.2.1 h1 hS hi rfl d (kk p l e s m args below meth c E φ0 n0 B φ H locs ls hE hn hD hS hl)
theorem g_getsC {i : Nat} (hw : Cond.fieldLink (miY mi).cls i "java/lang/String" "COMPACT_STRINGS" "Z" ∈ WALL) (d : decode (miC mi) pc = .ok (.getstatic i, 3)) (hp : pc + 3 = pc') (kk : G mi fr o M' pc' lv (aI 1 :: st) M k u) : G mi fr o M' pc lv st M k u := by
  intro p l e s m args below meth c E φ0 n0 B φ H locs ls hE hn hD hS hl
  subst hp
  exact va_gets B.1 B.2.1 B.2.2.2.2.2.2.2.2.2.2.2.2.2.2.2.2.2.2.1 hS B.2.2.2.2.1 (B.2.2.2.2.2.1 _ hw) (fun _ h => h) d (kk p l e s m args below meth c E φ0 n0 B φ H locs ls hE hn hD hS hl)
theorem g_getsF {i : Nat} (hw : Cond.fieldLink (miY mi).cls i "jdk/internal/util/Preconditions" "SIOOBE_FORMATTER" "Ljava/util/function/BiFunction;" ∈ WALL) (d : decode (miC mi) pc = .ok (.getstatic i, 3)) (hp : pc + 3 = pc') (kk : ∀ r, G mi fr o M' pc' lv (aR r :: st) M k u) : G mi fr o M' pc lv st M k u := by
  intro p l e s m args below meth c E φ0 n0 B φ H locs ls hE hn hD hS hl
  subst hp
  rcases B.2.2.2.2.2.2.2.2.2.2.2.2.2.2.2.2.2.2.2 with h | h
  · exact va_gets B.1 B.2.1 h hS B.2.2.2.2.1 (B.2.2.2.2.2.1 _ hw) (fun _ h => h) d (kk 0 p l e s m args below meth c E φ0 n0 B φ H locs ls hE hn hD hS hl)
  · have K := kk 3000000 p l e s m args below meth c E φ0 n0 B φ H locs ls hE hn hD hS hl
    rw [List.map_cons, av_ref (by omega : 3000000 ≠ 0), hE.1 _ (Or.inr (by omega))] at K
    exact va_gets B.1 B.2.1 h hS B.2.2.2.2.1 (B.2.2.2.2.2.1 _ hw) (fun _ h => h) d K
theorem g_i2c {x v : Int32} (d : decode (miC mi) pc = .ok (.i2c, 1)) (hp : pc + 1 = pc') (hv : (x.toUInt32 % 65536).toInt32 = v) (kk : G mi fr o M' pc' lv (aI v :: st) M k u) : G mi fr o M' pc lv (aI x :: st) M k u := by
  intro p l e s m args below meth c E φ0 n0 B φ H locs ls hE hn hD hS hl
  subst hp
  exact lv_i2c B.1 B.2.1 d hv (kk p l e s m args below meth c E φ0 n0 B φ H locs ls hE hn hD hS hl)
theorem g_nreturn {x : Int32} {ty : FieldType} (d : decode (miC mi) pc = .ok (.ireturn, 1)) (hr : miR mi = some ty) (hz : narrow ty (.int x) = .int x) (hk : k ≤ miMc mi) (hu : u ≤ miMs mi) : G mi fr (.inl (some (aI x))) M pc lv [aI x] M k u := by
  intro p l e s m args below meth c E φ0 n0 B φ H locs ls hE hn hD hS hl
  refine vx_ret (W.widen (k := miMc mi) (n := miMs mi) hk hu ?_)
  exact W.zret B.1 B.2.1 (B.2.2.2.1.trans hr) hz (fun t ht _ => ⟨⟨φ, some (aI x), rfl, hE, rfl, by rw [ht]; exact hD, hn⟩, hS.F ht⟩) hS.2.2 d B.2.2.2.2.2.2.1
/-- a call on a text -/
theorem g_callT {i n : Nat} {As st0 : List AV} {x : Int32} (hk1 : sTab[k1]? = some q) (cf : CFv mi2 n) (hl2 : Cond.methodLink (miY mi).cls i (miY mi2) ∈ WALL) (hf : fr2 + 1 ≤ fr) (hC : (miY mi2).cls = "java/lang/String")
    (d : decode (miC mi) pc = .ok (.invokevirtual i, 3)) (hp : pc + 3 = pc') (hst : As.reverse ++ aR (1000000 + k1) :: st = st0) (hn2 : As.length = n) (hcs : csum st ≤ 8) (hal : miA mi2 = 0) (hk : k + miMc mi2 ≤ k') (hu : u + miMs mi2 ≤ u') (hk2 : k' ≤ miMc mi) (hu2 : u' ≤ miMs mi)
    (hs : Sem mi2 fr2 (aR (1000000 + k1) :: As) M (.inl (some (aI x))) M1) (kk : G mi fr o M' pc' lv (aI x :: st) M1 k' u') : G mi fr o M' pc lv st0 M k u := by
  intro p l e s m args below meth c E φ0 n0 B φ H locs ls hE hn hD hS hl
  subst hst
  have hb0 : 1000000 + k1 ≠ 0 := by omega
  obtain ⟨e1, e2⟩ := txt B hE hk1
  obtain ⟨cell, c1, c2, c3, -⟩ := (B.2.2.2.2.2.2.2.2.2.2.2.2.1 k1 q hk1).2.1.kept hS.2.1
  rw [← e1] at c1
  refine g_ran B hE hn hS hl (Or.inl hal) (mc := miMc mi2) (ms := miMs mi2) (al2 := miA mi2) (a := (Value.ref (φ (1000000 + k1)) :: As.map (av φ)).toArray) (rv := some (aI x)) ?_ hp hk hu kk
  exact vx_runV (b := φ (1000000 + k1)) (As := As.map (av φ)) (C := "java/lang/String") ⟨B.1, B.2.1, B.2.2.1, B.2.2.2.2.1, B.2.2.2.2.2.1⟩ (hs l B.2.2.2.2.2.2.2.1 E φ) ⟨cb_of (R := rmm fr (miMc mi) (miMs mi)) B cf.1 hl2 hf, B.2.2.2.2.2.1 _ cf.2.1, by rw [← hC]; exact B.2.2.2.2.2.1 _ cf.2.2⟩ ⟨sem_blind, ⟨cell, c1, c2, c3⟩, sem_pre B hE hD hS (by rw [List.map_cons, av_ref hb0])⟩ rfl (by rw [List.length_map]; exact hn2) hl.1 (map_rev hb0) (lv_room (by rw [csum_eq]; exact hcs)) d ⟨Nat.le_trans hk hk2, Nat.le_trans hu hu2⟩
end RT
abbrev mi_J0_coder_7d493 : MI := (yJ0_coder_7d493, Cond.code yJ0_coder_7d493 cJ0_coder_7d493 1 (some .byte), cJ0_coder_7d493, 1, (some .byte), [], 0, 0, 0, none)
theorem cf_J0_coder_7d493 : CFv mi_J0_coder_7d493 0 := ⟨⟨rfl, q_250, wall_i_java_lang_String, ⟨by decide, by decide, by decide +kernel⟩, by decide⟩, q_248, q_249⟩
abbrev mi_J0_isLatin1_aae02 : MI := (yJ0_isLatin1_aae02, Cond.code yJ0_isLatin1_aae02 cJ0_isLatin1_aae02 1 (some .boolean), cJ0_isLatin1_aae02, 1, (some .boolean), [], 0, 0, 0, none)
theorem cf_J0_isLatin1_aae02 : CFv mi_J0_isLatin1_aae02 0 := ⟨⟨rfl, q_264, wall_i_java_lang_String, ⟨by decide, by decide, by decide +kernel⟩, by decide⟩, q_262, q_263⟩
abbrev mi_J0_length_8abf5 : MI := (yJ0_length_8abf5, Cond.code yJ0_length_8abf5 cJ0_length_8abf5 1 (some .int), cJ0_length_8abf5, 1, (some .int), [], 0, 0, 0, none)
theorem cf_J0_length_8abf5 : CFv mi_J0_length_8abf5 0 := ⟨⟨rfl, q_245, wall_i_java_lang_String, ⟨by decide, by decide, by decide +kernel⟩, by decide⟩, q_242, q_243⟩
abbrev mi_J3_checkIndex_8e157 : MI := (yJ3_checkIndex_8e157, Cond.code yJ3_checkIndex_8e157 cJ3_checkIndex_8e157 3 (some .int), cJ3_checkIndex_8e157, 3, (some .int), [], 0, 0, 0, none)
theorem cf_J3_checkIndex_8e157 : CFs mi_J3_checkIndex_8e157 3 := ⟨⟨rfl, q_276, wall_i_jdk_internal_util_Preconditions, ⟨by decide, by decide, by decide +kernel⟩, by decide⟩, q_274⟩
abbrev mi_J0_checkIndex_df160 : MI := (yJ0_checkIndex_df160, Cond.code yJ0_checkIndex_df160 cJ0_checkIndex_df160 2 none, cJ0_checkIndex_df160, 2, none, [], 0, 0, 0, none)
theorem cf_J0_checkIndex_df160 : CFs mi_J0_checkIndex_df160 2 := ⟨⟨rfl, q_271, wall_i_java_lang_String, ⟨by decide, by decide, by decide +kernel⟩, by decide⟩, q_270⟩
abbrev mi_J1_charAt_3b067 : MI := (yJ1_charAt_3b067, Cond.code yJ1_charAt_3b067 cJ1_charAt_3b067 2 (some .char), cJ1_charAt_3b067, 2, (some .char), [], 0, 0, 0, none)
theorem cf_J1_charAt_3b067 : CFs mi_J1_charAt_3b067 2 := ⟨⟨rfl, q_268, wall_i_java_lang_StringLatin1, ⟨by decide, by decide, by decide +kernel⟩, by decide⟩, q_266⟩
abbrev mi_J0_charAt_5068e : MI := (yJ0_charAt_5068e, Cond.code yJ0_charAt_5068e cJ0_charAt_5068e 2 (some .char), cJ0_charAt_5068e, 2, (some .char), [], 0, 0, 0, none)
theorem cf_J0_charAt_5068e : CFv mi_J0_charAt_5068e 1 := ⟨⟨rfl, q_260, wall_i_java_lang_String, ⟨by decide, by decide, by decide +kernel⟩, by decide⟩, q_258, q_259⟩
section TC
variable {M : Mem} {k1 : Nat} {q : String × Nat × String × List Int32}
theorem t_coder (hk : sTab[k1]? = some q) : Sem mi_J0_coder_7d493 1 [aR (1000000 + k1)] M (oI 0) M := by
  refine sem_of (by decide) rfl rfl rfl (Nat.le_of_ble_eq_true rfl) (lv := [some (aR (1000000 + k1))]) rfl ?_
  refine g_getsC (pc' := 3) q_251 dJ0_coder_7d493_0 rfl ?_
  refine g_if_eq (pc' := 6) 13 dJ0_coder_7d493_3 rfl (by decide) (fun h => absurd h (by decide)) (fun _ => ?_)
  refine g_aload_n (pc' := 7) dJ0_coder_7d493_6 rfl rfl ?_
  refine g_sgetc (pc' := 10) hk q_252 dJ0_coder_7d493_7 rfl ?_
  refine g_goto (pc' := 14) dJ0_coder_7d493_10 (by decide) ?_
  exact g_nreturn dJ0_coder_7d493_14 rfl rfl (Nat.le_of_ble_eq_true rfl) (Nat.le_of_ble_eq_true rfl)
theorem t_lat (hk : sTab[k1]? = some q) : Sem mi_J0_isLatin1_aae02 1 [aR (1000000 + k1)] M (oI 1) M := by
  refine sem_of (by decide) rfl rfl rfl (Nat.le_of_ble_eq_true rfl) (lv := [some (aR (1000000 + k1))]) rfl ?_
  refine g_getsC (pc' := 3) q_251 dJ0_isLatin1_aae02_0 rfl ?_
  refine g_if_eq (pc' := 6) 17 dJ0_isLatin1_aae02_3 rfl (by decide) (fun h => absurd h (by decide)) (fun _ => ?_)
  refine g_aload_n (pc' := 7) dJ0_isLatin1_aae02_6 rfl rfl ?_
  refine g_sgetc (pc' := 10) hk q_252 dJ0_isLatin1_aae02_7 rfl ?_
  refine g_if_ne (pc' := 13) 17 dJ0_isLatin1_aae02_10 rfl (by decide) (fun h => absurd rfl h) (fun _ => ?_)
  refine g_iconst (pc' := 14) 1 dJ0_isLatin1_aae02_13 rfl (by decide) ?_
  refine g_goto (pc' := 18) dJ0_isLatin1_aae02_14 (by decide) ?_
  exact g_nreturn dJ0_isLatin1_aae02_18 rfl rfl (Nat.le_of_ble_eq_true rfl) (Nat.le_of_ble_eq_true rfl)
theorem t_length (hk : sTab[k1]? = some q) : Sem mi_J0_length_8abf5 2 [aR (1000000 + k1)] M (oI (Int32.ofNat q.2.2.2.length)) M := by
  refine sem_of (by decide) rfl rfl rfl (Nat.le_of_ble_eq_true rfl) (lv := [some (aR (1000000 + k1))]) rfl ?_
  refine g_aload_n (pc' := 1) dJ0_length_8abf5_0 rfl rfl ?_
  refine g_sget (pc' := 4) hk q_246 dJ0_length_8abf5_1 rfl ?_
  refine g_slenb (pc' := 5) hk dJ0_length_8abf5_4 rfl ?_
  refine g_aload_n (pc' := 6) dJ0_length_8abf5_5 rfl rfl ?_
  refine g_callT (pc' := 9) (fr2 := 1) (As := []) (st := [aI (Int32.ofNat q.2.2.2.length)]) (k' := 0) (u' := 0) hk cf_J0_coder_7d493 q_247 (by omega) rfl dJ0_length_8abf5_6 rfl rfl rfl (Nat.le_of_ble_eq_true rfl) rfl (Nat.le_refl _) (Nat.le_refl _) (Nat.le_refl _) (Nat.le_refl _) (t_coder hk) ?_
  refine g_ishr (pc' := 10) dJ0_length_8abf5_9 rfl ?_
  rw [sb_shr0]
  exact g_ireturn dJ0_length_8abf5_10 rfl (Nat.le_of_ble_eq_true rfl) (Nat.le_of_ble_eq_true rfl)
theorem t_pre {i n : Int32} {r : Nat} (h0 : ¬ i < 0) (h1 : i < n) : Sem mi_J3_checkIndex_8e157 1 [aI i, aI n, aR r] M (oI i) M := by
  refine sem_of (by decide) rfl rfl rfl (Nat.le_of_ble_eq_true rfl) (lv := [some (aI i), some (aI n), some (aR r)]) rfl ?_
  refine g_iload_n (pc' := 1) dJ3_checkIndex_8e157_0 rfl rfl ?_
  refine g_if_lt (pc' := 4) 9 dJ3_checkIndex_8e157_1 rfl (by decide) (fun h => absurd h h0) (fun _ => ?_)
  refine g_iload_n (pc' := 5) dJ3_checkIndex_8e157_4 rfl rfl ?_
  refine g_iload_n (pc' := 6) dJ3_checkIndex_8e157_5 rfl rfl ?_
  refine g_icmp_lt (pc' := 9) 16 dJ3_checkIndex_8e157_6 rfl (by decide) (fun _ => ?_) (fun h => absurd h1 h)
  refine g_iload_n (pc' := 17) dJ3_checkIndex_8e157_16 rfl rfl ?_
  exact g_ireturn dJ3_checkIndex_8e157_17 rfl (Nat.le_of_ble_eq_true rfl) (Nat.le_of_ble_eq_true rfl)
theorem t_chk {i n : Int32} (h0 : ¬ i < 0) (h1 : i < n) : Sem mi_J0_checkIndex_df160 2 [aI i, aI n] M (oU ()) M := by
  refine sem_of (by decide) rfl rfl rfl (Nat.le_of_ble_eq_true rfl) (lv := [some (aI i), some (aI n)]) rfl ?_
  refine g_iload_n (pc' := 1) dJ0_checkIndex_df160_0 rfl rfl ?_
  refine g_iload_n (pc' := 2) dJ0_checkIndex_df160_1 rfl rfl ?_
  refine g_getsF (pc' := 5) q_272 dJ0_checkIndex_df160_2 rfl (fun r => ?_)
  refine g_callSi (pc' := 8) (fr2 := 1) (As := [aI i, aI n, aR r]) (st := []) (k' := 0) (u' := 0) cf_J3_checkIndex_8e157 q_273 (by omega) dJ0_checkIndex_df160_5 rfl rfl rfl (Nat.le_of_ble_eq_true rfl) (Or.inl rfl) (Nat.le_refl _) (Nat.le_refl _) (Nat.le_refl _) (Nat.le_refl _) (t_pre h0 h1) ?_
  refine g_pop (pc' := 9) dJ0_checkIndex_df160_8 rfl rfl ?_
  exact g_return dJ0_checkIndex_df160_9 rfl (Nat.le_of_ble_eq_true rfl) (Nat.le_of_ble_eq_true rfl)
theorem t_latAt {i : Int32} (hk : sTab[k1]? = some q) (hi : inB i q.2.2.2.length = true) : Sem mi_J1_charAt_3b067 3 [aR (2000000 + k1), aI i] M (oI (q.2.2.2.getD i.toNatClampNeg 0)) M := by
  have hin := inB_in hi
  have hl10 := sTab_len q (List.mem_of_getElem? hk)
  have h0 : ¬ i < 0 := fun z => hin (Or.inl z)
  have hlt : i.toNatClampNeg < q.2.2.2.length := Nat.not_le.mp fun z => hin (Or.inr z)
  have h1 : i < Int32.ofNat q.2.2.2.length := by
    obtain ⟨j, hj, rfl⟩ := nI_of h0
    rw [nI_clamp hj] at hlt
    exact (nI_ltI hj (by omega)).mpr hlt
  have hmem : q.2.2.2.getD i.toNatClampNeg 0 ∈ q.2.2.2 := by
    rw [List.getD_eq_getElem?_getD, List.getElem?_eq_getElem hlt]
    exact List.getElem_mem hlt
  obtain ⟨g1, g2⟩ := sTab_ascii q (List.mem_of_getElem? hk) _ hmem
  refine sem_of (by decide) rfl rfl rfl (Nat.le_of_ble_eq_true rfl) (lv := [some (aR (2000000 + k1)), some (aI i)]) rfl ?_
  refine g_iload_n (pc' := 1) dJ1_charAt_3b067_0 rfl rfl ?_
  refine g_aload_n (pc' := 2) dJ1_charAt_3b067_1 rfl rfl ?_
  refine g_slenb (pc' := 3) hk dJ1_charAt_3b067_2 rfl ?_
  refine g_callSv (pc' := 6) (fr2 := 2) (As := [aI i, aI (Int32.ofNat q.2.2.2.length)]) (st := []) (k' := 0) (u' := 0) cf_J0_checkIndex_df160 q_269 (by omega) dJ1_charAt_3b067_3 rfl rfl rfl (Nat.le_of_ble_eq_true rfl) (Or.inl rfl) (Nat.le_refl _) (Nat.le_refl _) (Nat.le_refl _) (Nat.le_refl _) (t_chk h0 h1) ?_
  refine g_aload_n (pc' := 7) dJ1_charAt_3b067_6 rfl rfl ?_
  refine g_iload_n (pc' := 8) dJ1_charAt_3b067_7 rfl rfl ?_
  refine g_sbald (pc' := 9) hk dJ1_charAt_3b067_8 rfl hin ?_
  refine g_sipush (pc' := 12) 255 dJ1_charAt_3b067_9 rfl (by decide) ?_
  refine g_iand (pc' := 13) dJ1_charAt_3b067_12 rfl ?_
  refine g_i2c (pc' := 14) dJ1_charAt_3b067_13 rfl g1 ?_
  exact g_nreturn dJ1_charAt_3b067_14 rfl g2 (Nat.le_of_ble_eq_true rfl) (Nat.le_of_ble_eq_true rfl)
theorem t_charAt {i : Int32} (hk : sTab[k1]? = some q) (hi : inB i q.2.2.2.length = true) : Sem mi_J0_charAt_5068e 4 [aR (1000000 + k1), aI i] M (oI (q.2.2.2.getD i.toNatClampNeg 0)) M := by
  have hin := inB_in hi
  have hlt : i.toNatClampNeg < q.2.2.2.length := Nat.not_le.mp fun z => hin (Or.inr z)
  have hmem : q.2.2.2.getD i.toNatClampNeg 0 ∈ q.2.2.2 := by
    rw [List.getD_eq_getElem?_getD, List.getElem?_eq_getElem hlt]
    exact List.getElem_mem hlt
  obtain ⟨g1, g2⟩ := sTab_ascii q (List.mem_of_getElem? hk) _ hmem
  refine sem_of (by decide) rfl rfl rfl (Nat.le_of_ble_eq_true rfl) (lv := [some (aR (1000000 + k1)), some (aI i)]) rfl ?_
  refine g_aload_n (pc' := 1) dJ0_charAt_5068e_0 rfl rfl ?_
  refine g_callT (pc' := 4) (fr2 := 1) (As := []) (st := []) (k' := 0) (u' := 0) hk cf_J0_isLatin1_aae02 q_261 (by omega) rfl dJ0_charAt_5068e_1 rfl rfl rfl (Nat.le_of_ble_eq_true rfl) rfl (Nat.le_refl _) (Nat.le_refl _) (Nat.le_refl _) (Nat.le_refl _) (t_lat hk) ?_
  refine g_if_eq (pc' := 7) 16 dJ0_charAt_5068e_4 rfl (by decide) (fun h => absurd h (by decide)) (fun _ => ?_)
  refine g_aload_n (pc' := 8) dJ0_charAt_5068e_7 rfl rfl ?_
  refine g_sget (pc' := 11) hk q_246 dJ0_charAt_5068e_8 rfl ?_
  refine g_iload_n (pc' := 12) dJ0_charAt_5068e_11 rfl rfl ?_
  refine g_callSi (pc' := 15) (fr2 := 3) (As := [aR (2000000 + k1), aI i]) (st := []) (k' := 0) (u' := 0) cf_J1_charAt_3b067 q_265 (by omega) dJ0_charAt_5068e_12 rfl rfl rfl (Nat.le_of_ble_eq_true rfl) (Or.inl rfl) (Nat.le_refl _) (Nat.le_refl _) (Nat.le_refl _) (Nat.le_refl _) (t_latAt hk hi) ?_
  exact g_nreturn dJ0_charAt_5068e_15 rfl g2 (Nat.le_of_ble_eq_true rfl) (Nat.le_of_ble_eq_true rfl)
end TC
section TR
variable {mi mi2 : MI} {fr fr2 : Nat} {o : OC} {M' M M1 : Mem} {pc pc' : Nat} {lv lv' : List (Option AV)} {st : List AV} {k u k' u' : Nat}
theorem g_slen {i r : Nat} (hl2 : Cond.methodLink (miY mi).cls i yJ0_length_8abf5 ∈ WALL) (hf : 3 ≤ fr) (hcs : csum st ≤ 8) (hk2 : k ≤ miMc mi) (hu2 : u ≤ miMs mi) (d : decode (miC mi) pc = .ok (.invokevirtual i, 3)) (hp : pc + 3 = pc') (hr : isT r = true)
    (kk : G mi fr o M' pc' lv (aI (sLen r) :: st) M k u) : G mi fr o M' pc lv (aR r :: st) M k u := by
  obtain ⟨k1, q, rfl, hk, hq, hb⟩ := isT_ok hr
  unfold sLen at kk
  rw [hb] at kk
  exact g_callT (fr2 := 2) (As := []) hq cf_J0_length_8abf5 hl2 (by omega) rfl d hp rfl rfl hcs rfl (Nat.le_refl _) (Nat.le_refl _) hk2 hu2 (t_length hq) kk
theorem g_scharAt {i r : Nat} {x : Int32} (hl2 : Cond.methodLink (miY mi).cls i yJ0_charAt_5068e ∈ WALL) (hf : 5 ≤ fr) (hcs : csum st ≤ 8) (hk2 : k ≤ miMc mi) (hu2 : u ≤ miMs mi) (d : decode (miC mi) pc = .ok (.invokevirtual i, 3)) (hp : pc + 3 = pc') (hr : tIn r x = true)
    (kk : G mi fr o M' pc' lv (aI (sAt r x) :: st) M k u) : G mi fr o M' pc lv (aI x :: aR r :: st) M k u := by
  unfold tIn at hr
  simp only [Bool.and_eq_true] at hr
  obtain ⟨hr, hi⟩ := hr
  obtain ⟨k1, q, rfl, hk, hq, hb⟩ := isT_ok hr
  unfold sAt at kk
  rw [hb] at kk hi
  exact g_callT (fr2 := 4) (As := [aI x]) hq cf_J0_charAt_5068e hl2 (by omega) rfl d hp rfl rfl hcs rfl (Nat.le_refl _) (Nat.le_refl _) hk2 hu2 (t_charAt hq hi) kk
end TR
