abbrev mi_X11_name : MI := (yX11_name, Cond.code yX11_name cX11_name 3 (some .int), cX11_name, 3, (some .int), [], 2, 12, 0, none)
theorem cf_X11_name : CFv mi_X11_name 2 := ⟨⟨rfl, q_941, wall_i_LeafStripes, ⟨by decide, by decide, by decide +kernel⟩, by decide⟩, q_939, q_940⟩
abbrev mi_X11_needLeaf : MI := (yX11_needLeaf, Cond.code yX11_needLeaf cX11_needLeaf 2 none, cX11_needLeaf, 2, none, [], 1, 6, 0, none)
theorem cf_X11_needLeaf : CFv mi_X11_needLeaf 1 := ⟨⟨rfl, q_962, wall_i_LeafStripes, ⟨by decide, by decide, by decide +kernel⟩, by decide⟩, q_960, q_961⟩
abbrev mi_X11_binaryDigits : MI := (yX11_binaryDigits, Cond.code yX11_binaryDigits cX11_binaryDigits 3 (some .int), cX11_binaryDigits, 3, (some .int), [], 0, 0, 0, none)
theorem cf_X11_binaryDigits : CFs mi_X11_binaryDigits 1 := ⟨⟨rfl, q_969, wall_i_LeafStripes, ⟨by decide, by decide, by decide +kernel⟩, by decide⟩, q_968⟩
abbrev mi_X11_leaf : MI := (yX11_leaf, Cond.code yX11_leaf cX11_leaf 5 (some .int), cX11_leaf, 5, (some .int), [], 2, 12, 0, none)
theorem cf_X11_leaf : CFv mi_X11_leaf 2 := ⟨⟨rfl, q_953, wall_i_LeafStripes, ⟨by decide, by decide, by decide +kernel⟩, by decide⟩, q_951, q_952⟩
abbrev mi_X11_needEntry : MI := (yX11_needEntry, Cond.code yX11_needEntry cX11_needEntry 3 none, cX11_needEntry, 3, none, [], 2, 12, 0, none)
theorem cf_X11_needEntry : CFv mi_X11_needEntry 2 := ⟨⟨rfl, q_996, wall_i_LeafStripes, ⟨by decide, by decide, by decide +kernel⟩, by decide⟩, q_994, q_995⟩
abbrev mi_X11_entry : MI := (yX11_entry, Cond.code yX11_entry cX11_entry 5 (some .int), cX11_entry, 5, (some .int), [], 3, 18, 0, none)
theorem cf_X11_entry : CFv mi_X11_entry 3 := ⟨⟨rfl, q_991, wall_i_LeafStripes, ⟨by decide, by decide, by decide +kernel⟩, by decide⟩, q_989, q_990⟩
abbrev mi_X11_needRecord : MI := (yX11_needRecord, Cond.code yX11_needRecord cX11_needRecord 2 none, cX11_needRecord, 2, none, [], 1, 6, 0, none)
theorem cf_X11_needRecord : CFv mi_X11_needRecord 1 := ⟨⟨rfl, q_1024, wall_i_LeafStripes, ⟨by decide, by decide, by decide +kernel⟩, by decide⟩, q_1022, q_1023⟩
abbrev mi_X11_skip : MI := (yX11_skip, Cond.code yX11_skip cX11_skip 6 (some .int), cX11_skip, 6, (some .int), [], 3, 18, 0, none)
theorem cf_X11_skip : CFv mi_X11_skip 3 := ⟨⟨rfl, q_1020, wall_i_LeafStripes, ⟨by decide, by decide, by decide +kernel⟩, by decide⟩, q_1018, q_1019⟩
abbrev mi_X11_needSet : MI := (yX11_needSet, Cond.code yX11_needSet cX11_needSet 2 none, cX11_needSet, 2, none, [], 1, 6, 0, none)
theorem cf_X11_needSet : CFv mi_X11_needSet 1 := ⟨⟨rfl, q_1056, wall_i_LeafStripes, ⟨by decide, by decide, by decide +kernel⟩, by decide⟩, q_1054, q_1055⟩
abbrev mi_X11_next : MI := (yX11_next, Cond.code yX11_next cX11_next 4 (some .int), cX11_next, 4, (some .int), [], 2, 12, 0, none)
theorem cf_X11_next : CFv mi_X11_next 3 := ⟨⟨rfl, q_1052, wall_i_LeafStripes, ⟨by decide, by decide, by decide +kernel⟩, by decide⟩, q_1050, q_1051⟩
abbrev mi_X11_length : MI := (yX11_length, Cond.code yX11_length cX11_length 3 (some .int), cX11_length, 3, (some .int), [], 2, 12, 0, none)
theorem cf_X11_length : CFv mi_X11_length 2 := ⟨⟨rfl, q_1088, wall_i_LeafStripes, ⟨by decide, by decide, by decide +kernel⟩, by decide⟩, q_1086, q_1087⟩
abbrev mi_X11_sign : MI := (yX11_sign, Cond.code yX11_sign cX11_sign 4 (some .int), cX11_sign, 4, (some .int), [], 3, 18, 0, none)
theorem cf_X11_sign : CFv mi_X11_sign 3 := ⟨⟨rfl, q_1209, wall_i_LeafStripes, ⟨by decide, by decide, by decide +kernel⟩, by decide⟩, q_1207, q_1208⟩
abbrev mi_X11_reads : MI := (yX11_reads, Cond.code yX11_reads cX11_reads 3 (some .int), cX11_reads, 3, (some .int), [], 2, 12, 0, none)
theorem cf_X11_reads : CFv mi_X11_reads 2 := ⟨⟨rfl, q_1221, wall_i_LeafStripes, ⟨by decide, by decide, by decide +kernel⟩, by decide⟩, q_1219, q_1220⟩
abbrev mi_X11_seen : MI := (yX11_seen, Cond.code yX11_seen cX11_seen 2 (some .int), cX11_seen, 2, (some .int), [], 1, 6, 0, none)
theorem cf_X11_seen : CFv mi_X11_seen 1 := ⟨⟨rfl, q_1241, wall_i_LeafStripes, ⟨by decide, by decide, by decide +kernel⟩, by decide⟩, q_1239, q_1240⟩
abbrev mi_X11_seenSign : MI := (yX11_seenSign, Cond.code yX11_seenSign cX11_seenSign 3 (some .int), cX11_seenSign, 3, (some .int), [], 2, 12, 0, none)
theorem cf_X11_seenSign : CFv mi_X11_seenSign 2 := ⟨⟨rfl, q_1256, wall_i_LeafStripes, ⟨by decide, by decide, by decide +kernel⟩, by decide⟩, q_1254, q_1255⟩
abbrev mi_X11_fold : MI := (yX11_fold, Cond.code yX11_fold cX11_fold 3 (some .int), cX11_fold, 3, (some .int), [], 2, 12, 0, none)
theorem cf_X11_fold : CFv mi_X11_fold 2 := ⟨⟨rfl, q_1267, wall_i_LeafStripes, ⟨by decide, by decide, by decide +kernel⟩, by decide⟩, q_1265, q_1266⟩
abbrev mi_X11_picked : MI := (yX11_picked, Cond.code yX11_picked cX11_picked 8 (some .int), cX11_picked, 8, (some .int), [], 2, 12, 0, none)
theorem cf_X11_picked : CFv mi_X11_picked 3 := ⟨⟨rfl, q_1320, wall_i_LeafStripes, ⟨by decide, by decide, by decide +kernel⟩, by decide⟩, q_1318, q_1319⟩
abbrev mi_X11_pages : MI := (yX11_pages, Cond.code yX11_pages cX11_pages 3 (some .int), cX11_pages, 3, (some .int), [], 2, 12, 0, none)
theorem cf_X11_pages : CFv mi_X11_pages 2 := ⟨⟨rfl, q_1336, wall_i_LeafStripes, ⟨by decide, by decide, by decide +kernel⟩, by decide⟩, q_1334, q_1335⟩
abbrev mi_X11_piped : MI := (yX11_piped, Cond.code yX11_piped cX11_piped 4 (some .int), cX11_piped, 4, (some .int), [], 2, 12, 0, none)
theorem cf_X11_piped : CFv mi_X11_piped 2 := ⟨⟨rfl, q_1353, wall_i_LeafStripes, ⟨by decide, by decide, by decide +kernel⟩, by decide⟩, q_1351, q_1352⟩
abbrev mi_X11_drop : MI := (yX11_drop, Cond.code yX11_drop cX11_drop 1 (some .int), cX11_drop, 1, (some .int), [], 2, 1005, 1, none)
theorem cf_X11_drop : CFv mi_X11_drop 0 := ⟨⟨rfl, q_1387, wall_i_LeafStripes, ⟨by decide, by decide, by decide +kernel⟩, by decide⟩, q_1385, q_1386⟩
abbrev mi_X11_set : MI := (yX11_set, Cond.code yX11_set cX11_set 6 (some .int), cX11_set, 6, (some .int), [], 3, 17, 1, none)
theorem cf_X11_set : CFv mi_X11_set 3 := ⟨⟨rfl, q_1422, wall_i_LeafStripes, ⟨by decide, by decide, by decide +kernel⟩, by decide⟩, q_1420, q_1421⟩
abbrev mi_X11_damage : MI := (yX11_damage, Cond.code yX11_damage cX11_damage 8 (some .int), cX11_damage, 8, (some .int), [], 3, 18, 1, none)
theorem cf_X11_damage : CFv mi_X11_damage 4 := ⟨⟨rfl, q_1434, wall_i_LeafStripes, ⟨by decide, by decide, by decide +kernel⟩, by decide⟩, q_1432, q_1433⟩
def f_X11_name_22  (M : Mem) : Option ((Nat ⊕ Int32) × Mem) :=
  some (.inl 1, M)
def f_X11_name (v0 : Nat) (v1 : Int32) (v2 : Int32) (M : Mem) : Option ((Nat ⊕ Int32) × Mem) :=
  if mK M v0 = 12 then
    bndX (f_X11_needField v0 v1 M) fun _ M2 =>
    if v2 < 0 then
      f_X11_name_22 M2
    else
      if mK M2 v0 = 12 then
        if mK M2 (mR M2 v0 8) = 6 then
          if mK M2 (mR M2 (mR M2 v0 8) 7) = 21 then
            if inB v1 (mN M2 (mR M2 (mR M2 v0 8) 7)) = true then
              if v2 < (mI M2 (mR M2 (mR M2 v0 8) 7) v1.toNatClampNeg) then
                if mK M2 (mR M2 (mR M2 v0 8) 8) = 21 then
                  if inB ((v1 * (4 : Int32)) + v2) (mN M2 (mR M2 (mR M2 v0 8) 8)) = true then
                    some (.inr (mI M2 (mR M2 (mR M2 v0 8) 8) ((v1 * (4 : Int32)) + v2).toNatClampNeg), M2)
                  else none
                else none
              else
                f_X11_name_22 M2
            else none
          else none
        else none
      else none
  else none
theorem s_X11_name_22  (M : Mem) (r : ((Nat ⊕ Int32) × Mem)) (hf : f_X11_name_22  M = some r) : G mi_X11_name 7 (oX oI r.1) r.2 22 [none, none, none] [] M 1 6 := by
  unfold f_X11_name_22 at hf
  cases hf
  exact g_throwN (xi := 3) rfl dX11_name_22 dX11_name_25 dX11_name_26 dX11_name_28 dX11_name_31 rfl rfl (by omega) (Nat.le_of_ble_eq_true rfl) (by show 1 + 1 ≤ 2; omega) (by show 6 + 6 ≤ 12; omega)
theorem s_X11_name (v0 : Nat) (v1 : Int32) (v2 : Int32) (M : Mem) (r : ((Nat ⊕ Int32) × Mem)) (hf : f_X11_name v0 v1 v2 M = some r) : Sem mi_X11_name (7) [aR v0, aI v1, aI v2] M (oX oI r.1) r.2 := by
  unfold f_X11_name at hf
  refine sem_of (by decide) rfl rfl rfl (Nat.le_of_ble_eq_true rfl) (lv := [some (aR v0), some (aI v1), some (aI v2)]) rfl ?_
  refine g_aload_n (pc' := 1) dX11_name_0 rfl rfl ?_
  refine g_iload_n (pc' := 2) dX11_name_1 rfl rfl ?_
  obtain ⟨h1, hf⟩ := chk_s hf
  rcases bndX_some hf with ⟨e, M8, e3, rfl⟩ | ⟨_, M2, e3, hf⟩
  · exact g_callVX (fr2 := 6) (As := [aI v1]) (b := v0) (st := []) cf_X11_needField q_920 (by omega) (ci := 11) rfl rfl (by decide) dX11_name_2 rfl rfl (Nat.le_of_ble_eq_true rfl) (Or.inl rfl) rfl (by show 0 + 1 ≤ 2; omega) (by show 0 + 6 ≤ 12; omega) h1 (s_X11_needField v0 v1 M _ e3)
  · refine g_callVv (pc' := 5) (k' := 1) (u' := 6) (fr2 := 6) (As := [aI v1]) (b := v0) (st := []) cf_X11_needField q_920 (by omega) (ci := 11) rfl rfl (by decide) dX11_name_2 rfl rfl rfl (Nat.le_of_ble_eq_true rfl) (Or.inl rfl) (by show 0 + 1 ≤ 1; omega) (by show 0 + 6 ≤ 6; omega) (by show 1 ≤ 2; omega) (by show 6 ≤ 12; omega) h1 (s_X11_needField v0 v1 M _ e3) ?_
    refine g_iload_n (pc' := 6) dX11_name_5 rfl rfl ?_
    refine g_if_lt (pc' := 9) 22 dX11_name_6 rfl (by decide) (fun c4 => ?_) (fun c4 => ?_)
    · have hf := ite_t c4 hf
      refine g_mask [false, false, false] rfl ?_
      refine g_widen (k' := 1) (u' := 6) (by omega) (by omega) ?_
      exact s_X11_name_22 M2 _ hf
    · have hf := ite_f c4 hf
      refine g_iload_n (pc' := 10) dX11_name_9 rfl rfl ?_
      refine g_aload_n (pc' := 11) dX11_name_10 rfl rfl ?_
      obtain ⟨h5, hf⟩ := chk_s hf
      refine g_getR (pc' := 14) 11 8 rfl rfl (by decide) inX11 (by decide) rfl rfl q_45 dX11_name_11 rfl h5 ?_
      obtain ⟨h6, hf⟩ := chk_s hf
      refine g_getR (pc' := 17) 5 7 rfl rfl (by decide) inX5 (by decide) rfl rfl q_918 dX11_name_14 rfl h6 ?_
      refine g_iload_n (pc' := 18) dX11_name_17 rfl rfl ?_
      obtain ⟨h7, hf⟩ := chk_s hf
      obtain ⟨b8, hf⟩ := chk_s hf
      refine g_iald (pc' := 19) dX11_name_18 rfl h7 (inB_in b8) ?_
      refine g_icmp_lt (pc' := 22) 32 dX11_name_19 rfl (by decide) (fun c9 => ?_) (fun c9 => ?_)
      · have hf := ite_t c9 hf
        refine g_aload_n (pc' := 33) dX11_name_32 rfl rfl ?_
        refine g_getR (pc' := 36) 11 8 rfl rfl (by decide) inX11 (by decide) rfl rfl q_45 dX11_name_33 rfl h5 ?_
        refine g_getR (pc' := 39) 5 8 rfl rfl (by decide) inX5 (by decide) rfl rfl q_942 dX11_name_36 rfl h6 ?_
        refine g_iload_n (pc' := 40) dX11_name_39 rfl rfl ?_
        refine g_iconst (pc' := 41) (4 : Int32) dX11_name_40 rfl (by decide) ?_
        refine g_imul (pc' := 42) dX11_name_41 rfl ?_
        refine g_iload_n (pc' := 43) dX11_name_42 rfl rfl ?_
        refine g_iadd (pc' := 44) dX11_name_43 rfl ?_
        obtain ⟨h10, hf⟩ := chk_s hf
        obtain ⟨b11, hf⟩ := chk_s hf
        refine g_iald (pc' := 45) dX11_name_44 rfl h10 (inB_in b11) ?_
        cases hf
        exact g_ireturn dX11_name_45 rfl (Nat.le_of_ble_eq_true rfl) (Nat.le_of_ble_eq_true rfl)
      · have hf := ite_f c9 hf
        refine g_mask [false, false, false] rfl ?_
        refine g_widen (k' := 1) (u' := 6) (by omega) (by omega) ?_
        exact s_X11_name_22 M2 _ hf
def f_X11_needLeaf_15  (M : Mem) : Option ((Nat ⊕ Unit) × Mem) :=
  some (.inl 1, M)
def f_X11_needLeaf (v0 : Nat) (v1 : Int32) (M : Mem) : Option ((Nat ⊕ Unit) × Mem) :=
  if v1 < 0 then
    f_X11_needLeaf_15 M
  else
    if mK M v0 = 12 then
      if mK M (mR M v0 8) = 6 then
        if v1 < (mI M (mR M v0 8) 1) then
          some (.inr (), M)
        else
          f_X11_needLeaf_15 M
      else none
    else none
theorem s_X11_needLeaf_15  (M : Mem) (r : ((Nat ⊕ Unit) × Mem)) (hf : f_X11_needLeaf_15  M = some r) : G mi_X11_needLeaf 6 (oX oU r.1) r.2 15 [none, none] [] M 0 0 := by
  unfold f_X11_needLeaf_15 at hf
  cases hf
  exact g_throwNW (xi := 4) rfl dX11_needLeaf_15 dX11_needLeaf_18 dX11_needLeaf_19 dX11_needLeaf_22 dX11_needLeaf_25 rfl rfl (by omega) (Nat.le_of_ble_eq_true rfl) (by show 0 + 1 ≤ 1; omega) (by show 0 + 6 ≤ 6; omega)
theorem s_X11_needLeaf (v0 : Nat) (v1 : Int32) (M : Mem) (r : ((Nat ⊕ Unit) × Mem)) (hf : f_X11_needLeaf v0 v1 M = some r) : Sem mi_X11_needLeaf (6) [aR v0, aI v1] M (oX oU r.1) r.2 := by
  unfold f_X11_needLeaf at hf
  refine sem_of (by decide) rfl rfl rfl (Nat.le_of_ble_eq_true rfl) (lv := [some (aR v0), some (aI v1)]) rfl ?_
  refine g_iload_n (pc' := 1) dX11_needLeaf_0 rfl rfl ?_
  refine g_if_lt (pc' := 4) 15 dX11_needLeaf_1 rfl (by decide) (fun c1 => ?_) (fun c1 => ?_)
  · have hf := ite_t c1 hf
    refine g_mask [false, false] rfl ?_
    exact s_X11_needLeaf_15 M _ hf
  · have hf := ite_f c1 hf
    refine g_iload_n (pc' := 5) dX11_needLeaf_4 rfl rfl ?_
    refine g_aload_n (pc' := 6) dX11_needLeaf_5 rfl rfl ?_
    obtain ⟨h2, hf⟩ := chk_s hf
    refine g_getR (pc' := 9) 11 8 rfl rfl (by decide) inX11 (by decide) rfl rfl q_45 dX11_needLeaf_6 rfl h2 ?_
    obtain ⟨h3, hf⟩ := chk_s hf
    refine g_getI (pc' := 12) 5 1 rfl rfl (by decide) inX5 (by decide) rfl rfl q_477 dX11_needLeaf_9 rfl h3 ?_
    refine g_icmp_lt (pc' := 15) 26 dX11_needLeaf_12 rfl (by decide) (fun c4 => ?_) (fun c4 => ?_)
    · have hf := ite_t c4 hf
      cases hf
      exact g_return dX11_needLeaf_26 rfl (Nat.le_of_ble_eq_true rfl) (Nat.le_of_ble_eq_true rfl)
    · have hf := ite_f c4 hf
      refine g_mask [false, false] rfl ?_
      exact s_X11_needLeaf_15 M _ hf
def f_X11_binaryDigits_4 : Nat → Int32 → Int32 → Mem → Option (Int32 × Mem)
  | 0, _, _, _ => none
  | n + 1, v1, v2, M =>
    if v2 ≤ 0 then
      some (v1, M)
    else
      f_X11_binaryDigits_4 n (v1 + 1) (v2 >>> ((1 : Int32) &&& 31)) M
def f_X11_binaryDigits (v0 : Int32) (M : Mem) : Option (Int32 × Mem) :=
  f_X11_binaryDigits_4 FUEL (0 : Int32) v0 M
theorem s_X11_binaryDigits_4 : ∀ (n : Nat) (v1 : Int32) (v2 : Int32) (M : Mem) (r : (Int32 × Mem)), f_X11_binaryDigits_4 n v1 v2 M = some r → G mi_X11_binaryDigits 1 (oI r.1) r.2 4 [none, some (aI v1), some (aI v2)] [] M 0 0 := by
  intro n
  induction n with
  | zero => intro v1 v2 M r hf; cases hf
  | succ n ih =>
    intro v1 v2 M r hf
    unfold f_X11_binaryDigits_4 at hf
    refine g_iload_n (pc' := 5) dX11_binaryDigits_4 rfl rfl ?_
    refine g_if_le (pc' := 8) 18 dX11_binaryDigits_5 rfl (by decide) (fun c1 => ?_) (fun c1 => ?_)
    · have hf := ite_t c1 hf
      refine g_iload_n (pc' := 19) dX11_binaryDigits_18 rfl rfl ?_
      cases hf
      exact g_ireturn dX11_binaryDigits_19 rfl (Nat.le_of_ble_eq_true rfl) (Nat.le_of_ble_eq_true rfl)
    · have hf := ite_f c1 hf
      refine g_iinc (pc' := 11) (lv' := [none, some (aI (v1 + 1)), some (aI v2)]) (v1 + 1) dX11_binaryDigits_8 rfl rfl (by rfl) rfl (by decide) rfl ?_
      refine g_iload_n (pc' := 12) dX11_binaryDigits_11 rfl rfl ?_
      refine g_iconst (pc' := 13) (1 : Int32) dX11_binaryDigits_12 rfl (by decide) ?_
      refine g_ishr (pc' := 14) dX11_binaryDigits_13 rfl ?_
      refine g_istore_n (pc' := 15) (lv' := [none, some (aI (v1 + 1)), some (aI (v2 >>> ((1 : Int32) &&& 31)))]) dX11_binaryDigits_14 rfl rfl (by decide) rfl ?_
      refine g_goto (pc' := 4) dX11_binaryDigits_15 (by decide) ?_
      exact ih (v1 + 1) (v2 >>> ((1 : Int32) &&& 31)) M _ hf
theorem s_X11_binaryDigits (v0 : Int32) (M : Mem) (r : (Int32 × Mem)) (hf : f_X11_binaryDigits v0 M = some r) : Sem mi_X11_binaryDigits (1) [aI v0] M (oI r.1) r.2 := by
  unfold f_X11_binaryDigits at hf
  refine sem_of (by decide) rfl rfl rfl (Nat.le_of_ble_eq_true rfl) (lv := [some (aI v0), none, none]) rfl ?_
  refine g_iconst (pc' := 1) (0 : Int32) dX11_binaryDigits_0 rfl (by decide) ?_
  refine g_istore_n (pc' := 2) (lv' := [some (aI v0), some (aI (0 : Int32)), none]) dX11_binaryDigits_1 rfl rfl (by decide) rfl ?_
  refine g_iload_n (pc' := 3) dX11_binaryDigits_2 rfl rfl ?_
  refine g_istore_n (pc' := 4) (lv' := [some (aI v0), some (aI (0 : Int32)), some (aI v0)]) dX11_binaryDigits_3 rfl rfl (by decide) rfl ?_
  refine g_mask [false, true, true] rfl ?_
  exact s_X11_binaryDigits_4 FUEL (0 : Int32) v0 M _ hf
def f_X11_leaf (v0 : Nat) (v1 : Int32) (v2 : Int32) (M : Mem) : Option ((Nat ⊕ Int32) × Mem) :=
  if mK M v0 = 12 then
    bndX (f_X11_needLeaf v0 v1 M) fun _ M2 =>
    if mK M2 v0 = 12 then
      if mK M2 (mR M2 v0 8) = 6 then
        if mK M2 (mR M2 (mR M2 v0 8) 12) = 21 then
          if inB v1 (mN M2 (mR M2 (mR M2 v0 8) 12)) = true then
            if mK M2 (mR M2 v0 6) = 8 then
              if mK M2 (mR M2 (mR M2 v0 6) 0) = 23 then
                if inB v1 (mN M2 (mR M2 (mR M2 v0 6) 0)) = true then
                  if v2 = (0 : Int32) then
                    some (.inr (mI M2 (mR M2 (mR M2 v0 8) 12) v1.toNatClampNeg), M2)
                  else
                  if v2 = (1 : Int32) then
                    if mK M2 (mR M2 (mR M2 (mR M2 v0 6) 0) v1.toNatClampNeg) = 3 then
                      some (.inr (mI M2 (mR M2 (mR M2 (mR M2 v0 6) 0) v1.toNatClampNeg) 3), M2)
                    else none
                  else
                  if v2 = (2 : Int32) then
                    if mK M2 (mR M2 (mR M2 (mR M2 v0 6) 0) v1.toNatClampNeg) = 3 then
                      bnd (f_X2_runsOf (mR M2 (mR M2 (mR M2 v0 6) 0) v1.toNatClampNeg) (mR M2 (mR M2 (mR M2 (mR M2 v0 6) 0) v1.toNatClampNeg) 0) M2) fun r17 M16 =>
                      some (.inr r17, M16)
                    else none
                  else
                  if v2 = (3 : Int32) then
                    if mK M2 (mR M2 (mR M2 (mR M2 v0 6) 0) v1.toNatClampNeg) = 3 then
                      bnd (f_X2_runsOf (mR M2 (mR M2 (mR M2 v0 6) 0) v1.toNatClampNeg) (mR M2 (mR M2 (mR M2 (mR M2 v0 6) 0) v1.toNatClampNeg) 1) M2) fun r21 M20 =>
                      some (.inr r21, M20)
                    else none
                  else
                  if v2 = (4 : Int32) then
                    if mK M2 (mR M2 (mR M2 v0 8) 6) = 21 then
                      if inB (mI M2 (mR M2 (mR M2 v0 8) 12) v1.toNatClampNeg) (mN M2 (mR M2 (mR M2 v0 8) 6)) = true then
                        bnd (f_X11_binaryDigits (mI M2 (mR M2 (mR M2 v0 8) 6) (mI M2 (mR M2 (mR M2 v0 8) 12) v1.toNatClampNeg).toNatClampNeg) M2) fun r26 M25 =>
                        some (.inr r26, M25)
                      else none
                    else none
                  else
                  if v2 = (5 : Int32) then
                    if mK M2 (mR M2 (mR M2 v0 8) 5) = 21 then
                      if inB (mI M2 (mR M2 (mR M2 v0 8) 12) v1.toNatClampNeg) (mN M2 (mR M2 (mR M2 v0 8) 5)) = true then
                        bnd (f_X11_binaryDigits (mI M2 (mR M2 (mR M2 v0 8) 5) (mI M2 (mR M2 (mR M2 v0 8) 12) v1.toNatClampNeg).toNatClampNeg) M2) fun r31 M30 =>
                        some (.inr r31, M30)
                      else none
                    else none
                  else
                  some (.inl 1, M2)
                else none
              else none
            else none
          else none
        else none
      else none
    else none
  else none
theorem s_X11_leaf (v0 : Nat) (v1 : Int32) (v2 : Int32) (M : Mem) (r : ((Nat ⊕ Int32) × Mem)) (hf : f_X11_leaf v0 v1 v2 M = some r) : Sem mi_X11_leaf (7) [aR v0, aI v1, aI v2] M (oX oI r.1) r.2 := by
  unfold f_X11_leaf at hf
  refine sem_of (by decide) rfl rfl rfl (Nat.le_of_ble_eq_true rfl) (lv := [some (aR v0), some (aI v1), some (aI v2), none, none]) rfl ?_
  refine g_aload_n (pc' := 1) dX11_leaf_0 rfl rfl ?_
  refine g_iload_n (pc' := 2) dX11_leaf_1 rfl rfl ?_
  obtain ⟨h1, hf⟩ := chk_s hf
  rcases bndX_some hf with ⟨e, M8, e3, rfl⟩ | ⟨_, M2, e3, hf⟩
  · exact g_callVX (fr2 := 6) (As := [aI v1]) (b := v0) (st := []) cf_X11_needLeaf q_959 (by omega) (ci := 11) rfl rfl (by decide) dX11_leaf_2 rfl rfl (Nat.le_of_ble_eq_true rfl) (Or.inl rfl) rfl (by show 0 + 1 ≤ 2; omega) (by show 0 + 6 ≤ 12; omega) h1 (s_X11_needLeaf v0 v1 M _ e3)
  · refine g_callVv (pc' := 5) (k' := 1) (u' := 6) (fr2 := 6) (As := [aI v1]) (b := v0) (st := []) cf_X11_needLeaf q_959 (by omega) (ci := 11) rfl rfl (by decide) dX11_leaf_2 rfl rfl rfl (Nat.le_of_ble_eq_true rfl) (Or.inl rfl) (by show 0 + 1 ≤ 1; omega) (by show 0 + 6 ≤ 6; omega) (by show 1 ≤ 2; omega) (by show 6 ≤ 12; omega) h1 (s_X11_needLeaf v0 v1 M _ e3) ?_
    refine g_aload_n (pc' := 6) dX11_leaf_5 rfl rfl ?_
    obtain ⟨h4, hf⟩ := chk_s hf
    refine g_getR (pc' := 9) 11 8 rfl rfl (by decide) inX11 (by decide) rfl rfl q_45 dX11_leaf_6 rfl h4 ?_
    obtain ⟨h5, hf⟩ := chk_s hf
    refine g_getR (pc' := 12) 5 12 rfl rfl (by decide) inX5 (by decide) rfl rfl q_954 dX11_leaf_9 rfl h5 ?_
    refine g_iload_n (pc' := 13) dX11_leaf_12 rfl rfl ?_
    obtain ⟨h6, hf⟩ := chk_s hf
    obtain ⟨b7, hf⟩ := chk_s hf
    refine g_iald (pc' := 14) dX11_leaf_13 rfl h6 (inB_in b7) ?_
    refine g_istore_n (pc' := 15) (lv' := [some (aR v0), some (aI v1), some (aI v2), some (aI (mI M2 (mR M2 (mR M2 v0 8) 12) v1.toNatClampNeg)), none]) dX11_leaf_14 rfl rfl (by decide) rfl ?_
    refine g_aload_n (pc' := 16) dX11_leaf_15 rfl rfl ?_
    refine g_getR (pc' := 19) 11 6 rfl rfl (by decide) inX11 (by decide) rfl rfl q_40 dX11_leaf_16 rfl h4 ?_
    obtain ⟨h8, hf⟩ := chk_s hf
    refine g_getR (pc' := 22) 7 0 rfl rfl (by decide) inX7 (by decide) rfl rfl q_955 dX11_leaf_19 rfl h8 ?_
    refine g_iload_n (pc' := 23) dX11_leaf_22 rfl rfl ?_
    obtain ⟨h9, hf⟩ := chk_s hf
    obtain ⟨b10, hf⟩ := chk_s hf
    refine g_aald (pc' := 24) (t0 := 2) (fun _ => rfl) (by decide) dX11_leaf_23 rfl h9 (inB_in b10) ?_
    refine g_astore (pc' := 26) (lv' := [some (aR v0), some (aI v1), some (aI v2), some (aI (mI M2 (mR M2 (mR M2 v0 8) 12) v1.toNatClampNeg)), some (aR (mR M2 (mR M2 (mR M2 v0 6) 0) v1.toNatClampNeg))]) dX11_leaf_24 rfl rfl (by decide) rfl ?_
    refine g_iload_n (pc' := 27) dX11_leaf_26 rfl rfl ?_
    by_cases c11 : v2 = (0 : Int32)
    · have hf := ite_t c11 hf
      refine g_tsw (pc' := 64) (0 : Int32) dX11_leaf_27 c11 (by decide) (by decide) rfl (by decide) ?_
      refine g_iload_n (pc' := 65) dX11_leaf_64 rfl rfl ?_
      cases hf
      exact g_ireturn dX11_leaf_65 rfl (Nat.le_of_ble_eq_true rfl) (Nat.le_of_ble_eq_true rfl)
    have hf := ite_f c11 hf
    by_cases c12 : v2 = (1 : Int32)
    · have hf := ite_t c12 hf
      refine g_tsw (pc' := 66) (1 : Int32) dX11_leaf_27 c12 (by decide) (by decide) rfl (by decide) ?_
      refine g_aload (pc' := 68) dX11_leaf_66 rfl rfl ?_
      obtain ⟨h13, hf⟩ := chk_s hf
      refine g_getI (pc' := 71) 2 3 rfl rfl (by decide) inX2 (by decide) rfl rfl q_956 dX11_leaf_68 rfl h13 ?_
      cases hf
      exact g_ireturn dX11_leaf_71 rfl (Nat.le_of_ble_eq_true rfl) (Nat.le_of_ble_eq_true rfl)
    have hf := ite_f c12 hf
    by_cases c14 : v2 = (2 : Int32)
    · have hf := ite_t c14 hf
      refine g_tsw (pc' := 72) (2 : Int32) dX11_leaf_27 c14 (by decide) (by decide) rfl (by decide) ?_
      refine g_aload (pc' := 74) dX11_leaf_72 rfl rfl ?_
      refine g_aload (pc' := 76) dX11_leaf_74 rfl rfl ?_
      obtain ⟨h15, hf⟩ := chk_s hf
      refine g_getR (pc' := 79) 2 0 rfl rfl (by decide) inX2 (by decide) rfl rfl q_957 dX11_leaf_76 rfl h15 ?_
      obtain ⟨r17, M16, e17, hf⟩ := bnd_some hf
      refine g_callVi (pc' := 82) (k' := 1) (u' := 6) (fr2 := 1) (As := [aR (mR M2 (mR M2 (mR M2 (mR M2 v0 6) 0) v1.toNatClampNeg) 0)]) (b := (mR M2 (mR M2 (mR M2 v0 6) 0) v1.toNatClampNeg)) (st := []) cf_X2_runsOf q_963 (by omega) (ci := 2) rfl rfl (by decide) dX11_leaf_79 rfl rfl rfl (Nat.le_of_ble_eq_true rfl) (Or.inl rfl) (by show 1 + 0 ≤ 1; omega) (by show 6 + 0 ≤ 6; omega) (by show 1 ≤ 2; omega) (by show 6 ≤ 12; omega) h15 (s_X2_runsOf (mR M2 (mR M2 (mR M2 v0 6) 0) v1.toNatClampNeg) (mR M2 (mR M2 (mR M2 (mR M2 v0 6) 0) v1.toNatClampNeg) 0) M2 _ e17) ?_
      cases hf
      exact g_ireturn dX11_leaf_82 rfl (Nat.le_of_ble_eq_true rfl) (Nat.le_of_ble_eq_true rfl)
    have hf := ite_f c14 hf
    by_cases c18 : v2 = (3 : Int32)
    · have hf := ite_t c18 hf
      refine g_tsw (pc' := 83) (3 : Int32) dX11_leaf_27 c18 (by decide) (by decide) rfl (by decide) ?_
      refine g_aload (pc' := 85) dX11_leaf_83 rfl rfl ?_
      refine g_aload (pc' := 87) dX11_leaf_85 rfl rfl ?_
      obtain ⟨h19, hf⟩ := chk_s hf
      refine g_getR (pc' := 90) 2 1 rfl rfl (by decide) inX2 (by decide) rfl rfl q_958 dX11_leaf_87 rfl h19 ?_
      obtain ⟨r21, M20, e21, hf⟩ := bnd_some hf
      refine g_callVi (pc' := 93) (k' := 1) (u' := 6) (fr2 := 1) (As := [aR (mR M2 (mR M2 (mR M2 (mR M2 v0 6) 0) v1.toNatClampNeg) 1)]) (b := (mR M2 (mR M2 (mR M2 v0 6) 0) v1.toNatClampNeg)) (st := []) cf_X2_runsOf q_963 (by omega) (ci := 2) rfl rfl (by decide) dX11_leaf_90 rfl rfl rfl (Nat.le_of_ble_eq_true rfl) (Or.inl rfl) (by show 1 + 0 ≤ 1; omega) (by show 6 + 0 ≤ 6; omega) (by show 1 ≤ 2; omega) (by show 6 ≤ 12; omega) h19 (s_X2_runsOf (mR M2 (mR M2 (mR M2 v0 6) 0) v1.toNatClampNeg) (mR M2 (mR M2 (mR M2 (mR M2 v0 6) 0) v1.toNatClampNeg) 1) M2 _ e21) ?_
      cases hf
      exact g_ireturn dX11_leaf_93 rfl (Nat.le_of_ble_eq_true rfl) (Nat.le_of_ble_eq_true rfl)
    have hf := ite_f c18 hf
    by_cases c22 : v2 = (4 : Int32)
    · have hf := ite_t c22 hf
      refine g_tsw (pc' := 94) (4 : Int32) dX11_leaf_27 c22 (by decide) (by decide) rfl (by decide) ?_
      refine g_aload_n (pc' := 95) dX11_leaf_94 rfl rfl ?_
      refine g_getR (pc' := 98) 11 8 rfl rfl (by decide) inX11 (by decide) rfl rfl q_45 dX11_leaf_95 rfl h4 ?_
      refine g_getR (pc' := 101) 5 6 rfl rfl (by decide) inX5 (by decide) rfl rfl q_798 dX11_leaf_98 rfl h5 ?_
      refine g_iload_n (pc' := 102) dX11_leaf_101 rfl rfl ?_
      obtain ⟨h23, hf⟩ := chk_s hf
      obtain ⟨b24, hf⟩ := chk_s hf
      refine g_iald (pc' := 103) dX11_leaf_102 rfl h23 (inB_in b24) ?_
      obtain ⟨r26, M25, e26, hf⟩ := bnd_some hf
      refine g_callSi (pc' := 106) (k' := 1) (u' := 6) (fr2 := 1) (As := [aI (mI M2 (mR M2 (mR M2 v0 8) 6) (mI M2 (mR M2 (mR M2 v0 8) 12) v1.toNatClampNeg).toNatClampNeg)]) (st := []) cf_X11_binaryDigits q_967 (by omega) dX11_leaf_103 rfl rfl rfl (Nat.le_of_ble_eq_true rfl) (Or.inl rfl) (by show 1 + 0 ≤ 1; omega) (by show 6 + 0 ≤ 6; omega) (by show 1 ≤ 2; omega) (by show 6 ≤ 12; omega) (s_X11_binaryDigits (mI M2 (mR M2 (mR M2 v0 8) 6) (mI M2 (mR M2 (mR M2 v0 8) 12) v1.toNatClampNeg).toNatClampNeg) M2 _ e26) ?_
      cases hf
      exact g_ireturn dX11_leaf_106 rfl (Nat.le_of_ble_eq_true rfl) (Nat.le_of_ble_eq_true rfl)
    have hf := ite_f c22 hf
    by_cases c27 : v2 = (5 : Int32)
    · have hf := ite_t c27 hf
      refine g_tsw (pc' := 107) (5 : Int32) dX11_leaf_27 c27 (by decide) (by decide) rfl (by decide) ?_
      refine g_aload_n (pc' := 108) dX11_leaf_107 rfl rfl ?_
      refine g_getR (pc' := 111) 11 8 rfl rfl (by decide) inX11 (by decide) rfl rfl q_45 dX11_leaf_108 rfl h4 ?_
      refine g_getR (pc' := 114) 5 5 rfl rfl (by decide) inX5 (by decide) rfl rfl q_797 dX11_leaf_111 rfl h5 ?_
      refine g_iload_n (pc' := 115) dX11_leaf_114 rfl rfl ?_
      obtain ⟨h28, hf⟩ := chk_s hf
      obtain ⟨b29, hf⟩ := chk_s hf
      refine g_iald (pc' := 116) dX11_leaf_115 rfl h28 (inB_in b29) ?_
      obtain ⟨r31, M30, e31, hf⟩ := bnd_some hf
      refine g_callSi (pc' := 119) (k' := 1) (u' := 6) (fr2 := 1) (As := [aI (mI M2 (mR M2 (mR M2 v0 8) 5) (mI M2 (mR M2 (mR M2 v0 8) 12) v1.toNatClampNeg).toNatClampNeg)]) (st := []) cf_X11_binaryDigits q_967 (by omega) dX11_leaf_116 rfl rfl rfl (Nat.le_of_ble_eq_true rfl) (Or.inl rfl) (by show 1 + 0 ≤ 1; omega) (by show 6 + 0 ≤ 6; omega) (by show 1 ≤ 2; omega) (by show 6 ≤ 12; omega) (s_X11_binaryDigits (mI M2 (mR M2 (mR M2 v0 8) 5) (mI M2 (mR M2 (mR M2 v0 8) 12) v1.toNatClampNeg).toNatClampNeg) M2 _ e31) ?_
      cases hf
      exact g_ireturn dX11_leaf_119 rfl (Nat.le_of_ble_eq_true rfl) (Nat.le_of_ble_eq_true rfl)
    have hf := ite_f c27 hf
    have nc11 := nei c11 (z := 0) (by decide)
    have nc12 := nei c12 (z := 1) (by decide)
    have nc14 := nei c14 (z := 2) (by decide)
    have nc18 := nei c18 (z := 3) (by decide)
    have nc22 := nei c22 (z := 4) (by decide)
    have nc27 := nei c27 (z := 5) (by decide)
    refine g_tableOut (pc' := 120) dX11_leaf_27 (by omega) (by decide) ?_
    cases hf
    exact g_throwN (xi := 1) rfl dX11_leaf_120 dX11_leaf_123 dX11_leaf_124 dX11_leaf_126 dX11_leaf_129 rfl rfl (by omega) (Nat.le_of_ble_eq_true rfl) (by show 1 + 1 ≤ 2; omega) (by show 6 + 6 ≤ 12; omega)
def f_X11_needEntry_25  (M : Mem) : Option ((Nat ⊕ Unit) × Mem) :=
  some (.inl 1, M)
def f_X11_needEntry (v0 : Nat) (v1 : Int32) (v2 : Int32) (M : Mem) : Option ((Nat ⊕ Unit) × Mem) :=
  if mK M v0 = 12 then
    bndX (f_X11_needLeaf v0 v1 M) fun _ M2 =>
    if v2 < 0 then
      f_X11_needEntry_25 M2
    else
      if mK M2 v0 = 12 then
        if mK M2 (mR M2 v0 6) = 8 then
          if mK M2 (mR M2 (mR M2 v0 6) 0) = 23 then
            if inB v1 (mN M2 (mR M2 (mR M2 v0 6) 0)) = true then
              if mK M2 (mR M2 (mR M2 (mR M2 v0 6) 0) v1.toNatClampNeg) = 3 then
                if v2 < (mI M2 (mR M2 (mR M2 (mR M2 v0 6) 0) v1.toNatClampNeg) 3) then
                  some (.inr (), M2)
                else
                  f_X11_needEntry_25 M2
              else none
            else none
          else none
        else none
      else none
  else none
theorem s_X11_needEntry_25  (M : Mem) (r : ((Nat ⊕ Unit) × Mem)) (hf : f_X11_needEntry_25  M = some r) : G mi_X11_needEntry 7 (oX oU r.1) r.2 25 [none, none, none] [] M 1 6 := by
  unfold f_X11_needEntry_25 at hf
  cases hf
  exact g_throwNW (xi := 5) rfl dX11_needEntry_25 dX11_needEntry_28 dX11_needEntry_29 dX11_needEntry_32 dX11_needEntry_35 rfl rfl (by omega) (Nat.le_of_ble_eq_true rfl) (by show 1 + 1 ≤ 2; omega) (by show 6 + 6 ≤ 12; omega)
theorem s_X11_needEntry (v0 : Nat) (v1 : Int32) (v2 : Int32) (M : Mem) (r : ((Nat ⊕ Unit) × Mem)) (hf : f_X11_needEntry v0 v1 v2 M = some r) : Sem mi_X11_needEntry (7) [aR v0, aI v1, aI v2] M (oX oU r.1) r.2 := by
  unfold f_X11_needEntry at hf
  refine sem_of (by decide) rfl rfl rfl (Nat.le_of_ble_eq_true rfl) (lv := [some (aR v0), some (aI v1), some (aI v2)]) rfl ?_
  refine g_aload_n (pc' := 1) dX11_needEntry_0 rfl rfl ?_
  refine g_iload_n (pc' := 2) dX11_needEntry_1 rfl rfl ?_
  obtain ⟨h1, hf⟩ := chk_s hf
  rcases bndX_some hf with ⟨e, M8, e3, rfl⟩ | ⟨_, M2, e3, hf⟩
  · exact g_callVX (fr2 := 6) (As := [aI v1]) (b := v0) (st := []) cf_X11_needLeaf q_959 (by omega) (ci := 11) rfl rfl (by decide) dX11_needEntry_2 rfl rfl (Nat.le_of_ble_eq_true rfl) (Or.inl rfl) rfl (by show 0 + 1 ≤ 2; omega) (by show 0 + 6 ≤ 12; omega) h1 (s_X11_needLeaf v0 v1 M _ e3)
  · refine g_callVv (pc' := 5) (k' := 1) (u' := 6) (fr2 := 6) (As := [aI v1]) (b := v0) (st := []) cf_X11_needLeaf q_959 (by omega) (ci := 11) rfl rfl (by decide) dX11_needEntry_2 rfl rfl rfl (Nat.le_of_ble_eq_true rfl) (Or.inl rfl) (by show 0 + 1 ≤ 1; omega) (by show 0 + 6 ≤ 6; omega) (by show 1 ≤ 2; omega) (by show 6 ≤ 12; omega) h1 (s_X11_needLeaf v0 v1 M _ e3) ?_
    refine g_iload_n (pc' := 6) dX11_needEntry_5 rfl rfl ?_
    refine g_if_lt (pc' := 9) 25 dX11_needEntry_6 rfl (by decide) (fun c4 => ?_) (fun c4 => ?_)
    · have hf := ite_t c4 hf
      refine g_mask [false, false, false] rfl ?_
      refine g_widen (k' := 1) (u' := 6) (by omega) (by omega) ?_
      exact s_X11_needEntry_25 M2 _ hf
    · have hf := ite_f c4 hf
      refine g_iload_n (pc' := 10) dX11_needEntry_9 rfl rfl ?_
      refine g_aload_n (pc' := 11) dX11_needEntry_10 rfl rfl ?_
      obtain ⟨h5, hf⟩ := chk_s hf
      refine g_getR (pc' := 14) 11 6 rfl rfl (by decide) inX11 (by decide) rfl rfl q_40 dX11_needEntry_11 rfl h5 ?_
      obtain ⟨h6, hf⟩ := chk_s hf
      refine g_getR (pc' := 17) 7 0 rfl rfl (by decide) inX7 (by decide) rfl rfl q_955 dX11_needEntry_14 rfl h6 ?_
      refine g_iload_n (pc' := 18) dX11_needEntry_17 rfl rfl ?_
      obtain ⟨h7, hf⟩ := chk_s hf
      obtain ⟨b8, hf⟩ := chk_s hf
      refine g_aald (pc' := 19) (t0 := 2) (fun _ => rfl) (by decide) dX11_needEntry_18 rfl h7 (inB_in b8) ?_
      obtain ⟨h9, hf⟩ := chk_s hf
      refine g_getI (pc' := 22) 2 3 rfl rfl (by decide) inX2 (by decide) rfl rfl q_956 dX11_needEntry_19 rfl h9 ?_
      refine g_icmp_lt (pc' := 25) 36 dX11_needEntry_22 rfl (by decide) (fun c10 => ?_) (fun c10 => ?_)
      · have hf := ite_t c10 hf
        cases hf
        exact g_return dX11_needEntry_36 rfl (Nat.le_of_ble_eq_true rfl) (Nat.le_of_ble_eq_true rfl)
      · have hf := ite_f c10 hf
        refine g_mask [false, false, false] rfl ?_
        refine g_widen (k' := 1) (u' := 6) (by omega) (by omega) ?_
        exact s_X11_needEntry_25 M2 _ hf
def f_X11_entry (v0 : Nat) (v1 : Int32) (v2 : Int32) (v3 : Int32) (M : Mem) : Option ((Nat ⊕ Int32) × Mem) :=
  if mK M v0 = 12 then
    bndX (f_X11_needEntry v0 v1 v2 M) fun _ M2 =>
    if mK M2 v0 = 12 then
      if mK M2 (mR M2 v0 6) = 8 then
        if mK M2 (mR M2 (mR M2 v0 6) 0) = 23 then
          if inB v1 (mN M2 (mR M2 (mR M2 v0 6) 0)) = true then
            if v3 = (0 : Int32) then
              if mK M2 (mR M2 (mR M2 (mR M2 v0 6) 0) v1.toNatClampNeg) = 3 then
                if mK M2 (mR M2 (mR M2 (mR M2 (mR M2 v0 6) 0) v1.toNatClampNeg) 0) = 21 then
                  if inB v2 (mN M2 (mR M2 (mR M2 (mR M2 (mR M2 v0 6) 0) v1.toNatClampNeg) 0)) = true then
                    some (.inr (mI M2 (mR M2 (mR M2 (mR M2 (mR M2 v0 6) 0) v1.toNatClampNeg) 0) v2.toNatClampNeg), M2)
                  else none
                else none
              else none
            else
            if v3 = (1 : Int32) then
              if mK M2 (mR M2 (mR M2 (mR M2 v0 6) 0) v1.toNatClampNeg) = 3 then
                if mK M2 (mR M2 (mR M2 (mR M2 (mR M2 v0 6) 0) v1.toNatClampNeg) 1) = 21 then
                  if inB v2 (mN M2 (mR M2 (mR M2 (mR M2 (mR M2 v0 6) 0) v1.toNatClampNeg) 1)) = true then
                    some (.inr (mI M2 (mR M2 (mR M2 (mR M2 (mR M2 v0 6) 0) v1.toNatClampNeg) 1) v2.toNatClampNeg), M2)
                  else none
                else none
              else none
            else
            if v3 = (2 : Int32) then
              if mK M2 (mR M2 (mR M2 (mR M2 v0 6) 0) v1.toNatClampNeg) = 3 then
                bnd (f_X2_hasValue (mR M2 (mR M2 (mR M2 v0 6) 0) v1.toNatClampNeg) v2 M2) fun r19 M18 =>
                if r19 = 0 then
                  some (.inr (-1 : Int32), M18)
                else
                  if mK M18 (mR M2 (mR M2 (mR M2 v0 6) 0) v1.toNatClampNeg) = 3 then
                    if mK M18 (mR M18 (mR M2 (mR M2 (mR M2 v0 6) 0) v1.toNatClampNeg) 2) = 21 then
                      if inB v2 (mN M18 (mR M18 (mR M2 (mR M2 (mR M2 v0 6) 0) v1.toNatClampNeg) 2)) = true then
                        some (.inr (mI M18 (mR M18 (mR M2 (mR M2 (mR M2 v0 6) 0) v1.toNatClampNeg) 2) v2.toNatClampNeg), M18)
                      else none
                    else none
                  else none
              else none
            else
            some (.inl 1, M2)
          else none
        else none
      else none
    else none
  else none
theorem s_X11_entry (v0 : Nat) (v1 : Int32) (v2 : Int32) (v3 : Int32) (M : Mem) (r : ((Nat ⊕ Int32) × Mem)) (hf : f_X11_entry v0 v1 v2 v3 M = some r) : Sem mi_X11_entry (8) [aR v0, aI v1, aI v2, aI v3] M (oX oI r.1) r.2 := by
  unfold f_X11_entry at hf
  refine sem_of (by decide) rfl rfl rfl (Nat.le_of_ble_eq_true rfl) (lv := [some (aR v0), some (aI v1), some (aI v2), some (aI v3), none]) rfl ?_
  refine g_aload_n (pc' := 1) dX11_entry_0 rfl rfl ?_
  refine g_iload_n (pc' := 2) dX11_entry_1 rfl rfl ?_
  refine g_iload_n (pc' := 3) dX11_entry_2 rfl rfl ?_
  obtain ⟨h1, hf⟩ := chk_s hf
  rcases bndX_some hf with ⟨e, M8, e3, rfl⟩ | ⟨_, M2, e3, hf⟩
  · exact g_callVX (fr2 := 7) (As := [aI v1, aI v2]) (b := v0) (st := []) cf_X11_needEntry q_993 (by omega) (ci := 11) rfl rfl (by decide) dX11_entry_3 rfl rfl (Nat.le_of_ble_eq_true rfl) (Or.inl rfl) rfl (by show 0 + 2 ≤ 3; omega) (by show 0 + 12 ≤ 18; omega) h1 (s_X11_needEntry v0 v1 v2 M _ e3)
  · refine g_callVv (pc' := 6) (k' := 2) (u' := 12) (fr2 := 7) (As := [aI v1, aI v2]) (b := v0) (st := []) cf_X11_needEntry q_993 (by omega) (ci := 11) rfl rfl (by decide) dX11_entry_3 rfl rfl rfl (Nat.le_of_ble_eq_true rfl) (Or.inl rfl) (by show 0 + 2 ≤ 2; omega) (by show 0 + 12 ≤ 12; omega) (by show 2 ≤ 3; omega) (by show 12 ≤ 18; omega) h1 (s_X11_needEntry v0 v1 v2 M _ e3) ?_
    refine g_aload_n (pc' := 7) dX11_entry_6 rfl rfl ?_
    obtain ⟨h4, hf⟩ := chk_s hf
    refine g_getR (pc' := 10) 11 6 rfl rfl (by decide) inX11 (by decide) rfl rfl q_40 dX11_entry_7 rfl h4 ?_
    obtain ⟨h5, hf⟩ := chk_s hf
    refine g_getR (pc' := 13) 7 0 rfl rfl (by decide) inX7 (by decide) rfl rfl q_955 dX11_entry_10 rfl h5 ?_
    refine g_iload_n (pc' := 14) dX11_entry_13 rfl rfl ?_
    obtain ⟨h6, hf⟩ := chk_s hf
    obtain ⟨b7, hf⟩ := chk_s hf
    refine g_aald (pc' := 15) (t0 := 2) (fun _ => rfl) (by decide) dX11_entry_14 rfl h6 (inB_in b7) ?_
    refine g_astore (pc' := 17) (lv' := [some (aR v0), some (aI v1), some (aI v2), some (aI v3), some (aR (mR M2 (mR M2 (mR M2 v0 6) 0) v1.toNatClampNeg))]) dX11_entry_15 rfl rfl (by decide) rfl ?_
    refine g_iload_n (pc' := 18) dX11_entry_17 rfl rfl ?_
    by_cases c8 : v3 = (0 : Int32)
    · have hf := ite_t c8 hf
      refine g_tsw (pc' := 44) (0 : Int32) dX11_entry_18 c8 (by decide) (by decide) rfl (by decide) ?_
      refine g_aload (pc' := 46) dX11_entry_44 rfl rfl ?_
      obtain ⟨h9, hf⟩ := chk_s hf
      refine g_getR (pc' := 49) 2 0 rfl rfl (by decide) inX2 (by decide) rfl rfl q_957 dX11_entry_46 rfl h9 ?_
      refine g_iload_n (pc' := 50) dX11_entry_49 rfl rfl ?_
      obtain ⟨h10, hf⟩ := chk_s hf
      obtain ⟨b11, hf⟩ := chk_s hf
      refine g_iald (pc' := 51) dX11_entry_50 rfl h10 (inB_in b11) ?_
      cases hf
      exact g_ireturn dX11_entry_51 rfl (Nat.le_of_ble_eq_true rfl) (Nat.le_of_ble_eq_true rfl)
    have hf := ite_f c8 hf
    by_cases c12 : v3 = (1 : Int32)
    · have hf := ite_t c12 hf
      refine g_tsw (pc' := 52) (1 : Int32) dX11_entry_18 c12 (by decide) (by decide) rfl (by decide) ?_
      refine g_aload (pc' := 54) dX11_entry_52 rfl rfl ?_
      obtain ⟨h13, hf⟩ := chk_s hf
      refine g_getR (pc' := 57) 2 1 rfl rfl (by decide) inX2 (by decide) rfl rfl q_958 dX11_entry_54 rfl h13 ?_
      refine g_iload_n (pc' := 58) dX11_entry_57 rfl rfl ?_
      obtain ⟨h14, hf⟩ := chk_s hf
      obtain ⟨b15, hf⟩ := chk_s hf
      refine g_iald (pc' := 59) dX11_entry_58 rfl h14 (inB_in b15) ?_
      cases hf
      exact g_ireturn dX11_entry_59 rfl (Nat.le_of_ble_eq_true rfl) (Nat.le_of_ble_eq_true rfl)
    have hf := ite_f c12 hf
    by_cases c16 : v3 = (2 : Int32)
    · have hf := ite_t c16 hf
      refine g_tsw (pc' := 60) (2 : Int32) dX11_entry_18 c16 (by decide) (by decide) rfl (by decide) ?_
      refine g_aload (pc' := 62) dX11_entry_60 rfl rfl ?_
      refine g_iload_n (pc' := 63) dX11_entry_62 rfl rfl ?_
      obtain ⟨h17, hf⟩ := chk_s hf
      obtain ⟨r19, M18, e19, hf⟩ := bnd_some hf
      refine g_callVi (pc' := 66) (k' := 2) (u' := 12) (fr2 := 1) (As := [aI v2]) (b := (mR M2 (mR M2 (mR M2 v0 6) 0) v1.toNatClampNeg)) (st := []) cf_X2_hasValue q_997 (by omega) (ci := 2) rfl rfl (by decide) dX11_entry_63 rfl rfl rfl (Nat.le_of_ble_eq_true rfl) (Or.inl rfl) (by show 2 + 0 ≤ 2; omega) (by show 12 + 0 ≤ 12; omega) (by show 2 ≤ 3; omega) (by show 12 ≤ 18; omega) h17 (s_X2_hasValue (mR M2 (mR M2 (mR M2 v0 6) 0) v1.toNatClampNeg) v2 M2 _ e19) ?_
      refine g_if_eq (pc' := 69) 79 dX11_entry_66 rfl (by decide) (fun c20 => ?_) (fun c20 => ?_)
      · have hf := ite_t c20 hf
        refine g_iconst (pc' := 80) (-1 : Int32) dX11_entry_79 rfl (by decide) ?_
        cases hf
        exact g_ireturn dX11_entry_80 rfl (Nat.le_of_ble_eq_true rfl) (Nat.le_of_ble_eq_true rfl)
      · have hf := ite_f c20 hf
        refine g_aload (pc' := 71) dX11_entry_69 rfl rfl ?_
        obtain ⟨h21, hf⟩ := chk_s hf
        refine g_getR (pc' := 74) 2 2 rfl rfl (by decide) inX2 (by decide) rfl rfl q_992 dX11_entry_71 rfl h21 ?_
        refine g_iload_n (pc' := 75) dX11_entry_74 rfl rfl ?_
        obtain ⟨h22, hf⟩ := chk_s hf
        obtain ⟨b23, hf⟩ := chk_s hf
        refine g_iald (pc' := 76) dX11_entry_75 rfl h22 (inB_in b23) ?_
        refine g_goto (pc' := 80) dX11_entry_76 (by decide) ?_
        cases hf
        exact g_ireturn dX11_entry_80 rfl (Nat.le_of_ble_eq_true rfl) (Nat.le_of_ble_eq_true rfl)
    have hf := ite_f c16 hf
    have nc8 := nei c8 (z := 0) (by decide)
    have nc12 := nei c12 (z := 1) (by decide)
    have nc16 := nei c16 (z := 2) (by decide)
    refine g_tableOut (pc' := 81) dX11_entry_18 (by omega) (by decide) ?_
    cases hf
    exact g_throwN (xi := 1) rfl dX11_entry_81 dX11_entry_84 dX11_entry_85 dX11_entry_87 dX11_entry_90 rfl rfl (by omega) (Nat.le_of_ble_eq_true rfl) (by show 2 + 1 ≤ 3; omega) (by show 12 + 6 ≤ 18; omega)
def f_X11_needRecord_15  (M : Mem) : Option ((Nat ⊕ Unit) × Mem) :=
  some (.inl 1, M)
def f_X11_needRecord (v0 : Nat) (v1 : Int32) (M : Mem) : Option ((Nat ⊕ Unit) × Mem) :=
  if v1 < 0 then
    f_X11_needRecord_15 M
  else
    if mK M v0 = 12 then
      if mK M (mR M v0 6) = 8 then
        if v1 < (mI M (mR M v0 6) 1) then
          some (.inr (), M)
        else
          f_X11_needRecord_15 M
      else none
    else none
theorem s_X11_needRecord_15  (M : Mem) (r : ((Nat ⊕ Unit) × Mem)) (hf : f_X11_needRecord_15  M = some r) : G mi_X11_needRecord 6 (oX oU r.1) r.2 15 [none, none] [] M 0 0 := by
  unfold f_X11_needRecord_15 at hf
  cases hf
  exact g_throwNW (xi := 6) rfl dX11_needRecord_15 dX11_needRecord_18 dX11_needRecord_19 dX11_needRecord_22 dX11_needRecord_25 rfl rfl (by omega) (Nat.le_of_ble_eq_true rfl) (by show 0 + 1 ≤ 1; omega) (by show 0 + 6 ≤ 6; omega)
theorem s_X11_needRecord (v0 : Nat) (v1 : Int32) (M : Mem) (r : ((Nat ⊕ Unit) × Mem)) (hf : f_X11_needRecord v0 v1 M = some r) : Sem mi_X11_needRecord (6) [aR v0, aI v1] M (oX oU r.1) r.2 := by
  unfold f_X11_needRecord at hf
  refine sem_of (by decide) rfl rfl rfl (Nat.le_of_ble_eq_true rfl) (lv := [some (aR v0), some (aI v1)]) rfl ?_
  refine g_iload_n (pc' := 1) dX11_needRecord_0 rfl rfl ?_
  refine g_if_lt (pc' := 4) 15 dX11_needRecord_1 rfl (by decide) (fun c1 => ?_) (fun c1 => ?_)
  · have hf := ite_t c1 hf
    refine g_mask [false, false] rfl ?_
    exact s_X11_needRecord_15 M _ hf
  · have hf := ite_f c1 hf
    refine g_iload_n (pc' := 5) dX11_needRecord_4 rfl rfl ?_
    refine g_aload_n (pc' := 6) dX11_needRecord_5 rfl rfl ?_
    obtain ⟨h2, hf⟩ := chk_s hf
    refine g_getR (pc' := 9) 11 6 rfl rfl (by decide) inX11 (by decide) rfl rfl q_40 dX11_needRecord_6 rfl h2 ?_
    obtain ⟨h3, hf⟩ := chk_s hf
    refine g_getI (pc' := 12) 7 1 rfl rfl (by decide) inX7 (by decide) rfl rfl q_796 dX11_needRecord_9 rfl h3 ?_
    refine g_icmp_lt (pc' := 15) 26 dX11_needRecord_12 rfl (by decide) (fun c4 => ?_) (fun c4 => ?_)
    · have hf := ite_t c4 hf
      cases hf
      exact g_return dX11_needRecord_26 rfl (Nat.le_of_ble_eq_true rfl) (Nat.le_of_ble_eq_true rfl)
    · have hf := ite_f c4 hf
      refine g_mask [false, false] rfl ?_
      exact s_X11_needRecord_15 M _ hf
def f_X11_skip_29 (v0 : Nat) (v1 : Int32) (v2 : Int32) (v3 : Int32) (M : Mem) : Option ((Nat ⊕ Int32) × Mem) :=
  if mK M v0 = 12 then
    if mK M (mR M v0 6) = 8 then
      if mK M (mR M (mR M v0 6) 0) = 23 then
        if inB v1 (mN M (mR M (mR M v0 6) 0)) = true then
          if mK M (mR M (mR M (mR M v0 6) 0) v1.toNatClampNeg) = 3 then
            bnd (f_X2_firstOf (mR M (mR M (mR M v0 6) 0) v1.toNatClampNeg) v2 M) fun r7 M6 =>
            if r7 = (-1 : Int32) then
              some (.inr r7, M6)
            else
              if v3 = 0 then
                some (.inr r7, M6)
              else
                if mK M6 (mR M (mR M (mR M v0 6) 0) v1.toNatClampNeg) = 3 then
                  bnd (f_X2_behind (mR M (mR M (mR M v0 6) 0) v1.toNatClampNeg) r7 (0 : Int32) M6) fun r12 M11 =>
                  some (.inr (r12 - r7), M11)
                else none
          else none
        else none
      else none
    else none
  else none
def f_X11_skip (v0 : Nat) (v1 : Int32) (v2 : Int32) (v3 : Int32) (M : Mem) : Option ((Nat ⊕ Int32) × Mem) :=
  if mK M v0 = 12 then
    bndX (f_X11_needLeaf v0 v1 M) fun _ M2 =>
    if mK M2 v0 = 12 then
      bndX (f_X11_needRecord v0 v2 M2) fun _ M5 =>
      if v3 = 0 then
        f_X11_skip_29 v0 v1 v2 v3 M5
      else
        if v3 = (1 : Int32) then
          f_X11_skip_29 v0 v1 v2 v3 M5
        else
          some (.inl 1, M5)
    else none
  else none
theorem s_X11_skip_29 (v0 : Nat) (v1 : Int32) (v2 : Int32) (v3 : Int32) (M : Mem) (r : ((Nat ⊕ Int32) × Mem)) (hf : f_X11_skip_29 v0 v1 v2 v3 M = some r) : G mi_X11_skip 7 (oX oI r.1) r.2 29 [some (aR v0), some (aI v1), some (aI v2), some (aI v3), none, none] [] M 2 12 := by
  unfold f_X11_skip_29 at hf
  refine g_aload_n (pc' := 30) dX11_skip_29 rfl rfl ?_
  obtain ⟨h1, hf⟩ := chk_s hf
  refine g_getR (pc' := 33) 11 6 rfl rfl (by decide) inX11 (by decide) rfl rfl q_40 dX11_skip_30 rfl h1 ?_
  obtain ⟨h2, hf⟩ := chk_s hf
  refine g_getR (pc' := 36) 7 0 rfl rfl (by decide) inX7 (by decide) rfl rfl q_955 dX11_skip_33 rfl h2 ?_
  refine g_iload_n (pc' := 37) dX11_skip_36 rfl rfl ?_
  obtain ⟨h3, hf⟩ := chk_s hf
  obtain ⟨b4, hf⟩ := chk_s hf
  refine g_aald (pc' := 38) (t0 := 2) (fun _ => rfl) (by decide) dX11_skip_37 rfl h3 (inB_in b4) ?_
  refine g_astore (pc' := 40) (lv' := [some (aR v0), some (aI v1), some (aI v2), some (aI v3), some (aR (mR M (mR M (mR M v0 6) 0) v1.toNatClampNeg)), none]) dX11_skip_38 rfl rfl (by decide) rfl ?_
  refine g_aload (pc' := 42) dX11_skip_40 rfl rfl ?_
  refine g_iload_n (pc' := 43) dX11_skip_42 rfl rfl ?_
  obtain ⟨h5, hf⟩ := chk_s hf
  obtain ⟨r7, M6, e7, hf⟩ := bnd_some hf
  refine g_callVi (pc' := 46) (k' := 2) (u' := 12) (fr2 := 1) (As := [aI v2]) (b := (mR M (mR M (mR M v0 6) 0) v1.toNatClampNeg)) (st := []) cf_X2_firstOf q_1025 (by omega) (ci := 2) rfl rfl (by decide) dX11_skip_43 rfl rfl rfl (Nat.le_of_ble_eq_true rfl) (Or.inl rfl) (by show 2 + 0 ≤ 2; omega) (by show 12 + 0 ≤ 12; omega) (by show 2 ≤ 3; omega) (by show 12 ≤ 18; omega) h5 (s_X2_firstOf (mR M (mR M (mR M v0 6) 0) v1.toNatClampNeg) v2 M _ e7) ?_
  refine g_istore (pc' := 48) (lv' := [some (aR v0), some (aI v1), some (aI v2), some (aI v3), some (aR (mR M (mR M (mR M v0 6) 0) v1.toNatClampNeg)), some (aI r7)]) dX11_skip_46 rfl rfl (by decide) rfl ?_
  refine g_iload (pc' := 50) dX11_skip_48 rfl rfl ?_
  refine g_iconst (pc' := 51) (-1 : Int32) dX11_skip_50 rfl (by decide) ?_
  refine g_icmp_eq (pc' := 54) 58 dX11_skip_51 rfl (by decide) (fun c8 => ?_) (fun c8 => ?_)
  · have hf := ite_t c8 hf
    refine g_iload (pc' := 60) dX11_skip_58 rfl rfl ?_
    cases hf
    exact g_ireturn dX11_skip_60 rfl (Nat.le_of_ble_eq_true rfl) (Nat.le_of_ble_eq_true rfl)
  · have hf := ite_f c8 hf
    refine g_iload_n (pc' := 55) dX11_skip_54 rfl rfl ?_
    refine g_if_ne (pc' := 58) 61 dX11_skip_55 rfl (by decide) (fun c9 => ?_) (fun c9 => ?_)
    · have hf := ite_f c9 hf
      refine g_aload (pc' := 63) dX11_skip_61 rfl rfl ?_
      refine g_iload (pc' := 65) dX11_skip_63 rfl rfl ?_
      refine g_iconst (pc' := 66) (0 : Int32) dX11_skip_65 rfl (by decide) ?_
      obtain ⟨h10, hf⟩ := chk_s hf
      obtain ⟨r12, M11, e12, hf⟩ := bnd_some hf
      refine g_callVi (pc' := 69) (k' := 2) (u' := 12) (fr2 := 1) (As := [aI r7, aI (0 : Int32)]) (b := (mR M (mR M (mR M v0 6) 0) v1.toNatClampNeg)) (st := []) cf_X2_behind q_1029 (by omega) (ci := 2) rfl rfl (by decide) dX11_skip_66 rfl rfl rfl (Nat.le_of_ble_eq_true rfl) (Or.inl rfl) (by show 2 + 0 ≤ 2; omega) (by show 12 + 0 ≤ 12; omega) (by show 2 ≤ 3; omega) (by show 12 ≤ 18; omega) h10 (s_X2_behind (mR M (mR M (mR M v0 6) 0) v1.toNatClampNeg) r7 (0 : Int32) M6 _ e12) ?_
      refine g_iload (pc' := 71) dX11_skip_69 rfl rfl ?_
      refine g_isub (pc' := 72) dX11_skip_71 rfl ?_
      cases hf
      exact g_ireturn dX11_skip_72 rfl (Nat.le_of_ble_eq_true rfl) (Nat.le_of_ble_eq_true rfl)
    · have hf := ite_t c9 hf
      refine g_iload (pc' := 60) dX11_skip_58 rfl rfl ?_
      cases hf
      exact g_ireturn dX11_skip_60 rfl (Nat.le_of_ble_eq_true rfl) (Nat.le_of_ble_eq_true rfl)
theorem s_X11_skip (v0 : Nat) (v1 : Int32) (v2 : Int32) (v3 : Int32) (M : Mem) (r : ((Nat ⊕ Int32) × Mem)) (hf : f_X11_skip v0 v1 v2 v3 M = some r) : Sem mi_X11_skip (7) [aR v0, aI v1, aI v2, aI v3] M (oX oI r.1) r.2 := by
  unfold f_X11_skip at hf
  refine sem_of (by decide) rfl rfl rfl (Nat.le_of_ble_eq_true rfl) (lv := [some (aR v0), some (aI v1), some (aI v2), some (aI v3), none, none]) rfl ?_
  refine g_aload_n (pc' := 1) dX11_skip_0 rfl rfl ?_
  refine g_iload_n (pc' := 2) dX11_skip_1 rfl rfl ?_
  obtain ⟨h1, hf⟩ := chk_s hf
  rcases bndX_some hf with ⟨e, M8, e3, rfl⟩ | ⟨_, M2, e3, hf⟩
  · exact g_callVX (fr2 := 6) (As := [aI v1]) (b := v0) (st := []) cf_X11_needLeaf q_959 (by omega) (ci := 11) rfl rfl (by decide) dX11_skip_2 rfl rfl (Nat.le_of_ble_eq_true rfl) (Or.inl rfl) rfl (by show 0 + 1 ≤ 3; omega) (by show 0 + 6 ≤ 18; omega) h1 (s_X11_needLeaf v0 v1 M _ e3)
  · refine g_callVv (pc' := 5) (k' := 1) (u' := 6) (fr2 := 6) (As := [aI v1]) (b := v0) (st := []) cf_X11_needLeaf q_959 (by omega) (ci := 11) rfl rfl (by decide) dX11_skip_2 rfl rfl rfl (Nat.le_of_ble_eq_true rfl) (Or.inl rfl) (by show 0 + 1 ≤ 1; omega) (by show 0 + 6 ≤ 6; omega) (by show 1 ≤ 3; omega) (by show 6 ≤ 18; omega) h1 (s_X11_needLeaf v0 v1 M _ e3) ?_
    refine g_aload_n (pc' := 6) dX11_skip_5 rfl rfl ?_
    refine g_iload_n (pc' := 7) dX11_skip_6 rfl rfl ?_
    obtain ⟨h4, hf⟩ := chk_s hf
    rcases bndX_some hf with ⟨e, M8, e6, rfl⟩ | ⟨_, M5, e6, hf⟩
    · exact g_callVX (fr2 := 6) (As := [aI v2]) (b := v0) (st := []) cf_X11_needRecord q_1021 (by omega) (ci := 11) rfl rfl (by decide) dX11_skip_7 rfl rfl (Nat.le_of_ble_eq_true rfl) (Or.inl rfl) rfl (by show 1 + 1 ≤ 3; omega) (by show 6 + 6 ≤ 18; omega) h4 (s_X11_needRecord v0 v2 M2 _ e6)
    · refine g_callVv (pc' := 10) (k' := 2) (u' := 12) (fr2 := 6) (As := [aI v2]) (b := v0) (st := []) cf_X11_needRecord q_1021 (by omega) (ci := 11) rfl rfl (by decide) dX11_skip_7 rfl rfl rfl (Nat.le_of_ble_eq_true rfl) (Or.inl rfl) (by show 1 + 1 ≤ 2; omega) (by show 6 + 6 ≤ 12; omega) (by show 2 ≤ 3; omega) (by show 12 ≤ 18; omega) h4 (s_X11_needRecord v0 v2 M2 _ e6) ?_
      refine g_iload_n (pc' := 11) dX11_skip_10 rfl rfl ?_
      refine g_if_eq (pc' := 14) 29 dX11_skip_11 rfl (by decide) (fun c7 => ?_) (fun c7 => ?_)
      · have hf := ite_t c7 hf
        refine g_widen (k' := 2) (u' := 12) (by omega) (by omega) ?_
        exact s_X11_skip_29 v0 v1 v2 v3 M5 _ hf
      · have hf := ite_f c7 hf
        refine g_iload_n (pc' := 15) dX11_skip_14 rfl rfl ?_
        refine g_iconst (pc' := 16) (1 : Int32) dX11_skip_15 rfl (by decide) ?_
        refine g_icmp_eq (pc' := 19) 29 dX11_skip_16 rfl (by decide) (fun c8 => ?_) (fun c8 => ?_)
        · have hf := ite_t c8 hf
          refine g_widen (k' := 2) (u' := 12) (by omega) (by omega) ?_
          exact s_X11_skip_29 v0 v1 v2 v3 M5 _ hf
        · have hf := ite_f c8 hf
          cases hf
          exact g_throwN (xi := 1) rfl dX11_skip_19 dX11_skip_22 dX11_skip_23 dX11_skip_25 dX11_skip_28 rfl rfl (by omega) (Nat.le_of_ble_eq_true rfl) (by show 2 + 1 ≤ 3; omega) (by show 12 + 6 ≤ 18; omega)
def f_X11_needSet_16  (M : Mem) : Option ((Nat ⊕ Unit) × Mem) :=
  some (.inl 2, M)
def f_X11_needSet (v0 : Nat) (v1 : Int32) (M : Mem) : Option ((Nat ⊕ Unit) × Mem) :=
  if v1 ≤ 0 then
    f_X11_needSet_16 M
  else
    if mK M v0 = 12 then
      if mK M (mR M v0 8) = 6 then
        if ((v1.toUInt32 >>> ((mI M (mR M v0 8) 1).toUInt32 &&& Int32.toUInt32 31)).toInt32) = 0 then
          some (.inr (), M)
        else
          f_X11_needSet_16 M
      else none
    else none
theorem s_X11_needSet_16  (M : Mem) (r : ((Nat ⊕ Unit) × Mem)) (hf : f_X11_needSet_16  M = some r) : G mi_X11_needSet 6 (oX oU r.1) r.2 16 [none, none] [] M 0 0 := by
  unfold f_X11_needSet_16 at hf
  cases hf
  exact g_throwAW (xi := 8) rfl dX11_needSet_16 dX11_needSet_19 dX11_needSet_20 dX11_needSet_23 dX11_needSet_26 rfl rfl (by omega) (Nat.le_of_ble_eq_true rfl) (by show 0 + 1 ≤ 1; omega) (by show 0 + 6 ≤ 6; omega)
theorem s_X11_needSet (v0 : Nat) (v1 : Int32) (M : Mem) (r : ((Nat ⊕ Unit) × Mem)) (hf : f_X11_needSet v0 v1 M = some r) : Sem mi_X11_needSet (6) [aR v0, aI v1] M (oX oU r.1) r.2 := by
  unfold f_X11_needSet at hf
  refine sem_of (by decide) rfl rfl rfl (Nat.le_of_ble_eq_true rfl) (lv := [some (aR v0), some (aI v1)]) rfl ?_
  refine g_iload_n (pc' := 1) dX11_needSet_0 rfl rfl ?_
  refine g_if_le (pc' := 4) 16 dX11_needSet_1 rfl (by decide) (fun c1 => ?_) (fun c1 => ?_)
  · have hf := ite_t c1 hf
    refine g_mask [false, false] rfl ?_
    exact s_X11_needSet_16 M _ hf
  · have hf := ite_f c1 hf
    refine g_iload_n (pc' := 5) dX11_needSet_4 rfl rfl ?_
    refine g_aload_n (pc' := 6) dX11_needSet_5 rfl rfl ?_
    obtain ⟨h2, hf⟩ := chk_s hf
    refine g_getR (pc' := 9) 11 8 rfl rfl (by decide) inX11 (by decide) rfl rfl q_45 dX11_needSet_6 rfl h2 ?_
    obtain ⟨h3, hf⟩ := chk_s hf
    refine g_getI (pc' := 12) 5 1 rfl rfl (by decide) inX5 (by decide) rfl rfl q_477 dX11_needSet_9 rfl h3 ?_
    refine g_iushr (pc' := 13) dX11_needSet_12 rfl ?_
    refine g_if_eq (pc' := 16) 27 dX11_needSet_13 rfl (by decide) (fun c4 => ?_) (fun c4 => ?_)
    · have hf := ite_t c4 hf
      cases hf
      exact g_return dX11_needSet_27 rfl (Nat.le_of_ble_eq_true rfl) (Nat.le_of_ble_eq_true rfl)
    · have hf := ite_f c4 hf
      refine g_mask [false, false] rfl ?_
      exact s_X11_needSet_16 M _ hf
def f_X11_next_58  (M : Mem) : Option ((Nat ⊕ Int32) × Mem) :=
  some (.inl 2, M)
def f_X11_next_18  (M : Mem) : Option ((Nat ⊕ Int32) × Mem) :=
  some (.inl 1, M)
def f_X11_next (v0 : Nat) (v1 : Int32) (v2 : Int32) (v3 : Int32) (M : Mem) : Option ((Nat ⊕ Int32) × Mem) :=
  if v2 < 0 then
    f_X11_next_18 M
  else
    if (31 : Int32) < v2 then
      f_X11_next_18 M
    else
      if (((v1.toUInt32 >>> (v2.toUInt32 &&& Int32.toUInt32 31)).toInt32) &&& (1 : Int32)) = 0 then
        f_X11_next_18 M
      else
        if mK M v0 = 12 then
          bndX (f_X11_needSet v0 v1 M) fun _ M5 =>
          if v3 < 0 then
            f_X11_next_58 M5
          else
            if mK M5 v0 = 12 then
              if mK M5 (mR M5 v0 8) = 6 then
                if mK M5 (mR M5 (mR M5 v0 8) 12) = 21 then
                  if inB v2 (mN M5 (mR M5 (mR M5 v0 8) 12)) = true then
                    if mK M5 (mR M5 (mR M5 v0 8) 6) = 21 then
                      if inB (mI M5 (mR M5 (mR M5 v0 8) 12) v2.toNatClampNeg) (mN M5 (mR M5 (mR M5 v0 8) 6)) = true then
                        if v3 ≤ (mI M5 (mR M5 (mR M5 v0 8) 6) (mI M5 (mR M5 (mR M5 v0 8) 12) v2.toNatClampNeg).toNatClampNeg) then
                          bnd (f_X5_leafAfter (mR M5 v0 8) v1 v2 v3 M5) fun r16 M15 =>
                          some (.inr r16, M15)
                        else
                          f_X11_next_58 M5
                      else none
                    else none
                  else none
                else none
              else none
            else none
        else none
theorem s_X11_next_58  (M : Mem) (r : ((Nat ⊕ Int32) × Mem)) (hf : f_X11_next_58  M = some r) : G mi_X11_next 7 (oX oI r.1) r.2 58 [none, none, none, none] [] M 1 6 := by
  unfold f_X11_next_58 at hf
  cases hf
  exact g_throwAW (xi := 9) rfl dX11_next_58 dX11_next_61 dX11_next_62 dX11_next_65 dX11_next_68 rfl rfl (by omega) (Nat.le_of_ble_eq_true rfl) (by show 1 + 1 ≤ 2; omega) (by show 6 + 6 ≤ 12; omega)
theorem s_X11_next_18  (M : Mem) (r : ((Nat ⊕ Int32) × Mem)) (hf : f_X11_next_18  M = some r) : G mi_X11_next 7 (oX oI r.1) r.2 18 [none, none, none, none] [] M 0 0 := by
  unfold f_X11_next_18 at hf
  cases hf
  exact g_throwN (xi := 7) rfl dX11_next_18 dX11_next_21 dX11_next_22 dX11_next_24 dX11_next_27 rfl rfl (by omega) (Nat.le_of_ble_eq_true rfl) (by show 0 + 1 ≤ 2; omega) (by show 0 + 6 ≤ 12; omega)
theorem s_X11_next (v0 : Nat) (v1 : Int32) (v2 : Int32) (v3 : Int32) (M : Mem) (r : ((Nat ⊕ Int32) × Mem)) (hf : f_X11_next v0 v1 v2 v3 M = some r) : Sem mi_X11_next (7) [aR v0, aI v1, aI v2, aI v3] M (oX oI r.1) r.2 := by
  unfold f_X11_next at hf
  refine sem_of (by decide) rfl rfl rfl (Nat.le_of_ble_eq_true rfl) (lv := [some (aR v0), some (aI v1), some (aI v2), some (aI v3)]) rfl ?_
  refine g_iload_n (pc' := 1) dX11_next_0 rfl rfl ?_
  refine g_if_lt (pc' := 4) 18 dX11_next_1 rfl (by decide) (fun c1 => ?_) (fun c1 => ?_)
  · have hf := ite_t c1 hf
    refine g_mask [false, false, false, false] rfl ?_
    exact s_X11_next_18 M _ hf
  · have hf := ite_f c1 hf
    refine g_iload_n (pc' := 5) dX11_next_4 rfl rfl ?_
    refine g_bipush (pc' := 7) (31 : Int32) dX11_next_5 rfl (by decide) ?_
    refine g_icmp_gt (pc' := 10) 18 dX11_next_7 rfl (by decide) (fun c2 => ?_) (fun c2 => ?_)
    · have hf := ite_t c2 hf
      refine g_mask [false, false, false, false] rfl ?_
      exact s_X11_next_18 M _ hf
    · have hf := ite_f c2 hf
      refine g_iload_n (pc' := 11) dX11_next_10 rfl rfl ?_
      refine g_iload_n (pc' := 12) dX11_next_11 rfl rfl ?_
      refine g_iushr (pc' := 13) dX11_next_12 rfl ?_
      refine g_iconst (pc' := 14) (1 : Int32) dX11_next_13 rfl (by decide) ?_
      refine g_iand (pc' := 15) dX11_next_14 rfl ?_
      refine g_if_ne (pc' := 18) 28 dX11_next_15 rfl (by decide) (fun c3 => ?_) (fun c3 => ?_)
      · have hf := ite_f c3 hf
        refine g_aload_n (pc' := 29) dX11_next_28 rfl rfl ?_
        refine g_iload_n (pc' := 30) dX11_next_29 rfl rfl ?_
        obtain ⟨h4, hf⟩ := chk_s hf
        rcases bndX_some hf with ⟨e, M8, e6, rfl⟩ | ⟨_, M5, e6, hf⟩
        · exact g_callVX (fr2 := 6) (As := [aI v1]) (b := v0) (st := []) cf_X11_needSet q_1053 (by omega) (ci := 11) rfl rfl (by decide) dX11_next_30 rfl rfl (Nat.le_of_ble_eq_true rfl) (Or.inl rfl) rfl (by show 0 + 1 ≤ 2; omega) (by show 0 + 6 ≤ 12; omega) h4 (s_X11_needSet v0 v1 M _ e6)
        · refine g_callVv (pc' := 33) (k' := 1) (u' := 6) (fr2 := 6) (As := [aI v1]) (b := v0) (st := []) cf_X11_needSet q_1053 (by omega) (ci := 11) rfl rfl (by decide) dX11_next_30 rfl rfl rfl (Nat.le_of_ble_eq_true rfl) (Or.inl rfl) (by show 0 + 1 ≤ 1; omega) (by show 0 + 6 ≤ 6; omega) (by show 1 ≤ 2; omega) (by show 6 ≤ 12; omega) h4 (s_X11_needSet v0 v1 M _ e6) ?_
          refine g_iload_n (pc' := 34) dX11_next_33 rfl rfl ?_
          refine g_if_lt (pc' := 37) 58 dX11_next_34 rfl (by decide) (fun c7 => ?_) (fun c7 => ?_)
          · have hf := ite_t c7 hf
            refine g_mask [false, false, false, false] rfl ?_
            refine g_widen (k' := 1) (u' := 6) (by omega) (by omega) ?_
            exact s_X11_next_58 M5 _ hf
          · have hf := ite_f c7 hf
            refine g_iload_n (pc' := 38) dX11_next_37 rfl rfl ?_
            refine g_aload_n (pc' := 39) dX11_next_38 rfl rfl ?_
            obtain ⟨h8, hf⟩ := chk_s hf
            refine g_getR (pc' := 42) 11 8 rfl rfl (by decide) inX11 (by decide) rfl rfl q_45 dX11_next_39 rfl h8 ?_
            obtain ⟨h9, hf⟩ := chk_s hf
            refine g_getR (pc' := 45) 5 6 rfl rfl (by decide) inX5 (by decide) rfl rfl q_798 dX11_next_42 rfl h9 ?_
            refine g_aload_n (pc' := 46) dX11_next_45 rfl rfl ?_
            refine g_getR (pc' := 49) 11 8 rfl rfl (by decide) inX11 (by decide) rfl rfl q_45 dX11_next_46 rfl h8 ?_
            refine g_getR (pc' := 52) 5 12 rfl rfl (by decide) inX5 (by decide) rfl rfl q_954 dX11_next_49 rfl h9 ?_
            refine g_iload_n (pc' := 53) dX11_next_52 rfl rfl ?_
            obtain ⟨h10, hf⟩ := chk_s hf
            obtain ⟨b11, hf⟩ := chk_s hf
            refine g_iald (pc' := 54) dX11_next_53 rfl h10 (inB_in b11) ?_
            obtain ⟨h12, hf⟩ := chk_s hf
            obtain ⟨b13, hf⟩ := chk_s hf
            refine g_iald (pc' := 55) dX11_next_54 rfl h12 (inB_in b13) ?_
            refine g_icmp_le (pc' := 58) 69 dX11_next_55 rfl (by decide) (fun c14 => ?_) (fun c14 => ?_)
            · have hf := ite_t c14 hf
              refine g_aload_n (pc' := 70) dX11_next_69 rfl rfl ?_
              refine g_getR (pc' := 73) 11 8 rfl rfl (by decide) inX11 (by decide) rfl rfl q_45 dX11_next_70 rfl h8 ?_
              refine g_iload_n (pc' := 74) dX11_next_73 rfl rfl ?_
              refine g_iload_n (pc' := 75) dX11_next_74 rfl rfl ?_
              refine g_iload_n (pc' := 76) dX11_next_75 rfl rfl ?_
              obtain ⟨r16, M15, e16, hf⟩ := bnd_some hf
              refine g_callVi (pc' := 79) (k' := 1) (u' := 6) (fr2 := 3) (As := [aI v1, aI v2, aI v3]) (b := (mR M5 v0 8)) (st := []) cf_X5_leafAfter q_1057 (by omega) (ci := 5) rfl rfl (by decide) dX11_next_76 rfl rfl rfl (Nat.le_of_ble_eq_true rfl) (Or.inl rfl) (by show 1 + 0 ≤ 1; omega) (by show 6 + 0 ≤ 6; omega) (by show 1 ≤ 2; omega) (by show 6 ≤ 12; omega) h9 (s_X5_leafAfter (mR M5 v0 8) v1 v2 v3 M5 _ e16) ?_
              cases hf
              exact g_ireturn dX11_next_79 rfl (Nat.le_of_ble_eq_true rfl) (Nat.le_of_ble_eq_true rfl)
            · have hf := ite_f c14 hf
              refine g_mask [false, false, false, false] rfl ?_
              refine g_widen (k' := 1) (u' := 6) (by omega) (by omega) ?_
              exact s_X11_next_58 M5 _ hf
      · have hf := ite_t c3 hf
        refine g_mask [false, false, false, false] rfl ?_
        exact s_X11_next_18 M _ hf
def f_X11_length (v0 : Nat) (v1 : Int32) (v2 : Int32) (M : Mem) : Option ((Nat ⊕ Int32) × Mem) :=
  if mK M v0 = 12 then
    bndX (f_X11_needRecord v0 v1 M) fun _ M2 =>
    if mK M2 v0 = 12 then
      bndX (f_X11_needSet v0 v2 M2) fun _ M5 =>
      if mK M5 v0 = 12 then
        bnd (f_X11_isWrong v0 M5) fun r9 M8 =>
        if r9 = 0 then
          if mK M8 v0 = 12 then
            if mK M8 (mR M8 v0 4) = 9 then
              bnd (f_X8_tell (mR M8 v0 4) (mR M8 v0 8) (mR M8 v0 8) (mR M8 v0 6) v1 v2 (-1 : Int32) M8) fun r14 M13 =>
              some (.inr r14, M13)
            else none
          else none
        else
          some (.inr (-1 : Int32), M8)
      else none
    else none
  else none
theorem s_X11_length (v0 : Nat) (v1 : Int32) (v2 : Int32) (M : Mem) (r : ((Nat ⊕ Int32) × Mem)) (hf : f_X11_length v0 v1 v2 M = some r) : Sem mi_X11_length (38) [aR v0, aI v1, aI v2] M (oX oI r.1) r.2 := by
  unfold f_X11_length at hf
  refine sem_of (by decide) rfl rfl rfl (Nat.le_of_ble_eq_true rfl) (lv := [some (aR v0), some (aI v1), some (aI v2)]) rfl ?_
  refine g_aload_n (pc' := 1) dX11_length_0 rfl rfl ?_
  refine g_iload_n (pc' := 2) dX11_length_1 rfl rfl ?_
  obtain ⟨h1, hf⟩ := chk_s hf
  rcases bndX_some hf with ⟨e, M8, e3, rfl⟩ | ⟨_, M2, e3, hf⟩
  · exact g_callVX (fr2 := 6) (As := [aI v1]) (b := v0) (st := []) cf_X11_needRecord q_1021 (by omega) (ci := 11) rfl rfl (by decide) dX11_length_2 rfl rfl (Nat.le_of_ble_eq_true rfl) (Or.inl rfl) rfl (by show 0 + 1 ≤ 2; omega) (by show 0 + 6 ≤ 12; omega) h1 (s_X11_needRecord v0 v1 M _ e3)
  · refine g_callVv (pc' := 5) (k' := 1) (u' := 6) (fr2 := 6) (As := [aI v1]) (b := v0) (st := []) cf_X11_needRecord q_1021 (by omega) (ci := 11) rfl rfl (by decide) dX11_length_2 rfl rfl rfl (Nat.le_of_ble_eq_true rfl) (Or.inl rfl) (by show 0 + 1 ≤ 1; omega) (by show 0 + 6 ≤ 6; omega) (by show 1 ≤ 2; omega) (by show 6 ≤ 12; omega) h1 (s_X11_needRecord v0 v1 M _ e3) ?_
    refine g_aload_n (pc' := 6) dX11_length_5 rfl rfl ?_
    refine g_iload_n (pc' := 7) dX11_length_6 rfl rfl ?_
    obtain ⟨h4, hf⟩ := chk_s hf
    rcases bndX_some hf with ⟨e, M8, e6, rfl⟩ | ⟨_, M5, e6, hf⟩
    · exact g_callVX (fr2 := 6) (As := [aI v2]) (b := v0) (st := []) cf_X11_needSet q_1053 (by omega) (ci := 11) rfl rfl (by decide) dX11_length_7 rfl rfl (Nat.le_of_ble_eq_true rfl) (Or.inl rfl) rfl (by show 1 + 1 ≤ 2; omega) (by show 6 + 6 ≤ 12; omega) h4 (s_X11_needSet v0 v2 M2 _ e6)
    · refine g_callVv (pc' := 10) (k' := 2) (u' := 12) (fr2 := 6) (As := [aI v2]) (b := v0) (st := []) cf_X11_needSet q_1053 (by omega) (ci := 11) rfl rfl (by decide) dX11_length_7 rfl rfl rfl (Nat.le_of_ble_eq_true rfl) (Or.inl rfl) (by show 1 + 1 ≤ 2; omega) (by show 6 + 6 ≤ 12; omega) (by show 2 ≤ 2; omega) (by show 12 ≤ 12; omega) h4 (s_X11_needSet v0 v2 M2 _ e6) ?_
      refine g_aload_n (pc' := 11) dX11_length_10 rfl rfl ?_
      obtain ⟨h7, hf⟩ := chk_s hf
      obtain ⟨r9, M8, e9, hf⟩ := bnd_some hf
      refine g_callVi (pc' := 14) (k' := 2) (u' := 12) (fr2 := 6) (As := []) (b := v0) (st := []) cf_X11_isWrong q_478 (by omega) (ci := 11) rfl rfl (by decide) dX11_length_11 rfl rfl rfl (Nat.le_of_ble_eq_true rfl) (Or.inl rfl) (by show 2 + 0 ≤ 2; omega) (by show 12 + 0 ≤ 12; omega) (by show 2 ≤ 2; omega) (by show 12 ≤ 12; omega) h7 (s_X11_isWrong v0 M5 _ e9) ?_
      refine g_if_eq (pc' := 17) 19 dX11_length_14 rfl (by decide) (fun c10 => ?_) (fun c10 => ?_)
      · have hf := ite_t c10 hf
        refine g_aload_n (pc' := 20) dX11_length_19 rfl rfl ?_
        obtain ⟨h11, hf⟩ := chk_s hf
        refine g_getR (pc' := 23) 11 4 rfl rfl (by decide) inX11 (by decide) rfl rfl q_32 dX11_length_20 rfl h11 ?_
        refine g_aload_n (pc' := 24) dX11_length_23 rfl rfl ?_
        refine g_getR (pc' := 27) 11 8 rfl rfl (by decide) inX11 (by decide) rfl rfl q_45 dX11_length_24 rfl h11 ?_
        refine g_aload_n (pc' := 28) dX11_length_27 rfl rfl ?_
        refine g_getR (pc' := 31) 11 8 rfl rfl (by decide) inX11 (by decide) rfl rfl q_45 dX11_length_28 rfl h11 ?_
        refine g_aload_n (pc' := 32) dX11_length_31 rfl rfl ?_
        refine g_getR (pc' := 35) 11 6 rfl rfl (by decide) inX11 (by decide) rfl rfl q_40 dX11_length_32 rfl h11 ?_
        refine g_iload_n (pc' := 36) dX11_length_35 rfl rfl ?_
        refine g_iload_n (pc' := 37) dX11_length_36 rfl rfl ?_
        refine g_iconst (pc' := 38) (-1 : Int32) dX11_length_37 rfl (by decide) ?_
        obtain ⟨h12, hf⟩ := chk_s hf
        obtain ⟨r14, M13, e14, hf⟩ := bnd_some hf
        refine g_callVi (pc' := 41) (k' := 2) (u' := 12) (fr2 := 37) (As := [aR (mR M8 v0 8), aR (mR M8 v0 8), aR (mR M8 v0 6), aI v1, aI v2, aI (-1 : Int32)]) (b := (mR M8 v0 4)) (st := []) cf_X8_tell q_1089 (by omega) (ci := 8) rfl rfl (by decide) dX11_length_38 rfl rfl rfl (Nat.le_of_ble_eq_true rfl) (Or.inl rfl) (by show 2 + 0 ≤ 2; omega) (by show 12 + 0 ≤ 12; omega) (by show 2 ≤ 2; omega) (by show 12 ≤ 12; omega) h12 (s_X8_tell (mR M8 v0 4) (mR M8 v0 8) (mR M8 v0 8) (mR M8 v0 6) v1 v2 (-1 : Int32) M8 _ e14) ?_
        cases hf
        exact g_ireturn dX11_length_41 rfl (Nat.le_of_ble_eq_true rfl) (Nat.le_of_ble_eq_true rfl)
      · have hf := ite_f c10 hf
        refine g_iconst (pc' := 18) (-1 : Int32) dX11_length_17 rfl (by decide) ?_
        cases hf
        exact g_ireturn dX11_length_18 rfl (Nat.le_of_ble_eq_true rfl) (Nat.le_of_ble_eq_true rfl)
def f_X11_sign_47  (M : Mem) : Option ((Nat ⊕ Int32) × Mem) :=
  some (.inl 1, M)
def f_X11_sign (v0 : Nat) (v1 : Int32) (v2 : Int32) (v3 : Int32) (M : Mem) : Option ((Nat ⊕ Int32) × Mem) :=
  if mK M v0 = 12 then
    bndX (f_X11_needRecord v0 v1 M) fun _ M2 =>
    if mK M2 v0 = 12 then
      bndX (f_X11_needSet v0 v2 M2) fun _ M5 =>
      if v3 < 0 then
        f_X11_sign_47 M5
      else
        if mK M5 v0 = 12 then
          bnd (f_X11_isWrong v0 M5) fun r10 M9 =>
          if r10 = 0 then
            if mK M9 v0 = 12 then
              if mK M9 (mR M9 v0 4) = 9 then
                bnd (f_X8_tell (mR M9 v0 4) (mR M9 v0 8) (mR M9 v0 8) (mR M9 v0 6) v1 v2 v3 M9) fun r15 M14 =>
                if v3 < r15 then
                  if mK M14 v0 = 12 then
                    if mK M14 (mR M14 v0 4) = 9 then
                      some (.inr (mI M14 (mR M14 v0 4) 0), M14)
                    else none
                  else none
                else
                  f_X11_sign_47 M14
              else none
            else none
          else
            f_X11_sign_47 M9
        else none
    else none
  else none
theorem s_X11_sign_47  (M : Mem) (r : ((Nat ⊕ Int32) × Mem)) (hf : f_X11_sign_47  M = some r) : G mi_X11_sign 38 (oX oI r.1) r.2 47 [none, none, none, none] [] M 2 12 := by
  unfold f_X11_sign_47 at hf
  cases hf
  exact g_throwNW (xi := 10) rfl dX11_sign_47 dX11_sign_50 dX11_sign_51 dX11_sign_54 dX11_sign_57 rfl rfl (by omega) (Nat.le_of_ble_eq_true rfl) (by show 2 + 1 ≤ 3; omega) (by show 12 + 6 ≤ 18; omega)
theorem s_X11_sign (v0 : Nat) (v1 : Int32) (v2 : Int32) (v3 : Int32) (M : Mem) (r : ((Nat ⊕ Int32) × Mem)) (hf : f_X11_sign v0 v1 v2 v3 M = some r) : Sem mi_X11_sign (38) [aR v0, aI v1, aI v2, aI v3] M (oX oI r.1) r.2 := by
  unfold f_X11_sign at hf
  refine sem_of (by decide) rfl rfl rfl (Nat.le_of_ble_eq_true rfl) (lv := [some (aR v0), some (aI v1), some (aI v2), some (aI v3)]) rfl ?_
  refine g_aload_n (pc' := 1) dX11_sign_0 rfl rfl ?_
  refine g_iload_n (pc' := 2) dX11_sign_1 rfl rfl ?_
  obtain ⟨h1, hf⟩ := chk_s hf
  rcases bndX_some hf with ⟨e, M8, e3, rfl⟩ | ⟨_, M2, e3, hf⟩
  · exact g_callVX (fr2 := 6) (As := [aI v1]) (b := v0) (st := []) cf_X11_needRecord q_1021 (by omega) (ci := 11) rfl rfl (by decide) dX11_sign_2 rfl rfl (Nat.le_of_ble_eq_true rfl) (Or.inl rfl) rfl (by show 0 + 1 ≤ 3; omega) (by show 0 + 6 ≤ 18; omega) h1 (s_X11_needRecord v0 v1 M _ e3)
  · refine g_callVv (pc' := 5) (k' := 1) (u' := 6) (fr2 := 6) (As := [aI v1]) (b := v0) (st := []) cf_X11_needRecord q_1021 (by omega) (ci := 11) rfl rfl (by decide) dX11_sign_2 rfl rfl rfl (Nat.le_of_ble_eq_true rfl) (Or.inl rfl) (by show 0 + 1 ≤ 1; omega) (by show 0 + 6 ≤ 6; omega) (by show 1 ≤ 3; omega) (by show 6 ≤ 18; omega) h1 (s_X11_needRecord v0 v1 M _ e3) ?_
    refine g_aload_n (pc' := 6) dX11_sign_5 rfl rfl ?_
    refine g_iload_n (pc' := 7) dX11_sign_6 rfl rfl ?_
    obtain ⟨h4, hf⟩ := chk_s hf
    rcases bndX_some hf with ⟨e, M8, e6, rfl⟩ | ⟨_, M5, e6, hf⟩
    · exact g_callVX (fr2 := 6) (As := [aI v2]) (b := v0) (st := []) cf_X11_needSet q_1053 (by omega) (ci := 11) rfl rfl (by decide) dX11_sign_7 rfl rfl (Nat.le_of_ble_eq_true rfl) (Or.inl rfl) rfl (by show 1 + 1 ≤ 3; omega) (by show 6 + 6 ≤ 18; omega) h4 (s_X11_needSet v0 v2 M2 _ e6)
    · refine g_callVv (pc' := 10) (k' := 2) (u' := 12) (fr2 := 6) (As := [aI v2]) (b := v0) (st := []) cf_X11_needSet q_1053 (by omega) (ci := 11) rfl rfl (by decide) dX11_sign_7 rfl rfl rfl (Nat.le_of_ble_eq_true rfl) (Or.inl rfl) (by show 1 + 1 ≤ 2; omega) (by show 6 + 6 ≤ 12; omega) (by show 2 ≤ 3; omega) (by show 12 ≤ 18; omega) h4 (s_X11_needSet v0 v2 M2 _ e6) ?_
      refine g_iload_n (pc' := 11) dX11_sign_10 rfl rfl ?_
      refine g_if_lt (pc' := 14) 47 dX11_sign_11 rfl (by decide) (fun c7 => ?_) (fun c7 => ?_)
      · have hf := ite_t c7 hf
        refine g_mask [false, false, false, false] rfl ?_
        refine g_widen (k' := 2) (u' := 12) (by omega) (by omega) ?_
        exact s_X11_sign_47 M5 _ hf
      · have hf := ite_f c7 hf
        refine g_aload_n (pc' := 15) dX11_sign_14 rfl rfl ?_
        obtain ⟨h8, hf⟩ := chk_s hf
        obtain ⟨r10, M9, e10, hf⟩ := bnd_some hf
        refine g_callVi (pc' := 18) (k' := 2) (u' := 12) (fr2 := 6) (As := []) (b := v0) (st := []) cf_X11_isWrong q_478 (by omega) (ci := 11) rfl rfl (by decide) dX11_sign_15 rfl rfl rfl (Nat.le_of_ble_eq_true rfl) (Or.inl rfl) (by show 2 + 0 ≤ 2; omega) (by show 12 + 0 ≤ 12; omega) (by show 2 ≤ 3; omega) (by show 12 ≤ 18; omega) h8 (s_X11_isWrong v0 M5 _ e10) ?_
        refine g_if_ne (pc' := 21) 47 dX11_sign_18 rfl (by decide) (fun c11 => ?_) (fun c11 => ?_)
        · have hf := ite_f c11 hf
          refine g_mask [false, false, false, false] rfl ?_
          refine g_widen (k' := 2) (u' := 12) (by omega) (by omega) ?_
          exact s_X11_sign_47 M9 _ hf
        · have hf := ite_t c11 hf
          refine g_iload_n (pc' := 22) dX11_sign_21 rfl rfl ?_
          refine g_aload_n (pc' := 23) dX11_sign_22 rfl rfl ?_
          obtain ⟨h12, hf⟩ := chk_s hf
          refine g_getR (pc' := 26) 11 4 rfl rfl (by decide) inX11 (by decide) rfl rfl q_32 dX11_sign_23 rfl h12 ?_
          refine g_aload_n (pc' := 27) dX11_sign_26 rfl rfl ?_
          refine g_getR (pc' := 30) 11 8 rfl rfl (by decide) inX11 (by decide) rfl rfl q_45 dX11_sign_27 rfl h12 ?_
          refine g_aload_n (pc' := 31) dX11_sign_30 rfl rfl ?_
          refine g_getR (pc' := 34) 11 8 rfl rfl (by decide) inX11 (by decide) rfl rfl q_45 dX11_sign_31 rfl h12 ?_
          refine g_aload_n (pc' := 35) dX11_sign_34 rfl rfl ?_
          refine g_getR (pc' := 38) 11 6 rfl rfl (by decide) inX11 (by decide) rfl rfl q_40 dX11_sign_35 rfl h12 ?_
          refine g_iload_n (pc' := 39) dX11_sign_38 rfl rfl ?_
          refine g_iload_n (pc' := 40) dX11_sign_39 rfl rfl ?_
          refine g_iload_n (pc' := 41) dX11_sign_40 rfl rfl ?_
          obtain ⟨h13, hf⟩ := chk_s hf
          obtain ⟨r15, M14, e15, hf⟩ := bnd_some hf
          refine g_callVi (pc' := 44) (k' := 2) (u' := 12) (fr2 := 37) (As := [aR (mR M9 v0 8), aR (mR M9 v0 8), aR (mR M9 v0 6), aI v1, aI v2, aI v3]) (b := (mR M9 v0 4)) (st := [aI v3]) cf_X8_tell q_1089 (by omega) (ci := 8) rfl rfl (by decide) dX11_sign_41 rfl rfl rfl (Nat.le_of_ble_eq_true rfl) (Or.inl rfl) (by show 2 + 0 ≤ 2; omega) (by show 12 + 0 ≤ 12; omega) (by show 2 ≤ 3; omega) (by show 12 ≤ 18; omega) h13 (s_X8_tell (mR M9 v0 4) (mR M9 v0 8) (mR M9 v0 8) (mR M9 v0 6) v1 v2 v3 M9 _ e15) ?_
          refine g_icmp_lt (pc' := 47) 58 dX11_sign_44 rfl (by decide) (fun c16 => ?_) (fun c16 => ?_)
          · have hf := ite_t c16 hf
            refine g_aload_n (pc' := 59) dX11_sign_58 rfl rfl ?_
            obtain ⟨h17, hf⟩ := chk_s hf
            refine g_getR (pc' := 62) 11 4 rfl rfl (by decide) inX11 (by decide) rfl rfl q_32 dX11_sign_59 rfl h17 ?_
            obtain ⟨h18, hf⟩ := chk_s hf
            refine g_getI (pc' := 65) 8 0 rfl rfl (by decide) inX8 (by decide) rfl rfl q_1210 dX11_sign_62 rfl h18 ?_
            cases hf
            exact g_ireturn dX11_sign_65 rfl (Nat.le_of_ble_eq_true rfl) (Nat.le_of_ble_eq_true rfl)
          · have hf := ite_f c16 hf
            refine g_mask [false, false, false, false] rfl ?_
            refine g_widen (k' := 2) (u' := 12) (by omega) (by omega) ?_
            exact s_X11_sign_47 M14 _ hf
def f_X11_reads (v0 : Nat) (v1 : Int32) (v2 : Int32) (M : Mem) : Option ((Nat ⊕ Int32) × Mem) :=
  if mK M v0 = 12 then
    bndX (f_X11_needRecord v0 v1 M) fun _ M2 =>
    if mK M2 v0 = 12 then
      bndX (f_X11_needSet v0 v2 M2) fun _ M5 =>
      if mK M5 v0 = 12 then
        bnd (f_X11_isWrong v0 M5) fun r9 M8 =>
        if r9 = 0 then
          if mK M8 v0 = 12 then
            if mK M8 (mR M8 v0 4) = 9 then
              bnd (f_X8_countReads (mR M8 v0 4) (mR M8 v0 8) (mR M8 v0 6) v1 v2 M8) fun r14 M13 =>
              some (.inr r14, M13)
            else none
          else none
        else
          some (.inr (-1 : Int32), M8)
      else none
    else none
  else none
theorem s_X11_reads (v0 : Nat) (v1 : Int32) (v2 : Int32) (M : Mem) (r : ((Nat ⊕ Int32) × Mem)) (hf : f_X11_reads v0 v1 v2 M = some r) : Sem mi_X11_reads (7) [aR v0, aI v1, aI v2] M (oX oI r.1) r.2 := by
  unfold f_X11_reads at hf
  refine sem_of (by decide) rfl rfl rfl (Nat.le_of_ble_eq_true rfl) (lv := [some (aR v0), some (aI v1), some (aI v2)]) rfl ?_
  refine g_aload_n (pc' := 1) dX11_reads_0 rfl rfl ?_
  refine g_iload_n (pc' := 2) dX11_reads_1 rfl rfl ?_
  obtain ⟨h1, hf⟩ := chk_s hf
  rcases bndX_some hf with ⟨e, M8, e3, rfl⟩ | ⟨_, M2, e3, hf⟩
  · exact g_callVX (fr2 := 6) (As := [aI v1]) (b := v0) (st := []) cf_X11_needRecord q_1021 (by omega) (ci := 11) rfl rfl (by decide) dX11_reads_2 rfl rfl (Nat.le_of_ble_eq_true rfl) (Or.inl rfl) rfl (by show 0 + 1 ≤ 2; omega) (by show 0 + 6 ≤ 12; omega) h1 (s_X11_needRecord v0 v1 M _ e3)
  · refine g_callVv (pc' := 5) (k' := 1) (u' := 6) (fr2 := 6) (As := [aI v1]) (b := v0) (st := []) cf_X11_needRecord q_1021 (by omega) (ci := 11) rfl rfl (by decide) dX11_reads_2 rfl rfl rfl (Nat.le_of_ble_eq_true rfl) (Or.inl rfl) (by show 0 + 1 ≤ 1; omega) (by show 0 + 6 ≤ 6; omega) (by show 1 ≤ 2; omega) (by show 6 ≤ 12; omega) h1 (s_X11_needRecord v0 v1 M _ e3) ?_
    refine g_aload_n (pc' := 6) dX11_reads_5 rfl rfl ?_
    refine g_iload_n (pc' := 7) dX11_reads_6 rfl rfl ?_
    obtain ⟨h4, hf⟩ := chk_s hf
    rcases bndX_some hf with ⟨e, M8, e6, rfl⟩ | ⟨_, M5, e6, hf⟩
    · exact g_callVX (fr2 := 6) (As := [aI v2]) (b := v0) (st := []) cf_X11_needSet q_1053 (by omega) (ci := 11) rfl rfl (by decide) dX11_reads_7 rfl rfl (Nat.le_of_ble_eq_true rfl) (Or.inl rfl) rfl (by show 1 + 1 ≤ 2; omega) (by show 6 + 6 ≤ 12; omega) h4 (s_X11_needSet v0 v2 M2 _ e6)
    · refine g_callVv (pc' := 10) (k' := 2) (u' := 12) (fr2 := 6) (As := [aI v2]) (b := v0) (st := []) cf_X11_needSet q_1053 (by omega) (ci := 11) rfl rfl (by decide) dX11_reads_7 rfl rfl rfl (Nat.le_of_ble_eq_true rfl) (Or.inl rfl) (by show 1 + 1 ≤ 2; omega) (by show 6 + 6 ≤ 12; omega) (by show 2 ≤ 2; omega) (by show 12 ≤ 12; omega) h4 (s_X11_needSet v0 v2 M2 _ e6) ?_
      refine g_aload_n (pc' := 11) dX11_reads_10 rfl rfl ?_
      obtain ⟨h7, hf⟩ := chk_s hf
      obtain ⟨r9, M8, e9, hf⟩ := bnd_some hf
      refine g_callVi (pc' := 14) (k' := 2) (u' := 12) (fr2 := 6) (As := []) (b := v0) (st := []) cf_X11_isWrong q_478 (by omega) (ci := 11) rfl rfl (by decide) dX11_reads_11 rfl rfl rfl (Nat.le_of_ble_eq_true rfl) (Or.inl rfl) (by show 2 + 0 ≤ 2; omega) (by show 12 + 0 ≤ 12; omega) (by show 2 ≤ 2; omega) (by show 12 ≤ 12; omega) h7 (s_X11_isWrong v0 M5 _ e9) ?_
      refine g_if_eq (pc' := 17) 19 dX11_reads_14 rfl (by decide) (fun c10 => ?_) (fun c10 => ?_)
      · have hf := ite_t c10 hf
        refine g_aload_n (pc' := 20) dX11_reads_19 rfl rfl ?_
        obtain ⟨h11, hf⟩ := chk_s hf
        refine g_getR (pc' := 23) 11 4 rfl rfl (by decide) inX11 (by decide) rfl rfl q_32 dX11_reads_20 rfl h11 ?_
        refine g_aload_n (pc' := 24) dX11_reads_23 rfl rfl ?_
        refine g_getR (pc' := 27) 11 8 rfl rfl (by decide) inX11 (by decide) rfl rfl q_45 dX11_reads_24 rfl h11 ?_
        refine g_aload_n (pc' := 28) dX11_reads_27 rfl rfl ?_
        refine g_getR (pc' := 31) 11 6 rfl rfl (by decide) inX11 (by decide) rfl rfl q_40 dX11_reads_28 rfl h11 ?_
        refine g_iload_n (pc' := 32) dX11_reads_31 rfl rfl ?_
        refine g_iload_n (pc' := 33) dX11_reads_32 rfl rfl ?_
        obtain ⟨h12, hf⟩ := chk_s hf
        obtain ⟨r14, M13, e14, hf⟩ := bnd_some hf
        refine g_callVi (pc' := 36) (k' := 2) (u' := 12) (fr2 := 4) (As := [aR (mR M8 v0 8), aR (mR M8 v0 6), aI v1, aI v2]) (b := (mR M8 v0 4)) (st := []) cf_X8_countReads q_1222 (by omega) (ci := 8) rfl rfl (by decide) dX11_reads_33 rfl rfl rfl (Nat.le_of_ble_eq_true rfl) (Or.inl rfl) (by show 2 + 0 ≤ 2; omega) (by show 12 + 0 ≤ 12; omega) (by show 2 ≤ 2; omega) (by show 12 ≤ 12; omega) h12 (s_X8_countReads (mR M8 v0 4) (mR M8 v0 8) (mR M8 v0 6) v1 v2 M8 _ e14) ?_
        cases hf
        exact g_ireturn dX11_reads_36 rfl (Nat.le_of_ble_eq_true rfl) (Nat.le_of_ble_eq_true rfl)
      · have hf := ite_f c10 hf
        refine g_iconst (pc' := 18) (-1 : Int32) dX11_reads_17 rfl (by decide) ?_
        cases hf
        exact g_ireturn dX11_reads_18 rfl (Nat.le_of_ble_eq_true rfl) (Nat.le_of_ble_eq_true rfl)
def f_X11_seen (v0 : Nat) (v1 : Int32) (M : Mem) : Option ((Nat ⊕ Int32) × Mem) :=
  if mK M v0 = 12 then
    bndX (f_X11_needRecord v0 v1 M) fun _ M2 =>
    if mK M2 v0 = 12 then
      if mK M2 (mR M2 v0 9) = 6 then
        if (mI M2 (mR M2 v0 9) 0) = 0 then
          some (.inr (-1 : Int32), M2)
        else
          bnd (f_X11_isWrong v0 M2) fun r8 M7 =>
          if r8 = 0 then
            if mK M7 v0 = 12 then
              if mK M7 (mR M7 v0 4) = 9 then
                bnd (f_X8_tell (mR M7 v0 4) (mR M7 v0 9) (mR M7 v0 8) (mR M7 v0 6) v1 (255 : Int32) (-1 : Int32) M7) fun r13 M12 =>
                some (.inr r13, M12)
              else none
            else none
          else
            some (.inr (-1 : Int32), M7)
      else none
    else none
  else none
theorem s_X11_seen (v0 : Nat) (v1 : Int32) (M : Mem) (r : ((Nat ⊕ Int32) × Mem)) (hf : f_X11_seen v0 v1 M = some r) : Sem mi_X11_seen (38) [aR v0, aI v1] M (oX oI r.1) r.2 := by
  unfold f_X11_seen at hf
  refine sem_of (by decide) rfl rfl rfl (Nat.le_of_ble_eq_true rfl) (lv := [some (aR v0), some (aI v1)]) rfl ?_
  refine g_aload_n (pc' := 1) dX11_seen_0 rfl rfl ?_
  refine g_iload_n (pc' := 2) dX11_seen_1 rfl rfl ?_
  obtain ⟨h1, hf⟩ := chk_s hf
  rcases bndX_some hf with ⟨e, M8, e3, rfl⟩ | ⟨_, M2, e3, hf⟩
  · exact g_callVX (fr2 := 6) (As := [aI v1]) (b := v0) (st := []) cf_X11_needRecord q_1021 (by omega) (ci := 11) rfl rfl (by decide) dX11_seen_2 rfl rfl (Nat.le_of_ble_eq_true rfl) (Or.inl rfl) rfl (by show 0 + 1 ≤ 1; omega) (by show 0 + 6 ≤ 6; omega) h1 (s_X11_needRecord v0 v1 M _ e3)
  · refine g_callVv (pc' := 5) (k' := 1) (u' := 6) (fr2 := 6) (As := [aI v1]) (b := v0) (st := []) cf_X11_needRecord q_1021 (by omega) (ci := 11) rfl rfl (by decide) dX11_seen_2 rfl rfl rfl (Nat.le_of_ble_eq_true rfl) (Or.inl rfl) (by show 0 + 1 ≤ 1; omega) (by show 0 + 6 ≤ 6; omega) (by show 1 ≤ 1; omega) (by show 6 ≤ 6; omega) h1 (s_X11_needRecord v0 v1 M _ e3) ?_
    refine g_aload_n (pc' := 6) dX11_seen_5 rfl rfl ?_
    obtain ⟨h4, hf⟩ := chk_s hf
    refine g_getR (pc' := 9) 11 9 rfl rfl (by decide) inX11 (by decide) rfl rfl q_46 dX11_seen_6 rfl h4 ?_
    obtain ⟨h5, hf⟩ := chk_s hf
    refine g_getI (pc' := 12) 5 0 rfl rfl (by decide) inX5 (by decide) rfl rfl q_474 dX11_seen_9 rfl h5 ?_
    refine g_if_eq (pc' := 15) 22 dX11_seen_12 rfl (by decide) (fun c6 => ?_) (fun c6 => ?_)
    · have hf := ite_t c6 hf
      refine g_iconst (pc' := 23) (-1 : Int32) dX11_seen_22 rfl (by decide) ?_
      cases hf
      exact g_ireturn dX11_seen_23 rfl (Nat.le_of_ble_eq_true rfl) (Nat.le_of_ble_eq_true rfl)
    · have hf := ite_f c6 hf
      refine g_aload_n (pc' := 16) dX11_seen_15 rfl rfl ?_
      obtain ⟨r8, M7, e8, hf⟩ := bnd_some hf
      refine g_callVi (pc' := 19) (k' := 1) (u' := 6) (fr2 := 6) (As := []) (b := v0) (st := []) cf_X11_isWrong q_478 (by omega) (ci := 11) rfl rfl (by decide) dX11_seen_16 rfl rfl rfl (Nat.le_of_ble_eq_true rfl) (Or.inl rfl) (by show 1 + 0 ≤ 1; omega) (by show 6 + 0 ≤ 6; omega) (by show 1 ≤ 1; omega) (by show 6 ≤ 6; omega) h4 (s_X11_isWrong v0 M2 _ e8) ?_
      refine g_if_eq (pc' := 22) 24 dX11_seen_19 rfl (by decide) (fun c9 => ?_) (fun c9 => ?_)
      · have hf := ite_t c9 hf
        refine g_aload_n (pc' := 25) dX11_seen_24 rfl rfl ?_
        obtain ⟨h10, hf⟩ := chk_s hf
        refine g_getR (pc' := 28) 11 4 rfl rfl (by decide) inX11 (by decide) rfl rfl q_32 dX11_seen_25 rfl h10 ?_
        refine g_aload_n (pc' := 29) dX11_seen_28 rfl rfl ?_
        refine g_getR (pc' := 32) 11 9 rfl rfl (by decide) inX11 (by decide) rfl rfl q_46 dX11_seen_29 rfl h10 ?_
        refine g_aload_n (pc' := 33) dX11_seen_32 rfl rfl ?_
        refine g_getR (pc' := 36) 11 8 rfl rfl (by decide) inX11 (by decide) rfl rfl q_45 dX11_seen_33 rfl h10 ?_
        refine g_aload_n (pc' := 37) dX11_seen_36 rfl rfl ?_
        refine g_getR (pc' := 40) 11 6 rfl rfl (by decide) inX11 (by decide) rfl rfl q_40 dX11_seen_37 rfl h10 ?_
        refine g_iload_n (pc' := 41) dX11_seen_40 rfl rfl ?_
        refine g_sipush (pc' := 44) (255 : Int32) dX11_seen_41 rfl (by decide) ?_
        refine g_iconst (pc' := 45) (-1 : Int32) dX11_seen_44 rfl (by decide) ?_
        obtain ⟨h11, hf⟩ := chk_s hf
        obtain ⟨r13, M12, e13, hf⟩ := bnd_some hf
        refine g_callVi (pc' := 48) (k' := 1) (u' := 6) (fr2 := 37) (As := [aR (mR M7 v0 9), aR (mR M7 v0 8), aR (mR M7 v0 6), aI v1, aI (255 : Int32), aI (-1 : Int32)]) (b := (mR M7 v0 4)) (st := []) cf_X8_tell q_1089 (by omega) (ci := 8) rfl rfl (by decide) dX11_seen_45 rfl rfl rfl (Nat.le_of_ble_eq_true rfl) (Or.inl rfl) (by show 1 + 0 ≤ 1; omega) (by show 6 + 0 ≤ 6; omega) (by show 1 ≤ 1; omega) (by show 6 ≤ 6; omega) h11 (s_X8_tell (mR M7 v0 4) (mR M7 v0 9) (mR M7 v0 8) (mR M7 v0 6) v1 (255 : Int32) (-1 : Int32) M7 _ e13) ?_
        cases hf
        exact g_ireturn dX11_seen_48 rfl (Nat.le_of_ble_eq_true rfl) (Nat.le_of_ble_eq_true rfl)
      · have hf := ite_f c9 hf
        refine g_iconst (pc' := 23) (-1 : Int32) dX11_seen_22 rfl (by decide) ?_
        cases hf
        exact g_ireturn dX11_seen_23 rfl (Nat.le_of_ble_eq_true rfl) (Nat.le_of_ble_eq_true rfl)
def f_X11_seenSign_54  (M : Mem) : Option ((Nat ⊕ Int32) × Mem) :=
  some (.inl 1, M)
def f_X11_seenSign (v0 : Nat) (v1 : Int32) (v2 : Int32) (M : Mem) : Option ((Nat ⊕ Int32) × Mem) :=
  if mK M v0 = 12 then
    bndX (f_X11_needRecord v0 v1 M) fun _ M2 =>
    if v2 < 0 then
      f_X11_seenSign_54 M2
    else
      if mK M2 v0 = 12 then
        if mK M2 (mR M2 v0 9) = 6 then
          if (mI M2 (mR M2 v0 9) 0) = 0 then
            f_X11_seenSign_54 M2
          else
            bnd (f_X11_isWrong v0 M2) fun r9 M8 =>
            if r9 = 0 then
              if mK M8 v0 = 12 then
                if mK M8 (mR M8 v0 4) = 9 then
                  bnd (f_X8_tell (mR M8 v0 4) (mR M8 v0 9) (mR M8 v0 8) (mR M8 v0 6) v1 (255 : Int32) v2 M8) fun r14 M13 =>
                  if v2 < r14 then
                    if mK M13 v0 = 12 then
                      if mK M13 (mR M13 v0 4) = 9 then
                        some (.inr (mI M13 (mR M13 v0 4) 0), M13)
                      else none
                    else none
                  else
                    f_X11_seenSign_54 M13
                else none
              else none
            else
              f_X11_seenSign_54 M8
        else none
      else none
  else none
theorem s_X11_seenSign_54  (M : Mem) (r : ((Nat ⊕ Int32) × Mem)) (hf : f_X11_seenSign_54  M = some r) : G mi_X11_seenSign 38 (oX oI r.1) r.2 54 [none, none, none] [] M 1 6 := by
  unfold f_X11_seenSign_54 at hf
  cases hf
  exact g_throwNW (xi := 10) rfl dX11_seenSign_54 dX11_seenSign_57 dX11_seenSign_58 dX11_seenSign_61 dX11_seenSign_64 rfl rfl (by omega) (Nat.le_of_ble_eq_true rfl) (by show 1 + 1 ≤ 2; omega) (by show 6 + 6 ≤ 12; omega)
theorem s_X11_seenSign (v0 : Nat) (v1 : Int32) (v2 : Int32) (M : Mem) (r : ((Nat ⊕ Int32) × Mem)) (hf : f_X11_seenSign v0 v1 v2 M = some r) : Sem mi_X11_seenSign (38) [aR v0, aI v1, aI v2] M (oX oI r.1) r.2 := by
  unfold f_X11_seenSign at hf
  refine sem_of (by decide) rfl rfl rfl (Nat.le_of_ble_eq_true rfl) (lv := [some (aR v0), some (aI v1), some (aI v2)]) rfl ?_
  refine g_aload_n (pc' := 1) dX11_seenSign_0 rfl rfl ?_
  refine g_iload_n (pc' := 2) dX11_seenSign_1 rfl rfl ?_
  obtain ⟨h1, hf⟩ := chk_s hf
  rcases bndX_some hf with ⟨e, M8, e3, rfl⟩ | ⟨_, M2, e3, hf⟩
  · exact g_callVX (fr2 := 6) (As := [aI v1]) (b := v0) (st := []) cf_X11_needRecord q_1021 (by omega) (ci := 11) rfl rfl (by decide) dX11_seenSign_2 rfl rfl (Nat.le_of_ble_eq_true rfl) (Or.inl rfl) rfl (by show 0 + 1 ≤ 2; omega) (by show 0 + 6 ≤ 12; omega) h1 (s_X11_needRecord v0 v1 M _ e3)
  · refine g_callVv (pc' := 5) (k' := 1) (u' := 6) (fr2 := 6) (As := [aI v1]) (b := v0) (st := []) cf_X11_needRecord q_1021 (by omega) (ci := 11) rfl rfl (by decide) dX11_seenSign_2 rfl rfl rfl (Nat.le_of_ble_eq_true rfl) (Or.inl rfl) (by show 0 + 1 ≤ 1; omega) (by show 0 + 6 ≤ 6; omega) (by show 1 ≤ 2; omega) (by show 6 ≤ 12; omega) h1 (s_X11_needRecord v0 v1 M _ e3) ?_
    refine g_iload_n (pc' := 6) dX11_seenSign_5 rfl rfl ?_
    refine g_if_lt (pc' := 9) 54 dX11_seenSign_6 rfl (by decide) (fun c4 => ?_) (fun c4 => ?_)
    · have hf := ite_t c4 hf
      refine g_mask [false, false, false] rfl ?_
      refine g_widen (k' := 1) (u' := 6) (by omega) (by omega) ?_
      exact s_X11_seenSign_54 M2 _ hf
    · have hf := ite_f c4 hf
      refine g_aload_n (pc' := 10) dX11_seenSign_9 rfl rfl ?_
      obtain ⟨h5, hf⟩ := chk_s hf
      refine g_getR (pc' := 13) 11 9 rfl rfl (by decide) inX11 (by decide) rfl rfl q_46 dX11_seenSign_10 rfl h5 ?_
      obtain ⟨h6, hf⟩ := chk_s hf
      refine g_getI (pc' := 16) 5 0 rfl rfl (by decide) inX5 (by decide) rfl rfl q_474 dX11_seenSign_13 rfl h6 ?_
      refine g_if_eq (pc' := 19) 54 dX11_seenSign_16 rfl (by decide) (fun c7 => ?_) (fun c7 => ?_)
      · have hf := ite_t c7 hf
        refine g_mask [false, false, false] rfl ?_
        refine g_widen (k' := 1) (u' := 6) (by omega) (by omega) ?_
        exact s_X11_seenSign_54 M2 _ hf
      · have hf := ite_f c7 hf
        refine g_aload_n (pc' := 20) dX11_seenSign_19 rfl rfl ?_
        obtain ⟨r9, M8, e9, hf⟩ := bnd_some hf
        refine g_callVi (pc' := 23) (k' := 1) (u' := 6) (fr2 := 6) (As := []) (b := v0) (st := []) cf_X11_isWrong q_478 (by omega) (ci := 11) rfl rfl (by decide) dX11_seenSign_20 rfl rfl rfl (Nat.le_of_ble_eq_true rfl) (Or.inl rfl) (by show 1 + 0 ≤ 1; omega) (by show 6 + 0 ≤ 6; omega) (by show 1 ≤ 2; omega) (by show 6 ≤ 12; omega) h5 (s_X11_isWrong v0 M2 _ e9) ?_
        refine g_if_ne (pc' := 26) 54 dX11_seenSign_23 rfl (by decide) (fun c10 => ?_) (fun c10 => ?_)
        · have hf := ite_f c10 hf
          refine g_mask [false, false, false] rfl ?_
          refine g_widen (k' := 1) (u' := 6) (by omega) (by omega) ?_
          exact s_X11_seenSign_54 M8 _ hf
        · have hf := ite_t c10 hf
          refine g_iload_n (pc' := 27) dX11_seenSign_26 rfl rfl ?_
          refine g_aload_n (pc' := 28) dX11_seenSign_27 rfl rfl ?_
          obtain ⟨h11, hf⟩ := chk_s hf
          refine g_getR (pc' := 31) 11 4 rfl rfl (by decide) inX11 (by decide) rfl rfl q_32 dX11_seenSign_28 rfl h11 ?_
          refine g_aload_n (pc' := 32) dX11_seenSign_31 rfl rfl ?_
          refine g_getR (pc' := 35) 11 9 rfl rfl (by decide) inX11 (by decide) rfl rfl q_46 dX11_seenSign_32 rfl h11 ?_
          refine g_aload_n (pc' := 36) dX11_seenSign_35 rfl rfl ?_
          refine g_getR (pc' := 39) 11 8 rfl rfl (by decide) inX11 (by decide) rfl rfl q_45 dX11_seenSign_36 rfl h11 ?_
          refine g_aload_n (pc' := 40) dX11_seenSign_39 rfl rfl ?_
          refine g_getR (pc' := 43) 11 6 rfl rfl (by decide) inX11 (by decide) rfl rfl q_40 dX11_seenSign_40 rfl h11 ?_
          refine g_iload_n (pc' := 44) dX11_seenSign_43 rfl rfl ?_
          refine g_sipush (pc' := 47) (255 : Int32) dX11_seenSign_44 rfl (by decide) ?_
          refine g_iload_n (pc' := 48) dX11_seenSign_47 rfl rfl ?_
          obtain ⟨h12, hf⟩ := chk_s hf
          obtain ⟨r14, M13, e14, hf⟩ := bnd_some hf
          refine g_callVi (pc' := 51) (k' := 1) (u' := 6) (fr2 := 37) (As := [aR (mR M8 v0 9), aR (mR M8 v0 8), aR (mR M8 v0 6), aI v1, aI (255 : Int32), aI v2]) (b := (mR M8 v0 4)) (st := [aI v2]) cf_X8_tell q_1089 (by omega) (ci := 8) rfl rfl (by decide) dX11_seenSign_48 rfl rfl rfl (Nat.le_of_ble_eq_true rfl) (Or.inl rfl) (by show 1 + 0 ≤ 1; omega) (by show 6 + 0 ≤ 6; omega) (by show 1 ≤ 2; omega) (by show 6 ≤ 12; omega) h12 (s_X8_tell (mR M8 v0 4) (mR M8 v0 9) (mR M8 v0 8) (mR M8 v0 6) v1 (255 : Int32) v2 M8 _ e14) ?_
          refine g_icmp_lt (pc' := 54) 65 dX11_seenSign_51 rfl (by decide) (fun c15 => ?_) (fun c15 => ?_)
          · have hf := ite_t c15 hf
            refine g_aload_n (pc' := 66) dX11_seenSign_65 rfl rfl ?_
            obtain ⟨h16, hf⟩ := chk_s hf
            refine g_getR (pc' := 69) 11 4 rfl rfl (by decide) inX11 (by decide) rfl rfl q_32 dX11_seenSign_66 rfl h16 ?_
            obtain ⟨h17, hf⟩ := chk_s hf
            refine g_getI (pc' := 72) 8 0 rfl rfl (by decide) inX8 (by decide) rfl rfl q_1210 dX11_seenSign_69 rfl h17 ?_
            cases hf
            exact g_ireturn dX11_seenSign_72 rfl (Nat.le_of_ble_eq_true rfl) (Nat.le_of_ble_eq_true rfl)
          · have hf := ite_f c15 hf
            refine g_mask [false, false, false] rfl ?_
            refine g_widen (k' := 1) (u' := 6) (by omega) (by omega) ?_
            exact s_X11_seenSign_54 M13 _ hf
def f_X11_fold_15  (M : Mem) : Option ((Nat ⊕ Int32) × Mem) :=
  some (.inl 1, M)
def f_X11_fold (v0 : Nat) (v1 : Int32) (v2 : Int32) (M : Mem) : Option ((Nat ⊕ Int32) × Mem) :=
  if mK M v0 = 12 then
    bndX (f_X11_needLeaf v0 v1 M) fun _ M2 =>
    if v2 < 0 then
      f_X11_fold_15 M2
    else
      if v2 ≤ (7 : Int32) then
        if mK M2 v0 = 12 then
          if mK M2 (mR M2 v0 6) = 8 then
            if mK M2 (mR M2 (mR M2 v0 6) 0) = 23 then
              if inB v1 (mN M2 (mR M2 (mR M2 v0 6) 0)) = true then
                if mK M2 (mR M2 (mR M2 (mR M2 v0 6) 0) v1.toNatClampNeg) = 3 then
                  bnd (f_X2_folded (mR M2 (mR M2 (mR M2 v0 6) 0) v1.toNatClampNeg) v2 M2) fun r12 M11 =>
                  some (.inr r12, M11)
                else none
              else none
            else none
          else none
        else none
      else
        f_X11_fold_15 M2
  else none
theorem s_X11_fold_15  (M : Mem) (r : ((Nat ⊕ Int32) × Mem)) (hf : f_X11_fold_15  M = some r) : G mi_X11_fold 7 (oX oI r.1) r.2 15 [none, none, none] [] M 1 6 := by
  unfold f_X11_fold_15 at hf
  cases hf
  exact g_throwNW (xi := 11) rfl dX11_fold_15 dX11_fold_18 dX11_fold_19 dX11_fold_22 dX11_fold_25 rfl rfl (by omega) (Nat.le_of_ble_eq_true rfl) (by show 1 + 1 ≤ 2; omega) (by show 6 + 6 ≤ 12; omega)
theorem s_X11_fold (v0 : Nat) (v1 : Int32) (v2 : Int32) (M : Mem) (r : ((Nat ⊕ Int32) × Mem)) (hf : f_X11_fold v0 v1 v2 M = some r) : Sem mi_X11_fold (7) [aR v0, aI v1, aI v2] M (oX oI r.1) r.2 := by
  unfold f_X11_fold at hf
  refine sem_of (by decide) rfl rfl rfl (Nat.le_of_ble_eq_true rfl) (lv := [some (aR v0), some (aI v1), some (aI v2)]) rfl ?_
  refine g_aload_n (pc' := 1) dX11_fold_0 rfl rfl ?_
  refine g_iload_n (pc' := 2) dX11_fold_1 rfl rfl ?_
  obtain ⟨h1, hf⟩ := chk_s hf
  rcases bndX_some hf with ⟨e, M8, e3, rfl⟩ | ⟨_, M2, e3, hf⟩
  · exact g_callVX (fr2 := 6) (As := [aI v1]) (b := v0) (st := []) cf_X11_needLeaf q_959 (by omega) (ci := 11) rfl rfl (by decide) dX11_fold_2 rfl rfl (Nat.le_of_ble_eq_true rfl) (Or.inl rfl) rfl (by show 0 + 1 ≤ 2; omega) (by show 0 + 6 ≤ 12; omega) h1 (s_X11_needLeaf v0 v1 M _ e3)
  · refine g_callVv (pc' := 5) (k' := 1) (u' := 6) (fr2 := 6) (As := [aI v1]) (b := v0) (st := []) cf_X11_needLeaf q_959 (by omega) (ci := 11) rfl rfl (by decide) dX11_fold_2 rfl rfl rfl (Nat.le_of_ble_eq_true rfl) (Or.inl rfl) (by show 0 + 1 ≤ 1; omega) (by show 0 + 6 ≤ 6; omega) (by show 1 ≤ 2; omega) (by show 6 ≤ 12; omega) h1 (s_X11_needLeaf v0 v1 M _ e3) ?_
    refine g_iload_n (pc' := 6) dX11_fold_5 rfl rfl ?_
    refine g_if_lt (pc' := 9) 15 dX11_fold_6 rfl (by decide) (fun c4 => ?_) (fun c4 => ?_)
    · have hf := ite_t c4 hf
      refine g_mask [false, false, false] rfl ?_
      refine g_widen (k' := 1) (u' := 6) (by omega) (by omega) ?_
      exact s_X11_fold_15 M2 _ hf
    · have hf := ite_f c4 hf
      refine g_iload_n (pc' := 10) dX11_fold_9 rfl rfl ?_
      refine g_bipush (pc' := 12) (7 : Int32) dX11_fold_10 rfl (by decide) ?_
      refine g_icmp_le (pc' := 15) 26 dX11_fold_12 rfl (by decide) (fun c5 => ?_) (fun c5 => ?_)
      · have hf := ite_t c5 hf
        refine g_aload_n (pc' := 27) dX11_fold_26 rfl rfl ?_
        obtain ⟨h6, hf⟩ := chk_s hf
        refine g_getR (pc' := 30) 11 6 rfl rfl (by decide) inX11 (by decide) rfl rfl q_40 dX11_fold_27 rfl h6 ?_
        obtain ⟨h7, hf⟩ := chk_s hf
        refine g_getR (pc' := 33) 7 0 rfl rfl (by decide) inX7 (by decide) rfl rfl q_955 dX11_fold_30 rfl h7 ?_
        refine g_iload_n (pc' := 34) dX11_fold_33 rfl rfl ?_
        obtain ⟨h8, hf⟩ := chk_s hf
        obtain ⟨b9, hf⟩ := chk_s hf
        refine g_aald (pc' := 35) (t0 := 2) (fun _ => rfl) (by decide) dX11_fold_34 rfl h8 (inB_in b9) ?_
        refine g_iload_n (pc' := 36) dX11_fold_35 rfl rfl ?_
        obtain ⟨h10, hf⟩ := chk_s hf
        obtain ⟨r12, M11, e12, hf⟩ := bnd_some hf
        refine g_callVi (pc' := 39) (k' := 1) (u' := 6) (fr2 := 4) (As := [aI v2]) (b := (mR M2 (mR M2 (mR M2 v0 6) 0) v1.toNatClampNeg)) (st := []) cf_X2_folded q_1268 (by omega) (ci := 2) rfl rfl (by decide) dX11_fold_36 rfl rfl rfl (Nat.le_of_ble_eq_true rfl) (Or.inl rfl) (by show 1 + 0 ≤ 1; omega) (by show 6 + 0 ≤ 6; omega) (by show 1 ≤ 2; omega) (by show 6 ≤ 12; omega) h10 (s_X2_folded (mR M2 (mR M2 (mR M2 v0 6) 0) v1.toNatClampNeg) v2 M2 _ e12) ?_
        cases hf
        exact g_ireturn dX11_fold_39 rfl (Nat.le_of_ble_eq_true rfl) (Nat.le_of_ble_eq_true rfl)
      · have hf := ite_f c5 hf
        refine g_mask [false, false, false] rfl ?_
        refine g_widen (k' := 1) (u' := 6) (by omega) (by omega) ?_
        exact s_X11_fold_15 M2 _ hf
def f_X11_picked_98 (k42 : Nat → Int32 → Int32 → Nat → Int32 → Int32 → Mem → Option ((Nat ⊕ Int32) × Mem)) (v0 : Nat) (v2 : Int32) (v3 : Int32) (v4 : Nat) (v5 : Int32) (v6 : Int32) (M : Mem) : Option ((Nat ⊕ Int32) × Mem) :=
  k42 v0 v2 v3 v4 v5 (v6 + 1) M
def f_X11_picked_42 : Nat → Nat → Int32 → Int32 → Nat → Int32 → Int32 → Mem → Option ((Nat ⊕ Int32) × Mem)
  | 0, _, _, _, _, _, _, _ => none
  | n + 1, v0, v2, v3, v4, v5, v6, M =>
    if mK M v0 = 12 then
      if mK M (mR M v0 6) = 8 then
        if (mI M (mR M v0 6) 1) ≤ v6 then
          some (.inr v5, M)
        else
          if mK M v4 = 3 then
            bnd (f_X2_firstOf v4 v6 M) fun r6 M5 =>
            if r6 = (-1 : Int32) then
              f_X11_picked_98 (f_X11_picked_42 n) v0 v2 v3 v4 v5 v6 M5
            else
              if mK M5 v4 = 3 then
                bnd (f_X2_behind v4 r6 (0 : Int32) M5) fun r10 M9 =>
                if mK M9 v4 = 3 then
                  bnd (f_X2_fits v4 r6 r10 v2 v3 M9) fun r13 M12 =>
                  if r13 = 0 then
                    f_X11_picked_98 (f_X11_picked_42 n) v0 v2 v3 v4 v5 v6 M12
                  else
                    f_X11_picked_98 (f_X11_picked_42 n) v0 v2 v3 v4 (v5 ||| ((1 : Int32) <<< (v6 &&& 31))) v6 M12
                else none
              else none
          else none
      else none
    else none
def f_X11_picked_14  (M : Mem) : Option ((Nat ⊕ Int32) × Mem) :=
  some (.inl 1, M)
def f_X11_picked (v0 : Nat) (v1 : Int32) (v2 : Int32) (v3 : Int32) (M : Mem) : Option ((Nat ⊕ Int32) × Mem) :=
  if mK M v0 = 12 then
    bndX (f_X11_needLeaf v0 v1 M) fun _ M2 =>
    if v2 < 0 then
      f_X11_picked_14 M2
    else
      if v2 ≤ (3 : Int32) then
        if mK M2 v0 = 12 then
          if mK M2 (mR M2 v0 6) = 8 then
            if mK M2 (mR M2 (mR M2 v0 6) 0) = 23 then
              if inB v1 (mN M2 (mR M2 (mR M2 v0 6) 0)) = true then
                f_X11_picked_42 FUEL v0 v2 v3 (mR M2 (mR M2 (mR M2 v0 6) 0) v1.toNatClampNeg) (0 : Int32) (0 : Int32) M2
              else none
            else none
          else none
        else none
      else
        f_X11_picked_14 M2
  else none
theorem s_X11_picked_98 (k42 : Nat → Int32 → Int32 → Nat → Int32 → Int32 → Mem → Option ((Nat ⊕ Int32) × Mem)) (hk42 : ∀ (v0 : Nat) (v2 : Int32) (v3 : Int32) (v4 : Nat) (v5 : Int32) (v6 : Int32) (M : Mem) (r : ((Nat ⊕ Int32) × Mem)), k42 v0 v2 v3 v4 v5 v6 M = some r → G mi_X11_picked 7 (oX oI r.1) r.2 42 [some (aR v0), none, some (aI v2), some (aI v3), some (aR v4), some (aI v5), some (aI v6), none] [] M 1 6) (v0 : Nat) (v2 : Int32) (v3 : Int32) (v4 : Nat) (v5 : Int32) (v6 : Int32) (M : Mem) (r : ((Nat ⊕ Int32) × Mem)) (hf : f_X11_picked_98 k42 v0 v2 v3 v4 v5 v6 M = some r) : G mi_X11_picked 7 (oX oI r.1) r.2 98 [some (aR v0), none, some (aI v2), some (aI v3), some (aR v4), some (aI v5), some (aI v6), none] [] M 1 6 := by
  unfold f_X11_picked_98 at hf
  refine g_iinc (pc' := 101) (lv' := [some (aR v0), none, some (aI v2), some (aI v3), some (aR v4), some (aI v5), some (aI (v6 + 1)), none]) (v6 + 1) dX11_picked_98 rfl rfl (by rfl) rfl (by decide) rfl ?_
  refine g_goto (pc' := 42) dX11_picked_101 (by decide) ?_
  exact hk42 v0 v2 v3 v4 v5 (v6 + 1) M _ hf
theorem s_X11_picked_42 : ∀ (n : Nat) (v0 : Nat) (v2 : Int32) (v3 : Int32) (v4 : Nat) (v5 : Int32) (v6 : Int32) (M : Mem) (r : ((Nat ⊕ Int32) × Mem)), f_X11_picked_42 n v0 v2 v3 v4 v5 v6 M = some r → G mi_X11_picked 7 (oX oI r.1) r.2 42 [some (aR v0), none, some (aI v2), some (aI v3), some (aR v4), some (aI v5), some (aI v6), none] [] M 1 6 := by
  intro n
  induction n with
  | zero => intro v0 v2 v3 v4 v5 v6 M r hf; cases hf
  | succ n ih =>
    intro v0 v2 v3 v4 v5 v6 M r hf
    unfold f_X11_picked_42 at hf
    refine g_iload (pc' := 44) dX11_picked_42 rfl rfl ?_
    refine g_aload_n (pc' := 45) dX11_picked_44 rfl rfl ?_
    obtain ⟨h1, hf⟩ := chk_s hf
    refine g_getR (pc' := 48) 11 6 rfl rfl (by decide) inX11 (by decide) rfl rfl q_40 dX11_picked_45 rfl h1 ?_
    obtain ⟨h2, hf⟩ := chk_s hf
    refine g_getI (pc' := 51) 7 1 rfl rfl (by decide) inX7 (by decide) rfl rfl q_796 dX11_picked_48 rfl h2 ?_
    refine g_icmp_ge (pc' := 54) 104 dX11_picked_51 rfl (by decide) (fun c3 => ?_) (fun c3 => ?_)
    · have hf := ite_t c3 hf
      refine g_iload (pc' := 106) dX11_picked_104 rfl rfl ?_
      cases hf
      exact g_ireturn dX11_picked_106 rfl (Nat.le_of_ble_eq_true rfl) (Nat.le_of_ble_eq_true rfl)
    · have hf := ite_f c3 hf
      refine g_aload (pc' := 56) dX11_picked_54 rfl rfl ?_
      refine g_iload (pc' := 58) dX11_picked_56 rfl rfl ?_
      obtain ⟨h4, hf⟩ := chk_s hf
      obtain ⟨r6, M5, e6, hf⟩ := bnd_some hf
      refine g_callVi (pc' := 61) (k' := 1) (u' := 6) (fr2 := 1) (As := [aI v6]) (b := v4) (st := []) cf_X2_firstOf q_1025 (by omega) (ci := 2) rfl rfl (by decide) dX11_picked_58 rfl rfl rfl (Nat.le_of_ble_eq_true rfl) (Or.inl rfl) (by show 1 + 0 ≤ 1; omega) (by show 6 + 0 ≤ 6; omega) (by show 1 ≤ 2; omega) (by show 6 ≤ 12; omega) h4 (s_X2_firstOf v4 v6 M _ e6) ?_
      refine g_istore (pc' := 63) (lv' := [some (aR v0), none, some (aI v2), some (aI v3), some (aR v4), some (aI v5), some (aI v6), some (aI r6)]) dX11_picked_61 rfl rfl (by decide) rfl ?_
      refine g_iload (pc' := 65) dX11_picked_63 rfl rfl ?_
      refine g_iconst (pc' := 66) (-1 : Int32) dX11_picked_65 rfl (by decide) ?_
      refine g_icmp_eq (pc' := 69) 98 dX11_picked_66 rfl (by decide) (fun c7 => ?_) (fun c7 => ?_)
      · have hf := ite_t c7 hf
        refine g_mask [true, true, true, true, true, true, true, false] rfl ?_
        refine g_widen (k' := 1) (u' := 6) (by omega) (by omega) ?_
        exact s_X11_picked_98 (f_X11_picked_42 n) ih v0 v2 v3 v4 v5 v6 M5 _ hf
      · have hf := ite_f c7 hf
        refine g_aload (pc' := 71) dX11_picked_69 rfl rfl ?_
        refine g_iload (pc' := 73) dX11_picked_71 rfl rfl ?_
        refine g_aload (pc' := 75) dX11_picked_73 rfl rfl ?_
        refine g_iload (pc' := 77) dX11_picked_75 rfl rfl ?_
        refine g_iconst (pc' := 78) (0 : Int32) dX11_picked_77 rfl (by decide) ?_
        obtain ⟨h8, hf⟩ := chk_s hf
        obtain ⟨r10, M9, e10, hf⟩ := bnd_some hf
        refine g_callVi (pc' := 81) (k' := 1) (u' := 6) (fr2 := 1) (As := [aI r6, aI (0 : Int32)]) (b := v4) (st := [aI r6, aR v4]) cf_X2_behind q_1029 (by omega) (ci := 2) rfl rfl (by decide) dX11_picked_78 rfl rfl rfl (Nat.le_of_ble_eq_true rfl) (Or.inl rfl) (by show 1 + 0 ≤ 1; omega) (by show 6 + 0 ≤ 6; omega) (by show 1 ≤ 2; omega) (by show 6 ≤ 12; omega) h8 (s_X2_behind v4 r6 (0 : Int32) M5 _ e10) ?_
        refine g_iload_n (pc' := 82) dX11_picked_81 rfl rfl ?_
        refine g_iload_n (pc' := 83) dX11_picked_82 rfl rfl ?_
        obtain ⟨h11, hf⟩ := chk_s hf
        obtain ⟨r13, M12, e13, hf⟩ := bnd_some hf
        refine g_callVi (pc' := 86) (k' := 1) (u' := 6) (fr2 := 2) (As := [aI r6, aI r10, aI v2, aI v3]) (b := v4) (st := []) cf_X2_fits q_1321 (by omega) (ci := 2) rfl rfl (by decide) dX11_picked_83 rfl rfl rfl (Nat.le_of_ble_eq_true rfl) (Or.inl rfl) (by show 1 + 0 ≤ 1; omega) (by show 6 + 0 ≤ 6; omega) (by show 1 ≤ 2; omega) (by show 6 ≤ 12; omega) h11 (s_X2_fits v4 r6 r10 v2 v3 M9 _ e13) ?_
        refine g_if_eq (pc' := 89) 98 dX11_picked_86 rfl (by decide) (fun c14 => ?_) (fun c14 => ?_)
        · have hf := ite_t c14 hf
          refine g_mask [true, true, true, true, true, true, true, false] rfl ?_
          refine g_widen (k' := 1) (u' := 6) (by omega) (by omega) ?_
          exact s_X11_picked_98 (f_X11_picked_42 n) ih v0 v2 v3 v4 v5 v6 M12 _ hf
        · have hf := ite_f c14 hf
          refine g_iload (pc' := 91) dX11_picked_89 rfl rfl ?_
          refine g_iconst (pc' := 92) (1 : Int32) dX11_picked_91 rfl (by decide) ?_
          refine g_iload (pc' := 94) dX11_picked_92 rfl rfl ?_
          refine g_ishl (pc' := 95) dX11_picked_94 rfl ?_
          refine g_ior (pc' := 96) dX11_picked_95 rfl ?_
          refine g_istore (pc' := 98) (lv' := [some (aR v0), none, some (aI v2), some (aI v3), some (aR v4), some (aI (v5 ||| ((1 : Int32) <<< (v6 &&& 31)))), some (aI v6), some (aI r6)]) dX11_picked_96 rfl rfl (by decide) rfl ?_
          refine g_mask [true, true, true, true, true, true, true, false] rfl ?_
          refine g_widen (k' := 1) (u' := 6) (by omega) (by omega) ?_
          exact s_X11_picked_98 (f_X11_picked_42 n) ih v0 v2 v3 v4 (v5 ||| ((1 : Int32) <<< (v6 &&& 31))) v6 M12 _ hf
theorem s_X11_picked_14  (M : Mem) (r : ((Nat ⊕ Int32) × Mem)) (hf : f_X11_picked_14  M = some r) : G mi_X11_picked 7 (oX oI r.1) r.2 14 [none, none, none, none, none, none, none, none] [] M 1 6 := by
  unfold f_X11_picked_14 at hf
  cases hf
  exact g_throwNW (xi := 12) rfl dX11_picked_14 dX11_picked_17 dX11_picked_18 dX11_picked_21 dX11_picked_24 rfl rfl (by omega) (Nat.le_of_ble_eq_true rfl) (by show 1 + 1 ≤ 2; omega) (by show 6 + 6 ≤ 12; omega)
theorem s_X11_picked (v0 : Nat) (v1 : Int32) (v2 : Int32) (v3 : Int32) (M : Mem) (r : ((Nat ⊕ Int32) × Mem)) (hf : f_X11_picked v0 v1 v2 v3 M = some r) : Sem mi_X11_picked (7) [aR v0, aI v1, aI v2, aI v3] M (oX oI r.1) r.2 := by
  unfold f_X11_picked at hf
  refine sem_of (by decide) rfl rfl rfl (Nat.le_of_ble_eq_true rfl) (lv := [some (aR v0), some (aI v1), some (aI v2), some (aI v3), none, none, none, none]) rfl ?_
  refine g_aload_n (pc' := 1) dX11_picked_0 rfl rfl ?_
  refine g_iload_n (pc' := 2) dX11_picked_1 rfl rfl ?_
  obtain ⟨h1, hf⟩ := chk_s hf
  rcases bndX_some hf with ⟨e, M8, e3, rfl⟩ | ⟨_, M2, e3, hf⟩
  · exact g_callVX (fr2 := 6) (As := [aI v1]) (b := v0) (st := []) cf_X11_needLeaf q_959 (by omega) (ci := 11) rfl rfl (by decide) dX11_picked_2 rfl rfl (Nat.le_of_ble_eq_true rfl) (Or.inl rfl) rfl (by show 0 + 1 ≤ 2; omega) (by show 0 + 6 ≤ 12; omega) h1 (s_X11_needLeaf v0 v1 M _ e3)
  · refine g_callVv (pc' := 5) (k' := 1) (u' := 6) (fr2 := 6) (As := [aI v1]) (b := v0) (st := []) cf_X11_needLeaf q_959 (by omega) (ci := 11) rfl rfl (by decide) dX11_picked_2 rfl rfl rfl (Nat.le_of_ble_eq_true rfl) (Or.inl rfl) (by show 0 + 1 ≤ 1; omega) (by show 0 + 6 ≤ 6; omega) (by show 1 ≤ 2; omega) (by show 6 ≤ 12; omega) h1 (s_X11_needLeaf v0 v1 M _ e3) ?_
    refine g_iload_n (pc' := 6) dX11_picked_5 rfl rfl ?_
    refine g_if_lt (pc' := 9) 14 dX11_picked_6 rfl (by decide) (fun c4 => ?_) (fun c4 => ?_)
    · have hf := ite_t c4 hf
      refine g_mask [false, false, false, false, true, true, true, true] rfl ?_
      refine g_widen (k' := 1) (u' := 6) (by omega) (by omega) ?_
      exact s_X11_picked_14 M2 _ hf
    · have hf := ite_f c4 hf
      refine g_iload_n (pc' := 10) dX11_picked_9 rfl rfl ?_
      refine g_iconst (pc' := 11) (3 : Int32) dX11_picked_10 rfl (by decide) ?_
      refine g_icmp_le (pc' := 14) 25 dX11_picked_11 rfl (by decide) (fun c5 => ?_) (fun c5 => ?_)
      · have hf := ite_t c5 hf
        refine g_aload_n (pc' := 26) dX11_picked_25 rfl rfl ?_
        obtain ⟨h6, hf⟩ := chk_s hf
        refine g_getR (pc' := 29) 11 6 rfl rfl (by decide) inX11 (by decide) rfl rfl q_40 dX11_picked_26 rfl h6 ?_
        obtain ⟨h7, hf⟩ := chk_s hf
        refine g_getR (pc' := 32) 7 0 rfl rfl (by decide) inX7 (by decide) rfl rfl q_955 dX11_picked_29 rfl h7 ?_
        refine g_iload_n (pc' := 33) dX11_picked_32 rfl rfl ?_
        obtain ⟨h8, hf⟩ := chk_s hf
        obtain ⟨b9, hf⟩ := chk_s hf
        refine g_aald (pc' := 34) (t0 := 2) (fun _ => rfl) (by decide) dX11_picked_33 rfl h8 (inB_in b9) ?_
        refine g_astore (pc' := 36) (lv' := [some (aR v0), some (aI v1), some (aI v2), some (aI v3), some (aR (mR M2 (mR M2 (mR M2 v0 6) 0) v1.toNatClampNeg)), none, none, none]) dX11_picked_34 rfl rfl (by decide) rfl ?_
        refine g_iconst (pc' := 37) (0 : Int32) dX11_picked_36 rfl (by decide) ?_
        refine g_istore (pc' := 39) (lv' := [some (aR v0), some (aI v1), some (aI v2), some (aI v3), some (aR (mR M2 (mR M2 (mR M2 v0 6) 0) v1.toNatClampNeg)), some (aI (0 : Int32)), none, none]) dX11_picked_37 rfl rfl (by decide) rfl ?_
        refine g_iconst (pc' := 40) (0 : Int32) dX11_picked_39 rfl (by decide) ?_
        refine g_istore (pc' := 42) (lv' := [some (aR v0), some (aI v1), some (aI v2), some (aI v3), some (aR (mR M2 (mR M2 (mR M2 v0 6) 0) v1.toNatClampNeg)), some (aI (0 : Int32)), some (aI (0 : Int32)), none]) dX11_picked_40 rfl rfl (by decide) rfl ?_
        refine g_mask [true, false, true, true, true, true, true, true] rfl ?_
        refine g_widen (k' := 1) (u' := 6) (by omega) (by omega) ?_
        exact s_X11_picked_42 FUEL v0 v2 v3 (mR M2 (mR M2 (mR M2 v0 6) 0) v1.toNatClampNeg) (0 : Int32) (0 : Int32) M2 _ hf
      · have hf := ite_f c5 hf
        refine g_mask [false, false, false, false, true, true, true, true] rfl ?_
        refine g_widen (k' := 1) (u' := 6) (by omega) (by omega) ?_
        exact s_X11_picked_14 M2 _ hf
def f_X11_pages_16  (M : Mem) : Option ((Nat ⊕ Int32) × Mem) :=
  some (.inl 2, M)
def f_X11_pages (v0 : Nat) (v1 : Int32) (v2 : Int32) (M : Mem) : Option ((Nat ⊕ Int32) × Mem) :=
  if mK M v0 = 12 then
    bndX (f_X11_needLeaf v0 v1 M) fun _ M2 =>
    if v2 < (1 : Int32) then
      f_X11_pages_16 M2
    else
      if v2 ≤ (120 : Int32) then
        if mK M2 v0 = 12 then
          if mK M2 (mR M2 v0 6) = 8 then
            if mK M2 (mR M2 (mR M2 v0 6) 0) = 23 then
              if inB v1 (mN M2 (mR M2 (mR M2 v0 6) 0)) = true then
                if mK M2 (mR M2 (mR M2 (mR M2 v0 6) 0) v1.toNatClampNeg) = 3 then
                  bnd (f_X2_pageCount (mR M2 (mR M2 (mR M2 v0 6) 0) v1.toNatClampNeg) v2 M2) fun r12 M11 =>
                  some (.inr r12, M11)
                else none
              else none
            else none
          else none
        else none
      else
        f_X11_pages_16 M2
  else none
theorem s_X11_pages_16  (M : Mem) (r : ((Nat ⊕ Int32) × Mem)) (hf : f_X11_pages_16  M = some r) : G mi_X11_pages 7 (oX oI r.1) r.2 16 [none, none, none] [] M 1 6 := by
  unfold f_X11_pages_16 at hf
  cases hf
  exact g_throwAW (xi := 13) rfl dX11_pages_16 dX11_pages_19 dX11_pages_20 dX11_pages_23 dX11_pages_26 rfl rfl (by omega) (Nat.le_of_ble_eq_true rfl) (by show 1 + 1 ≤ 2; omega) (by show 6 + 6 ≤ 12; omega)
theorem s_X11_pages (v0 : Nat) (v1 : Int32) (v2 : Int32) (M : Mem) (r : ((Nat ⊕ Int32) × Mem)) (hf : f_X11_pages v0 v1 v2 M = some r) : Sem mi_X11_pages (7) [aR v0, aI v1, aI v2] M (oX oI r.1) r.2 := by
  unfold f_X11_pages at hf
  refine sem_of (by decide) rfl rfl rfl (Nat.le_of_ble_eq_true rfl) (lv := [some (aR v0), some (aI v1), some (aI v2)]) rfl ?_
  refine g_aload_n (pc' := 1) dX11_pages_0 rfl rfl ?_
  refine g_iload_n (pc' := 2) dX11_pages_1 rfl rfl ?_
  obtain ⟨h1, hf⟩ := chk_s hf
  rcases bndX_some hf with ⟨e, M8, e3, rfl⟩ | ⟨_, M2, e3, hf⟩
  · exact g_callVX (fr2 := 6) (As := [aI v1]) (b := v0) (st := []) cf_X11_needLeaf q_959 (by omega) (ci := 11) rfl rfl (by decide) dX11_pages_2 rfl rfl (Nat.le_of_ble_eq_true rfl) (Or.inl rfl) rfl (by show 0 + 1 ≤ 2; omega) (by show 0 + 6 ≤ 12; omega) h1 (s_X11_needLeaf v0 v1 M _ e3)
  · refine g_callVv (pc' := 5) (k' := 1) (u' := 6) (fr2 := 6) (As := [aI v1]) (b := v0) (st := []) cf_X11_needLeaf q_959 (by omega) (ci := 11) rfl rfl (by decide) dX11_pages_2 rfl rfl rfl (Nat.le_of_ble_eq_true rfl) (Or.inl rfl) (by show 0 + 1 ≤ 1; omega) (by show 0 + 6 ≤ 6; omega) (by show 1 ≤ 2; omega) (by show 6 ≤ 12; omega) h1 (s_X11_needLeaf v0 v1 M _ e3) ?_
    refine g_iload_n (pc' := 6) dX11_pages_5 rfl rfl ?_
    refine g_iconst (pc' := 7) (1 : Int32) dX11_pages_6 rfl (by decide) ?_
    refine g_icmp_lt (pc' := 10) 16 dX11_pages_7 rfl (by decide) (fun c4 => ?_) (fun c4 => ?_)
    · have hf := ite_t c4 hf
      refine g_mask [false, false, false] rfl ?_
      refine g_widen (k' := 1) (u' := 6) (by omega) (by omega) ?_
      exact s_X11_pages_16 M2 _ hf
    · have hf := ite_f c4 hf
      refine g_iload_n (pc' := 11) dX11_pages_10 rfl rfl ?_
      refine g_bipush (pc' := 13) (120 : Int32) dX11_pages_11 rfl (by decide) ?_
      refine g_icmp_le (pc' := 16) 27 dX11_pages_13 rfl (by decide) (fun c5 => ?_) (fun c5 => ?_)
      · have hf := ite_t c5 hf
        refine g_aload_n (pc' := 28) dX11_pages_27 rfl rfl ?_
        obtain ⟨h6, hf⟩ := chk_s hf
        refine g_getR (pc' := 31) 11 6 rfl rfl (by decide) inX11 (by decide) rfl rfl q_40 dX11_pages_28 rfl h6 ?_
        obtain ⟨h7, hf⟩ := chk_s hf
        refine g_getR (pc' := 34) 7 0 rfl rfl (by decide) inX7 (by decide) rfl rfl q_955 dX11_pages_31 rfl h7 ?_
        refine g_iload_n (pc' := 35) dX11_pages_34 rfl rfl ?_
        obtain ⟨h8, hf⟩ := chk_s hf
        obtain ⟨b9, hf⟩ := chk_s hf
        refine g_aald (pc' := 36) (t0 := 2) (fun _ => rfl) (by decide) dX11_pages_35 rfl h8 (inB_in b9) ?_
        refine g_iload_n (pc' := 37) dX11_pages_36 rfl rfl ?_
        obtain ⟨h10, hf⟩ := chk_s hf
        obtain ⟨r12, M11, e12, hf⟩ := bnd_some hf
        refine g_callVi (pc' := 40) (k' := 1) (u' := 6) (fr2 := 2) (As := [aI v2]) (b := (mR M2 (mR M2 (mR M2 v0 6) 0) v1.toNatClampNeg)) (st := []) cf_X2_pageCount q_1337 (by omega) (ci := 2) rfl rfl (by decide) dX11_pages_37 rfl rfl rfl (Nat.le_of_ble_eq_true rfl) (Or.inl rfl) (by show 1 + 0 ≤ 1; omega) (by show 6 + 0 ≤ 6; omega) (by show 1 ≤ 2; omega) (by show 6 ≤ 12; omega) h10 (s_X2_pageCount (mR M2 (mR M2 (mR M2 v0 6) 0) v1.toNatClampNeg) v2 M2 _ e12) ?_
        cases hf
        exact g_ireturn dX11_pages_40 rfl (Nat.le_of_ble_eq_true rfl) (Nat.le_of_ble_eq_true rfl)
      · have hf := ite_f c5 hf
        refine g_mask [false, false, false] rfl ?_
        refine g_widen (k' := 1) (u' := 6) (by omega) (by omega) ?_
        exact s_X11_pages_16 M2 _ hf
def f_X11_piped_38  (M : Mem) : Option ((Nat ⊕ Int32) × Mem) :=
  some (.inl 1, M)
def f_X11_piped (v0 : Nat) (v1 : Int32) (v2 : Int32) (M : Mem) : Option ((Nat ⊕ Int32) × Mem) :=
  if mK M v0 = 12 then
    bndX (f_X11_needLeaf v0 v1 M) fun _ M2 =>
    if mK M2 v0 = 12 then
      if mK M2 (mR M2 v0 6) = 8 then
        if mK M2 (mR M2 (mR M2 v0 6) 0) = 23 then
          if inB v1 (mN M2 (mR M2 (mR M2 v0 6) 0)) = true then
            if mK M2 (mR M2 v0 11) = 4 then
              bnd (f_X3_run (mR M2 v0 11) (mR M2 (mR M2 (mR M2 v0 6) 0) v1.toNatClampNeg) M2) fun r10 M9 =>
              if v2 = (-1 : Int32) then
                some (.inr r10, M9)
              else
                if v2 < 0 then
                  f_X11_piped_38 M9
                else
                  if v2 < r10 then
                    if mK M9 v0 = 12 then
                      if mK M9 (mR M9 v0 11) = 4 then
                        if mK M9 (mR M9 (mR M9 v0 11) 1) = 21 then
                          if inB v2 (mN M9 (mR M9 (mR M9 v0 11) 1)) = true then
                            some (.inr (mI M9 (mR M9 (mR M9 v0 11) 1) v2.toNatClampNeg), M9)
                          else none
                        else none
                      else none
                    else none
                  else
                    f_X11_piped_38 M9
            else none
          else none
        else none
      else none
    else none
  else none
theorem s_X11_piped_38  (M : Mem) (r : ((Nat ⊕ Int32) × Mem)) (hf : f_X11_piped_38  M = some r) : G mi_X11_piped 7 (oX oI r.1) r.2 38 [none, none, none, none] [] M 1 6 := by
  unfold f_X11_piped_38 at hf
  cases hf
  exact g_throwNW (xi := 14) rfl dX11_piped_38 dX11_piped_41 dX11_piped_42 dX11_piped_45 dX11_piped_48 rfl rfl (by omega) (Nat.le_of_ble_eq_true rfl) (by show 1 + 1 ≤ 2; omega) (by show 6 + 6 ≤ 12; omega)
theorem s_X11_piped (v0 : Nat) (v1 : Int32) (v2 : Int32) (M : Mem) (r : ((Nat ⊕ Int32) × Mem)) (hf : f_X11_piped v0 v1 v2 M = some r) : Sem mi_X11_piped (7) [aR v0, aI v1, aI v2] M (oX oI r.1) r.2 := by
  unfold f_X11_piped at hf
  refine sem_of (by decide) rfl rfl rfl (Nat.le_of_ble_eq_true rfl) (lv := [some (aR v0), some (aI v1), some (aI v2), none]) rfl ?_
  refine g_aload_n (pc' := 1) dX11_piped_0 rfl rfl ?_
  refine g_iload_n (pc' := 2) dX11_piped_1 rfl rfl ?_
  obtain ⟨h1, hf⟩ := chk_s hf
  rcases bndX_some hf with ⟨e, M8, e3, rfl⟩ | ⟨_, M2, e3, hf⟩
  · exact g_callVX (fr2 := 6) (As := [aI v1]) (b := v0) (st := []) cf_X11_needLeaf q_959 (by omega) (ci := 11) rfl rfl (by decide) dX11_piped_2 rfl rfl (Nat.le_of_ble_eq_true rfl) (Or.inl rfl) rfl (by show 0 + 1 ≤ 2; omega) (by show 0 + 6 ≤ 12; omega) h1 (s_X11_needLeaf v0 v1 M _ e3)
  · refine g_callVv (pc' := 5) (k' := 1) (u' := 6) (fr2 := 6) (As := [aI v1]) (b := v0) (st := []) cf_X11_needLeaf q_959 (by omega) (ci := 11) rfl rfl (by decide) dX11_piped_2 rfl rfl rfl (Nat.le_of_ble_eq_true rfl) (Or.inl rfl) (by show 0 + 1 ≤ 1; omega) (by show 0 + 6 ≤ 6; omega) (by show 1 ≤ 2; omega) (by show 6 ≤ 12; omega) h1 (s_X11_needLeaf v0 v1 M _ e3) ?_
    refine g_aload_n (pc' := 6) dX11_piped_5 rfl rfl ?_
    obtain ⟨h4, hf⟩ := chk_s hf
    refine g_getR (pc' := 9) 11 11 rfl rfl (by decide) inX11 (by decide) rfl rfl q_51 dX11_piped_6 rfl h4 ?_
    refine g_aload_n (pc' := 10) dX11_piped_9 rfl rfl ?_
    refine g_getR (pc' := 13) 11 6 rfl rfl (by decide) inX11 (by decide) rfl rfl q_40 dX11_piped_10 rfl h4 ?_
    obtain ⟨h5, hf⟩ := chk_s hf
    refine g_getR (pc' := 16) 7 0 rfl rfl (by decide) inX7 (by decide) rfl rfl q_955 dX11_piped_13 rfl h5 ?_
    refine g_iload_n (pc' := 17) dX11_piped_16 rfl rfl ?_
    obtain ⟨h6, hf⟩ := chk_s hf
    obtain ⟨b7, hf⟩ := chk_s hf
    refine g_aald (pc' := 18) (t0 := 2) (fun _ => rfl) (by decide) dX11_piped_17 rfl h6 (inB_in b7) ?_
    obtain ⟨h8, hf⟩ := chk_s hf
    obtain ⟨r10, M9, e10, hf⟩ := bnd_some hf
    refine g_callVi (pc' := 21) (k' := 1) (u' := 6) (fr2 := 3) (As := [aR (mR M2 (mR M2 (mR M2 v0 6) 0) v1.toNatClampNeg)]) (b := (mR M2 v0 11)) (st := []) cf_X3_run q_1355 (by omega) (ci := 3) rfl rfl (by decide) dX11_piped_18 rfl rfl rfl (Nat.le_of_ble_eq_true rfl) (Or.inl rfl) (by show 1 + 0 ≤ 1; omega) (by show 6 + 0 ≤ 6; omega) (by show 1 ≤ 2; omega) (by show 6 ≤ 12; omega) h8 (s_X3_run (mR M2 v0 11) (mR M2 (mR M2 (mR M2 v0 6) 0) v1.toNatClampNeg) M2 _ e10) ?_
    refine g_istore_n (pc' := 22) (lv' := [some (aR v0), some (aI v1), some (aI v2), some (aI r10)]) dX11_piped_21 rfl rfl (by decide) rfl ?_
    refine g_iload_n (pc' := 23) dX11_piped_22 rfl rfl ?_
    refine g_iconst (pc' := 24) (-1 : Int32) dX11_piped_23 rfl (by decide) ?_
    refine g_icmp_ne (pc' := 27) 29 dX11_piped_24 rfl (by decide) (fun c11 => ?_) (fun c11 => ?_)
    · have hf := ite_f c11 hf
      refine g_iload_n (pc' := 30) dX11_piped_29 rfl rfl ?_
      refine g_if_lt (pc' := 33) 38 dX11_piped_30 rfl (by decide) (fun c12 => ?_) (fun c12 => ?_)
      · have hf := ite_t c12 hf
        refine g_mask [false, false, false, false] rfl ?_
        refine g_widen (k' := 1) (u' := 6) (by omega) (by omega) ?_
        exact s_X11_piped_38 M9 _ hf
      · have hf := ite_f c12 hf
        refine g_iload_n (pc' := 34) dX11_piped_33 rfl rfl ?_
        refine g_iload_n (pc' := 35) dX11_piped_34 rfl rfl ?_
        refine g_icmp_lt (pc' := 38) 49 dX11_piped_35 rfl (by decide) (fun c13 => ?_) (fun c13 => ?_)
        · have hf := ite_t c13 hf
          refine g_aload_n (pc' := 50) dX11_piped_49 rfl rfl ?_
          obtain ⟨h14, hf⟩ := chk_s hf
          refine g_getR (pc' := 53) 11 11 rfl rfl (by decide) inX11 (by decide) rfl rfl q_51 dX11_piped_50 rfl h14 ?_
          obtain ⟨h15, hf⟩ := chk_s hf
          refine g_getR (pc' := 56) 3 1 rfl rfl (by decide) inX3 (by decide) rfl rfl q_1354 dX11_piped_53 rfl h15 ?_
          refine g_iload_n (pc' := 57) dX11_piped_56 rfl rfl ?_
          obtain ⟨h16, hf⟩ := chk_s hf
          obtain ⟨b17, hf⟩ := chk_s hf
          refine g_iald (pc' := 58) dX11_piped_57 rfl h16 (inB_in b17) ?_
          cases hf
          exact g_ireturn dX11_piped_58 rfl (Nat.le_of_ble_eq_true rfl) (Nat.le_of_ble_eq_true rfl)
        · have hf := ite_f c13 hf
          refine g_mask [false, false, false, false] rfl ?_
          refine g_widen (k' := 1) (u' := 6) (by omega) (by omega) ?_
          exact s_X11_piped_38 M9 _ hf
    · have hf := ite_t c11 hf
      refine g_iload_n (pc' := 28) dX11_piped_27 rfl rfl ?_
      cases hf
      exact g_ireturn dX11_piped_28 rfl (Nat.le_of_ble_eq_true rfl) (Nat.le_of_ble_eq_true rfl)
def f_X11_drop_17 (v0 : Nat) (M : Mem) : Option (Int32 × Mem) :=
  if mK M v0 = 12 then
    bnd (f_X11_refuse v0 M) fun r3 M2 =>
    some (r3, M2)
  else none
def f_X11_drop (v0 : Nat) (M : Mem) : Option (Int32 × Mem) :=
  if mK M v0 = 12 then
    if mK M (mR M v0 6) = 8 then
      if (mI M (mR M v0 6) 1) = 0 then
        f_X11_drop_17 v0 M
      else
        bnd (f_X11_isWrong v0 M) fun r5 M4 =>
        if r5 = 0 then
          if mK M4 v0 = 12 then
            if mn M4 + 1 < 900000 then
              if okrB M4 [v0, (mR M4 v0 6)] = true then
              ap (mNew M4 1 0) fun M9 =>
              if mK M9 v0 = 12 then
                if mK M9 (mR M9 v0 8) = 6 then
                  if mK M9 (mR M9 v0 6) = 8 then
                    if okrB M9 [v0, (mn M4 + 1), (mn M4 + 1), (mR M4 v0 6)] = true then
                      bnd (f_X7_tailRow (mR M9 v0 6) (mI M9 (mR M9 v0 8) 1) M9) fun r14 M13 =>
                      if ¬ (mn M4 + 1) = 0 then
                        bnd (f_X0_init (mn M4 + 1) (1 : Int32) (0 : Int32) (0 : Int32) (0 : Int32) r14 M13) fun _ M17 =>
                        if mK M17 (mR M4 v0 6) = 8 then
                          bnd (f_X7_keep (mR M4 v0 6) (mn M4 + 1) M17) fun _ M20 =>
                          if mK M20 v0 = 12 then
                            if mK M20 (mR M20 v0 8) = 6 then
                              if mK M20 (mR M20 v0 6) = 8 then
                                bnd (f_X7_cutLastRecord (mR M20 v0 6) (mI M20 (mR M20 v0 8) 1) M20) fun _ M25 =>
                                if mK M25 v0 = 12 then
                                  if mK M25 (mR M25 v0 6) = 8 then
                                    some (mI M25 (mR M25 v0 6) 1, M25)
                                  else none
                                else none
                              else none
                            else none
                          else none
                        else none
                      else none
                    else none
                  else none
                else none
              else none
              else none
            else none
          else none
        else
          f_X11_drop_17 v0 M4
    else none
  else none
theorem s_X11_drop_17 (v0 : Nat) (M : Mem) (r : (Int32 × Mem)) (hf : f_X11_drop_17 v0 M = some r) : G mi_X11_drop 7 (oI r.1) r.2 17 [some (aR v0)] [] M 0 0 := by
  unfold f_X11_drop_17 at hf
  refine g_aload_n (pc' := 18) dX11_drop_17 rfl rfl ?_
  obtain ⟨h1, hf⟩ := chk_s hf
  obtain ⟨r3, M2, e3, hf⟩ := bnd_some hf
  refine g_callVi (pc' := 21) (k' := 0) (u' := 0) (fr2 := 1) (As := []) (b := v0) (st := []) cf_X11_refuse q_547 (by omega) (ci := 11) rfl rfl (by decide) dX11_drop_18 rfl rfl rfl (Nat.le_of_ble_eq_true rfl) (Or.inl rfl) (by show 0 + 0 ≤ 0; omega) (by show 0 + 0 ≤ 0; omega) (by show 0 ≤ 2; omega) (by show 0 ≤ 1005; omega) h1 (s_X11_refuse v0 M _ e3) ?_
  cases hf
  exact g_ireturn dX11_drop_21 rfl (Nat.le_of_ble_eq_true rfl) (Nat.le_of_ble_eq_true rfl)
theorem s_X11_drop (v0 : Nat) (M : Mem) (r : (Int32 × Mem)) (hf : f_X11_drop v0 M = some r) : Sem mi_X11_drop (7) [aR v0] M (oI r.1) r.2 := by
  unfold f_X11_drop at hf
  refine sem_of (by decide) rfl rfl rfl (Nat.le_of_ble_eq_true rfl) (lv := [some (aR v0)]) rfl ?_
  refine g_aload_n (pc' := 1) dX11_drop_0 rfl rfl ?_
  obtain ⟨h1, hf⟩ := chk_s hf
  refine g_getR (pc' := 4) 11 6 rfl rfl (by decide) inX11 (by decide) rfl rfl q_40 dX11_drop_1 rfl h1 ?_
  obtain ⟨h2, hf⟩ := chk_s hf
  refine g_getI (pc' := 7) 7 1 rfl rfl (by decide) inX7 (by decide) rfl rfl q_796 dX11_drop_4 rfl h2 ?_
  refine g_if_eq (pc' := 10) 17 dX11_drop_7 rfl (by decide) (fun c3 => ?_) (fun c3 => ?_)
  · have hf := ite_t c3 hf
    exact s_X11_drop_17 v0 M _ hf
  · have hf := ite_f c3 hf
    refine g_aload_n (pc' := 11) dX11_drop_10 rfl rfl ?_
    obtain ⟨r5, M4, e5, hf⟩ := bnd_some hf
    refine g_callVi (pc' := 14) (k' := 0) (u' := 0) (fr2 := 6) (As := []) (b := v0) (st := []) cf_X11_isWrong q_478 (by omega) (ci := 11) rfl rfl (by decide) dX11_drop_11 rfl rfl rfl (Nat.le_of_ble_eq_true rfl) (Or.inl rfl) (by show 0 + 0 ≤ 0; omega) (by show 0 + 0 ≤ 0; omega) (by show 0 ≤ 2; omega) (by show 0 ≤ 1005; omega) h1 (s_X11_isWrong v0 M _ e5) ?_
    refine g_if_eq (pc' := 17) 22 dX11_drop_14 rfl (by decide) (fun c6 => ?_) (fun c6 => ?_)
    · have hf := ite_t c6 hf
      refine g_aload_n (pc' := 23) dX11_drop_22 rfl rfl ?_
      obtain ⟨h7, hf⟩ := chk_s hf
      refine g_getR (pc' := 26) 11 6 rfl rfl (by decide) inX11 (by decide) rfl rfl q_40 dX11_drop_23 rfl h7 ?_
      obtain ⟨hm8, hf⟩ := chk_s hf
      obtain ⟨ha8, hf⟩ := chk_s hf
      refine g_new (pc' := 29) (k' := 1) (u' := 5) 0 rfl rfl (by decide) inX0 tyX0_ok dfX0 (by decide) q_1388 q_625 q_626 dX11_drop_26 rfl hm8 (okrB_ok ha8 rfl) (by omega) (by omega) (by show 1 ≤ 2; omega) (by show 5 ≤ 1005; omega) (gM fun M9 hM9 => ?_)
      have hf := ap_eq hf hM9
      refine g_dup (pc' := 30) dX11_drop_29 rfl rfl ?_
      refine g_iconst (pc' := 31) (1 : Int32) dX11_drop_30 rfl (by decide) ?_
      refine g_iconst (pc' := 32) (0 : Int32) dX11_drop_31 rfl (by decide) ?_
      refine g_iconst (pc' := 33) (0 : Int32) dX11_drop_32 rfl (by decide) ?_
      refine g_iconst (pc' := 34) (0 : Int32) dX11_drop_33 rfl (by decide) ?_
      refine g_aload_n (pc' := 35) dX11_drop_34 rfl rfl ?_
      obtain ⟨h10, hf⟩ := chk_s hf
      refine g_getR (pc' := 38) 11 6 rfl rfl (by decide) inX11 (by decide) rfl rfl q_40 dX11_drop_35 rfl h10 ?_
      refine g_aload_n (pc' := 39) dX11_drop_38 rfl rfl ?_
      refine g_getR (pc' := 42) 11 8 rfl rfl (by decide) inX11 (by decide) rfl rfl q_45 dX11_drop_39 rfl h10 ?_
      obtain ⟨h11, hf⟩ := chk_s hf
      refine g_getI (pc' := 45) 5 1 rfl rfl (by decide) inX5 (by decide) rfl rfl q_477 dX11_drop_42 rfl h11 ?_
      obtain ⟨h12, hf⟩ := chk_s hf
      obtain ⟨ha15, hf⟩ := chk_s hf
      obtain ⟨r14, M13, e14, hf⟩ := bnd_some hf
      refine g_callVr (pc' := 48) (k' := 2) (u' := 1005) (fr2 := 3) (As := [aI (mI M9 (mR M9 v0 8) 1)]) (b := (mR M9 v0 6)) (st := [aI (0 : Int32), aI (0 : Int32), aI (0 : Int32), aI (1 : Int32), aR (mn M4 + 1), aR (mn M4 + 1), aR (mR M4 v0 6)]) cf_X7_tailRow q_1389 (by omega) (ci := 7) rfl rfl (by decide) dX11_drop_45 rfl rfl rfl (Nat.le_of_ble_eq_true rfl) (Or.inr ⟨by decide, okrB_ok ha15 rfl⟩) (by show 1 + 1 ≤ 2; omega) (by show 5 + 1000 ≤ 1005; omega) (by show 2 ≤ 2; omega) (by show 1005 ≤ 1005; omega) h12 (s_X7_tailRow (mR M9 v0 6) (mI M9 (mR M9 v0 8) 1) M9 _ e14) ?_
      obtain ⟨ho16, hf⟩ := chk_s hf
      obtain ⟨_, M17, e18, hf⟩ := bnd_some hf
      refine g_callIv (pc' := 51) (k' := 2) (u' := 1005) (fr2 := 1) (As := [aI (1 : Int32), aI (0 : Int32), aI (0 : Int32), aI (0 : Int32), aR r14]) (b := (mn M4 + 1)) (st := [aR (mn M4 + 1), aR (mR M4 v0 6)]) cf_X0_init q_1402 (by omega) ho16 dX11_drop_48 rfl rfl rfl (Nat.le_of_ble_eq_true rfl) (Or.inl rfl) (by show 2 + 0 ≤ 2; omega) (by show 1005 + 0 ≤ 1005; omega) (by show 2 ≤ 2; omega) (by show 1005 ≤ 1005; omega) (s_X0_init (mn M4 + 1) (1 : Int32) (0 : Int32) (0 : Int32) (0 : Int32) r14 M13 _ e18) ?_
      obtain ⟨h19, hf⟩ := chk_s hf
      obtain ⟨_, M20, e21, hf⟩ := bnd_some hf
      refine g_callVv (pc' := 54) (k' := 2) (u' := 1005) (fr2 := 1) (As := [aR (mn M4 + 1)]) (b := (mR M4 v0 6)) (st := []) cf_X7_keep q_1403 (by omega) (ci := 7) rfl rfl (by decide) dX11_drop_51 rfl rfl rfl (Nat.le_of_ble_eq_true rfl) (Or.inl rfl) (by show 2 + 0 ≤ 2; omega) (by show 1005 + 0 ≤ 1005; omega) (by show 2 ≤ 2; omega) (by show 1005 ≤ 1005; omega) h19 (s_X7_keep (mR M4 v0 6) (mn M4 + 1) M17 _ e21) ?_
      refine g_aload_n (pc' := 55) dX11_drop_54 rfl rfl ?_
      obtain ⟨h22, hf⟩ := chk_s hf
      refine g_getR (pc' := 58) 11 6 rfl rfl (by decide) inX11 (by decide) rfl rfl q_40 dX11_drop_55 rfl h22 ?_
      refine g_aload_n (pc' := 59) dX11_drop_58 rfl rfl ?_
      refine g_getR (pc' := 62) 11 8 rfl rfl (by decide) inX11 (by decide) rfl rfl q_45 dX11_drop_59 rfl h22 ?_
      obtain ⟨h23, hf⟩ := chk_s hf
      refine g_getI (pc' := 65) 5 1 rfl rfl (by decide) inX5 (by decide) rfl rfl q_477 dX11_drop_62 rfl h23 ?_
      obtain ⟨h24, hf⟩ := chk_s hf
      obtain ⟨_, M25, e26, hf⟩ := bnd_some hf
      refine g_callVv (pc' := 68) (k' := 2) (u' := 1005) (fr2 := 3) (As := [aI (mI M20 (mR M20 v0 8) 1)]) (b := (mR M20 v0 6)) (st := []) cf_X7_cutLastRecord q_1404 (by omega) (ci := 7) rfl rfl (by decide) dX11_drop_65 rfl rfl rfl (Nat.le_of_ble_eq_true rfl) (Or.inl rfl) (by show 2 + 0 ≤ 2; omega) (by show 1005 + 0 ≤ 1005; omega) (by show 2 ≤ 2; omega) (by show 1005 ≤ 1005; omega) h24 (s_X7_cutLastRecord (mR M20 v0 6) (mI M20 (mR M20 v0 8) 1) M20 _ e26) ?_
      refine g_aload_n (pc' := 69) dX11_drop_68 rfl rfl ?_
      obtain ⟨h27, hf⟩ := chk_s hf
      refine g_getR (pc' := 72) 11 6 rfl rfl (by decide) inX11 (by decide) rfl rfl q_40 dX11_drop_69 rfl h27 ?_
      obtain ⟨h28, hf⟩ := chk_s hf
      refine g_getI (pc' := 75) 7 1 rfl rfl (by decide) inX7 (by decide) rfl rfl q_796 dX11_drop_72 rfl h28 ?_
      cases hf
      exact g_ireturn dX11_drop_75 rfl (Nat.le_of_ble_eq_true rfl) (Nat.le_of_ble_eq_true rfl)
    · have hf := ite_f c6 hf
      refine g_widen (k' := 0) (u' := 0) (by omega) (by omega) ?_
      exact s_X11_drop_17 v0 M4 _ hf
def f_X11_set_52 (v0 : Nat) (M : Mem) : Option ((Nat ⊕ Int32) × Mem) :=
  if mK M v0 = 12 then
    bnd (f_X11_refuse v0 M) fun r3 M2 =>
    some (.inr r3, M2)
  else none
def f_X11_set (v0 : Nat) (v1 : Int32) (v2 : Int32) (v3 : Int32) (M : Mem) : Option ((Nat ⊕ Int32) × Mem) :=
  if mK M v0 = 12 then
    bndX (f_X11_needEntry v0 v1 v2 M) fun _ M2 =>
    if mK M2 v0 = 12 then
      if mK M2 (mR M2 v0 6) = 8 then
        if mK M2 (mR M2 (mR M2 v0 6) 0) = 23 then
          if inB v1 (mN M2 (mR M2 (mR M2 v0 6) 0)) = true then
            if mK M2 (mR M2 (mR M2 (mR M2 v0 6) 0) v1.toNatClampNeg) = 3 then
              if mK M2 (mR M2 (mR M2 (mR M2 (mR M2 v0 6) 0) v1.toNatClampNeg) 2) = 21 then
                if inB v2 (mN M2 (mR M2 (mR M2 (mR M2 (mR M2 v0 6) 0) v1.toNatClampNeg) 2)) = true then
                  bnd (f_X2_hasValue (mR M2 (mR M2 (mR M2 v0 6) 0) v1.toNatClampNeg) v2 M2) fun r12 M11 =>
                  if r12 = 0 then
                    f_X11_set_52 v0 M11
                  else
                    if v3 < 0 then
                      f_X11_set_52 v0 M11
                    else
                      if (999 : Int32) < v3 then
                        f_X11_set_52 v0 M11
                      else
                        if v3 = (mI M2 (mR M2 (mR M2 (mR M2 (mR M2 v0 6) 0) v1.toNatClampNeg) 2) v2.toNatClampNeg) then
                          f_X11_set_52 v0 M11
                        else
                          if mK M11 v0 = 12 then
                            if mn M11 + 1 < 900000 then
                              if okrB M11 [v0, (mR M2 (mR M2 (mR M2 v0 6) 0) v1.toNatClampNeg), (mR M11 v0 6)] = true then
                              ap (mNew M11 1 0) fun M19 =>
                              if ¬ (mn M11 + 1) = 0 then
                                bnd (f_X0_init (mn M11 + 1) (2 : Int32) v1 v2 (mI M2 (mR M2 (mR M2 (mR M2 (mR M2 v0 6) 0) v1.toNatClampNeg) 2) v2.toNatClampNeg) 0 M19) fun _ M21 =>
                                if mK M21 (mR M11 v0 6) = 8 then
                                  bnd (f_X7_keep (mR M11 v0 6) (mn M11 + 1) M21) fun _ M24 =>
                                  if mK M24 (mR M2 (mR M2 (mR M2 v0 6) 0) v1.toNatClampNeg) = 3 then
                                    if mK M24 (mR M24 (mR M2 (mR M2 (mR M2 v0 6) 0) v1.toNatClampNeg) 2) = 21 then
                                      if inB v2 (mN M24 (mR M24 (mR M2 (mR M2 (mR M2 v0 6) 0) v1.toNatClampNeg) 2)) = true then
                                        ap (sI M24 (mR M24 (mR M2 (mR M2 (mR M2 v0 6) 0) v1.toNatClampNeg) 2) v2.toNatClampNeg v3) fun M29 =>
                                        some (.inr (mI M2 (mR M2 (mR M2 (mR M2 (mR M2 v0 6) 0) v1.toNatClampNeg) 2) v2.toNatClampNeg), M29)
                                      else none
                                    else none
                                  else none
                                else none
                              else none
                              else none
                            else none
                          else none
                else none
              else none
            else none
          else none
        else none
      else none
    else none
  else none
theorem s_X11_set_52 (v0 : Nat) (M : Mem) (r : ((Nat ⊕ Int32) × Mem)) (hf : f_X11_set_52 v0 M = some r) : G mi_X11_set 8 (oX oI r.1) r.2 52 [some (aR v0), none, none, none, none, none] [] M 2 12 := by
  unfold f_X11_set_52 at hf
  refine g_aload_n (pc' := 53) dX11_set_52 rfl rfl ?_
  obtain ⟨h1, hf⟩ := chk_s hf
  obtain ⟨r3, M2, e3, hf⟩ := bnd_some hf
  refine g_callVi (pc' := 56) (k' := 2) (u' := 12) (fr2 := 1) (As := []) (b := v0) (st := []) cf_X11_refuse q_547 (by omega) (ci := 11) rfl rfl (by decide) dX11_set_53 rfl rfl rfl (Nat.le_of_ble_eq_true rfl) (Or.inl rfl) (by show 2 + 0 ≤ 2; omega) (by show 12 + 0 ≤ 12; omega) (by show 2 ≤ 3; omega) (by show 12 ≤ 17; omega) h1 (s_X11_refuse v0 M _ e3) ?_
  cases hf
  exact g_ireturn dX11_set_56 rfl (Nat.le_of_ble_eq_true rfl) (Nat.le_of_ble_eq_true rfl)
theorem s_X11_set (v0 : Nat) (v1 : Int32) (v2 : Int32) (v3 : Int32) (M : Mem) (r : ((Nat ⊕ Int32) × Mem)) (hf : f_X11_set v0 v1 v2 v3 M = some r) : Sem mi_X11_set (8) [aR v0, aI v1, aI v2, aI v3] M (oX oI r.1) r.2 := by
  unfold f_X11_set at hf
  refine sem_of (by decide) rfl rfl rfl (Nat.le_of_ble_eq_true rfl) (lv := [some (aR v0), some (aI v1), some (aI v2), some (aI v3), none, none]) rfl ?_
  refine g_aload_n (pc' := 1) dX11_set_0 rfl rfl ?_
  refine g_iload_n (pc' := 2) dX11_set_1 rfl rfl ?_
  refine g_iload_n (pc' := 3) dX11_set_2 rfl rfl ?_
  obtain ⟨h1, hf⟩ := chk_s hf
  rcases bndX_some hf with ⟨e, M8, e3, rfl⟩ | ⟨_, M2, e3, hf⟩
  · exact g_callVX (fr2 := 7) (As := [aI v1, aI v2]) (b := v0) (st := []) cf_X11_needEntry q_993 (by omega) (ci := 11) rfl rfl (by decide) dX11_set_3 rfl rfl (Nat.le_of_ble_eq_true rfl) (Or.inl rfl) rfl (by show 0 + 2 ≤ 3; omega) (by show 0 + 12 ≤ 17; omega) h1 (s_X11_needEntry v0 v1 v2 M _ e3)
  · refine g_callVv (pc' := 6) (k' := 2) (u' := 12) (fr2 := 7) (As := [aI v1, aI v2]) (b := v0) (st := []) cf_X11_needEntry q_993 (by omega) (ci := 11) rfl rfl (by decide) dX11_set_3 rfl rfl rfl (Nat.le_of_ble_eq_true rfl) (Or.inl rfl) (by show 0 + 2 ≤ 2; omega) (by show 0 + 12 ≤ 12; omega) (by show 2 ≤ 3; omega) (by show 12 ≤ 17; omega) h1 (s_X11_needEntry v0 v1 v2 M _ e3) ?_
    refine g_aload_n (pc' := 7) dX11_set_6 rfl rfl ?_
    obtain ⟨h4, hf⟩ := chk_s hf
    refine g_getR (pc' := 10) 11 6 rfl rfl (by decide) inX11 (by decide) rfl rfl q_40 dX11_set_7 rfl h4 ?_
    obtain ⟨h5, hf⟩ := chk_s hf
    refine g_getR (pc' := 13) 7 0 rfl rfl (by decide) inX7 (by decide) rfl rfl q_955 dX11_set_10 rfl h5 ?_
    refine g_iload_n (pc' := 14) dX11_set_13 rfl rfl ?_
    obtain ⟨h6, hf⟩ := chk_s hf
    obtain ⟨b7, hf⟩ := chk_s hf
    refine g_aald (pc' := 15) (t0 := 2) (fun _ => rfl) (by decide) dX11_set_14 rfl h6 (inB_in b7) ?_
    refine g_astore (pc' := 17) (lv' := [some (aR v0), some (aI v1), some (aI v2), some (aI v3), some (aR (mR M2 (mR M2 (mR M2 v0 6) 0) v1.toNatClampNeg)), none]) dX11_set_15 rfl rfl (by decide) rfl ?_
    refine g_aload (pc' := 19) dX11_set_17 rfl rfl ?_
    obtain ⟨h8, hf⟩ := chk_s hf
    refine g_getR (pc' := 22) 2 2 rfl rfl (by decide) inX2 (by decide) rfl rfl q_992 dX11_set_19 rfl h8 ?_
    refine g_iload_n (pc' := 23) dX11_set_22 rfl rfl ?_
    obtain ⟨h9, hf⟩ := chk_s hf
    obtain ⟨b10, hf⟩ := chk_s hf
    refine g_iald (pc' := 24) dX11_set_23 rfl h9 (inB_in b10) ?_
    refine g_istore (pc' := 26) (lv' := [some (aR v0), some (aI v1), some (aI v2), some (aI v3), some (aR (mR M2 (mR M2 (mR M2 v0 6) 0) v1.toNatClampNeg)), some (aI (mI M2 (mR M2 (mR M2 (mR M2 (mR M2 v0 6) 0) v1.toNatClampNeg) 2) v2.toNatClampNeg))]) dX11_set_24 rfl rfl (by decide) rfl ?_
    refine g_aload (pc' := 28) dX11_set_26 rfl rfl ?_
    refine g_iload_n (pc' := 29) dX11_set_28 rfl rfl ?_
    obtain ⟨r12, M11, e12, hf⟩ := bnd_some hf
    refine g_callVi (pc' := 32) (k' := 2) (u' := 12) (fr2 := 1) (As := [aI v2]) (b := (mR M2 (mR M2 (mR M2 v0 6) 0) v1.toNatClampNeg)) (st := []) cf_X2_hasValue q_997 (by omega) (ci := 2) rfl rfl (by decide) dX11_set_29 rfl rfl rfl (Nat.le_of_ble_eq_true rfl) (Or.inl rfl) (by show 2 + 0 ≤ 2; omega) (by show 12 + 0 ≤ 12; omega) (by show 2 ≤ 3; omega) (by show 12 ≤ 17; omega) h8 (s_X2_hasValue (mR M2 (mR M2 (mR M2 v0 6) 0) v1.toNatClampNeg) v2 M2 _ e12) ?_
    refine g_if_eq (pc' := 35) 52 dX11_set_32 rfl (by decide) (fun c13 => ?_) (fun c13 => ?_)
    · have hf := ite_t c13 hf
      refine g_mask [true, false, false, false, false, false] rfl ?_
      refine g_widen (k' := 2) (u' := 12) (by omega) (by omega) ?_
      exact s_X11_set_52 v0 M11 _ hf
    · have hf := ite_f c13 hf
      refine g_iload_n (pc' := 36) dX11_set_35 rfl rfl ?_
      refine g_if_lt (pc' := 39) 52 dX11_set_36 rfl (by decide) (fun c14 => ?_) (fun c14 => ?_)
      · have hf := ite_t c14 hf
        refine g_mask [true, false, false, false, false, false] rfl ?_
        refine g_widen (k' := 2) (u' := 12) (by omega) (by omega) ?_
        exact s_X11_set_52 v0 M11 _ hf
      · have hf := ite_f c14 hf
        refine g_iload_n (pc' := 40) dX11_set_39 rfl rfl ?_
        refine g_sipush (pc' := 43) (999 : Int32) dX11_set_40 rfl (by decide) ?_
        refine g_icmp_gt (pc' := 46) 52 dX11_set_43 rfl (by decide) (fun c15 => ?_) (fun c15 => ?_)
        · have hf := ite_t c15 hf
          refine g_mask [true, false, false, false, false, false] rfl ?_
          refine g_widen (k' := 2) (u' := 12) (by omega) (by omega) ?_
          exact s_X11_set_52 v0 M11 _ hf
        · have hf := ite_f c15 hf
          refine g_iload_n (pc' := 47) dX11_set_46 rfl rfl ?_
          refine g_iload (pc' := 49) dX11_set_47 rfl rfl ?_
          refine g_icmp_ne (pc' := 52) 57 dX11_set_49 rfl (by decide) (fun c16 => ?_) (fun c16 => ?_)
          · have hf := ite_f c16 hf
            refine g_aload_n (pc' := 58) dX11_set_57 rfl rfl ?_
            obtain ⟨h17, hf⟩ := chk_s hf
            refine g_getR (pc' := 61) 11 6 rfl rfl (by decide) inX11 (by decide) rfl rfl q_40 dX11_set_58 rfl h17 ?_
            obtain ⟨hm18, hf⟩ := chk_s hf
            obtain ⟨ha18, hf⟩ := chk_s hf
            refine g_new (pc' := 64) (k' := 3) (u' := 17) 0 rfl rfl (by decide) inX0 tyX0_ok dfX0 (by decide) q_1388 q_625 q_626 dX11_set_61 rfl hm18 (okrB_ok ha18 rfl) (by omega) (by omega) (by show 3 ≤ 3; omega) (by show 17 ≤ 17; omega) (gM fun M19 hM19 => ?_)
            have hf := ap_eq hf hM19
            refine g_dup (pc' := 65) dX11_set_64 rfl rfl ?_
            refine g_iconst (pc' := 66) (2 : Int32) dX11_set_65 rfl (by decide) ?_
            refine g_iload_n (pc' := 67) dX11_set_66 rfl rfl ?_
            refine g_iload_n (pc' := 68) dX11_set_67 rfl rfl ?_
            refine g_iload (pc' := 70) dX11_set_68 rfl rfl ?_
            refine g_null (pc' := 71) dX11_set_70 rfl ?_
            obtain ⟨ho20, hf⟩ := chk_s hf
            obtain ⟨_, M21, e22, hf⟩ := bnd_some hf
            refine g_callIv (pc' := 74) (k' := 3) (u' := 17) (fr2 := 1) (As := [aI (2 : Int32), aI v1, aI v2, aI (mI M2 (mR M2 (mR M2 (mR M2 (mR M2 v0 6) 0) v1.toNatClampNeg) 2) v2.toNatClampNeg), aR 0]) (b := (mn M11 + 1)) (st := [aR (mn M11 + 1), aR (mR M11 v0 6)]) cf_X0_init q_1402 (by omega) ho20 dX11_set_71 rfl rfl rfl (Nat.le_of_ble_eq_true rfl) (Or.inl rfl) (by show 3 + 0 ≤ 3; omega) (by show 17 + 0 ≤ 17; omega) (by show 3 ≤ 3; omega) (by show 17 ≤ 17; omega) (s_X0_init (mn M11 + 1) (2 : Int32) v1 v2 (mI M2 (mR M2 (mR M2 (mR M2 (mR M2 v0 6) 0) v1.toNatClampNeg) 2) v2.toNatClampNeg) 0 M19 _ e22) ?_
            obtain ⟨h23, hf⟩ := chk_s hf
            obtain ⟨_, M24, e25, hf⟩ := bnd_some hf
            refine g_callVv (pc' := 77) (k' := 3) (u' := 17) (fr2 := 1) (As := [aR (mn M11 + 1)]) (b := (mR M11 v0 6)) (st := []) cf_X7_keep q_1403 (by omega) (ci := 7) rfl rfl (by decide) dX11_set_74 rfl rfl rfl (Nat.le_of_ble_eq_true rfl) (Or.inl rfl) (by show 3 + 0 ≤ 3; omega) (by show 17 + 0 ≤ 17; omega) (by show 3 ≤ 3; omega) (by show 17 ≤ 17; omega) h23 (s_X7_keep (mR M11 v0 6) (mn M11 + 1) M21 _ e25) ?_
            refine g_aload (pc' := 79) dX11_set_77 rfl rfl ?_
            obtain ⟨h26, hf⟩ := chk_s hf
            refine g_getR (pc' := 82) 2 2 rfl rfl (by decide) inX2 (by decide) rfl rfl q_992 dX11_set_79 rfl h26 ?_
            refine g_iload_n (pc' := 83) dX11_set_82 rfl rfl ?_
            refine g_iload_n (pc' := 84) dX11_set_83 rfl rfl ?_
            obtain ⟨h27, hf⟩ := chk_s hf
            obtain ⟨b28, hf⟩ := chk_s hf
            refine g_iast (pc' := 85) dX11_set_84 rfl h27 (inB_in b28) (gM fun M29 hM29 => ?_)
            have hf := ap_eq hf hM29
            refine g_iload (pc' := 87) dX11_set_85 rfl rfl ?_
            cases hf
            exact g_ireturn dX11_set_87 rfl (Nat.le_of_ble_eq_true rfl) (Nat.le_of_ble_eq_true rfl)
          · have hf := ite_t c16 hf
            refine g_mask [true, false, false, false, false, false] rfl ?_
            refine g_widen (k' := 2) (u' := 12) (by omega) (by omega) ?_
            exact s_X11_set_52 v0 M11 _ hf
def f_X11_damage_102 (v1 : Int32) (v2 : Int32) (v4 : Int32) (v6 : Nat) (v7 : Int32) (w0 : Nat) (w1 : Nat) (w2 : Nat) (w3 : Int32) (M : Mem) : Option ((Nat ⊕ Int32) × Mem) :=
  if ¬ w2 = 0 then
    bnd (f_X0_init w2 w3 v1 v2 v7 0 M) fun _ M2 =>
    if mK M2 w0 = 8 then
      bnd (f_X7_keep w0 w1 M2) fun _ M5 =>
      if mK M5 v6 = 21 then
        if inB v2 (mN M5 v6) = true then
          ap (sI M5 v6 v2.toNatClampNeg v4) fun M9 =>
          some (.inr v7, M9)
        else none
      else none
    else none
  else none
def f_X11_damage_80 (v0 : Nat) (M : Mem) : Option ((Nat ⊕ Int32) × Mem) :=
  if mK M v0 = 12 then
    bnd (f_X11_refuse v0 M) fun r3 M2 =>
    some (.inr r3, M2)
  else none
def f_X11_damage_53 (v0 : Nat) (v1 : Int32) (v2 : Int32) (v3 : Int32) (v4 : Int32) (w0 : Nat) (M : Mem) : Option ((Nat ⊕ Int32) × Mem) :=
  if mK M w0 = 21 then
    if inB v2 (mN M w0) = true then
      if v4 < 0 then
        f_X11_damage_80 v0 M
      else
        if (9 : Int32) < v4 then
          f_X11_damage_80 v0 M
        else
          if v4 = (mI M w0 v2.toNatClampNeg) then
            f_X11_damage_80 v0 M
          else
            if mK M v0 = 12 then
              if mn M + 1 < 900000 then
                if okrB M [v0, w0, (mR M v0 6)] = true then
                ap (mNew M 1 0) fun M8 =>
                if v3 = 0 then
                  f_X11_damage_102 v1 v2 v4 w0 (mI M w0 v2.toNatClampNeg) (mR M v0 6) (mn M + 1) (mn M + 1) (3 : Int32) M8
                else
                  f_X11_damage_102 v1 v2 v4 w0 (mI M w0 v2.toNatClampNeg) (mR M v0 6) (mn M + 1) (mn M + 1) (4 : Int32) M8
                else none
              else none
            else none
    else none
  else none
def f_X11_damage_25 (v0 : Nat) (v1 : Int32) (v2 : Int32) (v3 : Int32) (v4 : Int32) (M : Mem) : Option ((Nat ⊕ Int32) × Mem) :=
  if mK M v0 = 12 then
    if mK M (mR M v0 6) = 8 then
      if mK M (mR M (mR M v0 6) 0) = 23 then
        if inB v1 (mN M (mR M (mR M v0 6) 0)) = true then
          if v3 = 0 then
            if mK M (mR M (mR M (mR M v0 6) 0) v1.toNatClampNeg) = 3 then
              f_X11_damage_53 v0 v1 v2 v3 v4 (mR M (mR M (mR M (mR M v0 6) 0) v1.toNatClampNeg) 0) M
            else none
          else
            if mK M (mR M (mR M (mR M v0 6) 0) v1.toNatClampNeg) = 3 then
              f_X11_damage_53 v0 v1 v2 v3 v4 (mR M (mR M (mR M (mR M v0 6) 0) v1.toNatClampNeg) 1) M
            else none
        else none
      else none
    else none
  else none
def f_X11_damage (v0 : Nat) (v1 : Int32) (v2 : Int32) (v3 : Int32) (v4 : Int32) (M : Mem) : Option ((Nat ⊕ Int32) × Mem) :=
  if mK M v0 = 12 then
    bndX (f_X11_needEntry v0 v1 v2 M) fun _ M2 =>
    if v3 = 0 then
      f_X11_damage_25 v0 v1 v2 v3 v4 M2
    else
      if v3 = (1 : Int32) then
        f_X11_damage_25 v0 v1 v2 v3 v4 M2
      else
        some (.inl 1, M2)
  else none
theorem s_X11_damage_102 (v1 : Int32) (v2 : Int32) (v4 : Int32) (v6 : Nat) (v7 : Int32) (w0 : Nat) (w1 : Nat) (w2 : Nat) (w3 : Int32) (M : Mem) (r : ((Nat ⊕ Int32) × Mem)) (hf : f_X11_damage_102 v1 v2 v4 v6 v7 w0 w1 w2 w3 M = some r) : G mi_X11_damage 8 (oX oI r.1) r.2 102 [none, some (aI v1), some (aI v2), none, some (aI v4), none, some (aR v6), some (aI v7)] [aI w3, aR w2, aR w1, aR w0] M 3 17 := by
  unfold f_X11_damage_102 at hf
  refine g_iload_n (pc' := 103) dX11_damage_102 rfl rfl ?_
  refine g_iload_n (pc' := 104) dX11_damage_103 rfl rfl ?_
  refine g_iload (pc' := 106) dX11_damage_104 rfl rfl ?_
  refine g_null (pc' := 107) dX11_damage_106 rfl ?_
  obtain ⟨ho1, hf⟩ := chk_s hf
  obtain ⟨_, M2, e3, hf⟩ := bnd_some hf
  refine g_callIv (pc' := 110) (k' := 3) (u' := 17) (fr2 := 1) (As := [aI w3, aI v1, aI v2, aI v7, aR 0]) (b := w2) (st := [aR w1, aR w0]) cf_X0_init q_1402 (by omega) ho1 dX11_damage_107 rfl rfl rfl (Nat.le_of_ble_eq_true rfl) (Or.inl rfl) (by show 3 + 0 ≤ 3; omega) (by show 17 + 0 ≤ 17; omega) (by show 3 ≤ 3; omega) (by show 17 ≤ 18; omega) (s_X0_init w2 w3 v1 v2 v7 0 M _ e3) ?_
  obtain ⟨h4, hf⟩ := chk_s hf
  obtain ⟨_, M5, e6, hf⟩ := bnd_some hf
  refine g_callVv (pc' := 113) (k' := 3) (u' := 17) (fr2 := 1) (As := [aR w1]) (b := w0) (st := []) cf_X7_keep q_1403 (by omega) (ci := 7) rfl rfl (by decide) dX11_damage_110 rfl rfl rfl (Nat.le_of_ble_eq_true rfl) (Or.inl rfl) (by show 3 + 0 ≤ 3; omega) (by show 17 + 0 ≤ 17; omega) (by show 3 ≤ 3; omega) (by show 17 ≤ 18; omega) h4 (s_X7_keep w0 w1 M2 _ e6) ?_
  refine g_aload (pc' := 115) dX11_damage_113 rfl rfl ?_
  refine g_iload_n (pc' := 116) dX11_damage_115 rfl rfl ?_
  refine g_iload (pc' := 118) dX11_damage_116 rfl rfl ?_
  obtain ⟨h7, hf⟩ := chk_s hf
  obtain ⟨b8, hf⟩ := chk_s hf
  refine g_iast (pc' := 119) dX11_damage_118 rfl h7 (inB_in b8) (gM fun M9 hM9 => ?_)
  have hf := ap_eq hf hM9
  refine g_iload (pc' := 121) dX11_damage_119 rfl rfl ?_
  cases hf
  exact g_ireturn dX11_damage_121 rfl (Nat.le_of_ble_eq_true rfl) (Nat.le_of_ble_eq_true rfl)
theorem s_X11_damage_80 (v0 : Nat) (M : Mem) (r : ((Nat ⊕ Int32) × Mem)) (hf : f_X11_damage_80 v0 M = some r) : G mi_X11_damage 8 (oX oI r.1) r.2 80 [some (aR v0), none, none, none, none, none, none, none] [] M 2 12 := by
  unfold f_X11_damage_80 at hf
  refine g_aload_n (pc' := 81) dX11_damage_80 rfl rfl ?_
  obtain ⟨h1, hf⟩ := chk_s hf
  obtain ⟨r3, M2, e3, hf⟩ := bnd_some hf
  refine g_callVi (pc' := 84) (k' := 2) (u' := 12) (fr2 := 1) (As := []) (b := v0) (st := []) cf_X11_refuse q_547 (by omega) (ci := 11) rfl rfl (by decide) dX11_damage_81 rfl rfl rfl (Nat.le_of_ble_eq_true rfl) (Or.inl rfl) (by show 2 + 0 ≤ 2; omega) (by show 12 + 0 ≤ 12; omega) (by show 2 ≤ 3; omega) (by show 12 ≤ 18; omega) h1 (s_X11_refuse v0 M _ e3) ?_
  cases hf
  exact g_ireturn dX11_damage_84 rfl (Nat.le_of_ble_eq_true rfl) (Nat.le_of_ble_eq_true rfl)
theorem s_X11_damage_53 (v0 : Nat) (v1 : Int32) (v2 : Int32) (v3 : Int32) (v4 : Int32) (w0 : Nat) (M : Mem) (r : ((Nat ⊕ Int32) × Mem)) (hf : f_X11_damage_53 v0 v1 v2 v3 v4 w0 M = some r) : G mi_X11_damage 8 (oX oI r.1) r.2 53 [some (aR v0), some (aI v1), some (aI v2), some (aI v3), some (aI v4), none, none, none] [aR w0] M 2 12 := by
  unfold f_X11_damage_53 at hf
  refine g_astore (pc' := 55) (lv' := [some (aR v0), some (aI v1), some (aI v2), some (aI v3), some (aI v4), none, some (aR w0), none]) dX11_damage_53 rfl rfl (by decide) rfl ?_
  refine g_aload (pc' := 57) dX11_damage_55 rfl rfl ?_
  refine g_iload_n (pc' := 58) dX11_damage_57 rfl rfl ?_
  obtain ⟨h1, hf⟩ := chk_s hf
  obtain ⟨b2, hf⟩ := chk_s hf
  refine g_iald (pc' := 59) dX11_damage_58 rfl h1 (inB_in b2) ?_
  refine g_istore (pc' := 61) (lv' := [some (aR v0), some (aI v1), some (aI v2), some (aI v3), some (aI v4), none, some (aR w0), some (aI (mI M w0 v2.toNatClampNeg))]) dX11_damage_59 rfl rfl (by decide) rfl ?_
  refine g_iload (pc' := 63) dX11_damage_61 rfl rfl ?_
  refine g_if_lt (pc' := 66) 80 dX11_damage_63 rfl (by decide) (fun c3 => ?_) (fun c3 => ?_)
  · have hf := ite_t c3 hf
    refine g_mask [true, false, false, false, false, true, false, false] rfl ?_
    exact s_X11_damage_80 v0 M _ hf
  · have hf := ite_f c3 hf
    refine g_iload (pc' := 68) dX11_damage_66 rfl rfl ?_
    refine g_bipush (pc' := 70) (9 : Int32) dX11_damage_68 rfl (by decide) ?_
    refine g_icmp_gt (pc' := 73) 80 dX11_damage_70 rfl (by decide) (fun c4 => ?_) (fun c4 => ?_)
    · have hf := ite_t c4 hf
      refine g_mask [true, false, false, false, false, true, false, false] rfl ?_
      exact s_X11_damage_80 v0 M _ hf
    · have hf := ite_f c4 hf
      refine g_iload (pc' := 75) dX11_damage_73 rfl rfl ?_
      refine g_iload (pc' := 77) dX11_damage_75 rfl rfl ?_
      refine g_icmp_ne (pc' := 80) 85 dX11_damage_77 rfl (by decide) (fun c5 => ?_) (fun c5 => ?_)
      · have hf := ite_f c5 hf
        refine g_aload_n (pc' := 86) dX11_damage_85 rfl rfl ?_
        obtain ⟨h6, hf⟩ := chk_s hf
        refine g_getR (pc' := 89) 11 6 rfl rfl (by decide) inX11 (by decide) rfl rfl q_40 dX11_damage_86 rfl h6 ?_
        obtain ⟨hm7, hf⟩ := chk_s hf
        obtain ⟨ha7, hf⟩ := chk_s hf
        refine g_new (pc' := 92) (k' := 3) (u' := 17) 0 rfl rfl (by decide) inX0 tyX0_ok dfX0 (by decide) q_1388 q_625 q_626 dX11_damage_89 rfl hm7 (okrB_ok ha7 rfl) (by omega) (by omega) (by show 3 ≤ 3; omega) (by show 17 ≤ 18; omega) (gM fun M8 hM8 => ?_)
        have hf := ap_eq hf hM8
        refine g_dup (pc' := 93) dX11_damage_92 rfl rfl ?_
        refine g_iload_n (pc' := 94) dX11_damage_93 rfl rfl ?_
        refine g_if_ne (pc' := 97) 101 dX11_damage_94 rfl (by decide) (fun c9 => ?_) (fun c9 => ?_)
        · have hf := ite_f c9 hf
          refine g_iconst (pc' := 102) (4 : Int32) dX11_damage_101 rfl (by decide) ?_
          refine g_mask [false, true, true, false, true, true, true, true] rfl ?_
          refine g_widen (k' := 3) (u' := 17) (by omega) (by omega) ?_
          exact s_X11_damage_102 v1 v2 v4 w0 (mI M w0 v2.toNatClampNeg) (mR M v0 6) (mn M + 1) (mn M + 1) (4 : Int32) M8 _ hf
        · have hf := ite_t c9 hf
          refine g_iconst (pc' := 98) (3 : Int32) dX11_damage_97 rfl (by decide) ?_
          refine g_goto (pc' := 102) dX11_damage_98 (by decide) ?_
          refine g_mask [false, true, true, false, true, true, true, true] rfl ?_
          refine g_widen (k' := 3) (u' := 17) (by omega) (by omega) ?_
          exact s_X11_damage_102 v1 v2 v4 w0 (mI M w0 v2.toNatClampNeg) (mR M v0 6) (mn M + 1) (mn M + 1) (3 : Int32) M8 _ hf
      · have hf := ite_t c5 hf
        refine g_mask [true, false, false, false, false, true, false, false] rfl ?_
        exact s_X11_damage_80 v0 M _ hf
theorem s_X11_damage_25 (v0 : Nat) (v1 : Int32) (v2 : Int32) (v3 : Int32) (v4 : Int32) (M : Mem) (r : ((Nat ⊕ Int32) × Mem)) (hf : f_X11_damage_25 v0 v1 v2 v3 v4 M = some r) : G mi_X11_damage 8 (oX oI r.1) r.2 25 [some (aR v0), some (aI v1), some (aI v2), some (aI v3), some (aI v4), none, none, none] [] M 2 12 := by
  unfold f_X11_damage_25 at hf
  refine g_aload_n (pc' := 26) dX11_damage_25 rfl rfl ?_
  obtain ⟨h1, hf⟩ := chk_s hf
  refine g_getR (pc' := 29) 11 6 rfl rfl (by decide) inX11 (by decide) rfl rfl q_40 dX11_damage_26 rfl h1 ?_
  obtain ⟨h2, hf⟩ := chk_s hf
  refine g_getR (pc' := 32) 7 0 rfl rfl (by decide) inX7 (by decide) rfl rfl q_955 dX11_damage_29 rfl h2 ?_
  refine g_iload_n (pc' := 33) dX11_damage_32 rfl rfl ?_
  obtain ⟨h3, hf⟩ := chk_s hf
  obtain ⟨b4, hf⟩ := chk_s hf
  refine g_aald (pc' := 34) (t0 := 2) (fun _ => rfl) (by decide) dX11_damage_33 rfl h3 (inB_in b4) ?_
  refine g_astore (pc' := 36) (lv' := [some (aR v0), some (aI v1), some (aI v2), some (aI v3), some (aI v4), some (aR (mR M (mR M (mR M v0 6) 0) v1.toNatClampNeg)), none, none]) dX11_damage_34 rfl rfl (by decide) rfl ?_
  refine g_iload_n (pc' := 37) dX11_damage_36 rfl rfl ?_
  refine g_if_ne (pc' := 40) 48 dX11_damage_37 rfl (by decide) (fun c5 => ?_) (fun c5 => ?_)
  · have hf := ite_f c5 hf
    refine g_aload (pc' := 50) dX11_damage_48 rfl rfl ?_
    obtain ⟨h6, hf⟩ := chk_s hf
    refine g_getR (pc' := 53) 2 1 rfl rfl (by decide) inX2 (by decide) rfl rfl q_958 dX11_damage_50 rfl h6 ?_
    refine g_mask [true, true, true, true, true, false, true, true] rfl ?_
    exact s_X11_damage_53 v0 v1 v2 v3 v4 (mR M (mR M (mR M (mR M v0 6) 0) v1.toNatClampNeg) 1) M _ hf
  · have hf := ite_t c5 hf
    refine g_aload (pc' := 42) dX11_damage_40 rfl rfl ?_
    obtain ⟨h7, hf⟩ := chk_s hf
    refine g_getR (pc' := 45) 2 0 rfl rfl (by decide) inX2 (by decide) rfl rfl q_957 dX11_damage_42 rfl h7 ?_
    refine g_goto (pc' := 53) dX11_damage_45 (by decide) ?_
    refine g_mask [true, true, true, true, true, false, true, true] rfl ?_
    exact s_X11_damage_53 v0 v1 v2 v3 v4 (mR M (mR M (mR M (mR M v0 6) 0) v1.toNatClampNeg) 0) M _ hf
theorem s_X11_damage (v0 : Nat) (v1 : Int32) (v2 : Int32) (v3 : Int32) (v4 : Int32) (M : Mem) (r : ((Nat ⊕ Int32) × Mem)) (hf : f_X11_damage v0 v1 v2 v3 v4 M = some r) : Sem mi_X11_damage (8) [aR v0, aI v1, aI v2, aI v3, aI v4] M (oX oI r.1) r.2 := by
  unfold f_X11_damage at hf
  refine sem_of (by decide) rfl rfl rfl (Nat.le_of_ble_eq_true rfl) (lv := [some (aR v0), some (aI v1), some (aI v2), some (aI v3), some (aI v4), none, none, none]) rfl ?_
  refine g_aload_n (pc' := 1) dX11_damage_0 rfl rfl ?_
  refine g_iload_n (pc' := 2) dX11_damage_1 rfl rfl ?_
  refine g_iload_n (pc' := 3) dX11_damage_2 rfl rfl ?_
  obtain ⟨h1, hf⟩ := chk_s hf
  rcases bndX_some hf with ⟨e, M8, e3, rfl⟩ | ⟨_, M2, e3, hf⟩
  · exact g_callVX (fr2 := 7) (As := [aI v1, aI v2]) (b := v0) (st := []) cf_X11_needEntry q_993 (by omega) (ci := 11) rfl rfl (by decide) dX11_damage_3 rfl rfl (Nat.le_of_ble_eq_true rfl) (Or.inl rfl) rfl (by show 0 + 2 ≤ 3; omega) (by show 0 + 12 ≤ 18; omega) h1 (s_X11_needEntry v0 v1 v2 M _ e3)
  · refine g_callVv (pc' := 6) (k' := 2) (u' := 12) (fr2 := 7) (As := [aI v1, aI v2]) (b := v0) (st := []) cf_X11_needEntry q_993 (by omega) (ci := 11) rfl rfl (by decide) dX11_damage_3 rfl rfl rfl (Nat.le_of_ble_eq_true rfl) (Or.inl rfl) (by show 0 + 2 ≤ 2; omega) (by show 0 + 12 ≤ 12; omega) (by show 2 ≤ 3; omega) (by show 12 ≤ 18; omega) h1 (s_X11_needEntry v0 v1 v2 M _ e3) ?_
    refine g_iload_n (pc' := 7) dX11_damage_6 rfl rfl ?_
    refine g_if_eq (pc' := 10) 25 dX11_damage_7 rfl (by decide) (fun c4 => ?_) (fun c4 => ?_)
    · have hf := ite_t c4 hf
      refine g_widen (k' := 2) (u' := 12) (by omega) (by omega) ?_
      exact s_X11_damage_25 v0 v1 v2 v3 v4 M2 _ hf
    · have hf := ite_f c4 hf
      refine g_iload_n (pc' := 11) dX11_damage_10 rfl rfl ?_
      refine g_iconst (pc' := 12) (1 : Int32) dX11_damage_11 rfl (by decide) ?_
      refine g_icmp_eq (pc' := 15) 25 dX11_damage_12 rfl (by decide) (fun c5 => ?_) (fun c5 => ?_)
      · have hf := ite_t c5 hf
        refine g_widen (k' := 2) (u' := 12) (by omega) (by omega) ?_
        exact s_X11_damage_25 v0 v1 v2 v3 v4 M2 _ hf
      · have hf := ite_f c5 hf
        cases hf
        exact g_throwN (xi := 1) rfl dX11_damage_15 dX11_damage_18 dX11_damage_19 dX11_damage_21 dX11_damage_24 rfl rfl (by omega) (Nat.le_of_ble_eq_true rfl) (by show 2 + 1 ≤ 3; omega) (by show 12 + 6 ≤ 18; omega)
