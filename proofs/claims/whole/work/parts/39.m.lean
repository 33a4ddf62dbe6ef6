abbrev mi_X12_begin : MI := (yX12_begin, Cond.code yX12_begin cX12_begin 2 (some .boolean), cX12_begin, 2, (some .boolean), [], 0, 0, 0, none)
theorem cf_X12_begin : CFv mi_X12_begin 1 := ⟨⟨rfl, q_370, wall_i_LeafStripesModel, ⟨by decide, by decide, by decide +kernel⟩, by decide⟩, q_368, q_369⟩
abbrev mi_X12_ended : MI := (yX12_ended, Cond.code yX12_ended cX12_ended 1 (some .int), cX12_ended, 1, (some .int), [], 0, 0, 0, none)
theorem cf_X12_ended : CFv mi_X12_ended 0 := ⟨⟨rfl, q_458, wall_i_LeafStripesModel, ⟨by decide, by decide, by decide +kernel⟩, by decide⟩, q_456, q_457⟩
abbrev mi_X12_isSameName : MI := (yX12_isSameName, Cond.code yX12_isSameName cX12_isSameName 5 (some .boolean), cX12_isSameName, 5, (some .boolean), [], 0, 0, 0, none)
theorem cf_X12_isSameName : CFv mi_X12_isSameName 2 := ⟨⟨rfl, q_446, wall_i_LeafStripesModel, ⟨by decide, by decide, by decide +kernel⟩, by decide⟩, q_444, q_445⟩
abbrev mi_X12_fieldNamedAs : MI := (yX12_fieldNamedAs, Cond.code yX12_fieldNamedAs cX12_fieldNamedAs 6 (some .int), cX12_fieldNamedAs, 6, (some .int), [], 0, 0, 0, none)
theorem cf_X12_fieldNamedAs : CFv mi_X12_fieldNamedAs 4 := ⟨⟨rfl, q_442, wall_i_LeafStripesModel, ⟨by decide, by decide, by decide +kernel⟩, by decide⟩, q_440, q_441⟩
abbrev mi_X12_mayBeSeen : MI := (yX12_mayBeSeen, Cond.code yX12_mayBeSeen cX12_mayBeSeen 5 (some .boolean), cX12_mayBeSeen, 5, (some .boolean), [], 0, 0, 0, none)
theorem cf_X12_mayBeSeen : CFv mi_X12_mayBeSeen 1 := ⟨⟨rfl, q_438, wall_i_LeafStripesModel, ⟨by decide, by decide, by decide +kernel⟩, by decide⟩, q_436, q_437⟩
abbrev mi_X12_readName : MI := (yX12_readName, Cond.code yX12_readName cX12_readName 3 none, cX12_readName, 3, none, [], 0, 0, 0, none)
theorem cf_X12_readName : CFv mi_X12_readName 1 := ⟨⟨rfl, q_434, wall_i_LeafStripesModel, ⟨by decide, by decide, by decide +kernel⟩, by decide⟩, q_432, q_433⟩
abbrev mi_X12_isLeafThere : MI := (yX12_isLeafThere, Cond.code yX12_isLeafThere cX12_isLeafThere 2 (some .boolean), cX12_isLeafThere, 2, (some .boolean), [], 0, 0, 0, none)
theorem cf_X12_isLeafThere : CFv mi_X12_isLeafThere 1 := ⟨⟨rfl, q_450, wall_i_LeafStripesModel, ⟨by decide, by decide, by decide +kernel⟩, by decide⟩, q_448, q_449⟩
abbrev mi_X12_readField : MI := (yX12_readField, Cond.code yX12_readField cX12_readField 7 none, cX12_readField, 7, none, [], 0, 0, 0, none)
theorem cf_X12_readField : CFv mi_X12_readField 2 := ⟨⟨rfl, q_415, wall_i_LeafStripesModel, ⟨by decide, by decide, by decide +kernel⟩, by decide⟩, q_409, q_410⟩
abbrev mi_X12_readFields : MI := (yX12_readFields, Cond.code yX12_readFields cX12_readFields 3 none, cX12_readFields, 3, none, [], 0, 0, 0, none)
theorem cf_X12_readFields : CFv mi_X12_readFields 2 := ⟨⟨rfl, q_407, wall_i_LeafStripesModel, ⟨by decide, by decide, by decide +kernel⟩, by decide⟩, q_405, q_406⟩
abbrev mi_X12_readSchema : MI := (yX12_readSchema, Cond.code yX12_readSchema cX12_readSchema 2 none, cX12_readSchema, 2, none, [], 0, 0, 0, none)
theorem cf_X12_readSchema : CFv mi_X12_readSchema 1 := ⟨⟨rfl, q_376, wall_i_LeafStripesModel, ⟨by decide, by decide, by decide +kernel⟩, by decide⟩, q_374, q_375⟩
def f_X12_begin_17 (v0 : Nat) (M : Mem) : Option (Int32 × Mem) :=
  if mK M v0 = 13 then
    ap (sI M v0 2 (1 : Int32)) fun M2 =>
    some ((0 : Int32), M2)
  else none
def f_X12_begin (v0 : Nat) (v1 : Int32) (M : Mem) : Option (Int32 × Mem) :=
  if mK M v0 = 13 then
    ap (sI M v0 2 (0 : Int32)) fun M2 =>
    if v1 < 0 then
      f_X12_begin_17 v0 M2
    else
      if mK M2 v0 = 13 then
        if v1 ≤ (mI M2 v0 5) then
          ap (sI M2 v0 5 (0 : Int32)) fun M6 =>
          if mK M6 v0 = 13 then
            ap (sI M6 v0 7 v1) fun M8 =>
            if mK M8 v0 = 13 then
              ap (sI M8 v0 6 (0 : Int32)) fun M10 =>
              if mK M10 v0 = 13 then
                ap (sI M10 v0 12 (0 : Int32)) fun M12 =>
                some ((1 : Int32), M12)
              else none
            else none
          else none
        else
          f_X12_begin_17 v0 M2
      else none
  else none
theorem s_X12_begin_17 (v0 : Nat) (M : Mem) (r : (Int32 × Mem)) (hf : f_X12_begin_17 v0 M = some r) : G mi_X12_begin 1 (oI r.1) r.2 17 [some (aR v0), none] [] M 0 0 := by
  unfold f_X12_begin_17 at hf
  refine g_aload_n (pc' := 18) dX12_begin_17 rfl rfl ?_
  refine g_iconst (pc' := 19) (1 : Int32) dX12_begin_18 rfl (by decide) ?_
  obtain ⟨h1, hf⟩ := chk_s hf
  refine g_putI (pc' := 22) 12 2 rfl rfl (by decide) inX12 tyX12_ok nmX12 (by decide) rfl rfl rfl rfl q_167 dX12_begin_19 rfl h1 (gM fun M2 hM2 => ?_)
  have hf := ap_eq hf hM2
  refine g_iconst (pc' := 23) (0 : Int32) dX12_begin_22 rfl (by decide) ?_
  cases hf
  exact g_zreturn dX12_begin_23 rfl (Or.inl rfl) (Nat.le_of_ble_eq_true rfl) (Nat.le_of_ble_eq_true rfl)
theorem s_X12_begin (v0 : Nat) (v1 : Int32) (M : Mem) (r : (Int32 × Mem)) (hf : f_X12_begin v0 v1 M = some r) : Sem mi_X12_begin (1) [aR v0, aI v1] M (oI r.1) r.2 := by
  unfold f_X12_begin at hf
  refine sem_of (by decide) rfl rfl rfl (Nat.le_of_ble_eq_true rfl) (lv := [some (aR v0), some (aI v1)]) rfl ?_
  refine g_aload_n (pc' := 1) dX12_begin_0 rfl rfl ?_
  refine g_iconst (pc' := 2) (0 : Int32) dX12_begin_1 rfl (by decide) ?_
  obtain ⟨h1, hf⟩ := chk_s hf
  refine g_putI (pc' := 5) 12 2 rfl rfl (by decide) inX12 tyX12_ok nmX12 (by decide) rfl rfl rfl rfl q_167 dX12_begin_2 rfl h1 (gM fun M2 hM2 => ?_)
  have hf := ap_eq hf hM2
  refine g_iload_n (pc' := 6) dX12_begin_5 rfl rfl ?_
  refine g_if_lt (pc' := 9) 17 dX12_begin_6 rfl (by decide) (fun c3 => ?_) (fun c3 => ?_)
  · have hf := ite_t c3 hf
    refine g_mask [true, false] rfl ?_
    exact s_X12_begin_17 v0 M2 _ hf
  · have hf := ite_f c3 hf
    refine g_iload_n (pc' := 10) dX12_begin_9 rfl rfl ?_
    refine g_aload_n (pc' := 11) dX12_begin_10 rfl rfl ?_
    obtain ⟨h4, hf⟩ := chk_s hf
    refine g_getI (pc' := 14) 12 5 rfl rfl (by decide) inX12 (by decide) rfl rfl q_168 dX12_begin_11 rfl h4 ?_
    refine g_icmp_le (pc' := 17) 24 dX12_begin_14 rfl (by decide) (fun c5 => ?_) (fun c5 => ?_)
    · have hf := ite_t c5 hf
      refine g_aload_n (pc' := 25) dX12_begin_24 rfl rfl ?_
      refine g_iconst (pc' := 26) (0 : Int32) dX12_begin_25 rfl (by decide) ?_
      refine g_putI (pc' := 29) 12 5 rfl rfl (by decide) inX12 tyX12_ok nmX12 (by decide) rfl rfl rfl rfl q_168 dX12_begin_26 rfl h4 (gM fun M6 hM6 => ?_)
      have hf := ap_eq hf hM6
      refine g_aload_n (pc' := 30) dX12_begin_29 rfl rfl ?_
      refine g_iload_n (pc' := 31) dX12_begin_30 rfl rfl ?_
      obtain ⟨h7, hf⟩ := chk_s hf
      refine g_putI (pc' := 34) 12 7 rfl rfl (by decide) inX12 tyX12_ok nmX12 (by decide) rfl rfl rfl rfl q_371 dX12_begin_31 rfl h7 (gM fun M8 hM8 => ?_)
      have hf := ap_eq hf hM8
      refine g_aload_n (pc' := 35) dX12_begin_34 rfl rfl ?_
      refine g_iconst (pc' := 36) (0 : Int32) dX12_begin_35 rfl (by decide) ?_
      obtain ⟨h9, hf⟩ := chk_s hf
      refine g_putI (pc' := 39) 12 6 rfl rfl (by decide) inX12 tyX12_ok nmX12 (by decide) rfl rfl rfl rfl q_372 dX12_begin_36 rfl h9 (gM fun M10 hM10 => ?_)
      have hf := ap_eq hf hM10
      refine g_aload_n (pc' := 40) dX12_begin_39 rfl rfl ?_
      refine g_iconst (pc' := 41) (0 : Int32) dX12_begin_40 rfl (by decide) ?_
      obtain ⟨h11, hf⟩ := chk_s hf
      refine g_putI (pc' := 44) 12 12 rfl rfl (by decide) inX12 tyX12_ok nmX12 (by decide) rfl rfl rfl rfl q_362 dX12_begin_41 rfl h11 (gM fun M12 hM12 => ?_)
      have hf := ap_eq hf hM12
      refine g_iconst (pc' := 45) (1 : Int32) dX12_begin_44 rfl (by decide) ?_
      cases hf
      exact g_zreturn dX12_begin_45 rfl (Or.inr rfl) (Nat.le_of_ble_eq_true rfl) (Nat.le_of_ble_eq_true rfl)
    · have hf := ite_f c5 hf
      refine g_mask [true, false] rfl ?_
      exact s_X12_begin_17 v0 M2 _ hf
def f_X12_ended_38 (v0 : Nat) (w0 : Nat) (w1 : Int32) (w2 : Int32) (w3 : Int32) (M : Mem) : Option (Int32 × Mem) :=
  if mK M w0 = 21 then
    if inB w1 (mN M w0) = true then
      ap (sI M w0 w1.toNatClampNeg (w2 + w3)) fun M3 =>
      if mK M3 v0 = 13 then
        some (mI M3 v0 12, M3)
      else none
    else none
  else none
def f_X12_ended_16 (v0 : Nat) (w0 : Nat) (w1 : Int32) (M : Mem) : Option (Int32 × Mem) :=
  if mK M w0 = 13 then
    ap (sI M w0 14 w1) fun M2 =>
    if mK M2 v0 = 13 then
      if mK M2 (mR M2 v0 4) = 21 then
        if inB (0 : Int32) (mN M2 (mR M2 v0 4)) = true then
          if (mI M2 v0 12) = 0 then
            f_X12_ended_38 v0 (mR M2 v0 4) (0 : Int32) (mI M2 (mR M2 v0 4) (0 : Int32).toNatClampNeg) (0 : Int32) M2
          else
            f_X12_ended_38 v0 (mR M2 v0 4) (0 : Int32) (mI M2 (mR M2 v0 4) (0 : Int32).toNatClampNeg) (1 : Int32) M2
        else none
      else none
    else none
  else none
def f_X12_ended (v0 : Nat) (M : Mem) : Option (Int32 × Mem) :=
  if mK M v0 = 13 then
    if (mI M v0 12) = 0 then
      f_X12_ended_16 v0 v0 (-1 : Int32) M
    else
      f_X12_ended_16 v0 v0 (mI M v0 13) M
  else none
theorem s_X12_ended_38 (v0 : Nat) (w0 : Nat) (w1 : Int32) (w2 : Int32) (w3 : Int32) (M : Mem) (r : (Int32 × Mem)) (hf : f_X12_ended_38 v0 w0 w1 w2 w3 M = some r) : G mi_X12_ended 1 (oI r.1) r.2 38 [some (aR v0)] [aI w3, aI w2, aI w1, aR w0] M 0 0 := by
  unfold f_X12_ended_38 at hf
  refine g_iadd (pc' := 39) dX12_ended_38 rfl ?_
  obtain ⟨h1, hf⟩ := chk_s hf
  obtain ⟨b2, hf⟩ := chk_s hf
  refine g_iast (pc' := 40) dX12_ended_39 rfl h1 (inB_in b2) (gM fun M3 hM3 => ?_)
  have hf := ap_eq hf hM3
  refine g_aload_n (pc' := 41) dX12_ended_40 rfl rfl ?_
  obtain ⟨h4, hf⟩ := chk_s hf
  refine g_getI (pc' := 44) 12 12 rfl rfl (by decide) inX12 (by decide) rfl rfl q_362 dX12_ended_41 rfl h4 ?_
  cases hf
  exact g_ireturn dX12_ended_44 rfl (Nat.le_of_ble_eq_true rfl) (Nat.le_of_ble_eq_true rfl)
theorem s_X12_ended_16 (v0 : Nat) (w0 : Nat) (w1 : Int32) (M : Mem) (r : (Int32 × Mem)) (hf : f_X12_ended_16 v0 w0 w1 M = some r) : G mi_X12_ended 1 (oI r.1) r.2 16 [some (aR v0)] [aI w1, aR w0] M 0 0 := by
  unfold f_X12_ended_16 at hf
  obtain ⟨h1, hf⟩ := chk_s hf
  refine g_putI (pc' := 19) 12 14 rfl rfl (by decide) inX12 tyX12_ok nmX12 (by decide) rfl rfl rfl rfl q_126 dX12_ended_16 rfl h1 (gM fun M2 hM2 => ?_)
  have hf := ap_eq hf hM2
  refine g_aload_n (pc' := 20) dX12_ended_19 rfl rfl ?_
  obtain ⟨h3, hf⟩ := chk_s hf
  refine g_getR (pc' := 23) 12 4 rfl rfl (by decide) inX12 (by decide) rfl rfl q_125 dX12_ended_20 rfl h3 ?_
  refine g_iconst (pc' := 24) (0 : Int32) dX12_ended_23 rfl (by decide) ?_
  refine g_dup2 (pc' := 25) dX12_ended_24 rfl rfl rfl ?_
  obtain ⟨h4, hf⟩ := chk_s hf
  obtain ⟨b5, hf⟩ := chk_s hf
  refine g_iald (pc' := 26) dX12_ended_25 rfl h4 (inB_in b5) ?_
  refine g_aload_n (pc' := 27) dX12_ended_26 rfl rfl ?_
  refine g_getI (pc' := 30) 12 12 rfl rfl (by decide) inX12 (by decide) rfl rfl q_362 dX12_ended_27 rfl h3 ?_
  refine g_if_ne (pc' := 33) 37 dX12_ended_30 rfl (by decide) (fun c6 => ?_) (fun c6 => ?_)
  · have hf := ite_f c6 hf
    refine g_iconst (pc' := 38) (1 : Int32) dX12_ended_37 rfl (by decide) ?_
    exact s_X12_ended_38 v0 (mR M2 v0 4) (0 : Int32) (mI M2 (mR M2 v0 4) (0 : Int32).toNatClampNeg) (1 : Int32) M2 _ hf
  · have hf := ite_t c6 hf
    refine g_iconst (pc' := 34) (0 : Int32) dX12_ended_33 rfl (by decide) ?_
    refine g_goto (pc' := 38) dX12_ended_34 (by decide) ?_
    exact s_X12_ended_38 v0 (mR M2 v0 4) (0 : Int32) (mI M2 (mR M2 v0 4) (0 : Int32).toNatClampNeg) (0 : Int32) M2 _ hf
theorem s_X12_ended (v0 : Nat) (M : Mem) (r : (Int32 × Mem)) (hf : f_X12_ended v0 M = some r) : Sem mi_X12_ended (1) [aR v0] M (oI r.1) r.2 := by
  unfold f_X12_ended at hf
  refine sem_of (by decide) rfl rfl rfl (Nat.le_of_ble_eq_true rfl) (lv := [some (aR v0)]) rfl ?_
  refine g_aload_n (pc' := 1) dX12_ended_0 rfl rfl ?_
  refine g_aload_n (pc' := 2) dX12_ended_1 rfl rfl ?_
  obtain ⟨h1, hf⟩ := chk_s hf
  refine g_getI (pc' := 5) 12 12 rfl rfl (by decide) inX12 (by decide) rfl rfl q_362 dX12_ended_2 rfl h1 ?_
  refine g_if_ne (pc' := 8) 12 dX12_ended_5 rfl (by decide) (fun c2 => ?_) (fun c2 => ?_)
  · have hf := ite_f c2 hf
    refine g_aload_n (pc' := 13) dX12_ended_12 rfl rfl ?_
    refine g_getI (pc' := 16) 12 13 rfl rfl (by decide) inX12 (by decide) rfl rfl q_430 dX12_ended_13 rfl h1 ?_
    exact s_X12_ended_16 v0 v0 (mI M v0 13) M _ hf
  · have hf := ite_t c2 hf
    refine g_iconst (pc' := 9) (-1 : Int32) dX12_ended_8 rfl (by decide) ?_
    refine g_goto (pc' := 16) dX12_ended_9 (by decide) ?_
    exact s_X12_ended_16 v0 v0 (-1 : Int32) M _ hf
def f_X12_isSameName_69 (k24 : Nat → Int32 → Int32 → Int32 → Int32 → Mem → Option (Int32 × Mem)) (v0 : Nat) (v1 : Int32) (v2 : Int32) (v4 : Int32) (w0 : Int32) (M : Mem) : Option (Int32 × Mem) :=
  k24 v0 v1 v2 w0 (v4 + 1) M
def f_X12_isSameName_24 : Nat → Nat → Int32 → Int32 → Int32 → Int32 → Mem → Option (Int32 × Mem)
  | 0, _, _, _, _, _, _ => none
  | n + 1, v0, v1, v2, v3, v4, M =>
    if mK M v0 = 13 then
      if mK M (mR M v0 20) = 21 then
        if inB v1 (mN M (mR M v0 20)) = true then
          if (mI M (mR M v0 20) v1.toNatClampNeg) ≤ v4 then
            if zB v3 = true then
            some (v3, M)
            else none
          else
            if v3 = 0 then
              if zB v3 = true then
              some (v3, M)
              else none
            else
              if mK M (mR M v0 22) = 21 then
                if inB (((4 : Int32) * v1) + v4) (mN M (mR M v0 22)) = true then
                  if inB (((4 : Int32) * v2) + v4) (mN M (mR M v0 22)) = true then
                    if (mI M (mR M v0 22) (((4 : Int32) * v1) + v4).toNatClampNeg) = (mI M (mR M v0 22) (((4 : Int32) * v2) + v4).toNatClampNeg) then
                      f_X12_isSameName_69 (f_X12_isSameName_24 n) v0 v1 v2 v4 (1 : Int32) M
                    else
                      f_X12_isSameName_69 (f_X12_isSameName_24 n) v0 v1 v2 v4 (0 : Int32) M
                  else none
                else none
              else none
        else none
      else none
    else none
def f_X12_isSameName_20 (v0 : Nat) (v1 : Int32) (v2 : Int32) (w0 : Int32) (M : Mem) : Option (Int32 × Mem) :=
  f_X12_isSameName_24 FUEL v0 v1 v2 w0 (0 : Int32) M
def f_X12_isSameName (v0 : Nat) (v1 : Int32) (v2 : Int32) (M : Mem) : Option (Int32 × Mem) :=
  if mK M v0 = 13 then
    if mK M (mR M v0 20) = 21 then
      if inB v1 (mN M (mR M v0 20)) = true then
        if inB v2 (mN M (mR M v0 20)) = true then
          if (mI M (mR M v0 20) v1.toNatClampNeg) = (mI M (mR M v0 20) v2.toNatClampNeg) then
            f_X12_isSameName_20 v0 v1 v2 (1 : Int32) M
          else
            f_X12_isSameName_20 v0 v1 v2 (0 : Int32) M
        else none
      else none
    else none
  else none
theorem s_X12_isSameName_69 (k24 : Nat → Int32 → Int32 → Int32 → Int32 → Mem → Option (Int32 × Mem)) (hk24 : ∀ (v0 : Nat) (v1 : Int32) (v2 : Int32) (v3 : Int32) (v4 : Int32) (M : Mem) (r : (Int32 × Mem)), k24 v0 v1 v2 v3 v4 M = some r → G mi_X12_isSameName 1 (oI r.1) r.2 24 [some (aR v0), some (aI v1), some (aI v2), some (aI v3), some (aI v4)] [] M 0 0) (v0 : Nat) (v1 : Int32) (v2 : Int32) (v4 : Int32) (w0 : Int32) (M : Mem) (r : (Int32 × Mem)) (hf : f_X12_isSameName_69 k24 v0 v1 v2 v4 w0 M = some r) : G mi_X12_isSameName 1 (oI r.1) r.2 69 [some (aR v0), some (aI v1), some (aI v2), none, some (aI v4)] [aI w0] M 0 0 := by
  unfold f_X12_isSameName_69 at hf
  refine g_istore_n (pc' := 70) (lv' := [some (aR v0), some (aI v1), some (aI v2), some (aI w0), some (aI v4)]) dX12_isSameName_69 rfl rfl (by decide) rfl ?_
  refine g_iinc (pc' := 73) (lv' := [some (aR v0), some (aI v1), some (aI v2), some (aI w0), some (aI (v4 + 1))]) (v4 + 1) dX12_isSameName_70 rfl rfl (by rfl) rfl (by decide) rfl ?_
  refine g_goto (pc' := 24) dX12_isSameName_73 (by decide) ?_
  exact hk24 v0 v1 v2 w0 (v4 + 1) M _ hf
theorem s_X12_isSameName_24 : ∀ (n : Nat) (v0 : Nat) (v1 : Int32) (v2 : Int32) (v3 : Int32) (v4 : Int32) (M : Mem) (r : (Int32 × Mem)), f_X12_isSameName_24 n v0 v1 v2 v3 v4 M = some r → G mi_X12_isSameName 1 (oI r.1) r.2 24 [some (aR v0), some (aI v1), some (aI v2), some (aI v3), some (aI v4)] [] M 0 0 := by
  intro n
  induction n with
  | zero => intro v0 v1 v2 v3 v4 M r hf; cases hf
  | succ n ih =>
    intro v0 v1 v2 v3 v4 M r hf
    unfold f_X12_isSameName_24 at hf
    refine g_iload (pc' := 26) dX12_isSameName_24 rfl rfl ?_
    refine g_aload_n (pc' := 27) dX12_isSameName_26 rfl rfl ?_
    obtain ⟨h1, hf⟩ := chk_s hf
    refine g_getR (pc' := 30) 12 20 rfl rfl (by decide) inX12 (by decide) rfl rfl q_132 dX12_isSameName_27 rfl h1 ?_
    refine g_iload_n (pc' := 31) dX12_isSameName_30 rfl rfl ?_
    obtain ⟨h2, hf⟩ := chk_s hf
    obtain ⟨b3, hf⟩ := chk_s hf
    refine g_iald (pc' := 32) dX12_isSameName_31 rfl h2 (inB_in b3) ?_
    refine g_icmp_ge (pc' := 35) 76 dX12_isSameName_32 rfl (by decide) (fun c4 => ?_) (fun c4 => ?_)
    · have hf := ite_t c4 hf
      refine g_iload_n (pc' := 77) dX12_isSameName_76 rfl rfl ?_
      obtain ⟨hz, hf⟩ := chk_s hf
      cases hf
      exact g_zreturn dX12_isSameName_77 rfl (zB_ok hz) (Nat.le_of_ble_eq_true rfl) (Nat.le_of_ble_eq_true rfl)
    · have hf := ite_f c4 hf
      refine g_iload_n (pc' := 36) dX12_isSameName_35 rfl rfl ?_
      refine g_if_eq (pc' := 39) 76 dX12_isSameName_36 rfl (by decide) (fun c5 => ?_) (fun c5 => ?_)
      · have hf := ite_t c5 hf
        refine g_iload_n (pc' := 77) dX12_isSameName_76 rfl rfl ?_
        obtain ⟨hz, hf⟩ := chk_s hf
        cases hf
        exact g_zreturn dX12_isSameName_77 rfl (zB_ok hz) (Nat.le_of_ble_eq_true rfl) (Nat.le_of_ble_eq_true rfl)
      · have hf := ite_f c5 hf
        refine g_aload_n (pc' := 40) dX12_isSameName_39 rfl rfl ?_
        refine g_getR (pc' := 43) 12 22 rfl rfl (by decide) inX12 (by decide) rfl rfl q_134 dX12_isSameName_40 rfl h1 ?_
        refine g_iconst (pc' := 44) (4 : Int32) dX12_isSameName_43 rfl (by decide) ?_
        refine g_iload_n (pc' := 45) dX12_isSameName_44 rfl rfl ?_
        refine g_imul (pc' := 46) dX12_isSameName_45 rfl ?_
        refine g_iload (pc' := 48) dX12_isSameName_46 rfl rfl ?_
        refine g_iadd (pc' := 49) dX12_isSameName_48 rfl ?_
        obtain ⟨h6, hf⟩ := chk_s hf
        obtain ⟨b7, hf⟩ := chk_s hf
        refine g_iald (pc' := 50) dX12_isSameName_49 rfl h6 (inB_in b7) ?_
        refine g_aload_n (pc' := 51) dX12_isSameName_50 rfl rfl ?_
        refine g_getR (pc' := 54) 12 22 rfl rfl (by decide) inX12 (by decide) rfl rfl q_134 dX12_isSameName_51 rfl h1 ?_
        refine g_iconst (pc' := 55) (4 : Int32) dX12_isSameName_54 rfl (by decide) ?_
        refine g_iload_n (pc' := 56) dX12_isSameName_55 rfl rfl ?_
        refine g_imul (pc' := 57) dX12_isSameName_56 rfl ?_
        refine g_iload (pc' := 59) dX12_isSameName_57 rfl rfl ?_
        refine g_iadd (pc' := 60) dX12_isSameName_59 rfl ?_
        obtain ⟨b8, hf⟩ := chk_s hf
        refine g_iald (pc' := 61) dX12_isSameName_60 rfl h6 (inB_in b8) ?_
        refine g_icmp_ne (pc' := 64) 68 dX12_isSameName_61 rfl (by decide) (fun c9 => ?_) (fun c9 => ?_)
        · have hf := ite_f c9 hf
          refine g_iconst (pc' := 69) (0 : Int32) dX12_isSameName_68 rfl (by decide) ?_
          refine g_mask [true, true, true, false, true] rfl ?_
          exact s_X12_isSameName_69 (f_X12_isSameName_24 n) ih v0 v1 v2 v4 (0 : Int32) M _ hf
        · have hf := ite_t c9 hf
          refine g_iconst (pc' := 65) (1 : Int32) dX12_isSameName_64 rfl (by decide) ?_
          refine g_goto (pc' := 69) dX12_isSameName_65 (by decide) ?_
          refine g_mask [true, true, true, false, true] rfl ?_
          exact s_X12_isSameName_69 (f_X12_isSameName_24 n) ih v0 v1 v2 v4 (1 : Int32) M _ hf
theorem s_X12_isSameName_20 (v0 : Nat) (v1 : Int32) (v2 : Int32) (w0 : Int32) (M : Mem) (r : (Int32 × Mem)) (hf : f_X12_isSameName_20 v0 v1 v2 w0 M = some r) : G mi_X12_isSameName 1 (oI r.1) r.2 20 [some (aR v0), some (aI v1), some (aI v2), none, none] [aI w0] M 0 0 := by
  unfold f_X12_isSameName_20 at hf
  refine g_istore_n (pc' := 21) (lv' := [some (aR v0), some (aI v1), some (aI v2), some (aI w0), none]) dX12_isSameName_20 rfl rfl (by decide) rfl ?_
  refine g_iconst (pc' := 22) (0 : Int32) dX12_isSameName_21 rfl (by decide) ?_
  refine g_istore (pc' := 24) (lv' := [some (aR v0), some (aI v1), some (aI v2), some (aI w0), some (aI (0 : Int32))]) dX12_isSameName_22 rfl rfl (by decide) rfl ?_
  exact s_X12_isSameName_24 FUEL v0 v1 v2 w0 (0 : Int32) M _ hf
theorem s_X12_isSameName (v0 : Nat) (v1 : Int32) (v2 : Int32) (M : Mem) (r : (Int32 × Mem)) (hf : f_X12_isSameName v0 v1 v2 M = some r) : Sem mi_X12_isSameName (1) [aR v0, aI v1, aI v2] M (oI r.1) r.2 := by
  unfold f_X12_isSameName at hf
  refine sem_of (by decide) rfl rfl rfl (Nat.le_of_ble_eq_true rfl) (lv := [some (aR v0), some (aI v1), some (aI v2), none, none]) rfl ?_
  refine g_aload_n (pc' := 1) dX12_isSameName_0 rfl rfl ?_
  obtain ⟨h1, hf⟩ := chk_s hf
  refine g_getR (pc' := 4) 12 20 rfl rfl (by decide) inX12 (by decide) rfl rfl q_132 dX12_isSameName_1 rfl h1 ?_
  refine g_iload_n (pc' := 5) dX12_isSameName_4 rfl rfl ?_
  obtain ⟨h2, hf⟩ := chk_s hf
  obtain ⟨b3, hf⟩ := chk_s hf
  refine g_iald (pc' := 6) dX12_isSameName_5 rfl h2 (inB_in b3) ?_
  refine g_aload_n (pc' := 7) dX12_isSameName_6 rfl rfl ?_
  refine g_getR (pc' := 10) 12 20 rfl rfl (by decide) inX12 (by decide) rfl rfl q_132 dX12_isSameName_7 rfl h1 ?_
  refine g_iload_n (pc' := 11) dX12_isSameName_10 rfl rfl ?_
  obtain ⟨b4, hf⟩ := chk_s hf
  refine g_iald (pc' := 12) dX12_isSameName_11 rfl h2 (inB_in b4) ?_
  refine g_icmp_ne (pc' := 15) 19 dX12_isSameName_12 rfl (by decide) (fun c5 => ?_) (fun c5 => ?_)
  · have hf := ite_f c5 hf
    refine g_iconst (pc' := 20) (0 : Int32) dX12_isSameName_19 rfl (by decide) ?_
    exact s_X12_isSameName_20 v0 v1 v2 (0 : Int32) M _ hf
  · have hf := ite_t c5 hf
    refine g_iconst (pc' := 16) (1 : Int32) dX12_isSameName_15 rfl (by decide) ?_
    refine g_goto (pc' := 20) dX12_isSameName_16 (by decide) ?_
    exact s_X12_isSameName_20 v0 v1 v2 (1 : Int32) M _ hf
def f_X12_fieldNamedAs_47 (k3 : Nat → Int32 → Int32 → Int32 → Int32 → Int32 → Mem → Option (Int32 × Mem)) (v0 : Nat) (v1 : Int32) (v2 : Int32) (v3 : Int32) (v4 : Int32) (v5 : Int32) (M : Mem) : Option (Int32 × Mem) :=
  k3 v0 v1 v2 v3 v4 (v5 + 1) M
def f_X12_fieldNamedAs_3 : Nat → Nat → Int32 → Int32 → Int32 → Int32 → Int32 → Mem → Option (Int32 × Mem)
  | 0, _, _, _, _, _, _, _ => none
  | n + 1, v0, v1, v2, v3, v4, v5, M =>
    if v2 ≤ v5 then
      some ((-1 : Int32), M)
    else
      if (v1 + v5) = v4 then
        f_X12_fieldNamedAs_47 (f_X12_fieldNamedAs_3 n) v0 v1 v2 v3 v4 v5 M
      else
        if mK M v0 = 13 then
          if mK M (mR M v0 16) = 21 then
            if inB (v1 + v5) (mN M (mR M v0 16)) = true then
              if (mI M (mR M v0 16) (v1 + v5).toNatClampNeg) = v3 then
                bnd (f_X12_isSameName v0 (v1 + v5) v4 M) fun r8 M7 =>
                if r8 = 0 then
                  f_X12_fieldNamedAs_47 (f_X12_fieldNamedAs_3 n) v0 v1 v2 v3 v4 v5 M7
                else
                  some (v5, M7)
              else
                f_X12_fieldNamedAs_47 (f_X12_fieldNamedAs_3 n) v0 v1 v2 v3 v4 v5 M
            else none
          else none
        else none
def f_X12_fieldNamedAs (v0 : Nat) (v1 : Int32) (v2 : Int32) (v3 : Int32) (v4 : Int32) (M : Mem) : Option (Int32 × Mem) :=
  f_X12_fieldNamedAs_3 FUEL v0 v1 v2 v3 v4 (0 : Int32) M
theorem s_X12_fieldNamedAs_47 (k3 : Nat → Int32 → Int32 → Int32 → Int32 → Int32 → Mem → Option (Int32 × Mem)) (hk3 : ∀ (v0 : Nat) (v1 : Int32) (v2 : Int32) (v3 : Int32) (v4 : Int32) (v5 : Int32) (M : Mem) (r : (Int32 × Mem)), k3 v0 v1 v2 v3 v4 v5 M = some r → G mi_X12_fieldNamedAs 2 (oI r.1) r.2 3 [some (aR v0), some (aI v1), some (aI v2), some (aI v3), some (aI v4), some (aI v5)] [] M 0 0) (v0 : Nat) (v1 : Int32) (v2 : Int32) (v3 : Int32) (v4 : Int32) (v5 : Int32) (M : Mem) (r : (Int32 × Mem)) (hf : f_X12_fieldNamedAs_47 k3 v0 v1 v2 v3 v4 v5 M = some r) : G mi_X12_fieldNamedAs 2 (oI r.1) r.2 47 [some (aR v0), some (aI v1), some (aI v2), some (aI v3), some (aI v4), some (aI v5)] [] M 0 0 := by
  unfold f_X12_fieldNamedAs_47 at hf
  refine g_iinc (pc' := 50) (lv' := [some (aR v0), some (aI v1), some (aI v2), some (aI v3), some (aI v4), some (aI (v5 + 1))]) (v5 + 1) dX12_fieldNamedAs_47 rfl rfl (by rfl) rfl (by decide) rfl ?_
  refine g_goto (pc' := 3) dX12_fieldNamedAs_50 (by decide) ?_
  exact hk3 v0 v1 v2 v3 v4 (v5 + 1) M _ hf
theorem s_X12_fieldNamedAs_3 : ∀ (n : Nat) (v0 : Nat) (v1 : Int32) (v2 : Int32) (v3 : Int32) (v4 : Int32) (v5 : Int32) (M : Mem) (r : (Int32 × Mem)), f_X12_fieldNamedAs_3 n v0 v1 v2 v3 v4 v5 M = some r → G mi_X12_fieldNamedAs 2 (oI r.1) r.2 3 [some (aR v0), some (aI v1), some (aI v2), some (aI v3), some (aI v4), some (aI v5)] [] M 0 0 := by
  intro n
  induction n with
  | zero => intro v0 v1 v2 v3 v4 v5 M r hf; cases hf
  | succ n ih =>
    intro v0 v1 v2 v3 v4 v5 M r hf
    unfold f_X12_fieldNamedAs_3 at hf
    refine g_iload (pc' := 5) dX12_fieldNamedAs_3 rfl rfl ?_
    refine g_iload_n (pc' := 6) dX12_fieldNamedAs_5 rfl rfl ?_
    refine g_icmp_ge (pc' := 9) 53 dX12_fieldNamedAs_6 rfl (by decide) (fun c1 => ?_) (fun c1 => ?_)
    · have hf := ite_t c1 hf
      refine g_iconst (pc' := 54) (-1 : Int32) dX12_fieldNamedAs_53 rfl (by decide) ?_
      cases hf
      exact g_ireturn dX12_fieldNamedAs_54 rfl (Nat.le_of_ble_eq_true rfl) (Nat.le_of_ble_eq_true rfl)
    · have hf := ite_f c1 hf
      refine g_iload_n (pc' := 10) dX12_fieldNamedAs_9 rfl rfl ?_
      refine g_iload (pc' := 12) dX12_fieldNamedAs_10 rfl rfl ?_
      refine g_iadd (pc' := 13) dX12_fieldNamedAs_12 rfl ?_
      refine g_iload (pc' := 15) dX12_fieldNamedAs_13 rfl rfl ?_
      refine g_icmp_eq (pc' := 18) 47 dX12_fieldNamedAs_15 rfl (by decide) (fun c2 => ?_) (fun c2 => ?_)
      · have hf := ite_t c2 hf
        exact s_X12_fieldNamedAs_47 (f_X12_fieldNamedAs_3 n) ih v0 v1 v2 v3 v4 v5 M _ hf
      · have hf := ite_f c2 hf
        refine g_aload_n (pc' := 19) dX12_fieldNamedAs_18 rfl rfl ?_
        obtain ⟨h3, hf⟩ := chk_s hf
        refine g_getR (pc' := 22) 12 16 rfl rfl (by decide) inX12 (by decide) rfl rfl q_128 dX12_fieldNamedAs_19 rfl h3 ?_
        refine g_iload_n (pc' := 23) dX12_fieldNamedAs_22 rfl rfl ?_
        refine g_iload (pc' := 25) dX12_fieldNamedAs_23 rfl rfl ?_
        refine g_iadd (pc' := 26) dX12_fieldNamedAs_25 rfl ?_
        obtain ⟨h4, hf⟩ := chk_s hf
        obtain ⟨b5, hf⟩ := chk_s hf
        refine g_iald (pc' := 27) dX12_fieldNamedAs_26 rfl h4 (inB_in b5) ?_
        refine g_iload_n (pc' := 28) dX12_fieldNamedAs_27 rfl rfl ?_
        refine g_icmp_ne (pc' := 31) 47 dX12_fieldNamedAs_28 rfl (by decide) (fun c6 => ?_) (fun c6 => ?_)
        · have hf := ite_f c6 hf
          exact s_X12_fieldNamedAs_47 (f_X12_fieldNamedAs_3 n) ih v0 v1 v2 v3 v4 v5 M _ hf
        · have hf := ite_t c6 hf
          refine g_aload_n (pc' := 32) dX12_fieldNamedAs_31 rfl rfl ?_
          refine g_iload_n (pc' := 33) dX12_fieldNamedAs_32 rfl rfl ?_
          refine g_iload (pc' := 35) dX12_fieldNamedAs_33 rfl rfl ?_
          refine g_iadd (pc' := 36) dX12_fieldNamedAs_35 rfl ?_
          refine g_iload (pc' := 38) dX12_fieldNamedAs_36 rfl rfl ?_
          obtain ⟨r8, M7, e8, hf⟩ := bnd_some hf
          refine g_callVi (pc' := 41) (k' := 0) (u' := 0) (fr2 := 1) (As := [aI (v1 + v5), aI v4]) (b := v0) (st := []) cf_X12_isSameName q_443 (by omega) (ci := 12) rfl rfl (by decide) dX12_fieldNamedAs_38 rfl rfl rfl (Nat.le_of_ble_eq_true rfl) (Or.inl rfl) (Nat.le_refl _) (Nat.le_refl _) (Nat.le_refl _) (Nat.le_refl _) h3 (s_X12_isSameName v0 (v1 + v5) v4 M _ e8) ?_
          refine g_if_eq (pc' := 44) 47 dX12_fieldNamedAs_41 rfl (by decide) (fun c9 => ?_) (fun c9 => ?_)
          · have hf := ite_t c9 hf
            refine g_widen (k' := 0) (u' := 0) (by omega) (by omega) ?_
            exact s_X12_fieldNamedAs_47 (f_X12_fieldNamedAs_3 n) ih v0 v1 v2 v3 v4 v5 M7 _ hf
          · have hf := ite_f c9 hf
            refine g_iload (pc' := 46) dX12_fieldNamedAs_44 rfl rfl ?_
            cases hf
            exact g_ireturn dX12_fieldNamedAs_46 rfl (Nat.le_of_ble_eq_true rfl) (Nat.le_of_ble_eq_true rfl)
theorem s_X12_fieldNamedAs (v0 : Nat) (v1 : Int32) (v2 : Int32) (v3 : Int32) (v4 : Int32) (M : Mem) (r : (Int32 × Mem)) (hf : f_X12_fieldNamedAs v0 v1 v2 v3 v4 M = some r) : Sem mi_X12_fieldNamedAs (2) [aR v0, aI v1, aI v2, aI v3, aI v4] M (oI r.1) r.2 := by
  unfold f_X12_fieldNamedAs at hf
  refine sem_of (by decide) rfl rfl rfl (Nat.le_of_ble_eq_true rfl) (lv := [some (aR v0), some (aI v1), some (aI v2), some (aI v3), some (aI v4), none]) rfl ?_
  refine g_iconst (pc' := 1) (0 : Int32) dX12_fieldNamedAs_0 rfl (by decide) ?_
  refine g_istore (pc' := 3) (lv' := [some (aR v0), some (aI v1), some (aI v2), some (aI v3), some (aI v4), some (aI (0 : Int32))]) dX12_fieldNamedAs_1 rfl rfl (by decide) rfl ?_
  exact s_X12_fieldNamedAs_3 FUEL v0 v1 v2 v3 v4 (0 : Int32) M _ hf
def f_X12_mayBeSeen_145  (M : Mem) : Option (Int32 × Mem) :=
  some ((1 : Int32), M)
def f_X12_mayBeSeen_100  (M : Mem) : Option (Int32 × Mem) :=
  some ((1 : Int32), M)
def f_X12_mayBeSeen_76 (v0 : Nat) (v1 : Int32) (v3 : Int32) (w0 : Nat) (w1 : Int32) (w2 : Int32) (M : Mem) : Option (Int32 × Mem) :=
  if mK M w0 = 21 then
    if inB w1 (mN M w0) = true then
      ap (sI M w0 w1.toNatClampNeg w2) fun M3 =>
      if mK M3 v0 = 13 then
        if mK M3 (mR M3 v0 21) = 21 then
          if inB v1 (mN M3 (mR M3 v0 21)) = true then
            if (mI M3 (mR M3 v0 21) v1.toNatClampNeg) = (-1 : Int32) then
              if v3 = 0 then
                f_X12_mayBeSeen_100 M3
              else
                if mK M3 (mR M3 v0 15) = 21 then
                  if inB v1 (mN M3 (mR M3 v0 15)) = true then
                    if (mI M3 (mR M3 v0 15) v1.toNatClampNeg) = 0 then
                      some ((0 : Int32), M3)
                    else
                      f_X12_mayBeSeen_100 M3
                  else none
                else none
            else
              if mK M3 (mR M3 v0 15) = 21 then
                if inB (mI M3 (mR M3 v0 21) v1.toNatClampNeg) (mN M3 (mR M3 v0 15)) = true then
                  if inB v1 (mN M3 (mR M3 v0 15)) = true then
                    if (mI M3 (mR M3 v0 15) (mI M3 (mR M3 v0 21) v1.toNatClampNeg).toNatClampNeg) = (mI M3 (mR M3 v0 15) v1.toNatClampNeg) then
                      f_X12_mayBeSeen_145 M3
                    else
                      if (mI M3 (mR M3 v0 15) (mI M3 (mR M3 v0 21) v1.toNatClampNeg).toNatClampNeg) = 0 then
                        if (mI M3 (mR M3 v0 15) v1.toNatClampNeg) = (1 : Int32) then
                          f_X12_mayBeSeen_145 M3
                        else
                          some ((0 : Int32), M3)
                      else
                        some ((0 : Int32), M3)
                  else none
                else none
              else none
          else none
        else none
      else none
    else none
  else none
def f_X12_mayBeSeen_49 (v0 : Nat) (v1 : Int32) (v2 : Int32) (w0 : Int32) (M : Mem) : Option (Int32 × Mem) :=
  if mK M v0 = 13 then
    if w0 = 0 then
      f_X12_mayBeSeen_76 v0 v1 w0 (mR M v0 21) v1 (-1 : Int32) M
    else
      if mK M (mR M v0 23) = 21 then
        if inB (0 : Int32) (mN M (mR M v0 23)) = true then
          bnd (f_X12_fieldNamedAs v0 (0 : Int32) (mI M (mR M v0 23) (0 : Int32).toNatClampNeg) v2 v1 M) fun r6 M5 =>
          f_X12_mayBeSeen_76 v0 v1 w0 (mR M v0 21) v1 r6 M5
        else none
      else none
  else none
def f_X12_mayBeSeen_44 (v0 : Nat) (v1 : Int32) (v2 : Int32) (M : Mem) : Option (Int32 × Mem) :=
  f_X12_mayBeSeen_49 v0 v1 v2 (1 : Int32) M
def f_X12_mayBeSeen_28 (v0 : Nat) (v1 : Int32) (w0 : Int32) (M : Mem) : Option (Int32 × Mem) :=
  if mK M v0 = 13 then
    if mK M (mR M v0 16) = 21 then
      if inB v1 (mN M (mR M v0 16)) = true then
        if (mI M (mR M v0 16) v1.toNatClampNeg) = (-1 : Int32) then
          f_X12_mayBeSeen_44 v0 v1 w0 M
        else
          if w0 = (-1 : Int32) then
            f_X12_mayBeSeen_49 v0 v1 w0 (0 : Int32) M
          else
            f_X12_mayBeSeen_44 v0 v1 w0 M
      else none
    else none
  else none
def f_X12_mayBeSeen (v0 : Nat) (v1 : Int32) (M : Mem) : Option (Int32 × Mem) :=
  if mK M v0 = 13 then
    if mK M (mR M v0 16) = 21 then
      if inB v1 (mN M (mR M v0 16)) = true then
        if (mI M (mR M v0 16) v1.toNatClampNeg) = (-1 : Int32) then
          f_X12_mayBeSeen_28 v0 v1 (-1 : Int32) M
        else
          if mK M (mR M v0 21) = 21 then
            if inB ((32 : Int32) + (mI M (mR M v0 16) v1.toNatClampNeg)) (mN M (mR M v0 21)) = true then
              f_X12_mayBeSeen_28 v0 v1 (mI M (mR M v0 21) ((32 : Int32) + (mI M (mR M v0 16) v1.toNatClampNeg)).toNatClampNeg) M
            else none
          else none
      else none
    else none
  else none
theorem s_X12_mayBeSeen_145  (M : Mem) (r : (Int32 × Mem)) (hf : f_X12_mayBeSeen_145  M = some r) : G mi_X12_mayBeSeen 3 (oI r.1) r.2 145 [none, none, none, none, none] [] M 0 0 := by
  unfold f_X12_mayBeSeen_145 at hf
  refine g_iconst (pc' := 146) (1 : Int32) dX12_mayBeSeen_145 rfl (by decide) ?_
  refine g_goto (pc' := 150) dX12_mayBeSeen_146 (by decide) ?_
  cases hf
  exact g_zreturn dX12_mayBeSeen_150 rfl (Or.inr rfl) (Nat.le_of_ble_eq_true rfl) (Nat.le_of_ble_eq_true rfl)
theorem s_X12_mayBeSeen_100  (M : Mem) (r : (Int32 × Mem)) (hf : f_X12_mayBeSeen_100  M = some r) : G mi_X12_mayBeSeen 3 (oI r.1) r.2 100 [none, none, none, none, none] [] M 0 0 := by
  unfold f_X12_mayBeSeen_100 at hf
  refine g_iconst (pc' := 101) (1 : Int32) dX12_mayBeSeen_100 rfl (by decide) ?_
  refine g_goto (pc' := 105) dX12_mayBeSeen_101 (by decide) ?_
  cases hf
  exact g_zreturn dX12_mayBeSeen_105 rfl (Or.inr rfl) (Nat.le_of_ble_eq_true rfl) (Nat.le_of_ble_eq_true rfl)
theorem s_X12_mayBeSeen_76 (v0 : Nat) (v1 : Int32) (v3 : Int32) (w0 : Nat) (w1 : Int32) (w2 : Int32) (M : Mem) (r : (Int32 × Mem)) (hf : f_X12_mayBeSeen_76 v0 v1 v3 w0 w1 w2 M = some r) : G mi_X12_mayBeSeen 3 (oI r.1) r.2 76 [some (aR v0), some (aI v1), none, some (aI v3), none] [aI w2, aI w1, aR w0] M 0 0 := by
  unfold f_X12_mayBeSeen_76 at hf
  obtain ⟨h1, hf⟩ := chk_s hf
  obtain ⟨b2, hf⟩ := chk_s hf
  refine g_iast (pc' := 77) dX12_mayBeSeen_76 rfl h1 (inB_in b2) (gM fun M3 hM3 => ?_)
  have hf := ap_eq hf hM3
  refine g_aload_n (pc' := 78) dX12_mayBeSeen_77 rfl rfl ?_
  obtain ⟨h4, hf⟩ := chk_s hf
  refine g_getR (pc' := 81) 12 21 rfl rfl (by decide) inX12 (by decide) rfl rfl q_133 dX12_mayBeSeen_78 rfl h4 ?_
  refine g_iload_n (pc' := 82) dX12_mayBeSeen_81 rfl rfl ?_
  obtain ⟨h5, hf⟩ := chk_s hf
  obtain ⟨b6, hf⟩ := chk_s hf
  refine g_iald (pc' := 83) dX12_mayBeSeen_82 rfl h5 (inB_in b6) ?_
  refine g_iconst (pc' := 84) (-1 : Int32) dX12_mayBeSeen_83 rfl (by decide) ?_
  refine g_icmp_ne (pc' := 87) 106 dX12_mayBeSeen_84 rfl (by decide) (fun c7 => ?_) (fun c7 => ?_)
  · have hf := ite_f c7 hf
    refine g_aload_n (pc' := 107) dX12_mayBeSeen_106 rfl rfl ?_
    refine g_getR (pc' := 110) 12 15 rfl rfl (by decide) inX12 (by decide) rfl rfl q_127 dX12_mayBeSeen_107 rfl h4 ?_
    refine g_aload_n (pc' := 111) dX12_mayBeSeen_110 rfl rfl ?_
    refine g_getR (pc' := 114) 12 21 rfl rfl (by decide) inX12 (by decide) rfl rfl q_133 dX12_mayBeSeen_111 rfl h4 ?_
    refine g_iload_n (pc' := 115) dX12_mayBeSeen_114 rfl rfl ?_
    refine g_iald (pc' := 116) dX12_mayBeSeen_115 rfl h5 (inB_in b6) ?_
    obtain ⟨h8, hf⟩ := chk_s hf
    obtain ⟨b9, hf⟩ := chk_s hf
    refine g_iald (pc' := 117) dX12_mayBeSeen_116 rfl h8 (inB_in b9) ?_
    refine g_istore (pc' := 119) (lv' := [some (aR v0), some (aI v1), none, some (aI v3), some (aI (mI M3 (mR M3 v0 15) (mI M3 (mR M3 v0 21) v1.toNatClampNeg).toNatClampNeg))]) dX12_mayBeSeen_117 rfl rfl (by decide) rfl ?_
    refine g_iload (pc' := 121) dX12_mayBeSeen_119 rfl rfl ?_
    refine g_aload_n (pc' := 122) dX12_mayBeSeen_121 rfl rfl ?_
    refine g_getR (pc' := 125) 12 15 rfl rfl (by decide) inX12 (by decide) rfl rfl q_127 dX12_mayBeSeen_122 rfl h4 ?_
    refine g_iload_n (pc' := 126) dX12_mayBeSeen_125 rfl rfl ?_
    obtain ⟨b10, hf⟩ := chk_s hf
    refine g_iald (pc' := 127) dX12_mayBeSeen_126 rfl h8 (inB_in b10) ?_
    refine g_icmp_eq (pc' := 130) 145 dX12_mayBeSeen_127 rfl (by decide) (fun c11 => ?_) (fun c11 => ?_)
    · have hf := ite_t c11 hf
      refine g_mask [false, false, true, false, false] rfl ?_
      exact s_X12_mayBeSeen_145 M3 _ hf
    · have hf := ite_f c11 hf
      refine g_iload (pc' := 132) dX12_mayBeSeen_130 rfl rfl ?_
      refine g_if_ne (pc' := 135) 149 dX12_mayBeSeen_132 rfl (by decide) (fun c12 => ?_) (fun c12 => ?_)
      · have hf := ite_f c12 hf
        refine g_iconst (pc' := 150) (0 : Int32) dX12_mayBeSeen_149 rfl (by decide) ?_
        cases hf
        exact g_zreturn dX12_mayBeSeen_150 rfl (Or.inl rfl) (Nat.le_of_ble_eq_true rfl) (Nat.le_of_ble_eq_true rfl)
      · have hf := ite_t c12 hf
        refine g_aload_n (pc' := 136) dX12_mayBeSeen_135 rfl rfl ?_
        refine g_getR (pc' := 139) 12 15 rfl rfl (by decide) inX12 (by decide) rfl rfl q_127 dX12_mayBeSeen_136 rfl h4 ?_
        refine g_iload_n (pc' := 140) dX12_mayBeSeen_139 rfl rfl ?_
        refine g_iald (pc' := 141) dX12_mayBeSeen_140 rfl h8 (inB_in b10) ?_
        refine g_iconst (pc' := 142) (1 : Int32) dX12_mayBeSeen_141 rfl (by decide) ?_
        refine g_icmp_ne (pc' := 145) 149 dX12_mayBeSeen_142 rfl (by decide) (fun c13 => ?_) (fun c13 => ?_)
        · have hf := ite_f c13 hf
          refine g_iconst (pc' := 150) (0 : Int32) dX12_mayBeSeen_149 rfl (by decide) ?_
          cases hf
          exact g_zreturn dX12_mayBeSeen_150 rfl (Or.inl rfl) (Nat.le_of_ble_eq_true rfl) (Nat.le_of_ble_eq_true rfl)
        · have hf := ite_t c13 hf
          refine g_mask [false, false, true, false, false] rfl ?_
          exact s_X12_mayBeSeen_145 M3 _ hf
  · have hf := ite_t c7 hf
    refine g_iload_n (pc' := 88) dX12_mayBeSeen_87 rfl rfl ?_
    refine g_if_eq (pc' := 91) 100 dX12_mayBeSeen_88 rfl (by decide) (fun c14 => ?_) (fun c14 => ?_)
    · have hf := ite_t c14 hf
      refine g_mask [false, false, true, false, true] rfl ?_
      exact s_X12_mayBeSeen_100 M3 _ hf
    · have hf := ite_f c14 hf
      refine g_aload_n (pc' := 92) dX12_mayBeSeen_91 rfl rfl ?_
      refine g_getR (pc' := 95) 12 15 rfl rfl (by decide) inX12 (by decide) rfl rfl q_127 dX12_mayBeSeen_92 rfl h4 ?_
      refine g_iload_n (pc' := 96) dX12_mayBeSeen_95 rfl rfl ?_
      obtain ⟨h15, hf⟩ := chk_s hf
      obtain ⟨b16, hf⟩ := chk_s hf
      refine g_iald (pc' := 97) dX12_mayBeSeen_96 rfl h15 (inB_in b16) ?_
      refine g_if_eq (pc' := 100) 104 dX12_mayBeSeen_97 rfl (by decide) (fun c17 => ?_) (fun c17 => ?_)
      · have hf := ite_t c17 hf
        refine g_iconst (pc' := 105) (0 : Int32) dX12_mayBeSeen_104 rfl (by decide) ?_
        cases hf
        exact g_zreturn dX12_mayBeSeen_105 rfl (Or.inl rfl) (Nat.le_of_ble_eq_true rfl) (Nat.le_of_ble_eq_true rfl)
      · have hf := ite_f c17 hf
        refine g_mask [false, false, true, false, true] rfl ?_
        exact s_X12_mayBeSeen_100 M3 _ hf
theorem s_X12_mayBeSeen_49 (v0 : Nat) (v1 : Int32) (v2 : Int32) (w0 : Int32) (M : Mem) (r : (Int32 × Mem)) (hf : f_X12_mayBeSeen_49 v0 v1 v2 w0 M = some r) : G mi_X12_mayBeSeen 3 (oI r.1) r.2 49 [some (aR v0), some (aI v1), some (aI v2), none, none] [aI w0] M 0 0 := by
  unfold f_X12_mayBeSeen_49 at hf
  refine g_istore_n (pc' := 50) (lv' := [some (aR v0), some (aI v1), some (aI v2), some (aI w0), none]) dX12_mayBeSeen_49 rfl rfl (by decide) rfl ?_
  refine g_aload_n (pc' := 51) dX12_mayBeSeen_50 rfl rfl ?_
  obtain ⟨h1, hf⟩ := chk_s hf
  refine g_getR (pc' := 54) 12 21 rfl rfl (by decide) inX12 (by decide) rfl rfl q_133 dX12_mayBeSeen_51 rfl h1 ?_
  refine g_iload_n (pc' := 55) dX12_mayBeSeen_54 rfl rfl ?_
  refine g_iload_n (pc' := 56) dX12_mayBeSeen_55 rfl rfl ?_
  refine g_if_eq (pc' := 59) 75 dX12_mayBeSeen_56 rfl (by decide) (fun c2 => ?_) (fun c2 => ?_)
  · have hf := ite_t c2 hf
    refine g_iconst (pc' := 76) (-1 : Int32) dX12_mayBeSeen_75 rfl (by decide) ?_
    refine g_mask [true, true, false, true, true] rfl ?_
    exact s_X12_mayBeSeen_76 v0 v1 w0 (mR M v0 21) v1 (-1 : Int32) M _ hf
  · have hf := ite_f c2 hf
    refine g_aload_n (pc' := 60) dX12_mayBeSeen_59 rfl rfl ?_
    refine g_iconst (pc' := 61) (0 : Int32) dX12_mayBeSeen_60 rfl (by decide) ?_
    refine g_aload_n (pc' := 62) dX12_mayBeSeen_61 rfl rfl ?_
    refine g_getR (pc' := 65) 12 23 rfl rfl (by decide) inX12 (by decide) rfl rfl q_135 dX12_mayBeSeen_62 rfl h1 ?_
    refine g_iconst (pc' := 66) (0 : Int32) dX12_mayBeSeen_65 rfl (by decide) ?_
    obtain ⟨h3, hf⟩ := chk_s hf
    obtain ⟨b4, hf⟩ := chk_s hf
    refine g_iald (pc' := 67) dX12_mayBeSeen_66 rfl h3 (inB_in b4) ?_
    refine g_iload_n (pc' := 68) dX12_mayBeSeen_67 rfl rfl ?_
    refine g_iload_n (pc' := 69) dX12_mayBeSeen_68 rfl rfl ?_
    obtain ⟨r6, M5, e6, hf⟩ := bnd_some hf
    refine g_callVi (pc' := 72) (k' := 0) (u' := 0) (fr2 := 2) (As := [aI (0 : Int32), aI (mI M (mR M v0 23) (0 : Int32).toNatClampNeg), aI v2, aI v1]) (b := v0) (st := [aI v1, aR (mR M v0 21)]) cf_X12_fieldNamedAs q_439 (by omega) (ci := 12) rfl rfl (by decide) dX12_mayBeSeen_69 rfl rfl rfl (Nat.le_of_ble_eq_true rfl) (Or.inl rfl) (Nat.le_refl _) (Nat.le_refl _) (Nat.le_refl _) (Nat.le_refl _) h1 (s_X12_fieldNamedAs v0 (0 : Int32) (mI M (mR M v0 23) (0 : Int32).toNatClampNeg) v2 v1 M _ e6) ?_
    refine g_goto (pc' := 76) dX12_mayBeSeen_72 (by decide) ?_
    refine g_mask [true, true, false, true, true] rfl ?_
    refine g_widen (k' := 0) (u' := 0) (by omega) (by omega) ?_
    exact s_X12_mayBeSeen_76 v0 v1 w0 (mR M v0 21) v1 r6 M5 _ hf
theorem s_X12_mayBeSeen_44 (v0 : Nat) (v1 : Int32) (v2 : Int32) (M : Mem) (r : (Int32 × Mem)) (hf : f_X12_mayBeSeen_44 v0 v1 v2 M = some r) : G mi_X12_mayBeSeen 3 (oI r.1) r.2 44 [some (aR v0), some (aI v1), some (aI v2), none, none] [] M 0 0 := by
  unfold f_X12_mayBeSeen_44 at hf
  refine g_iconst (pc' := 45) (1 : Int32) dX12_mayBeSeen_44 rfl (by decide) ?_
  refine g_goto (pc' := 49) dX12_mayBeSeen_45 (by decide) ?_
  exact s_X12_mayBeSeen_49 v0 v1 v2 (1 : Int32) M _ hf
theorem s_X12_mayBeSeen_28 (v0 : Nat) (v1 : Int32) (w0 : Int32) (M : Mem) (r : (Int32 × Mem)) (hf : f_X12_mayBeSeen_28 v0 v1 w0 M = some r) : G mi_X12_mayBeSeen 3 (oI r.1) r.2 28 [some (aR v0), some (aI v1), none, none, none] [aI w0] M 0 0 := by
  unfold f_X12_mayBeSeen_28 at hf
  refine g_istore_n (pc' := 29) (lv' := [some (aR v0), some (aI v1), some (aI w0), none, none]) dX12_mayBeSeen_28 rfl rfl (by decide) rfl ?_
  refine g_aload_n (pc' := 30) dX12_mayBeSeen_29 rfl rfl ?_
  obtain ⟨h1, hf⟩ := chk_s hf
  refine g_getR (pc' := 33) 12 16 rfl rfl (by decide) inX12 (by decide) rfl rfl q_128 dX12_mayBeSeen_30 rfl h1 ?_
  refine g_iload_n (pc' := 34) dX12_mayBeSeen_33 rfl rfl ?_
  obtain ⟨h2, hf⟩ := chk_s hf
  obtain ⟨b3, hf⟩ := chk_s hf
  refine g_iald (pc' := 35) dX12_mayBeSeen_34 rfl h2 (inB_in b3) ?_
  refine g_iconst (pc' := 36) (-1 : Int32) dX12_mayBeSeen_35 rfl (by decide) ?_
  refine g_icmp_eq (pc' := 39) 44 dX12_mayBeSeen_36 rfl (by decide) (fun c4 => ?_) (fun c4 => ?_)
  · have hf := ite_t c4 hf
    exact s_X12_mayBeSeen_44 v0 v1 w0 M _ hf
  · have hf := ite_f c4 hf
    refine g_iload_n (pc' := 40) dX12_mayBeSeen_39 rfl rfl ?_
    refine g_iconst (pc' := 41) (-1 : Int32) dX12_mayBeSeen_40 rfl (by decide) ?_
    refine g_icmp_eq (pc' := 44) 48 dX12_mayBeSeen_41 rfl (by decide) (fun c5 => ?_) (fun c5 => ?_)
    · have hf := ite_t c5 hf
      refine g_iconst (pc' := 49) (0 : Int32) dX12_mayBeSeen_48 rfl (by decide) ?_
      exact s_X12_mayBeSeen_49 v0 v1 w0 (0 : Int32) M _ hf
    · have hf := ite_f c5 hf
      exact s_X12_mayBeSeen_44 v0 v1 w0 M _ hf
theorem s_X12_mayBeSeen (v0 : Nat) (v1 : Int32) (M : Mem) (r : (Int32 × Mem)) (hf : f_X12_mayBeSeen v0 v1 M = some r) : Sem mi_X12_mayBeSeen (3) [aR v0, aI v1] M (oI r.1) r.2 := by
  unfold f_X12_mayBeSeen at hf
  refine sem_of (by decide) rfl rfl rfl (Nat.le_of_ble_eq_true rfl) (lv := [some (aR v0), some (aI v1), none, none, none]) rfl ?_
  refine g_aload_n (pc' := 1) dX12_mayBeSeen_0 rfl rfl ?_
  obtain ⟨h1, hf⟩ := chk_s hf
  refine g_getR (pc' := 4) 12 16 rfl rfl (by decide) inX12 (by decide) rfl rfl q_128 dX12_mayBeSeen_1 rfl h1 ?_
  refine g_iload_n (pc' := 5) dX12_mayBeSeen_4 rfl rfl ?_
  obtain ⟨h2, hf⟩ := chk_s hf
  obtain ⟨b3, hf⟩ := chk_s hf
  refine g_iald (pc' := 6) dX12_mayBeSeen_5 rfl h2 (inB_in b3) ?_
  refine g_iconst (pc' := 7) (-1 : Int32) dX12_mayBeSeen_6 rfl (by decide) ?_
  refine g_icmp_ne (pc' := 10) 14 dX12_mayBeSeen_7 rfl (by decide) (fun c4 => ?_) (fun c4 => ?_)
  · have hf := ite_f c4 hf
    refine g_aload_n (pc' := 15) dX12_mayBeSeen_14 rfl rfl ?_
    refine g_getR (pc' := 18) 12 21 rfl rfl (by decide) inX12 (by decide) rfl rfl q_133 dX12_mayBeSeen_15 rfl h1 ?_
    refine g_bipush (pc' := 20) (32 : Int32) dX12_mayBeSeen_18 rfl (by decide) ?_
    refine g_aload_n (pc' := 21) dX12_mayBeSeen_20 rfl rfl ?_
    refine g_getR (pc' := 24) 12 16 rfl rfl (by decide) inX12 (by decide) rfl rfl q_128 dX12_mayBeSeen_21 rfl h1 ?_
    refine g_iload_n (pc' := 25) dX12_mayBeSeen_24 rfl rfl ?_
    refine g_iald (pc' := 26) dX12_mayBeSeen_25 rfl h2 (inB_in b3) ?_
    refine g_iadd (pc' := 27) dX12_mayBeSeen_26 rfl ?_
    obtain ⟨h5, hf⟩ := chk_s hf
    obtain ⟨b6, hf⟩ := chk_s hf
    refine g_iald (pc' := 28) dX12_mayBeSeen_27 rfl h5 (inB_in b6) ?_
    exact s_X12_mayBeSeen_28 v0 v1 (mI M (mR M v0 21) ((32 : Int32) + (mI M (mR M v0 16) v1.toNatClampNeg)).toNatClampNeg) M _ hf
  · have hf := ite_t c4 hf
    refine g_iconst (pc' := 11) (-1 : Int32) dX12_mayBeSeen_10 rfl (by decide) ?_
    refine g_goto (pc' := 28) dX12_mayBeSeen_11 (by decide) ?_
    exact s_X12_mayBeSeen_28 v0 v1 (-1 : Int32) M _ hf
def f_X12_readName_142 (v0 : Nat) (M : Mem) : Option (Unit × Mem) :=
  if mK M v0 = 13 then
    if (mI M v0 12) = 0 then
      bnd (f_X12_stepOn v0 M) fun _ M3 =>
      some ((), M3)
    else
      some ((), M)
  else none
def f_X12_readName_112 (v0 : Nat) (v1 : Int32) (M : Mem) : Option (Unit × Mem) :=
  if mK M v0 = 13 then
    if mK M (mR M v0 23) = 21 then
      if inB (2 : Int32) (mN M (mR M v0 23)) = true then
        if mK M (mR M v0 16) = 21 then
          if inB v1 (mN M (mR M v0 16)) = true then
            bnd (f_X12_fieldNamedAs v0 (32 : Int32) ((mI M (mR M v0 23) (2 : Int32).toNatClampNeg) - (1 : Int32)) (mI M (mR M v0 16) v1.toNatClampNeg) v1 M) fun r7 M6 =>
            if r7 = (-1 : Int32) then
              f_X12_readName_142 v0 M6
            else
              if mK M6 v0 = 13 then
                bnd (f_X12_wrong v0 (4 : Int32) M6) fun _ M10 =>
                f_X12_readName_142 v0 M10
              else none
          else none
        else none
      else none
    else none
  else none
def f_X12_readName_55 : Nat → Nat → Int32 → Int32 → Mem → Option (Unit × Mem)
  | 0, _, _, _, _ => none
  | n + 1, v0, v1, v2, M =>
    if mK M v0 = 13 then
      if mK M (mR M v0 20) = 21 then
        if inB v1 (mN M (mR M v0 20)) = true then
          if (mI M (mR M v0 20) v1.toNatClampNeg) ≤ v2 then
            if (mI M v0 26) = 0 then
              f_X12_readName_112 v0 v1 M
            else
              bnd (f_X12_mayBeSeen v0 v1 M) fun r7 M6 =>
              if r7 = 0 then
                if mK M6 v0 = 13 then
                  bnd (f_X12_wrong v0 (3 : Int32) M6) fun _ M10 =>
                  f_X12_readName_112 v0 v1 M10
                else none
              else
                f_X12_readName_112 v0 v1 M6
          else
            if mK M (mR M v0 3) = 21 then
              if inB ((mI M v0 10) + v2) (mN M (mR M v0 3)) = true then
                if mK M (mR M v0 22) = 21 then
                  if inB (((4 : Int32) * v1) + v2) (mN M (mR M v0 22)) = true then
                    ap (sI M (mR M v0 22) (((4 : Int32) * v1) + v2).toNatClampNeg (mI M (mR M v0 3) ((mI M v0 10) + v2).toNatClampNeg)) fun M16 =>
                    f_X12_readName_55 n v0 v1 (v2 + 1) M16
                  else none
                else none
              else none
            else none
        else none
      else none
    else none
def f_X12_readName (v0 : Nat) (v1 : Int32) (M : Mem) : Option (Unit × Mem) :=
  if mK M v0 = 13 then
    if (mI M v0 12) = 0 then
      if (mI M v0 8) = (1 : Int32) then
        if mK M (mR M v0 20) = 21 then
          if inB v1 (mN M (mR M v0 20)) = true then
            ap (sI M (mR M v0 20) v1.toNatClampNeg ((mI M v0 11) - (mI M v0 10))) fun M6 =>
            if mK M6 v0 = 13 then
              if mK M6 (mR M6 v0 20) = 21 then
                if inB v1 (mN M6 (mR M6 v0 20)) = true then
                  if (mI M6 (mR M6 v0 20) v1.toNatClampNeg) ≤ (4 : Int32) then
                    f_X12_readName_55 FUEL v0 v1 (0 : Int32) M6
                  else
                    bnd (f_X12_wrong v0 (2 : Int32) M6) fun _ M11 =>
                    some ((), M11)
                else none
              else none
            else none
          else none
        else none
      else
        bnd (f_X12_wrong v0 (1 : Int32) M) fun _ M13 =>
        some ((), M13)
    else
      some ((), M)
  else none
theorem s_X12_readName_142 (v0 : Nat) (M : Mem) (r : (Unit × Mem)) (hf : f_X12_readName_142 v0 M = some r) : G mi_X12_readName 4 (oU r.1) r.2 142 [some (aR v0), none, none] [] M 0 0 := by
  unfold f_X12_readName_142 at hf
  refine g_aload_n (pc' := 143) dX12_readName_142 rfl rfl ?_
  obtain ⟨h1, hf⟩ := chk_s hf
  refine g_getI (pc' := 146) 12 12 rfl rfl (by decide) inX12 (by decide) rfl rfl q_362 dX12_readName_143 rfl h1 ?_
  refine g_if_ne (pc' := 149) 153 dX12_readName_146 rfl (by decide) (fun c2 => ?_) (fun c2 => ?_)
  · have hf := ite_f c2 hf
    cases hf
    exact g_return dX12_readName_153 rfl (Nat.le_of_ble_eq_true rfl) (Nat.le_of_ble_eq_true rfl)
  · have hf := ite_t c2 hf
    refine g_aload_n (pc' := 150) dX12_readName_149 rfl rfl ?_
    obtain ⟨_, M3, e4, hf⟩ := bnd_some hf
    refine g_callVv (pc' := 153) (k' := 0) (u' := 0) (fr2 := 2) (As := []) (b := v0) (st := []) cf_X12_stepOn q_378 (by omega) (ci := 12) rfl rfl (by decide) dX12_readName_150 rfl rfl rfl (Nat.le_of_ble_eq_true rfl) (Or.inl rfl) (Nat.le_refl _) (Nat.le_refl _) (Nat.le_refl _) (Nat.le_refl _) h1 (s_X12_stepOn v0 M _ e4) ?_
    cases hf
    exact g_return dX12_readName_153 rfl (Nat.le_of_ble_eq_true rfl) (Nat.le_of_ble_eq_true rfl)
theorem s_X12_readName_112 (v0 : Nat) (v1 : Int32) (M : Mem) (r : (Unit × Mem)) (hf : f_X12_readName_112 v0 v1 M = some r) : G mi_X12_readName 4 (oU r.1) r.2 112 [some (aR v0), some (aI v1), none] [] M 0 0 := by
  unfold f_X12_readName_112 at hf
  refine g_aload_n (pc' := 113) dX12_readName_112 rfl rfl ?_
  refine g_bipush (pc' := 115) (32 : Int32) dX12_readName_113 rfl (by decide) ?_
  refine g_aload_n (pc' := 116) dX12_readName_115 rfl rfl ?_
  obtain ⟨h1, hf⟩ := chk_s hf
  refine g_getR (pc' := 119) 12 23 rfl rfl (by decide) inX12 (by decide) rfl rfl q_135 dX12_readName_116 rfl h1 ?_
  refine g_iconst (pc' := 120) (2 : Int32) dX12_readName_119 rfl (by decide) ?_
  obtain ⟨h2, hf⟩ := chk_s hf
  obtain ⟨b3, hf⟩ := chk_s hf
  refine g_iald (pc' := 121) dX12_readName_120 rfl h2 (inB_in b3) ?_
  refine g_iconst (pc' := 122) (1 : Int32) dX12_readName_121 rfl (by decide) ?_
  refine g_isub (pc' := 123) dX12_readName_122 rfl ?_
  refine g_aload_n (pc' := 124) dX12_readName_123 rfl rfl ?_
  refine g_getR (pc' := 127) 12 16 rfl rfl (by decide) inX12 (by decide) rfl rfl q_128 dX12_readName_124 rfl h1 ?_
  refine g_iload_n (pc' := 128) dX12_readName_127 rfl rfl ?_
  obtain ⟨h4, hf⟩ := chk_s hf
  obtain ⟨b5, hf⟩ := chk_s hf
  refine g_iald (pc' := 129) dX12_readName_128 rfl h4 (inB_in b5) ?_
  refine g_iload_n (pc' := 130) dX12_readName_129 rfl rfl ?_
  obtain ⟨r7, M6, e7, hf⟩ := bnd_some hf
  refine g_callVi (pc' := 133) (k' := 0) (u' := 0) (fr2 := 2) (As := [aI (32 : Int32), aI ((mI M (mR M v0 23) (2 : Int32).toNatClampNeg) - (1 : Int32)), aI (mI M (mR M v0 16) v1.toNatClampNeg), aI v1]) (b := v0) (st := []) cf_X12_fieldNamedAs q_439 (by omega) (ci := 12) rfl rfl (by decide) dX12_readName_130 rfl rfl rfl (Nat.le_of_ble_eq_true rfl) (Or.inl rfl) (Nat.le_refl _) (Nat.le_refl _) (Nat.le_refl _) (Nat.le_refl _) h1 (s_X12_fieldNamedAs v0 (32 : Int32) ((mI M (mR M v0 23) (2 : Int32).toNatClampNeg) - (1 : Int32)) (mI M (mR M v0 16) v1.toNatClampNeg) v1 M _ e7) ?_
  refine g_iconst (pc' := 134) (-1 : Int32) dX12_readName_133 rfl (by decide) ?_
  refine g_icmp_eq (pc' := 137) 142 dX12_readName_134 rfl (by decide) (fun c8 => ?_) (fun c8 => ?_)
  · have hf := ite_t c8 hf
    refine g_mask [true, false, true] rfl ?_
    refine g_widen (k' := 0) (u' := 0) (by omega) (by omega) ?_
    exact s_X12_readName_142 v0 M6 _ hf
  · have hf := ite_f c8 hf
    refine g_aload_n (pc' := 138) dX12_readName_137 rfl rfl ?_
    refine g_iconst (pc' := 139) (4 : Int32) dX12_readName_138 rfl (by decide) ?_
    obtain ⟨h9, hf⟩ := chk_s hf
    obtain ⟨_, M10, e11, hf⟩ := bnd_some hf
    refine g_callVv (pc' := 142) (k' := 0) (u' := 0) (fr2 := 1) (As := [aI (4 : Int32)]) (b := v0) (st := []) cf_X12_wrong q_426 (by omega) (ci := 12) rfl rfl (by decide) dX12_readName_139 rfl rfl rfl (Nat.le_of_ble_eq_true rfl) (Or.inl rfl) (Nat.le_refl _) (Nat.le_refl _) (Nat.le_refl _) (Nat.le_refl _) h9 (s_X12_wrong v0 (4 : Int32) M6 _ e11) ?_
    refine g_mask [true, false, true] rfl ?_
    refine g_widen (k' := 0) (u' := 0) (by omega) (by omega) ?_
    exact s_X12_readName_142 v0 M10 _ hf
theorem s_X12_readName_55 : ∀ (n : Nat) (v0 : Nat) (v1 : Int32) (v2 : Int32) (M : Mem) (r : (Unit × Mem)), f_X12_readName_55 n v0 v1 v2 M = some r → G mi_X12_readName 4 (oU r.1) r.2 55 [some (aR v0), some (aI v1), some (aI v2)] [] M 0 0 := by
  intro n
  induction n with
  | zero => intro v0 v1 v2 M r hf; cases hf
  | succ n ih =>
    intro v0 v1 v2 M r hf
    unfold f_X12_readName_55 at hf
    refine g_iload_n (pc' := 56) dX12_readName_55 rfl rfl ?_
    refine g_aload_n (pc' := 57) dX12_readName_56 rfl rfl ?_
    obtain ⟨h1, hf⟩ := chk_s hf
    refine g_getR (pc' := 60) 12 20 rfl rfl (by decide) inX12 (by decide) rfl rfl q_132 dX12_readName_57 rfl h1 ?_
    refine g_iload_n (pc' := 61) dX12_readName_60 rfl rfl ?_
    obtain ⟨h2, hf⟩ := chk_s hf
    obtain ⟨b3, hf⟩ := chk_s hf
    refine g_iald (pc' := 62) dX12_readName_61 rfl h2 (inB_in b3) ?_
    refine g_icmp_ge (pc' := 65) 92 dX12_readName_62 rfl (by decide) (fun c4 => ?_) (fun c4 => ?_)
    · have hf := ite_t c4 hf
      refine g_aload_n (pc' := 93) dX12_readName_92 rfl rfl ?_
      refine g_getI (pc' := 96) 12 26 rfl rfl (by decide) inX12 (by decide) rfl rfl q_377 dX12_readName_93 rfl h1 ?_
      refine g_if_eq (pc' := 99) 112 dX12_readName_96 rfl (by decide) (fun c5 => ?_) (fun c5 => ?_)
      · have hf := ite_t c5 hf
        refine g_mask [true, true, false] rfl ?_
        exact s_X12_readName_112 v0 v1 M _ hf
      · have hf := ite_f c5 hf
        refine g_aload_n (pc' := 100) dX12_readName_99 rfl rfl ?_
        refine g_iload_n (pc' := 101) dX12_readName_100 rfl rfl ?_
        obtain ⟨r7, M6, e7, hf⟩ := bnd_some hf
        refine g_callVi (pc' := 104) (k' := 0) (u' := 0) (fr2 := 3) (As := [aI v1]) (b := v0) (st := []) cf_X12_mayBeSeen q_435 (by omega) (ci := 12) rfl rfl (by decide) dX12_readName_101 rfl rfl rfl (Nat.le_of_ble_eq_true rfl) (Or.inl rfl) (Nat.le_refl _) (Nat.le_refl _) (Nat.le_refl _) (Nat.le_refl _) h1 (s_X12_mayBeSeen v0 v1 M _ e7) ?_
        refine g_if_ne (pc' := 107) 112 dX12_readName_104 rfl (by decide) (fun c8 => ?_) (fun c8 => ?_)
        · have hf := ite_f c8 hf
          refine g_mask [true, true, false] rfl ?_
          refine g_widen (k' := 0) (u' := 0) (by omega) (by omega) ?_
          exact s_X12_readName_112 v0 v1 M6 _ hf
        · have hf := ite_t c8 hf
          refine g_aload_n (pc' := 108) dX12_readName_107 rfl rfl ?_
          refine g_iconst (pc' := 109) (3 : Int32) dX12_readName_108 rfl (by decide) ?_
          obtain ⟨h9, hf⟩ := chk_s hf
          obtain ⟨_, M10, e11, hf⟩ := bnd_some hf
          refine g_callVv (pc' := 112) (k' := 0) (u' := 0) (fr2 := 1) (As := [aI (3 : Int32)]) (b := v0) (st := []) cf_X12_wrong q_426 (by omega) (ci := 12) rfl rfl (by decide) dX12_readName_109 rfl rfl rfl (Nat.le_of_ble_eq_true rfl) (Or.inl rfl) (Nat.le_refl _) (Nat.le_refl _) (Nat.le_refl _) (Nat.le_refl _) h9 (s_X12_wrong v0 (3 : Int32) M6 _ e11) ?_
          refine g_mask [true, true, false] rfl ?_
          refine g_widen (k' := 0) (u' := 0) (by omega) (by omega) ?_
          exact s_X12_readName_112 v0 v1 M10 _ hf
    · have hf := ite_f c4 hf
      refine g_aload_n (pc' := 66) dX12_readName_65 rfl rfl ?_
      refine g_getR (pc' := 69) 12 22 rfl rfl (by decide) inX12 (by decide) rfl rfl q_134 dX12_readName_66 rfl h1 ?_
      refine g_iconst (pc' := 70) (4 : Int32) dX12_readName_69 rfl (by decide) ?_
      refine g_iload_n (pc' := 71) dX12_readName_70 rfl rfl ?_
      refine g_imul (pc' := 72) dX12_readName_71 rfl ?_
      refine g_iload_n (pc' := 73) dX12_readName_72 rfl rfl ?_
      refine g_iadd (pc' := 74) dX12_readName_73 rfl ?_
      refine g_aload_n (pc' := 75) dX12_readName_74 rfl rfl ?_
      refine g_getR (pc' := 78) 12 3 rfl rfl (by decide) inX12 (by decide) rfl rfl q_124 dX12_readName_75 rfl h1 ?_
      refine g_aload_n (pc' := 79) dX12_readName_78 rfl rfl ?_
      refine g_getI (pc' := 82) 12 10 rfl rfl (by decide) inX12 (by decide) rfl rfl q_382 dX12_readName_79 rfl h1 ?_
      refine g_iload_n (pc' := 83) dX12_readName_82 rfl rfl ?_
      refine g_iadd (pc' := 84) dX12_readName_83 rfl ?_
      obtain ⟨h12, hf⟩ := chk_s hf
      obtain ⟨b13, hf⟩ := chk_s hf
      refine g_iald (pc' := 85) dX12_readName_84 rfl h12 (inB_in b13) ?_
      obtain ⟨h14, hf⟩ := chk_s hf
      obtain ⟨b15, hf⟩ := chk_s hf
      refine g_iast (pc' := 86) dX12_readName_85 rfl h14 (inB_in b15) (gM fun M16 hM16 => ?_)
      have hf := ap_eq hf hM16
      refine g_iinc (pc' := 89) (lv' := [some (aR v0), some (aI v1), some (aI (v2 + 1))]) (v2 + 1) dX12_readName_86 rfl rfl (by rfl) rfl (by decide) rfl ?_
      refine g_goto (pc' := 55) dX12_readName_89 (by decide) ?_
      exact ih v0 v1 (v2 + 1) M16 _ hf
theorem s_X12_readName (v0 : Nat) (v1 : Int32) (M : Mem) (r : (Unit × Mem)) (hf : f_X12_readName v0 v1 M = some r) : Sem mi_X12_readName (4) [aR v0, aI v1] M (oU r.1) r.2 := by
  unfold f_X12_readName at hf
  refine sem_of (by decide) rfl rfl rfl (Nat.le_of_ble_eq_true rfl) (lv := [some (aR v0), some (aI v1), none]) rfl ?_
  refine g_aload_n (pc' := 1) dX12_readName_0 rfl rfl ?_
  obtain ⟨h1, hf⟩ := chk_s hf
  refine g_getI (pc' := 4) 12 12 rfl rfl (by decide) inX12 (by decide) rfl rfl q_362 dX12_readName_1 rfl h1 ?_
  refine g_if_eq (pc' := 7) 8 dX12_readName_4 rfl (by decide) (fun c2 => ?_) (fun c2 => ?_)
  · have hf := ite_t c2 hf
    refine g_aload_n (pc' := 9) dX12_readName_8 rfl rfl ?_
    refine g_getI (pc' := 12) 12 8 rfl rfl (by decide) inX12 (by decide) rfl rfl q_383 dX12_readName_9 rfl h1 ?_
    refine g_iconst (pc' := 13) (1 : Int32) dX12_readName_12 rfl (by decide) ?_
    refine g_icmp_eq (pc' := 16) 22 dX12_readName_13 rfl (by decide) (fun c3 => ?_) (fun c3 => ?_)
    · have hf := ite_t c3 hf
      refine g_aload_n (pc' := 23) dX12_readName_22 rfl rfl ?_
      refine g_getR (pc' := 26) 12 20 rfl rfl (by decide) inX12 (by decide) rfl rfl q_132 dX12_readName_23 rfl h1 ?_
      refine g_iload_n (pc' := 27) dX12_readName_26 rfl rfl ?_
      refine g_aload_n (pc' := 28) dX12_readName_27 rfl rfl ?_
      refine g_getI (pc' := 31) 12 11 rfl rfl (by decide) inX12 (by decide) rfl rfl q_390 dX12_readName_28 rfl h1 ?_
      refine g_aload_n (pc' := 32) dX12_readName_31 rfl rfl ?_
      refine g_getI (pc' := 35) 12 10 rfl rfl (by decide) inX12 (by decide) rfl rfl q_382 dX12_readName_32 rfl h1 ?_
      refine g_isub (pc' := 36) dX12_readName_35 rfl ?_
      obtain ⟨h4, hf⟩ := chk_s hf
      obtain ⟨b5, hf⟩ := chk_s hf
      refine g_iast (pc' := 37) dX12_readName_36 rfl h4 (inB_in b5) (gM fun M6 hM6 => ?_)
      have hf := ap_eq hf hM6
      refine g_aload_n (pc' := 38) dX12_readName_37 rfl rfl ?_
      obtain ⟨h7, hf⟩ := chk_s hf
      refine g_getR (pc' := 41) 12 20 rfl rfl (by decide) inX12 (by decide) rfl rfl q_132 dX12_readName_38 rfl h7 ?_
      refine g_iload_n (pc' := 42) dX12_readName_41 rfl rfl ?_
      obtain ⟨h8, hf⟩ := chk_s hf
      obtain ⟨b9, hf⟩ := chk_s hf
      refine g_iald (pc' := 43) dX12_readName_42 rfl h8 (inB_in b9) ?_
      refine g_iconst (pc' := 44) (4 : Int32) dX12_readName_43 rfl (by decide) ?_
      refine g_icmp_le (pc' := 47) 53 dX12_readName_44 rfl (by decide) (fun c10 => ?_) (fun c10 => ?_)
      · have hf := ite_t c10 hf
        refine g_iconst (pc' := 54) (0 : Int32) dX12_readName_53 rfl (by decide) ?_
        refine g_istore_n (pc' := 55) (lv' := [some (aR v0), some (aI v1), some (aI (0 : Int32))]) dX12_readName_54 rfl rfl (by decide) rfl ?_
        exact s_X12_readName_55 FUEL v0 v1 (0 : Int32) M6 _ hf
      · have hf := ite_f c10 hf
        refine g_aload_n (pc' := 48) dX12_readName_47 rfl rfl ?_
        refine g_iconst (pc' := 49) (2 : Int32) dX12_readName_48 rfl (by decide) ?_
        obtain ⟨_, M11, e12, hf⟩ := bnd_some hf
        refine g_callVv (pc' := 52) (k' := 0) (u' := 0) (fr2 := 1) (As := [aI (2 : Int32)]) (b := v0) (st := []) cf_X12_wrong q_426 (by omega) (ci := 12) rfl rfl (by decide) dX12_readName_49 rfl rfl rfl (Nat.le_of_ble_eq_true rfl) (Or.inl rfl) (Nat.le_refl _) (Nat.le_refl _) (Nat.le_refl _) (Nat.le_refl _) h7 (s_X12_wrong v0 (2 : Int32) M6 _ e12) ?_
        cases hf
        exact g_return dX12_readName_52 rfl (Nat.le_of_ble_eq_true rfl) (Nat.le_of_ble_eq_true rfl)
    · have hf := ite_f c3 hf
      refine g_aload_n (pc' := 17) dX12_readName_16 rfl rfl ?_
      refine g_iconst (pc' := 18) (1 : Int32) dX12_readName_17 rfl (by decide) ?_
      obtain ⟨_, M13, e14, hf⟩ := bnd_some hf
      refine g_callVv (pc' := 21) (k' := 0) (u' := 0) (fr2 := 1) (As := [aI (1 : Int32)]) (b := v0) (st := []) cf_X12_wrong q_426 (by omega) (ci := 12) rfl rfl (by decide) dX12_readName_18 rfl rfl rfl (Nat.le_of_ble_eq_true rfl) (Or.inl rfl) (Nat.le_refl _) (Nat.le_refl _) (Nat.le_refl _) (Nat.le_refl _) h1 (s_X12_wrong v0 (1 : Int32) M _ e14) ?_
      cases hf
      exact g_return dX12_readName_21 rfl (Nat.le_of_ble_eq_true rfl) (Nat.le_of_ble_eq_true rfl)
  · have hf := ite_f c2 hf
    cases hf
    exact g_return dX12_readName_7 rfl (Nat.le_of_ble_eq_true rfl) (Nat.le_of_ble_eq_true rfl)
def f_X12_isLeafThere (v0 : Nat) (v1 : Int32) (M : Mem) : Option (Int32 × Mem) :=
  if mK M v0 = 13 then
    if mK M (mR M v0 21) = 21 then
      if inB v1 (mN M (mR M v0 21)) = true then
        if mK M (mR M v0 17) = 21 then
          if inB (mI M (mR M v0 21) v1.toNatClampNeg) (mN M (mR M v0 17)) = true then
            if (mI M (mR M v0 17) (mI M (mR M v0 21) v1.toNatClampNeg).toNatClampNeg) = (-1 : Int32) then
              some ((0 : Int32), M)
            else
              some ((1 : Int32), M)
          else none
        else none
      else none
    else none
  else none
theorem s_X12_isLeafThere (v0 : Nat) (v1 : Int32) (M : Mem) (r : (Int32 × Mem)) (hf : f_X12_isLeafThere v0 v1 M = some r) : Sem mi_X12_isLeafThere (1) [aR v0, aI v1] M (oI r.1) r.2 := by
  unfold f_X12_isLeafThere at hf
  refine sem_of (by decide) rfl rfl rfl (Nat.le_of_ble_eq_true rfl) (lv := [some (aR v0), some (aI v1)]) rfl ?_
  refine g_aload_n (pc' := 1) dX12_isLeafThere_0 rfl rfl ?_
  obtain ⟨h1, hf⟩ := chk_s hf
  refine g_getR (pc' := 4) 12 17 rfl rfl (by decide) inX12 (by decide) rfl rfl q_129 dX12_isLeafThere_1 rfl h1 ?_
  refine g_aload_n (pc' := 5) dX12_isLeafThere_4 rfl rfl ?_
  refine g_getR (pc' := 8) 12 21 rfl rfl (by decide) inX12 (by decide) rfl rfl q_133 dX12_isLeafThere_5 rfl h1 ?_
  refine g_iload_n (pc' := 9) dX12_isLeafThere_8 rfl rfl ?_
  obtain ⟨h2, hf⟩ := chk_s hf
  obtain ⟨b3, hf⟩ := chk_s hf
  refine g_iald (pc' := 10) dX12_isLeafThere_9 rfl h2 (inB_in b3) ?_
  obtain ⟨h4, hf⟩ := chk_s hf
  obtain ⟨b5, hf⟩ := chk_s hf
  refine g_iald (pc' := 11) dX12_isLeafThere_10 rfl h4 (inB_in b5) ?_
  refine g_iconst (pc' := 12) (-1 : Int32) dX12_isLeafThere_11 rfl (by decide) ?_
  refine g_icmp_eq (pc' := 15) 19 dX12_isLeafThere_12 rfl (by decide) (fun c6 => ?_) (fun c6 => ?_)
  · have hf := ite_t c6 hf
    refine g_iconst (pc' := 20) (0 : Int32) dX12_isLeafThere_19 rfl (by decide) ?_
    cases hf
    exact g_zreturn dX12_isLeafThere_20 rfl (Or.inl rfl) (Nat.le_of_ble_eq_true rfl) (Nat.le_of_ble_eq_true rfl)
  · have hf := ite_f c6 hf
    refine g_iconst (pc' := 16) (1 : Int32) dX12_isLeafThere_15 rfl (by decide) ?_
    refine g_goto (pc' := 20) dX12_isLeafThere_16 (by decide) ?_
    cases hf
    exact g_zreturn dX12_isLeafThere_20 rfl (Or.inr rfl) (Nat.le_of_ble_eq_true rfl) (Nat.le_of_ble_eq_true rfl)
set_option maxRecDepth 100000 in
set_option maxHeartbeats 4000000 in
def f_X12_readField_272 (kF : Nat → Int32 → Int32 → Mem → Option (Unit × Mem)) (v0 : Nat) (v2 : Int32) (v4 : Int32) (v5 : Int32) (v6 : Int32) (M : Mem) : Option (Unit × Mem) :=
  if mK M v0 = 13 then
    if (mI M v0 12) = 0 then
      bnd (f_X12_stepOn v0 M) fun _ M3 =>
      if v6 = 0 then
        if mK M3 v0 = 13 then
          if mK M3 (mR M3 v0 24) = 21 then
            if inB (2 : Int32) (mN M3 (mR M3 v0 24)) = true then
              if mK M3 (mR M3 v0 17) = 21 then
                if inB v5 (mN M3 (mR M3 v0 17)) = true then
                  ap (sI M3 (mR M3 v0 17) v5.toNatClampNeg (mI M3 (mR M3 v0 24) (2 : Int32).toNatClampNeg)) fun M17 =>
                  if mK M17 v0 = 13 then
                    if mK M17 (mR M17 v0 24) = 21 then
                      if inB (2 : Int32) (mN M17 (mR M17 v0 24)) = true then
                        ap (sI M17 (mR M17 v0 24) (2 : Int32).toNatClampNeg ((mI M17 (mR M17 v0 24) (2 : Int32).toNatClampNeg) + (1 : Int32))) fun M21 =>
                        some ((), M21)
                      else none
                    else none
                  else none
                else none
              else none
            else none
          else none
        else none
      else
        if mK M3 v0 = 13 then
          bnd (kF v0 v4 (v2 + (1 : Int32)) M3) fun _ M7 =>
          if mK M7 v0 = 13 then
            bnd (f_X12_mark v0 (125 : Int32) M7) fun _ M10 =>
            some ((), M10)
          else none
        else none
    else
      some ((), M)
  else none
set_option maxRecDepth 100000 in
set_option maxHeartbeats 4000000 in
def f_X12_readField_245 (kF : Nat → Int32 → Int32 → Mem → Option (Unit × Mem)) (v0 : Nat) (v2 : Int32) (v4 : Int32) (v5 : Int32) (v6 : Int32) (M : Mem) : Option (Unit × Mem) :=
  if mK M v0 = 13 then
    if mK M (mR M v0 21) = 21 then
      if inB v5 (mN M (mR M v0 21)) = true then
        if (mI M (mR M v0 21) v5.toNatClampNeg) = (-1 : Int32) then
          f_X12_readField_272 kF v0 v2 v4 v5 v6 M
        else
          bnd (f_X12_isLeafThere v0 v5 M) fun r6 M5 =>
          if r6 = v6 then
            if mK M5 v0 = 13 then
              bnd (f_X12_wrong v0 (3 : Int32) M5) fun _ M9 =>
              f_X12_readField_272 kF v0 v2 v4 v5 v6 M9
            else none
          else
            f_X12_readField_272 kF v0 v2 v4 v5 v6 M5
      else none
    else none
  else none
set_option maxRecDepth 100000 in
set_option maxHeartbeats 4000000 in
def f_X12_readField_240 (kF : Nat → Int32 → Int32 → Mem → Option (Unit × Mem)) (v0 : Nat) (v2 : Int32) (v4 : Int32) (v5 : Int32) (v6 : Int32) (M : Mem) : Option (Unit × Mem) :=
  if mK M v0 = 13 then
    bnd (f_X12_wrong v0 (2 : Int32) M) fun _ M2 =>
    f_X12_readField_245 kF v0 v2 v4 v5 v6 M2
  else none
set_option maxRecDepth 100000 in
set_option maxHeartbeats 4000000 in
def f_X12_readField_216 (kF : Nat → Int32 → Int32 → Mem → Option (Unit × Mem)) (v0 : Nat) (v2 : Int32) (v4 : Int32) (v5 : Int32) (v6 : Int32) (M : Mem) : Option (Unit × Mem) :=
  if v6 = 0 then
    if mK M v0 = 13 then
      if mK M (mR M v0 24) = 21 then
        if inB (2 : Int32) (mN M (mR M v0 24)) = true then
          if (mI M (mR M v0 24) (2 : Int32).toNatClampNeg) = (8 : Int32) then
            f_X12_readField_240 kF v0 v2 v4 v5 v6 M
          else
            f_X12_readField_245 kF v0 v2 v4 v5 v6 M
        else none
      else none
    else none
  else
    if v2 = (3 : Int32) then
      f_X12_readField_240 kF v0 v2 v4 v5 v6 M
    else
      f_X12_readField_245 kF v0 v2 v4 v5 v6 M
set_option maxRecDepth 100000 in
set_option maxHeartbeats 4000000 in
def f_X12_readField_169 (kF : Nat → Int32 → Int32 → Mem → Option (Unit × Mem)) (v0 : Nat) (v2 : Int32) (v4 : Int32) (v5 : Int32) (w0 : Nat) (w1 : Int32) (w2 : Int32) (w3 : Int32) (M : Mem) : Option (Unit × Mem) :=
  if mK M w0 = 21 then
    if inB w1 (mN M w0) = true then
      ap (sI M w0 w1.toNatClampNeg (w2 + w3)) fun M3 =>
      if mK M3 v0 = 13 then
        bnd (f_X12_stepOn v0 M3) fun _ M5 =>
        if mK M5 v0 = 13 then
          bnd (f_X12_readName v0 v5 M5) fun _ M8 =>
          if mK M8 v0 = 13 then
            if (mI M8 v0 12) = 0 then
              bnd (f_X12_isMarked v0 (123 : Int32) M8) fun r13 M12 =>
              if r13 = 0 then
                if mK M12 v0 = 13 then
                  bnd (f_X12_isMarked v0 (59 : Int32) M12) fun r17 M16 =>
                  if r17 = 0 then
                    if mK M16 v0 = 13 then
                      bnd (f_X12_wrong v0 (1 : Int32) M16) fun _ M20 =>
                      f_X12_readField_216 kF v0 v2 v4 v5 r13 M20
                    else none
                  else
                    f_X12_readField_216 kF v0 v2 v4 v5 r13 M16
                else none
              else
                f_X12_readField_216 kF v0 v2 v4 v5 r13 M12
            else
              some ((), M8)
          else none
        else none
      else none
    else none
  else none
set_option maxRecDepth 100000 in
set_option maxHeartbeats 4000000 in
def f_X12_readField_159 (kF : Nat → Int32 → Int32 → Mem → Option (Unit × Mem)) (v0 : Nat) (v2 : Int32) (v3 : Int32) (v4 : Int32) (v5 : Int32) (w0 : Nat) (w1 : Int32) (w2 : Int32) (M : Mem) : Option (Unit × Mem) :=
  if v3 = (2 : Int32) then
    f_X12_readField_169 kF v0 v2 v4 v5 w0 w1 w2 (1 : Int32) M
  else
    f_X12_readField_169 kF v0 v2 v4 v5 w0 w1 w2 (0 : Int32) M
set_option maxRecDepth 100000 in
set_option maxHeartbeats 4000000 in
def f_X12_readField_133 (kF : Nat → Int32 → Int32 → Mem → Option (Unit × Mem)) (v0 : Nat) (v1 : Int32) (v2 : Int32) (v3 : Int32) (v4 : Int32) (v5 : Int32) (w0 : Nat) (w1 : Int32) (w2 : Int32) (w3 : Int32) (M : Mem) : Option (Unit × Mem) :=
  if mK M w0 = 21 then
    if inB w1 (mN M w0) = true then
      ap (sI M w0 w1.toNatClampNeg (w2 + w3)) fun M3 =>
      if mK M3 v0 = 13 then
        if v1 = (-1 : Int32) then
          f_X12_readField_159 kF v0 v2 v3 v4 v5 (mR M3 v0 19) v5 (0 : Int32) M3
        else
          if mK M3 (mR M3 v0 19) = 21 then
            if inB ((32 : Int32) + v1) (mN M3 (mR M3 v0 19)) = true then
              f_X12_readField_159 kF v0 v2 v3 v4 v5 (mR M3 v0 19) v5 (mI M3 (mR M3 v0 19) ((32 : Int32) + v1).toNatClampNeg) M3
            else none
          else none
      else none
    else none
  else none
set_option maxRecDepth 100000 in
set_option maxHeartbeats 4000000 in
def f_X12_readField_124 (kF : Nat → Int32 → Int32 → Mem → Option (Unit × Mem)) (v0 : Nat) (v1 : Int32) (v2 : Int32) (v3 : Int32) (v4 : Int32) (v5 : Int32) (w0 : Nat) (w1 : Int32) (w2 : Int32) (M : Mem) : Option (Unit × Mem) :=
  if v3 = 0 then
    f_X12_readField_133 kF v0 v1 v2 v3 v4 v5 w0 w1 w2 (0 : Int32) M
  else
    f_X12_readField_133 kF v0 v1 v2 v3 v4 v5 w0 w1 w2 (1 : Int32) M
set_option maxRecDepth 100000 in
set_option maxHeartbeats 4000000 in
def f_X12_readField_35 (kF : Nat → Int32 → Int32 → Mem → Option (Unit × Mem)) (v0 : Nat) (v1 : Int32) (v2 : Int32) (v3 : Int32) (M : Mem) : Option (Unit × Mem) :=
  if mK M v0 = 13 then
    if (mI M v0 12) = 0 then
      if mK M (mR M v0 23) = 21 then
        if inB (2 : Int32) (mN M (mR M v0 23)) = true then
          ap (sI M (mR M v0 23) (2 : Int32).toNatClampNeg ((mI M (mR M v0 23) (2 : Int32).toNatClampNeg) + (1 : Int32))) fun M5 =>
          if mK M5 v0 = 13 then
            if mK M5 (mR M5 v0 15) = 21 then
              if inB ((32 : Int32) + (mI M (mR M v0 23) (2 : Int32).toNatClampNeg)) (mN M5 (mR M5 v0 15)) = true then
                ap (sI M5 (mR M5 v0 15) ((32 : Int32) + (mI M (mR M v0 23) (2 : Int32).toNatClampNeg)).toNatClampNeg v3) fun M9 =>
                if mK M9 v0 = 13 then
                  if mK M9 (mR M9 v0 16) = 21 then
                    if inB ((32 : Int32) + (mI M (mR M v0 23) (2 : Int32).toNatClampNeg)) (mN M9 (mR M9 v0 16)) = true then
                      ap (sI M9 (mR M9 v0 16) ((32 : Int32) + (mI M (mR M v0 23) (2 : Int32).toNatClampNeg)).toNatClampNeg v1) fun M13 =>
                      if mK M13 v0 = 13 then
                        if mK M13 (mR M13 v0 17) = 21 then
                          if inB ((32 : Int32) + (mI M (mR M v0 23) (2 : Int32).toNatClampNeg)) (mN M13 (mR M13 v0 17)) = true then
                            ap (sI M13 (mR M13 v0 17) ((32 : Int32) + (mI M (mR M v0 23) (2 : Int32).toNatClampNeg)).toNatClampNeg (-1 : Int32)) fun M17 =>
                            if mK M17 v0 = 13 then
                              if mK M17 (mR M17 v0 21) = 21 then
                                if inB ((32 : Int32) + (mI M (mR M v0 23) (2 : Int32).toNatClampNeg)) (mN M17 (mR M17 v0 21)) = true then
                                  ap (sI M17 (mR M17 v0 21) ((32 : Int32) + (mI M (mR M v0 23) (2 : Int32).toNatClampNeg)).toNatClampNeg (-1 : Int32)) fun M21 =>
                                  if mK M21 v0 = 13 then
                                    if v1 = (-1 : Int32) then
                                      f_X12_readField_124 kF v0 v1 v2 v3 (mI M (mR M v0 23) (2 : Int32).toNatClampNeg) ((32 : Int32) + (mI M (mR M v0 23) (2 : Int32).toNatClampNeg)) (mR M21 v0 18) ((32 : Int32) + (mI M (mR M v0 23) (2 : Int32).toNatClampNeg)) (0 : Int32) M21
                                    else
                                      if mK M21 (mR M21 v0 18) = 21 then
                                        if inB ((32 : Int32) + v1) (mN M21 (mR M21 v0 18)) = true then
                                          f_X12_readField_124 kF v0 v1 v2 v3 (mI M (mR M v0 23) (2 : Int32).toNatClampNeg) ((32 : Int32) + (mI M (mR M v0 23) (2 : Int32).toNatClampNeg)) (mR M21 v0 18) ((32 : Int32) + (mI M (mR M v0 23) (2 : Int32).toNatClampNeg)) (mI M21 (mR M21 v0 18) ((32 : Int32) + v1).toNatClampNeg) M21
                                        else none
                                      else none
                                  else none
                                else none
                              else none
                            else none
                          else none
                        else none
                      else none
                    else none
                  else none
                else none
              else none
            else none
          else none
        else none
      else none
    else
      some ((), M)
  else none
set_option maxRecDepth 100000 in
set_option maxHeartbeats 4000000 in
def f_X12_readField_19 (kF : Nat → Int32 → Int32 → Mem → Option (Unit × Mem)) (v0 : Nat) (v1 : Int32) (v2 : Int32) (v3 : Int32) (M : Mem) : Option (Unit × Mem) :=
  if mK M v0 = 13 then
    if mK M (mR M v0 23) = 21 then
      if inB (2 : Int32) (mN M (mR M v0 23)) = true then
        if (mI M (mR M v0 23) (2 : Int32).toNatClampNeg) = (16 : Int32) then
          bnd (f_X12_wrong v0 (2 : Int32) M) fun _ M5 =>
          f_X12_readField_35 kF v0 v1 v2 v3 M5
        else
          f_X12_readField_35 kF v0 v1 v2 v3 M
      else none
    else none
  else none
set_option maxRecDepth 100000 in
set_option maxHeartbeats 4000000 in
def f_X12_readField (kF : Nat → Int32 → Int32 → Mem → Option (Unit × Mem)) (v0 : Nat) (v1 : Int32) (v2 : Int32) (M : Mem) : Option (Unit × Mem) :=
  if mK M v0 = 13 then
    bnd (f_X12_which v0 (mR M v0 0) M) fun r3 M2 =>
    if r3 = (-1 : Int32) then
      if mK M2 v0 = 13 then
        bnd (f_X12_wrong v0 (1 : Int32) M2) fun _ M6 =>
        f_X12_readField_19 kF v0 v1 v2 r3 M6
      else none
    else
      f_X12_readField_19 kF v0 v1 v2 r3 M2
  else none
set_option maxRecDepth 100000 in
set_option maxHeartbeats 4000000 in
theorem s_X12_readField_272 (kF : Nat → Int32 → Int32 → Mem → Option (Unit × Mem)) (F : Nat) (hF : ∀ (a0 : Nat) (a1 : Int32) (a2 : Int32) (M : Mem) (r : (Unit × Mem)), kF a0 a1 a2 M = some r → Sem mi_X12_readFields F [aR a0, aI a1, aI a2] M (oU r.1) r.2) (v0 : Nat) (v2 : Int32) (v4 : Int32) (v5 : Int32) (v6 : Int32) (M : Mem) (r : (Unit × Mem)) (hf : f_X12_readField_272 kF v0 v2 v4 v5 v6 M = some r) : G mi_X12_readField (F + 7) (oU r.1) r.2 272 [some (aR v0), none, some (aI v2), none, some (aI v4), some (aI v5), some (aI v6)] [] M 0 0 := by
  unfold f_X12_readField_272 at hf
  refine g_aload_n (pc' := 273) dX12_readField_272 rfl rfl ?_
  obtain ⟨h1, hf⟩ := chk_s hf
  refine g_getI (pc' := 276) 12 12 rfl rfl (by decide) inX12 (by decide) rfl rfl q_362 dX12_readField_273 rfl h1 ?_
  refine g_if_eq (pc' := 279) 280 dX12_readField_276 rfl (by decide) (fun c2 => ?_) (fun c2 => ?_)
  · have hf := ite_t c2 hf
    refine g_aload_n (pc' := 281) dX12_readField_280 rfl rfl ?_
    obtain ⟨_, M3, e4, hf⟩ := bnd_some hf
    refine g_callVv (pc' := 284) (k' := 0) (u' := 0) (fr2 := 2) (As := []) (b := v0) (st := []) cf_X12_stepOn q_378 (by omega) (ci := 12) rfl rfl (by decide) dX12_readField_281 rfl rfl rfl (Nat.le_of_ble_eq_true rfl) (Or.inl rfl) (Nat.le_refl _) (Nat.le_refl _) (Nat.le_refl _) (Nat.le_refl _) h1 (s_X12_stepOn v0 M _ e4) ?_
    refine g_iload (pc' := 286) dX12_readField_284 rfl rfl ?_
    refine g_if_ne (pc' := 289) 313 dX12_readField_286 rfl (by decide) (fun c5 => ?_) (fun c5 => ?_)
    · have hf := ite_f c5 hf
      refine g_aload_n (pc' := 314) dX12_readField_313 rfl rfl ?_
      refine g_iload (pc' := 316) dX12_readField_314 rfl rfl ?_
      refine g_iload_n (pc' := 317) dX12_readField_316 rfl rfl ?_
      refine g_iconst (pc' := 318) (1 : Int32) dX12_readField_317 rfl (by decide) ?_
      refine g_iadd (pc' := 319) dX12_readField_318 rfl ?_
      obtain ⟨h6, hf⟩ := chk_s hf
      obtain ⟨_, M7, e8, hf⟩ := bnd_some hf
      refine g_callVv (pc' := 322) (k' := 0) (u' := 0) (fr2 := F) (As := [aI v4, aI (v2 + (1 : Int32))]) (b := v0) (st := []) cf_X12_readFields q_404 (by omega) (ci := 12) rfl rfl (by decide) dX12_readField_319 rfl rfl rfl (Nat.le_of_ble_eq_true rfl) (Or.inl rfl) (Nat.le_refl _) (Nat.le_refl _) (Nat.le_refl _) (Nat.le_refl _) h6 (hF v0 v4 (v2 + (1 : Int32)) M3 _ e8) ?_
      refine g_aload_n (pc' := 323) dX12_readField_322 rfl rfl ?_
      refine g_bipush (pc' := 325) (125 : Int32) dX12_readField_323 rfl (by decide) ?_
      obtain ⟨h9, hf⟩ := chk_s hf
      obtain ⟨_, M10, e11, hf⟩ := bnd_some hf
      refine g_callVv (pc' := 328) (k' := 0) (u' := 0) (fr2 := 3) (As := [aI (125 : Int32)]) (b := v0) (st := []) cf_X12_mark q_451 (by omega) (ci := 12) rfl rfl (by decide) dX12_readField_325 rfl rfl rfl (Nat.le_of_ble_eq_true rfl) (Or.inl rfl) (Nat.le_refl _) (Nat.le_refl _) (Nat.le_refl _) (Nat.le_refl _) h9 (s_X12_mark v0 (125 : Int32) M7 _ e11) ?_
      cases hf
      exact g_return dX12_readField_328 rfl (Nat.le_of_ble_eq_true rfl) (Nat.le_of_ble_eq_true rfl)
    · have hf := ite_t c5 hf
      refine g_aload_n (pc' := 290) dX12_readField_289 rfl rfl ?_
      obtain ⟨h12, hf⟩ := chk_s hf
      refine g_getR (pc' := 293) 12 17 rfl rfl (by decide) inX12 (by decide) rfl rfl q_129 dX12_readField_290 rfl h12 ?_
      refine g_iload (pc' := 295) dX12_readField_293 rfl rfl ?_
      refine g_aload_n (pc' := 296) dX12_readField_295 rfl rfl ?_
      refine g_getR (pc' := 299) 12 24 rfl rfl (by decide) inX12 (by decide) rfl rfl q_136 dX12_readField_296 rfl h12 ?_
      refine g_iconst (pc' := 300) (2 : Int32) dX12_readField_299 rfl (by decide) ?_
      obtain ⟨h13, hf⟩ := chk_s hf
      obtain ⟨b14, hf⟩ := chk_s hf
      refine g_iald (pc' := 301) dX12_readField_300 rfl h13 (inB_in b14) ?_
      obtain ⟨h15, hf⟩ := chk_s hf
      obtain ⟨b16, hf⟩ := chk_s hf
      refine g_iast (pc' := 302) dX12_readField_301 rfl h15 (inB_in b16) (gM fun M17 hM17 => ?_)
      have hf := ap_eq hf hM17
      refine g_aload_n (pc' := 303) dX12_readField_302 rfl rfl ?_
      obtain ⟨h18, hf⟩ := chk_s hf
      refine g_getR (pc' := 306) 12 24 rfl rfl (by decide) inX12 (by decide) rfl rfl q_136 dX12_readField_303 rfl h18 ?_
      refine g_iconst (pc' := 307) (2 : Int32) dX12_readField_306 rfl (by decide) ?_
      refine g_dup2 (pc' := 308) dX12_readField_307 rfl rfl rfl ?_
      obtain ⟨h19, hf⟩ := chk_s hf
      obtain ⟨b20, hf⟩ := chk_s hf
      refine g_iald (pc' := 309) dX12_readField_308 rfl h19 (inB_in b20) ?_
      refine g_iconst (pc' := 310) (1 : Int32) dX12_readField_309 rfl (by decide) ?_
      refine g_iadd (pc' := 311) dX12_readField_310 rfl ?_
      refine g_iast (pc' := 312) dX12_readField_311 rfl h19 (inB_in b20) (gM fun M21 hM21 => ?_)
      have hf := ap_eq hf hM21
      cases hf
      exact g_return dX12_readField_312 rfl (Nat.le_of_ble_eq_true rfl) (Nat.le_of_ble_eq_true rfl)
  · have hf := ite_f c2 hf
    cases hf
    exact g_return dX12_readField_279 rfl (Nat.le_of_ble_eq_true rfl) (Nat.le_of_ble_eq_true rfl)
set_option maxRecDepth 100000 in
set_option maxHeartbeats 4000000 in
theorem s_X12_readField_245 (kF : Nat → Int32 → Int32 → Mem → Option (Unit × Mem)) (F : Nat) (hF : ∀ (a0 : Nat) (a1 : Int32) (a2 : Int32) (M : Mem) (r : (Unit × Mem)), kF a0 a1 a2 M = some r → Sem mi_X12_readFields F [aR a0, aI a1, aI a2] M (oU r.1) r.2) (v0 : Nat) (v2 : Int32) (v4 : Int32) (v5 : Int32) (v6 : Int32) (M : Mem) (r : (Unit × Mem)) (hf : f_X12_readField_245 kF v0 v2 v4 v5 v6 M = some r) : G mi_X12_readField (F + 7) (oU r.1) r.2 245 [some (aR v0), none, some (aI v2), none, some (aI v4), some (aI v5), some (aI v6)] [] M 0 0 := by
  unfold f_X12_readField_245 at hf
  refine g_aload_n (pc' := 246) dX12_readField_245 rfl rfl ?_
  obtain ⟨h1, hf⟩ := chk_s hf
  refine g_getR (pc' := 249) 12 21 rfl rfl (by decide) inX12 (by decide) rfl rfl q_133 dX12_readField_246 rfl h1 ?_
  refine g_iload (pc' := 251) dX12_readField_249 rfl rfl ?_
  obtain ⟨h2, hf⟩ := chk_s hf
  obtain ⟨b3, hf⟩ := chk_s hf
  refine g_iald (pc' := 252) dX12_readField_251 rfl h2 (inB_in b3) ?_
  refine g_iconst (pc' := 253) (-1 : Int32) dX12_readField_252 rfl (by decide) ?_
  refine g_icmp_eq (pc' := 256) 272 dX12_readField_253 rfl (by decide) (fun c4 => ?_) (fun c4 => ?_)
  · have hf := ite_t c4 hf
    exact s_X12_readField_272 kF F hF v0 v2 v4 v5 v6 M _ hf
  · have hf := ite_f c4 hf
    refine g_aload_n (pc' := 257) dX12_readField_256 rfl rfl ?_
    refine g_iload (pc' := 259) dX12_readField_257 rfl rfl ?_
    obtain ⟨r6, M5, e6, hf⟩ := bnd_some hf
    refine g_callVi (pc' := 262) (k' := 0) (u' := 0) (fr2 := 1) (As := [aI v5]) (b := v0) (st := []) cf_X12_isLeafThere q_447 (by omega) (ci := 12) rfl rfl (by decide) dX12_readField_259 rfl rfl rfl (Nat.le_of_ble_eq_true rfl) (Or.inl rfl) (Nat.le_refl _) (Nat.le_refl _) (Nat.le_refl _) (Nat.le_refl _) h1 (s_X12_isLeafThere v0 v5 M _ e6) ?_
    refine g_iload (pc' := 264) dX12_readField_262 rfl rfl ?_
    refine g_icmp_ne (pc' := 267) 272 dX12_readField_264 rfl (by decide) (fun c7 => ?_) (fun c7 => ?_)
    · have hf := ite_f c7 hf
      refine g_widen (k' := 0) (u' := 0) (by omega) (by omega) ?_
      exact s_X12_readField_272 kF F hF v0 v2 v4 v5 v6 M5 _ hf
    · have hf := ite_t c7 hf
      refine g_aload_n (pc' := 268) dX12_readField_267 rfl rfl ?_
      refine g_iconst (pc' := 269) (3 : Int32) dX12_readField_268 rfl (by decide) ?_
      obtain ⟨h8, hf⟩ := chk_s hf
      obtain ⟨_, M9, e10, hf⟩ := bnd_some hf
      refine g_callVv (pc' := 272) (k' := 0) (u' := 0) (fr2 := 1) (As := [aI (3 : Int32)]) (b := v0) (st := []) cf_X12_wrong q_426 (by omega) (ci := 12) rfl rfl (by decide) dX12_readField_269 rfl rfl rfl (Nat.le_of_ble_eq_true rfl) (Or.inl rfl) (Nat.le_refl _) (Nat.le_refl _) (Nat.le_refl _) (Nat.le_refl _) h8 (s_X12_wrong v0 (3 : Int32) M5 _ e10) ?_
      refine g_widen (k' := 0) (u' := 0) (by omega) (by omega) ?_
      exact s_X12_readField_272 kF F hF v0 v2 v4 v5 v6 M9 _ hf
set_option maxRecDepth 100000 in
set_option maxHeartbeats 4000000 in
theorem s_X12_readField_240 (kF : Nat → Int32 → Int32 → Mem → Option (Unit × Mem)) (F : Nat) (hF : ∀ (a0 : Nat) (a1 : Int32) (a2 : Int32) (M : Mem) (r : (Unit × Mem)), kF a0 a1 a2 M = some r → Sem mi_X12_readFields F [aR a0, aI a1, aI a2] M (oU r.1) r.2) (v0 : Nat) (v2 : Int32) (v4 : Int32) (v5 : Int32) (v6 : Int32) (M : Mem) (r : (Unit × Mem)) (hf : f_X12_readField_240 kF v0 v2 v4 v5 v6 M = some r) : G mi_X12_readField (F + 7) (oU r.1) r.2 240 [some (aR v0), none, some (aI v2), none, some (aI v4), some (aI v5), some (aI v6)] [] M 0 0 := by
  unfold f_X12_readField_240 at hf
  refine g_aload_n (pc' := 241) dX12_readField_240 rfl rfl ?_
  refine g_iconst (pc' := 242) (2 : Int32) dX12_readField_241 rfl (by decide) ?_
  obtain ⟨h1, hf⟩ := chk_s hf
  obtain ⟨_, M2, e3, hf⟩ := bnd_some hf
  refine g_callVv (pc' := 245) (k' := 0) (u' := 0) (fr2 := 1) (As := [aI (2 : Int32)]) (b := v0) (st := []) cf_X12_wrong q_426 (by omega) (ci := 12) rfl rfl (by decide) dX12_readField_242 rfl rfl rfl (Nat.le_of_ble_eq_true rfl) (Or.inl rfl) (Nat.le_refl _) (Nat.le_refl _) (Nat.le_refl _) (Nat.le_refl _) h1 (s_X12_wrong v0 (2 : Int32) M _ e3) ?_
  refine g_widen (k' := 0) (u' := 0) (by omega) (by omega) ?_
  exact s_X12_readField_245 kF F hF v0 v2 v4 v5 v6 M2 _ hf
set_option maxRecDepth 100000 in
set_option maxHeartbeats 4000000 in
theorem s_X12_readField_216 (kF : Nat → Int32 → Int32 → Mem → Option (Unit × Mem)) (F : Nat) (hF : ∀ (a0 : Nat) (a1 : Int32) (a2 : Int32) (M : Mem) (r : (Unit × Mem)), kF a0 a1 a2 M = some r → Sem mi_X12_readFields F [aR a0, aI a1, aI a2] M (oU r.1) r.2) (v0 : Nat) (v2 : Int32) (v4 : Int32) (v5 : Int32) (v6 : Int32) (M : Mem) (r : (Unit × Mem)) (hf : f_X12_readField_216 kF v0 v2 v4 v5 v6 M = some r) : G mi_X12_readField (F + 7) (oU r.1) r.2 216 [some (aR v0), none, some (aI v2), none, some (aI v4), some (aI v5), some (aI v6)] [] M 0 0 := by
  unfold f_X12_readField_216 at hf
  refine g_iload (pc' := 218) dX12_readField_216 rfl rfl ?_
  refine g_if_eq (pc' := 221) 229 dX12_readField_218 rfl (by decide) (fun c1 => ?_) (fun c1 => ?_)
  · have hf := ite_t c1 hf
    refine g_aload_n (pc' := 230) dX12_readField_229 rfl rfl ?_
    obtain ⟨h2, hf⟩ := chk_s hf
    refine g_getR (pc' := 233) 12 24 rfl rfl (by decide) inX12 (by decide) rfl rfl q_136 dX12_readField_230 rfl h2 ?_
    refine g_iconst (pc' := 234) (2 : Int32) dX12_readField_233 rfl (by decide) ?_
    obtain ⟨h3, hf⟩ := chk_s hf
    obtain ⟨b4, hf⟩ := chk_s hf
    refine g_iald (pc' := 235) dX12_readField_234 rfl h3 (inB_in b4) ?_
    refine g_bipush (pc' := 237) (8 : Int32) dX12_readField_235 rfl (by decide) ?_
    refine g_icmp_ne (pc' := 240) 245 dX12_readField_237 rfl (by decide) (fun c5 => ?_) (fun c5 => ?_)
    · have hf := ite_f c5 hf
      exact s_X12_readField_245 kF F hF v0 v2 v4 v5 v6 M _ hf
    · have hf := ite_t c5 hf
      exact s_X12_readField_240 kF F hF v0 v2 v4 v5 v6 M _ hf
  · have hf := ite_f c1 hf
    refine g_iload_n (pc' := 222) dX12_readField_221 rfl rfl ?_
    refine g_iconst (pc' := 223) (3 : Int32) dX12_readField_222 rfl (by decide) ?_
    refine g_icmp_ne (pc' := 226) 245 dX12_readField_223 rfl (by decide) (fun c6 => ?_) (fun c6 => ?_)
    · have hf := ite_f c6 hf
      exact s_X12_readField_245 kF F hF v0 v2 v4 v5 v6 M _ hf
    · have hf := ite_t c6 hf
      refine g_goto (pc' := 240) dX12_readField_226 (by decide) ?_
      exact s_X12_readField_240 kF F hF v0 v2 v4 v5 v6 M _ hf
set_option maxRecDepth 100000 in
set_option maxHeartbeats 4000000 in
theorem s_X12_readField_169 (kF : Nat → Int32 → Int32 → Mem → Option (Unit × Mem)) (F : Nat) (hF : ∀ (a0 : Nat) (a1 : Int32) (a2 : Int32) (M : Mem) (r : (Unit × Mem)), kF a0 a1 a2 M = some r → Sem mi_X12_readFields F [aR a0, aI a1, aI a2] M (oU r.1) r.2) (v0 : Nat) (v2 : Int32) (v4 : Int32) (v5 : Int32) (w0 : Nat) (w1 : Int32) (w2 : Int32) (w3 : Int32) (M : Mem) (r : (Unit × Mem)) (hf : f_X12_readField_169 kF v0 v2 v4 v5 w0 w1 w2 w3 M = some r) : G mi_X12_readField (F + 7) (oU r.1) r.2 169 [some (aR v0), none, some (aI v2), none, some (aI v4), some (aI v5), none] [aI w3, aI w2, aI w1, aR w0] M 0 0 := by
  unfold f_X12_readField_169 at hf
  refine g_iadd (pc' := 170) dX12_readField_169 rfl ?_
  obtain ⟨h1, hf⟩ := chk_s hf
  obtain ⟨b2, hf⟩ := chk_s hf
  refine g_iast (pc' := 171) dX12_readField_170 rfl h1 (inB_in b2) (gM fun M3 hM3 => ?_)
  have hf := ap_eq hf hM3
  refine g_aload_n (pc' := 172) dX12_readField_171 rfl rfl ?_
  obtain ⟨h4, hf⟩ := chk_s hf
  obtain ⟨_, M5, e6, hf⟩ := bnd_some hf
  refine g_callVv (pc' := 175) (k' := 0) (u' := 0) (fr2 := 2) (As := []) (b := v0) (st := []) cf_X12_stepOn q_378 (by omega) (ci := 12) rfl rfl (by decide) dX12_readField_172 rfl rfl rfl (Nat.le_of_ble_eq_true rfl) (Or.inl rfl) (Nat.le_refl _) (Nat.le_refl _) (Nat.le_refl _) (Nat.le_refl _) h4 (s_X12_stepOn v0 M3 _ e6) ?_
  refine g_aload_n (pc' := 176) dX12_readField_175 rfl rfl ?_
  refine g_iload (pc' := 178) dX12_readField_176 rfl rfl ?_
  obtain ⟨h7, hf⟩ := chk_s hf
  obtain ⟨_, M8, e9, hf⟩ := bnd_some hf
  refine g_callVv (pc' := 181) (k' := 0) (u' := 0) (fr2 := 4) (As := [aI v5]) (b := v0) (st := []) cf_X12_readName q_431 (by omega) (ci := 12) rfl rfl (by decide) dX12_readField_178 rfl rfl rfl (Nat.le_of_ble_eq_true rfl) (Or.inl rfl) (Nat.le_refl _) (Nat.le_refl _) (Nat.le_refl _) (Nat.le_refl _) h7 (s_X12_readName v0 v5 M5 _ e9) ?_
  refine g_aload_n (pc' := 182) dX12_readField_181 rfl rfl ?_
  obtain ⟨h10, hf⟩ := chk_s hf
  refine g_getI (pc' := 185) 12 12 rfl rfl (by decide) inX12 (by decide) rfl rfl q_362 dX12_readField_182 rfl h10 ?_
  refine g_if_eq (pc' := 188) 189 dX12_readField_185 rfl (by decide) (fun c11 => ?_) (fun c11 => ?_)
  · have hf := ite_t c11 hf
    refine g_aload_n (pc' := 190) dX12_readField_189 rfl rfl ?_
    refine g_bipush (pc' := 192) (123 : Int32) dX12_readField_190 rfl (by decide) ?_
    obtain ⟨r13, M12, e13, hf⟩ := bnd_some hf
    refine g_callVi (pc' := 195) (k' := 0) (u' := 0) (fr2 := 1) (As := [aI (123 : Int32)]) (b := v0) (st := []) cf_X12_isMarked q_411 (by omega) (ci := 12) rfl rfl (by decide) dX12_readField_192 rfl rfl rfl (Nat.le_of_ble_eq_true rfl) (Or.inl rfl) (Nat.le_refl _) (Nat.le_refl _) (Nat.le_refl _) (Nat.le_refl _) h10 (s_X12_isMarked v0 (123 : Int32) M8 _ e13) ?_
    refine g_istore (pc' := 197) (lv' := [some (aR v0), none, some (aI v2), none, some (aI v4), some (aI v5), some (aI r13)]) dX12_readField_195 rfl rfl (by decide) rfl ?_
    refine g_iload (pc' := 199) dX12_readField_197 rfl rfl ?_
    refine g_if_ne (pc' := 202) 216 dX12_readField_199 rfl (by decide) (fun c14 => ?_) (fun c14 => ?_)
    · have hf := ite_f c14 hf
      refine g_widen (k' := 0) (u' := 0) (by omega) (by omega) ?_
      exact s_X12_readField_216 kF F hF v0 v2 v4 v5 r13 M12 _ hf
    · have hf := ite_t c14 hf
      refine g_aload_n (pc' := 203) dX12_readField_202 rfl rfl ?_
      refine g_bipush (pc' := 205) (59 : Int32) dX12_readField_203 rfl (by decide) ?_
      obtain ⟨h15, hf⟩ := chk_s hf
      obtain ⟨r17, M16, e17, hf⟩ := bnd_some hf
      refine g_callVi (pc' := 208) (k' := 0) (u' := 0) (fr2 := 1) (As := [aI (59 : Int32)]) (b := v0) (st := []) cf_X12_isMarked q_411 (by omega) (ci := 12) rfl rfl (by decide) dX12_readField_205 rfl rfl rfl (Nat.le_of_ble_eq_true rfl) (Or.inl rfl) (Nat.le_refl _) (Nat.le_refl _) (Nat.le_refl _) (Nat.le_refl _) h15 (s_X12_isMarked v0 (59 : Int32) M12 _ e17) ?_
      refine g_if_ne (pc' := 211) 216 dX12_readField_208 rfl (by decide) (fun c18 => ?_) (fun c18 => ?_)
      · have hf := ite_f c18 hf
        refine g_widen (k' := 0) (u' := 0) (by omega) (by omega) ?_
        exact s_X12_readField_216 kF F hF v0 v2 v4 v5 r13 M16 _ hf
      · have hf := ite_t c18 hf
        refine g_aload_n (pc' := 212) dX12_readField_211 rfl rfl ?_
        refine g_iconst (pc' := 213) (1 : Int32) dX12_readField_212 rfl (by decide) ?_
        obtain ⟨h19, hf⟩ := chk_s hf
        obtain ⟨_, M20, e21, hf⟩ := bnd_some hf
        refine g_callVv (pc' := 216) (k' := 0) (u' := 0) (fr2 := 1) (As := [aI (1 : Int32)]) (b := v0) (st := []) cf_X12_wrong q_426 (by omega) (ci := 12) rfl rfl (by decide) dX12_readField_213 rfl rfl rfl (Nat.le_of_ble_eq_true rfl) (Or.inl rfl) (Nat.le_refl _) (Nat.le_refl _) (Nat.le_refl _) (Nat.le_refl _) h19 (s_X12_wrong v0 (1 : Int32) M16 _ e21) ?_
        refine g_widen (k' := 0) (u' := 0) (by omega) (by omega) ?_
        exact s_X12_readField_216 kF F hF v0 v2 v4 v5 r13 M20 _ hf
  · have hf := ite_f c11 hf
    cases hf
    exact g_return dX12_readField_188 rfl (Nat.le_of_ble_eq_true rfl) (Nat.le_of_ble_eq_true rfl)
set_option maxRecDepth 100000 in
set_option maxHeartbeats 4000000 in
theorem s_X12_readField_159 (kF : Nat → Int32 → Int32 → Mem → Option (Unit × Mem)) (F : Nat) (hF : ∀ (a0 : Nat) (a1 : Int32) (a2 : Int32) (M : Mem) (r : (Unit × Mem)), kF a0 a1 a2 M = some r → Sem mi_X12_readFields F [aR a0, aI a1, aI a2] M (oU r.1) r.2) (v0 : Nat) (v2 : Int32) (v3 : Int32) (v4 : Int32) (v5 : Int32) (w0 : Nat) (w1 : Int32) (w2 : Int32) (M : Mem) (r : (Unit × Mem)) (hf : f_X12_readField_159 kF v0 v2 v3 v4 v5 w0 w1 w2 M = some r) : G mi_X12_readField (F + 7) (oU r.1) r.2 159 [some (aR v0), none, some (aI v2), some (aI v3), some (aI v4), some (aI v5), none] [aI w2, aI w1, aR w0] M 0 0 := by
  unfold f_X12_readField_159 at hf
  refine g_iload_n (pc' := 160) dX12_readField_159 rfl rfl ?_
  refine g_iconst (pc' := 161) (2 : Int32) dX12_readField_160 rfl (by decide) ?_
  refine g_icmp_ne (pc' := 164) 168 dX12_readField_161 rfl (by decide) (fun c1 => ?_) (fun c1 => ?_)
  · have hf := ite_f c1 hf
    refine g_iconst (pc' := 169) (0 : Int32) dX12_readField_168 rfl (by decide) ?_
    refine g_mask [true, true, true, false, true, true, true] rfl ?_
    exact s_X12_readField_169 kF F hF v0 v2 v4 v5 w0 w1 w2 (0 : Int32) M _ hf
  · have hf := ite_t c1 hf
    refine g_iconst (pc' := 165) (1 : Int32) dX12_readField_164 rfl (by decide) ?_
    refine g_goto (pc' := 169) dX12_readField_165 (by decide) ?_
    refine g_mask [true, true, true, false, true, true, true] rfl ?_
    exact s_X12_readField_169 kF F hF v0 v2 v4 v5 w0 w1 w2 (1 : Int32) M _ hf
set_option maxRecDepth 100000 in
set_option maxHeartbeats 4000000 in
theorem s_X12_readField_133 (kF : Nat → Int32 → Int32 → Mem → Option (Unit × Mem)) (F : Nat) (hF : ∀ (a0 : Nat) (a1 : Int32) (a2 : Int32) (M : Mem) (r : (Unit × Mem)), kF a0 a1 a2 M = some r → Sem mi_X12_readFields F [aR a0, aI a1, aI a2] M (oU r.1) r.2) (v0 : Nat) (v1 : Int32) (v2 : Int32) (v3 : Int32) (v4 : Int32) (v5 : Int32) (w0 : Nat) (w1 : Int32) (w2 : Int32) (w3 : Int32) (M : Mem) (r : (Unit × Mem)) (hf : f_X12_readField_133 kF v0 v1 v2 v3 v4 v5 w0 w1 w2 w3 M = some r) : G mi_X12_readField (F + 7) (oU r.1) r.2 133 [some (aR v0), some (aI v1), some (aI v2), some (aI v3), some (aI v4), some (aI v5), none] [aI w3, aI w2, aI w1, aR w0] M 0 0 := by
  unfold f_X12_readField_133 at hf
  refine g_iadd (pc' := 134) dX12_readField_133 rfl ?_
  obtain ⟨h1, hf⟩ := chk_s hf
  obtain ⟨b2, hf⟩ := chk_s hf
  refine g_iast (pc' := 135) dX12_readField_134 rfl h1 (inB_in b2) (gM fun M3 hM3 => ?_)
  have hf := ap_eq hf hM3
  refine g_aload_n (pc' := 136) dX12_readField_135 rfl rfl ?_
  obtain ⟨h4, hf⟩ := chk_s hf
  refine g_getR (pc' := 139) 12 19 rfl rfl (by decide) inX12 (by decide) rfl rfl q_131 dX12_readField_136 rfl h4 ?_
  refine g_iload (pc' := 141) dX12_readField_139 rfl rfl ?_
  refine g_iload_n (pc' := 142) dX12_readField_141 rfl rfl ?_
  refine g_iconst (pc' := 143) (-1 : Int32) dX12_readField_142 rfl (by decide) ?_
  refine g_icmp_ne (pc' := 146) 150 dX12_readField_143 rfl (by decide) (fun c5 => ?_) (fun c5 => ?_)
  · have hf := ite_f c5 hf
    refine g_aload_n (pc' := 151) dX12_readField_150 rfl rfl ?_
    refine g_getR (pc' := 154) 12 19 rfl rfl (by decide) inX12 (by decide) rfl rfl q_131 dX12_readField_151 rfl h4 ?_
    refine g_bipush (pc' := 156) (32 : Int32) dX12_readField_154 rfl (by decide) ?_
    refine g_iload_n (pc' := 157) dX12_readField_156 rfl rfl ?_
    refine g_iadd (pc' := 158) dX12_readField_157 rfl ?_
    obtain ⟨h6, hf⟩ := chk_s hf
    obtain ⟨b7, hf⟩ := chk_s hf
    refine g_iald (pc' := 159) dX12_readField_158 rfl h6 (inB_in b7) ?_
    refine g_mask [true, false, true, true, true, true, true] rfl ?_
    exact s_X12_readField_159 kF F hF v0 v2 v3 v4 v5 (mR M3 v0 19) v5 (mI M3 (mR M3 v0 19) ((32 : Int32) + v1).toNatClampNeg) M3 _ hf
  · have hf := ite_t c5 hf
    refine g_iconst (pc' := 147) (0 : Int32) dX12_readField_146 rfl (by decide) ?_
    refine g_goto (pc' := 159) dX12_readField_147 (by decide) ?_
    refine g_mask [true, false, true, true, true, true, true] rfl ?_
    exact s_X12_readField_159 kF F hF v0 v2 v3 v4 v5 (mR M3 v0 19) v5 (0 : Int32) M3 _ hf
set_option maxRecDepth 100000 in
set_option maxHeartbeats 4000000 in
theorem s_X12_readField_124 (kF : Nat → Int32 → Int32 → Mem → Option (Unit × Mem)) (F : Nat) (hF : ∀ (a0 : Nat) (a1 : Int32) (a2 : Int32) (M : Mem) (r : (Unit × Mem)), kF a0 a1 a2 M = some r → Sem mi_X12_readFields F [aR a0, aI a1, aI a2] M (oU r.1) r.2) (v0 : Nat) (v1 : Int32) (v2 : Int32) (v3 : Int32) (v4 : Int32) (v5 : Int32) (w0 : Nat) (w1 : Int32) (w2 : Int32) (M : Mem) (r : (Unit × Mem)) (hf : f_X12_readField_124 kF v0 v1 v2 v3 v4 v5 w0 w1 w2 M = some r) : G mi_X12_readField (F + 7) (oU r.1) r.2 124 [some (aR v0), some (aI v1), some (aI v2), some (aI v3), some (aI v4), some (aI v5), none] [aI w2, aI w1, aR w0] M 0 0 := by
  unfold f_X12_readField_124 at hf
  refine g_iload_n (pc' := 125) dX12_readField_124 rfl rfl ?_
  refine g_if_ne (pc' := 128) 132 dX12_readField_125 rfl (by decide) (fun c1 => ?_) (fun c1 => ?_)
  · have hf := ite_f c1 hf
    refine g_iconst (pc' := 133) (1 : Int32) dX12_readField_132 rfl (by decide) ?_
    exact s_X12_readField_133 kF F hF v0 v1 v2 v3 v4 v5 w0 w1 w2 (1 : Int32) M _ hf
  · have hf := ite_t c1 hf
    refine g_iconst (pc' := 129) (0 : Int32) dX12_readField_128 rfl (by decide) ?_
    refine g_goto (pc' := 133) dX12_readField_129 (by decide) ?_
    exact s_X12_readField_133 kF F hF v0 v1 v2 v3 v4 v5 w0 w1 w2 (0 : Int32) M _ hf
set_option maxRecDepth 100000 in
set_option maxHeartbeats 4000000 in
theorem s_X12_readField_35 (kF : Nat → Int32 → Int32 → Mem → Option (Unit × Mem)) (F : Nat) (hF : ∀ (a0 : Nat) (a1 : Int32) (a2 : Int32) (M : Mem) (r : (Unit × Mem)), kF a0 a1 a2 M = some r → Sem mi_X12_readFields F [aR a0, aI a1, aI a2] M (oU r.1) r.2) (v0 : Nat) (v1 : Int32) (v2 : Int32) (v3 : Int32) (M : Mem) (r : (Unit × Mem)) (hf : f_X12_readField_35 kF v0 v1 v2 v3 M = some r) : G mi_X12_readField (F + 7) (oU r.1) r.2 35 [some (aR v0), some (aI v1), some (aI v2), some (aI v3), none, none, none] [] M 0 0 := by
  unfold f_X12_readField_35 at hf
  refine g_aload_n (pc' := 36) dX12_readField_35 rfl rfl ?_
  obtain ⟨h1, hf⟩ := chk_s hf
  refine g_getI (pc' := 39) 12 12 rfl rfl (by decide) inX12 (by decide) rfl rfl q_362 dX12_readField_36 rfl h1 ?_
  refine g_if_eq (pc' := 42) 43 dX12_readField_39 rfl (by decide) (fun c2 => ?_) (fun c2 => ?_)
  · have hf := ite_t c2 hf
    refine g_aload_n (pc' := 44) dX12_readField_43 rfl rfl ?_
    refine g_getR (pc' := 47) 12 23 rfl rfl (by decide) inX12 (by decide) rfl rfl q_135 dX12_readField_44 rfl h1 ?_
    refine g_iconst (pc' := 48) (2 : Int32) dX12_readField_47 rfl (by decide) ?_
    obtain ⟨h3, hf⟩ := chk_s hf
    obtain ⟨b4, hf⟩ := chk_s hf
    refine g_iald (pc' := 49) dX12_readField_48 rfl h3 (inB_in b4) ?_
    refine g_istore (pc' := 51) (lv' := [some (aR v0), some (aI v1), some (aI v2), some (aI v3), some (aI (mI M (mR M v0 23) (2 : Int32).toNatClampNeg)), none, none]) dX12_readField_49 rfl rfl (by decide) rfl ?_
    refine g_bipush (pc' := 53) (32 : Int32) dX12_readField_51 rfl (by decide) ?_
    refine g_iload (pc' := 55) dX12_readField_53 rfl rfl ?_
    refine g_iadd (pc' := 56) dX12_readField_55 rfl ?_
    refine g_istore (pc' := 58) (lv' := [some (aR v0), some (aI v1), some (aI v2), some (aI v3), some (aI (mI M (mR M v0 23) (2 : Int32).toNatClampNeg)), some (aI ((32 : Int32) + (mI M (mR M v0 23) (2 : Int32).toNatClampNeg))), none]) dX12_readField_56 rfl rfl (by decide) rfl ?_
    refine g_aload_n (pc' := 59) dX12_readField_58 rfl rfl ?_
    refine g_getR (pc' := 62) 12 23 rfl rfl (by decide) inX12 (by decide) rfl rfl q_135 dX12_readField_59 rfl h1 ?_
    refine g_iconst (pc' := 63) (2 : Int32) dX12_readField_62 rfl (by decide) ?_
    refine g_dup2 (pc' := 64) dX12_readField_63 rfl rfl rfl ?_
    refine g_iald (pc' := 65) dX12_readField_64 rfl h3 (inB_in b4) ?_
    refine g_iconst (pc' := 66) (1 : Int32) dX12_readField_65 rfl (by decide) ?_
    refine g_iadd (pc' := 67) dX12_readField_66 rfl ?_
    refine g_iast (pc' := 68) dX12_readField_67 rfl h3 (inB_in b4) (gM fun M5 hM5 => ?_)
    have hf := ap_eq hf hM5
    refine g_aload_n (pc' := 69) dX12_readField_68 rfl rfl ?_
    obtain ⟨h6, hf⟩ := chk_s hf
    refine g_getR (pc' := 72) 12 15 rfl rfl (by decide) inX12 (by decide) rfl rfl q_127 dX12_readField_69 rfl h6 ?_
    refine g_iload (pc' := 74) dX12_readField_72 rfl rfl ?_
    refine g_iload_n (pc' := 75) dX12_readField_74 rfl rfl ?_
    obtain ⟨h7, hf⟩ := chk_s hf
    obtain ⟨b8, hf⟩ := chk_s hf
    refine g_iast (pc' := 76) dX12_readField_75 rfl h7 (inB_in b8) (gM fun M9 hM9 => ?_)
    have hf := ap_eq hf hM9
    refine g_aload_n (pc' := 77) dX12_readField_76 rfl rfl ?_
    obtain ⟨h10, hf⟩ := chk_s hf
    refine g_getR (pc' := 80) 12 16 rfl rfl (by decide) inX12 (by decide) rfl rfl q_128 dX12_readField_77 rfl h10 ?_
    refine g_iload (pc' := 82) dX12_readField_80 rfl rfl ?_
    refine g_iload_n (pc' := 83) dX12_readField_82 rfl rfl ?_
    obtain ⟨h11, hf⟩ := chk_s hf
    obtain ⟨b12, hf⟩ := chk_s hf
    refine g_iast (pc' := 84) dX12_readField_83 rfl h11 (inB_in b12) (gM fun M13 hM13 => ?_)
    have hf := ap_eq hf hM13
    refine g_aload_n (pc' := 85) dX12_readField_84 rfl rfl ?_
    obtain ⟨h14, hf⟩ := chk_s hf
    refine g_getR (pc' := 88) 12 17 rfl rfl (by decide) inX12 (by decide) rfl rfl q_129 dX12_readField_85 rfl h14 ?_
    refine g_iload (pc' := 90) dX12_readField_88 rfl rfl ?_
    refine g_iconst (pc' := 91) (-1 : Int32) dX12_readField_90 rfl (by decide) ?_
    obtain ⟨h15, hf⟩ := chk_s hf
    obtain ⟨b16, hf⟩ := chk_s hf
    refine g_iast (pc' := 92) dX12_readField_91 rfl h15 (inB_in b16) (gM fun M17 hM17 => ?_)
    have hf := ap_eq hf hM17
    refine g_aload_n (pc' := 93) dX12_readField_92 rfl rfl ?_
    obtain ⟨h18, hf⟩ := chk_s hf
    refine g_getR (pc' := 96) 12 21 rfl rfl (by decide) inX12 (by decide) rfl rfl q_133 dX12_readField_93 rfl h18 ?_
    refine g_iload (pc' := 98) dX12_readField_96 rfl rfl ?_
    refine g_iconst (pc' := 99) (-1 : Int32) dX12_readField_98 rfl (by decide) ?_
    obtain ⟨h19, hf⟩ := chk_s hf
    obtain ⟨b20, hf⟩ := chk_s hf
    refine g_iast (pc' := 100) dX12_readField_99 rfl h19 (inB_in b20) (gM fun M21 hM21 => ?_)
    have hf := ap_eq hf hM21
    refine g_aload_n (pc' := 101) dX12_readField_100 rfl rfl ?_
    obtain ⟨h22, hf⟩ := chk_s hf
    refine g_getR (pc' := 104) 12 18 rfl rfl (by decide) inX12 (by decide) rfl rfl q_130 dX12_readField_101 rfl h22 ?_
    refine g_iload (pc' := 106) dX12_readField_104 rfl rfl ?_
    refine g_iload_n (pc' := 107) dX12_readField_106 rfl rfl ?_
    refine g_iconst (pc' := 108) (-1 : Int32) dX12_readField_107 rfl (by decide) ?_
    refine g_icmp_ne (pc' := 111) 115 dX12_readField_108 rfl (by decide) (fun c23 => ?_) (fun c23 => ?_)
    · have hf := ite_f c23 hf
      refine g_aload_n (pc' := 116) dX12_readField_115 rfl rfl ?_
      refine g_getR (pc' := 119) 12 18 rfl rfl (by decide) inX12 (by decide) rfl rfl q_130 dX12_readField_116 rfl h22 ?_
      refine g_bipush (pc' := 121) (32 : Int32) dX12_readField_119 rfl (by decide) ?_
      refine g_iload_n (pc' := 122) dX12_readField_121 rfl rfl ?_
      refine g_iadd (pc' := 123) dX12_readField_122 rfl ?_
      obtain ⟨h24, hf⟩ := chk_s hf
      obtain ⟨b25, hf⟩ := chk_s hf
      refine g_iald (pc' := 124) dX12_readField_123 rfl h24 (inB_in b25) ?_
      exact s_X12_readField_124 kF F hF v0 v1 v2 v3 (mI M (mR M v0 23) (2 : Int32).toNatClampNeg) ((32 : Int32) + (mI M (mR M v0 23) (2 : Int32).toNatClampNeg)) (mR M21 v0 18) ((32 : Int32) + (mI M (mR M v0 23) (2 : Int32).toNatClampNeg)) (mI M21 (mR M21 v0 18) ((32 : Int32) + v1).toNatClampNeg) M21 _ hf
    · have hf := ite_t c23 hf
      refine g_iconst (pc' := 112) (0 : Int32) dX12_readField_111 rfl (by decide) ?_
      refine g_goto (pc' := 124) dX12_readField_112 (by decide) ?_
      exact s_X12_readField_124 kF F hF v0 v1 v2 v3 (mI M (mR M v0 23) (2 : Int32).toNatClampNeg) ((32 : Int32) + (mI M (mR M v0 23) (2 : Int32).toNatClampNeg)) (mR M21 v0 18) ((32 : Int32) + (mI M (mR M v0 23) (2 : Int32).toNatClampNeg)) (0 : Int32) M21 _ hf
  · have hf := ite_f c2 hf
    cases hf
    exact g_return dX12_readField_42 rfl (Nat.le_of_ble_eq_true rfl) (Nat.le_of_ble_eq_true rfl)
set_option maxRecDepth 100000 in
set_option maxHeartbeats 4000000 in
theorem s_X12_readField_19 (kF : Nat → Int32 → Int32 → Mem → Option (Unit × Mem)) (F : Nat) (hF : ∀ (a0 : Nat) (a1 : Int32) (a2 : Int32) (M : Mem) (r : (Unit × Mem)), kF a0 a1 a2 M = some r → Sem mi_X12_readFields F [aR a0, aI a1, aI a2] M (oU r.1) r.2) (v0 : Nat) (v1 : Int32) (v2 : Int32) (v3 : Int32) (M : Mem) (r : (Unit × Mem)) (hf : f_X12_readField_19 kF v0 v1 v2 v3 M = some r) : G mi_X12_readField (F + 7) (oU r.1) r.2 19 [some (aR v0), some (aI v1), some (aI v2), some (aI v3), none, none, none] [] M 0 0 := by
  unfold f_X12_readField_19 at hf
  refine g_aload_n (pc' := 20) dX12_readField_19 rfl rfl ?_
  obtain ⟨h1, hf⟩ := chk_s hf
  refine g_getR (pc' := 23) 12 23 rfl rfl (by decide) inX12 (by decide) rfl rfl q_135 dX12_readField_20 rfl h1 ?_
  refine g_iconst (pc' := 24) (2 : Int32) dX12_readField_23 rfl (by decide) ?_
  obtain ⟨h2, hf⟩ := chk_s hf
  obtain ⟨b3, hf⟩ := chk_s hf
  refine g_iald (pc' := 25) dX12_readField_24 rfl h2 (inB_in b3) ?_
  refine g_bipush (pc' := 27) (16 : Int32) dX12_readField_25 rfl (by decide) ?_
  refine g_icmp_ne (pc' := 30) 35 dX12_readField_27 rfl (by decide) (fun c4 => ?_) (fun c4 => ?_)
  · have hf := ite_f c4 hf
    exact s_X12_readField_35 kF F hF v0 v1 v2 v3 M _ hf
  · have hf := ite_t c4 hf
    refine g_aload_n (pc' := 31) dX12_readField_30 rfl rfl ?_
    refine g_iconst (pc' := 32) (2 : Int32) dX12_readField_31 rfl (by decide) ?_
    obtain ⟨_, M5, e6, hf⟩ := bnd_some hf
    refine g_callVv (pc' := 35) (k' := 0) (u' := 0) (fr2 := 1) (As := [aI (2 : Int32)]) (b := v0) (st := []) cf_X12_wrong q_426 (by omega) (ci := 12) rfl rfl (by decide) dX12_readField_32 rfl rfl rfl (Nat.le_of_ble_eq_true rfl) (Or.inl rfl) (Nat.le_refl _) (Nat.le_refl _) (Nat.le_refl _) (Nat.le_refl _) h1 (s_X12_wrong v0 (2 : Int32) M _ e6) ?_
    refine g_widen (k' := 0) (u' := 0) (by omega) (by omega) ?_
    exact s_X12_readField_35 kF F hF v0 v1 v2 v3 M5 _ hf
set_option maxRecDepth 100000 in
set_option maxHeartbeats 4000000 in
theorem s_X12_readField (kF : Nat → Int32 → Int32 → Mem → Option (Unit × Mem)) (F : Nat) (hF : ∀ (a0 : Nat) (a1 : Int32) (a2 : Int32) (M : Mem) (r : (Unit × Mem)), kF a0 a1 a2 M = some r → Sem mi_X12_readFields F [aR a0, aI a1, aI a2] M (oU r.1) r.2) (v0 : Nat) (v1 : Int32) (v2 : Int32) (M : Mem) (r : (Unit × Mem)) (hf : f_X12_readField kF v0 v1 v2 M = some r) : Sem mi_X12_readField ((F + 7)) [aR v0, aI v1, aI v2] M (oU r.1) r.2 := by
  unfold f_X12_readField at hf
  refine sem_of (by decide) rfl rfl rfl (Nat.le_of_ble_eq_true rfl) (lv := [some (aR v0), some (aI v1), some (aI v2), none, none, none, none]) rfl ?_
  refine g_aload_n (pc' := 1) dX12_readField_0 rfl rfl ?_
  refine g_aload_n (pc' := 2) dX12_readField_1 rfl rfl ?_
  obtain ⟨h1, hf⟩ := chk_s hf
  refine g_getR (pc' := 5) 12 0 rfl rfl (by decide) inX12 (by decide) rfl rfl q_122 dX12_readField_2 rfl h1 ?_
  obtain ⟨r3, M2, e3, hf⟩ := bnd_some hf
  refine g_callVi (pc' := 8) (k' := 0) (u' := 0) (fr2 := 6) (As := [aR (mR M v0 0)]) (b := v0) (st := []) cf_X12_which q_416 (by omega) (ci := 12) rfl rfl (by decide) dX12_readField_5 rfl rfl rfl (Nat.le_of_ble_eq_true rfl) (Or.inl rfl) (Nat.le_refl _) (Nat.le_refl _) (Nat.le_refl _) (Nat.le_refl _) h1 (s_X12_which v0 (mR M v0 0) M _ e3) ?_
  refine g_istore_n (pc' := 9) (lv' := [some (aR v0), some (aI v1), some (aI v2), some (aI r3), none, none, none]) dX12_readField_8 rfl rfl (by decide) rfl ?_
  refine g_iload_n (pc' := 10) dX12_readField_9 rfl rfl ?_
  refine g_iconst (pc' := 11) (-1 : Int32) dX12_readField_10 rfl (by decide) ?_
  refine g_icmp_ne (pc' := 14) 19 dX12_readField_11 rfl (by decide) (fun c4 => ?_) (fun c4 => ?_)
  · have hf := ite_f c4 hf
    refine g_widen (k' := 0) (u' := 0) (by omega) (by omega) ?_
    exact s_X12_readField_19 kF F hF v0 v1 v2 r3 M2 _ hf
  · have hf := ite_t c4 hf
    refine g_aload_n (pc' := 15) dX12_readField_14 rfl rfl ?_
    refine g_iconst (pc' := 16) (1 : Int32) dX12_readField_15 rfl (by decide) ?_
    obtain ⟨h5, hf⟩ := chk_s hf
    obtain ⟨_, M6, e7, hf⟩ := bnd_some hf
    refine g_callVv (pc' := 19) (k' := 0) (u' := 0) (fr2 := 1) (As := [aI (1 : Int32)]) (b := v0) (st := []) cf_X12_wrong q_426 (by omega) (ci := 12) rfl rfl (by decide) dX12_readField_16 rfl rfl rfl (Nat.le_of_ble_eq_true rfl) (Or.inl rfl) (Nat.le_refl _) (Nat.le_refl _) (Nat.le_refl _) (Nat.le_refl _) h5 (s_X12_wrong v0 (1 : Int32) M2 _ e7) ?_
    refine g_widen (k' := 0) (u' := 0) (by omega) (by omega) ?_
    exact s_X12_readField_19 kF F hF v0 v1 v2 r3 M6 _ hf
def f_X12_readFields_37 (kF : Nat → Int32 → Int32 → Mem → Option (Unit × Mem)) (k6 : Nat → Int32 → Int32 → Mem → Option (Unit × Mem)) (v0 : Nat) (v1 : Int32) (v2 : Int32) (M : Mem) : Option (Unit × Mem) :=
  if mK M v0 = 13 then
    bnd (f_X12_readField kF v0 v1 v2 M) fun _ M2 =>
    k6 v0 v1 v2 M2
  else none
def f_X12_readFields_6 (kF : Nat → Int32 → Int32 → Mem → Option (Unit × Mem)) : Nat → Nat → Int32 → Int32 → Mem → Option (Unit × Mem)
  | 0, _, _, _, _ => none
  | n + 1, v0, v1, v2, M =>
    if mK M v0 = 13 then
      if (mI M v0 12) = 0 then
        if v1 = (-1 : Int32) then
          if (mI M v0 8) = 0 then
            some ((), M)
          else
            f_X12_readFields_37 kF (f_X12_readFields_6 kF n) v0 v1 v2 M
        else
          bnd (f_X12_isMarked v0 (125 : Int32) M) fun r5 M4 =>
          if r5 = 0 then
            f_X12_readFields_37 kF (f_X12_readFields_6 kF n) v0 v1 v2 M4
          else
            some ((), M4)
      else
        some ((), M)
    else none
def f_X12_readFields_o (kF : Nat → Int32 → Int32 → Mem → Option (Unit × Mem)) (v0 : Nat) (v1 : Int32) (v2 : Int32) (M : Mem) : Option (Unit × Mem) :=
  if mK M v0 = 13 then
    bnd (f_X12_readField kF v0 v1 v2 M) fun _ M2 =>
    f_X12_readFields_6 kF FUEL v0 v1 v2 M2
  else none
def f_X12_readFields : Nat → Nat → Int32 → Int32 → Mem → Option (Unit × Mem)
  | 0, _, _, _, _ => none
  | n + 1, v0, v1, v2, M => f_X12_readFields_o (f_X12_readFields n) v0 v1 v2 M
theorem s_X12_readFields_37 (kF : Nat → Int32 → Int32 → Mem → Option (Unit × Mem)) (k6 : Nat → Int32 → Int32 → Mem → Option (Unit × Mem)) (F : Nat) (hF : ∀ (a0 : Nat) (a1 : Int32) (a2 : Int32) (M : Mem) (r : (Unit × Mem)), kF a0 a1 a2 M = some r → Sem mi_X12_readFields F [aR a0, aI a1, aI a2] M (oU r.1) r.2) (hk6 : ∀ (v0 : Nat) (v1 : Int32) (v2 : Int32) (M : Mem) (r : (Unit × Mem)), k6 v0 v1 v2 M = some r → G mi_X12_readFields (F + 8) (oU r.1) r.2 6 [some (aR v0), some (aI v1), some (aI v2)] [] M 0 0) (v0 : Nat) (v1 : Int32) (v2 : Int32) (M : Mem) (r : (Unit × Mem)) (hf : f_X12_readFields_37 kF k6 v0 v1 v2 M = some r) : G mi_X12_readFields (F + 8) (oU r.1) r.2 37 [some (aR v0), some (aI v1), some (aI v2)] [] M 0 0 := by
  unfold f_X12_readFields_37 at hf
  refine g_aload_n (pc' := 38) dX12_readFields_37 rfl rfl ?_
  refine g_iload_n (pc' := 39) dX12_readFields_38 rfl rfl ?_
  refine g_iload_n (pc' := 40) dX12_readFields_39 rfl rfl ?_
  obtain ⟨h1, hf⟩ := chk_s hf
  obtain ⟨_, M2, e3, hf⟩ := bnd_some hf
  refine g_callVv (pc' := 43) (k' := 0) (u' := 0) (fr2 := F + 7) (As := [aI v1, aI v2]) (b := v0) (st := []) cf_X12_readField q_408 (by omega) (ci := 12) rfl rfl (by decide) dX12_readFields_40 rfl rfl rfl (Nat.le_of_ble_eq_true rfl) (Or.inl rfl) (Nat.le_refl _) (Nat.le_refl _) (Nat.le_refl _) (Nat.le_refl _) h1 (s_X12_readField kF F hF v0 v1 v2 M _ e3) ?_
  refine g_goto (pc' := 6) dX12_readFields_43 (by decide) ?_
  refine g_widen (k' := 0) (u' := 0) (by omega) (by omega) ?_
  exact hk6 v0 v1 v2 M2 _ hf
theorem s_X12_readFields_6 (kF : Nat → Int32 → Int32 → Mem → Option (Unit × Mem)) (F : Nat) (hF : ∀ (a0 : Nat) (a1 : Int32) (a2 : Int32) (M : Mem) (r : (Unit × Mem)), kF a0 a1 a2 M = some r → Sem mi_X12_readFields F [aR a0, aI a1, aI a2] M (oU r.1) r.2) : ∀ (n : Nat) (v0 : Nat) (v1 : Int32) (v2 : Int32) (M : Mem) (r : (Unit × Mem)), f_X12_readFields_6 kF n v0 v1 v2 M = some r → G mi_X12_readFields (F + 8) (oU r.1) r.2 6 [some (aR v0), some (aI v1), some (aI v2)] [] M 0 0 := by
  intro n
  induction n with
  | zero => intro v0 v1 v2 M r hf; cases hf
  | succ n ih =>
    intro v0 v1 v2 M r hf
    unfold f_X12_readFields_6 at hf
    refine g_aload_n (pc' := 7) dX12_readFields_6 rfl rfl ?_
    obtain ⟨h1, hf⟩ := chk_s hf
    refine g_getI (pc' := 10) 12 12 rfl rfl (by decide) inX12 (by decide) rfl rfl q_362 dX12_readFields_7 rfl h1 ?_
    refine g_if_ne (pc' := 13) 46 dX12_readFields_10 rfl (by decide) (fun c2 => ?_) (fun c2 => ?_)
    · have hf := ite_f c2 hf
      cases hf
      exact g_return dX12_readFields_46 rfl (Nat.le_of_ble_eq_true rfl) (Nat.le_of_ble_eq_true rfl)
    · have hf := ite_t c2 hf
      refine g_iload_n (pc' := 14) dX12_readFields_13 rfl rfl ?_
      refine g_iconst (pc' := 15) (-1 : Int32) dX12_readFields_14 rfl (by decide) ?_
      refine g_icmp_ne (pc' := 18) 28 dX12_readFields_15 rfl (by decide) (fun c3 => ?_) (fun c3 => ?_)
      · have hf := ite_f c3 hf
        refine g_aload_n (pc' := 29) dX12_readFields_28 rfl rfl ?_
        refine g_bipush (pc' := 31) (125 : Int32) dX12_readFields_29 rfl (by decide) ?_
        obtain ⟨r5, M4, e5, hf⟩ := bnd_some hf
        refine g_callVi (pc' := 34) (k' := 0) (u' := 0) (fr2 := 1) (As := [aI (125 : Int32)]) (b := v0) (st := []) cf_X12_isMarked q_411 (by omega) (ci := 12) rfl rfl (by decide) dX12_readFields_31 rfl rfl rfl (Nat.le_of_ble_eq_true rfl) (Or.inl rfl) (Nat.le_refl _) (Nat.le_refl _) (Nat.le_refl _) (Nat.le_refl _) h1 (s_X12_isMarked v0 (125 : Int32) M _ e5) ?_
        refine g_if_ne (pc' := 37) 46 dX12_readFields_34 rfl (by decide) (fun c6 => ?_) (fun c6 => ?_)
        · have hf := ite_f c6 hf
          cases hf
          exact g_return dX12_readFields_46 rfl (Nat.le_of_ble_eq_true rfl) (Nat.le_of_ble_eq_true rfl)
        · have hf := ite_t c6 hf
          refine g_widen (k' := 0) (u' := 0) (by omega) (by omega) ?_
          exact s_X12_readFields_37 kF (f_X12_readFields_6 kF n) F hF ih v0 v1 v2 M4 _ hf
      · have hf := ite_t c3 hf
        refine g_aload_n (pc' := 19) dX12_readFields_18 rfl rfl ?_
        refine g_getI (pc' := 22) 12 8 rfl rfl (by decide) inX12 (by decide) rfl rfl q_383 dX12_readFields_19 rfl h1 ?_
        refine g_if_eq (pc' := 25) 46 dX12_readFields_22 rfl (by decide) (fun c7 => ?_) (fun c7 => ?_)
        · have hf := ite_t c7 hf
          cases hf
          exact g_return dX12_readFields_46 rfl (Nat.le_of_ble_eq_true rfl) (Nat.le_of_ble_eq_true rfl)
        · have hf := ite_f c7 hf
          refine g_goto (pc' := 37) dX12_readFields_25 (by decide) ?_
          exact s_X12_readFields_37 kF (f_X12_readFields_6 kF n) F hF ih v0 v1 v2 M _ hf
theorem s_X12_readFields_o (kF : Nat → Int32 → Int32 → Mem → Option (Unit × Mem)) (F : Nat) (hF : ∀ (a0 : Nat) (a1 : Int32) (a2 : Int32) (M : Mem) (r : (Unit × Mem)), kF a0 a1 a2 M = some r → Sem mi_X12_readFields F [aR a0, aI a1, aI a2] M (oU r.1) r.2) (v0 : Nat) (v1 : Int32) (v2 : Int32) (M : Mem) (r : (Unit × Mem)) (hf : f_X12_readFields_o kF v0 v1 v2 M = some r) : Sem mi_X12_readFields ((F + 8)) [aR v0, aI v1, aI v2] M (oU r.1) r.2 := by
  unfold f_X12_readFields_o at hf
  refine sem_of (by decide) rfl rfl rfl (Nat.le_of_ble_eq_true rfl) (lv := [some (aR v0), some (aI v1), some (aI v2)]) rfl ?_
  refine g_aload_n (pc' := 1) dX12_readFields_0 rfl rfl ?_
  refine g_iload_n (pc' := 2) dX12_readFields_1 rfl rfl ?_
  refine g_iload_n (pc' := 3) dX12_readFields_2 rfl rfl ?_
  obtain ⟨h1, hf⟩ := chk_s hf
  obtain ⟨_, M2, e3, hf⟩ := bnd_some hf
  refine g_callVv (pc' := 6) (k' := 0) (u' := 0) (fr2 := F + 7) (As := [aI v1, aI v2]) (b := v0) (st := []) cf_X12_readField q_408 (by omega) (ci := 12) rfl rfl (by decide) dX12_readFields_3 rfl rfl rfl (Nat.le_of_ble_eq_true rfl) (Or.inl rfl) (Nat.le_refl _) (Nat.le_refl _) (Nat.le_refl _) (Nat.le_refl _) h1 (s_X12_readField kF F hF v0 v1 v2 M _ e3) ?_
  refine g_widen (k' := 0) (u' := 0) (by omega) (by omega) ?_
  exact s_X12_readFields_6 kF F hF FUEL v0 v1 v2 M2 _ hf
theorem s_X12_readFields : ∀ (n : Nat) (v0 : Nat) (v1 : Int32) (v2 : Int32) (M : Mem) (r : (Unit × Mem)), f_X12_readFields n v0 v1 v2 M = some r → Sem mi_X12_readFields (8 * n + 0) [aR v0, aI v1, aI v2] M (oU r.1) r.2 := by
  intro n
  induction n with
  | zero => intro v0 v1 v2 M r hf; cases hf
  | succ n ih =>
    intro v0 v1 v2 M r hf
    rw [show 8 * (n + 1) + 0 = 8 * n + 0 + 8 by omega]
    exact s_X12_readFields_o (f_X12_readFields n) (8 * n + 0) ih v0 v1 v2 M r hf
def f_X12_readSchema (v0 : Nat) (v1 : Int32) (M : Mem) : Option (Unit × Mem) :=
  if mK M v0 = 13 then
    if zB v1 = true then
      ap (sI M v0 26 v1) fun M2 =>
      if mK M2 v0 = 13 then
        if mK M2 (mR M2 v0 23) = 21 then
          if inB (2 : Int32) (mN M2 (mR M2 v0 23)) = true then
            ap (sI M2 (mR M2 v0 23) (2 : Int32).toNatClampNeg (0 : Int32)) fun M7 =>
            if mK M7 v0 = 13 then
              if mK M7 (mR M7 v0 24) = 21 then
                if inB (2 : Int32) (mN M7 (mR M7 v0 24)) = true then
                  ap (sI M7 (mR M7 v0 24) (2 : Int32).toNatClampNeg (0 : Int32)) fun M11 =>
                  if mK M11 v0 = 13 then
                    bnd (f_X12_stepOn v0 M11) fun _ M13 =>
                    if mK M13 v0 = 13 then
                      bnd (f_X12_readFields 6 v0 (-1 : Int32) (0 : Int32) M13) fun _ M16 =>
                      some ((), M16)
                    else none
                  else none
                else none
              else none
            else none
          else none
        else none
      else none
    else none
  else none
theorem s_X12_readSchema (v0 : Nat) (v1 : Int32) (M : Mem) (r : (Unit × Mem)) (hf : f_X12_readSchema v0 v1 M = some r) : Sem mi_X12_readSchema (49) [aR v0, aI v1] M (oU r.1) r.2 := by
  unfold f_X12_readSchema at hf
  refine sem_of (by decide) rfl rfl rfl (Nat.le_of_ble_eq_true rfl) (lv := [some (aR v0), some (aI v1)]) rfl ?_
  refine g_aload_n (pc' := 1) dX12_readSchema_0 rfl rfl ?_
  refine g_iload_n (pc' := 2) dX12_readSchema_1 rfl rfl ?_
  obtain ⟨h1, hf⟩ := chk_s hf
  obtain ⟨hb3, hf⟩ := chk_s hf
  refine g_putZ (pc' := 5) 12 26 rfl rfl (by decide) inX12 tyX12_ok nmX12 (by decide) rfl rfl rfl rfl (zB_ok hb3) q_377 dX12_readSchema_2 rfl h1 (gM fun M2 hM2 => ?_)
  have hf := ap_eq hf hM2
  refine g_aload_n (pc' := 6) dX12_readSchema_5 rfl rfl ?_
  obtain ⟨h4, hf⟩ := chk_s hf
  refine g_getR (pc' := 9) 12 23 rfl rfl (by decide) inX12 (by decide) rfl rfl q_135 dX12_readSchema_6 rfl h4 ?_
  refine g_iconst (pc' := 10) (2 : Int32) dX12_readSchema_9 rfl (by decide) ?_
  refine g_iconst (pc' := 11) (0 : Int32) dX12_readSchema_10 rfl (by decide) ?_
  obtain ⟨h5, hf⟩ := chk_s hf
  obtain ⟨b6, hf⟩ := chk_s hf
  refine g_iast (pc' := 12) dX12_readSchema_11 rfl h5 (inB_in b6) (gM fun M7 hM7 => ?_)
  have hf := ap_eq hf hM7
  refine g_aload_n (pc' := 13) dX12_readSchema_12 rfl rfl ?_
  obtain ⟨h8, hf⟩ := chk_s hf
  refine g_getR (pc' := 16) 12 24 rfl rfl (by decide) inX12 (by decide) rfl rfl q_136 dX12_readSchema_13 rfl h8 ?_
  refine g_iconst (pc' := 17) (2 : Int32) dX12_readSchema_16 rfl (by decide) ?_
  refine g_iconst (pc' := 18) (0 : Int32) dX12_readSchema_17 rfl (by decide) ?_
  obtain ⟨h9, hf⟩ := chk_s hf
  obtain ⟨b10, hf⟩ := chk_s hf
  refine g_iast (pc' := 19) dX12_readSchema_18 rfl h9 (inB_in b10) (gM fun M11 hM11 => ?_)
  have hf := ap_eq hf hM11
  refine g_aload_n (pc' := 20) dX12_readSchema_19 rfl rfl ?_
  obtain ⟨h12, hf⟩ := chk_s hf
  obtain ⟨_, M13, e14, hf⟩ := bnd_some hf
  refine g_callVv (pc' := 23) (k' := 0) (u' := 0) (fr2 := 2) (As := []) (b := v0) (st := []) cf_X12_stepOn q_378 (by omega) (ci := 12) rfl rfl (by decide) dX12_readSchema_20 rfl rfl rfl (Nat.le_of_ble_eq_true rfl) (Or.inl rfl) (Nat.le_refl _) (Nat.le_refl _) (Nat.le_refl _) (Nat.le_refl _) h12 (s_X12_stepOn v0 M11 _ e14) ?_
  refine g_aload_n (pc' := 24) dX12_readSchema_23 rfl rfl ?_
  refine g_iconst (pc' := 25) (-1 : Int32) dX12_readSchema_24 rfl (by decide) ?_
  refine g_iconst (pc' := 26) (0 : Int32) dX12_readSchema_25 rfl (by decide) ?_
  obtain ⟨h15, hf⟩ := chk_s hf
  obtain ⟨_, M16, e17, hf⟩ := bnd_some hf
  refine g_callVv (pc' := 29) (k' := 0) (u' := 0) (fr2 := 8 * 6 + 0) (As := [aI (-1 : Int32), aI (0 : Int32)]) (b := v0) (st := []) cf_X12_readFields q_404 (by omega) (ci := 12) rfl rfl (by decide) dX12_readSchema_26 rfl rfl rfl (Nat.le_of_ble_eq_true rfl) (Or.inl rfl) (Nat.le_refl _) (Nat.le_refl _) (Nat.le_refl _) (Nat.le_refl _) h15 (s_X12_readFields 6 v0 (-1 : Int32) (0 : Int32) M13 _ e17) ?_
  cases hf
  exact g_return dX12_readSchema_29 rfl (Nat.le_of_ble_eq_true rfl) (Nat.le_of_ble_eq_true rfl)
