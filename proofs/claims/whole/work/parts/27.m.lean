abbrev mi_X4_readEnd : MI := (yX4_readEnd, Cond.code yX4_readEnd cX4_readEnd 2 (some .boolean), cX4_readEnd, 2, (some .boolean), [], 0, 0, 0, none)
theorem cf_X4_readEnd : CFv mi_X4_readEnd 0 := ⟨⟨rfl, q_620, wall_i_LeafStripes_RecordText, ⟨by decide, by decide, by decide +kernel⟩, by decide⟩, q_618, q_619⟩
abbrev mi_X4_read : MI := (yX4_read, Cond.code yX4_read cX4_read 5 (some .int), cX4_read, 5, (some .int), [], 0, 0, 0, none)
theorem cf_X4_read : CFv mi_X4_read 3 := ⟨⟨rfl, q_555, wall_i_LeafStripes_RecordText, ⟨by decide, by decide, by decide +kernel⟩, by decide⟩, q_553, q_554⟩
abbrev mi_X5_init : MI := (yX5_init, Cond.code yX5_init cX5_init 1 none, cX5_init, 1, none, [], 11, 216, 1, none)
theorem cf_X5_init : CFi mi_X5_init 0 := ⟨⟨rfl, q_97, wall_i_LeafStripes_Shape, ⟨by decide, by decide, by decide +kernel⟩, by decide⟩, q_96, rfl, rfl⟩
abbrev mi_X5_clear : MI := (yX5_clear, Cond.code yX5_clear cX5_clear 1 none, cX5_clear, 1, none, [], 0, 0, 0, none)
theorem cf_X5_clear : CFv mi_X5_clear 0 := ⟨⟨rfl, q_220, wall_i_LeafStripes_Shape, ⟨by decide, by decide, by decide +kernel⟩, by decide⟩, q_218, q_219⟩
abbrev mi_X5_openField : MI := (yX5_openField, Cond.code yX5_openField cX5_openField 4 (some .int), cX5_openField, 4, (some .int), [], 0, 0, 0, none)
theorem cf_X5_openField : CFv mi_X5_openField 2 := ⟨⟨rfl, q_297, wall_i_LeafStripes_Shape, ⟨by decide, by decide, by decide +kernel⟩, by decide⟩, q_295, q_296⟩
abbrev mi_X5_makeLeaf : MI := (yX5_makeLeaf, Cond.code yX5_makeLeaf cX5_makeLeaf 4 none, cX5_makeLeaf, 4, none, [], 0, 0, 0, none)
theorem cf_X5_makeLeaf : CFv mi_X5_makeLeaf 1 := ⟨⟨rfl, q_334, wall_i_LeafStripes_Shape, ⟨by decide, by decide, by decide +kernel⟩, by decide⟩, q_332, q_333⟩
abbrev mi_X5_putName : MI := (yX5_putName, Cond.code yX5_putName cX5_putName 4 none, cX5_putName, 4, none, [], 0, 0, 0, none)
theorem cf_X5_putName : CFv mi_X5_putName 2 := ⟨⟨rfl, q_307, wall_i_LeafStripes_Shape, ⟨by decide, by decide, by decide +kernel⟩, by decide⟩, q_305, q_306⟩
abbrev mi_X5_hasNameOf : MI := (yX5_hasNameOf, Cond.code yX5_hasNameOf cX5_hasNameOf 5 (some .boolean), cX5_hasNameOf, 5, (some .boolean), [], 0, 0, 0, none)
theorem cf_X5_hasNameOf : CFv mi_X5_hasNameOf 3 := ⟨⟨rfl, q_324, wall_i_LeafStripes_Shape, ⟨by decide, by decide, by decide +kernel⟩, by decide⟩, q_322, q_323⟩
abbrev mi_X5_fieldNamed : MI := (yX5_fieldNamed, Cond.code yX5_fieldNamed cX5_fieldNamed 5 (some .int), cX5_fieldNamed, 5, (some .int), [], 0, 0, 0, none)
theorem cf_X5_fieldNamed : CFv mi_X5_fieldNamed 3 := ⟨⟨rfl, q_320, wall_i_LeafStripes_Shape, ⟨by decide, by decide, by decide +kernel⟩, by decide⟩, q_318, q_319⟩
abbrev mi_X11_lowestBit : MI := (yX11_lowestBit, Cond.code yX11_lowestBit cX11_lowestBit 2 (some .int), cX11_lowestBit, 2, (some .int), [], 0, 0, 0, none)
theorem cf_X11_lowestBit : CFs mi_X11_lowestBit 1 := ⟨⟨rfl, q_1062, wall_i_LeafStripes, ⟨by decide, by decide, by decide +kernel⟩, by decide⟩, q_1061⟩
abbrev mi_X5_leafAfter : MI := (yX5_leafAfter, Cond.code yX5_leafAfter cX5_leafAfter 7 (some .int), cX5_leafAfter, 7, (some .int), [], 0, 0, 0, none)
theorem cf_X5_leafAfter : CFv mi_X5_leafAfter 3 := ⟨⟨rfl, q_1060, wall_i_LeafStripes_Shape, ⟨by decide, by decide, by decide +kernel⟩, by decide⟩, q_1058, q_1059⟩
abbrev mi_X5_greatestOfLeaves : MI := (yX5_greatestOfLeaves, Cond.code yX5_greatestOfLeaves cX5_greatestOfLeaves 4 (some .int), cX5_greatestOfLeaves, 4, (some .int), [], 0, 0, 0, none)
theorem cf_X5_greatestOfLeaves : CFv mi_X5_greatestOfLeaves 1 := ⟨⟨rfl, q_808, wall_i_LeafStripes_Shape, ⟨by decide, by decide, by decide +kernel⟩, by decide⟩, q_806, q_807⟩
abbrev mi_J6_bitCount_0f7a4 : MI := (yJ6_bitCount_0f7a4, Cond.code yJ6_bitCount_0f7a4 cJ6_bitCount_0f7a4 1 (some .int), cJ6_bitCount_0f7a4, 1, (some .int), [], 0, 0, 0, none)
theorem cf_J6_bitCount_0f7a4 : CFs mi_J6_bitCount_0f7a4 1 := ⟨⟨rfl, q_819, wall_i_java_lang_Integer, ⟨by decide, by decide, by decide +kernel⟩, by decide⟩, q_817⟩
abbrev mi_X5_tellsShapes : MI := (yX5_tellsShapes, Cond.code yX5_tellsShapes cX5_tellsShapes 3 (some .boolean), cX5_tellsShapes, 3, (some .boolean), [], 0, 0, 0, none)
theorem cf_X5_tellsShapes : CFv mi_X5_tellsShapes 1 := ⟨⟨rfl, q_826, wall_i_LeafStripes_Shape, ⟨by decide, by decide, by decide +kernel⟩, by decide⟩, q_824, q_825⟩
abbrev mi_X5_cover : MI := (yX5_cover, Cond.code yX5_cover cX5_cover 3 (some .int), cX5_cover, 3, (some .int), [], 0, 0, 0, none)
theorem cf_X5_cover : CFv mi_X5_cover 0 := ⟨⟨rfl, q_815, wall_i_LeafStripes_Shape, ⟨by decide, by decide, by decide +kernel⟩, by decide⟩, q_813, q_814⟩
abbrev mi_X6_init : MI := (yX6_init, Cond.code yX6_init cX6_init 1 none, cX6_init, 1, none, [], 0, 0, 0, none)
theorem cf_X6_init : CFi mi_X6_init 0 := ⟨⟨rfl, q_61, wall_i_LeafStripes_ShapeText, ⟨by decide, by decide, by decide +kernel⟩, by decide⟩, q_60, rfl, rfl⟩
abbrev mi_X6_readClose : MI := (yX6_readClose, Cond.code yX6_readClose cX6_readClose 1 (some .int), cX6_readClose, 1, (some .int), [], 0, 0, 0, none)
theorem cf_X6_readClose : CFv mi_X6_readClose 0 := ⟨⟨rfl, q_226, wall_i_LeafStripes_ShapeText, ⟨by decide, by decide, by decide +kernel⟩, by decide⟩, q_224, q_225⟩
abbrev mi_X6_kindTold : MI := (yX6_kindTold, Cond.code yX6_kindTold cX6_kindTold 1 (some .int), cX6_kindTold, 1, (some .int), [], 0, 0, 0, none)
theorem cf_X6_kindTold : CFv mi_X6_kindTold 0 := ⟨⟨rfl, q_236, wall_i_LeafStripes_ShapeText, ⟨by decide, by decide, by decide +kernel⟩, by decide⟩, q_234, q_235⟩
def f_X4_readEnd_20 : Nat → Nat → Int32 → Mem → Option (Int32 × Mem)
  | 0, _, _, _ => none
  | n + 1, v0, v1, M =>
    if mK M v0 = 5 then
      if mK M (mR M v0 3) = 6 then
        if (mI M (mR M v0 3) 1) ≤ v1 then
          ap (sI M v0 1 ((mI M v0 1) + (1 : Int32))) fun M4 =>
          if mK M4 v0 = 5 then
            if mK M4 (mR M4 v0 2) = 10 then
              bnd (f_X9_advance (mR M4 v0 2) M4) fun _ M7 =>
              some ((1 : Int32), M7)
            else none
          else none
        else
          if mK M (mR M v0 0) = 21 then
            if inB v1 (mN M (mR M v0 0)) = true then
              if (mI M (mR M v0 0) v1.toNatClampNeg) ≤ (120 : Int32) then
                f_X4_readEnd_20 n v0 (v1 + 1) M
              else
                bnd (f_X4_fail v0 (2 : Int32) M) fun r13 M12 =>
                if zB r13 = true then
                some (r13, M12)
                else none
            else none
          else none
      else none
    else none
def f_X4_readEnd (v0 : Nat) (M : Mem) : Option (Int32 × Mem) :=
  if mK M v0 = 5 then
    if mK M (mR M v0 2) = 10 then
      if (mI M (mR M v0 2) 3) = (59 : Int32) then
        f_X4_readEnd_20 FUEL v0 (0 : Int32) M
      else
        bnd (f_X4_fail v0 (1 : Int32) M) fun r5 M4 =>
        if zB r5 = true then
        some (r5, M4)
        else none
    else none
  else none
theorem s_X4_readEnd_20 : ∀ (n : Nat) (v0 : Nat) (v1 : Int32) (M : Mem) (r : (Int32 × Mem)), f_X4_readEnd_20 n v0 v1 M = some r → G mi_X4_readEnd 3 (oI r.1) r.2 20 [some (aR v0), some (aI v1)] [] M 0 0 := by
  intro n
  induction n with
  | zero => intro v0 v1 M r hf; cases hf
  | succ n ih =>
    intro v0 v1 M r hf
    unfold f_X4_readEnd_20 at hf
    refine g_iload_n (pc' := 21) dX4_readEnd_20 rfl rfl ?_
    refine g_aload_n (pc' := 22) dX4_readEnd_21 rfl rfl ?_
    obtain ⟨h1, hf⟩ := chk_s hf
    refine g_getR (pc' := 25) 4 3 rfl rfl (by decide) inX4 (by decide) rfl rfl q_557 dX4_readEnd_22 rfl h1 ?_
    obtain ⟨h2, hf⟩ := chk_s hf
    refine g_getI (pc' := 28) 5 1 rfl rfl (by decide) inX5 (by decide) rfl rfl q_562 dX4_readEnd_25 rfl h2 ?_
    refine g_icmp_ge (pc' := 31) 54 dX4_readEnd_28 rfl (by decide) (fun c3 => ?_) (fun c3 => ?_)
    · have hf := ite_t c3 hf
      refine g_aload_n (pc' := 55) dX4_readEnd_54 rfl rfl ?_
      refine g_dup (pc' := 56) dX4_readEnd_55 rfl rfl ?_
      refine g_getI (pc' := 59) 4 1 rfl rfl (by decide) inX4 (by decide) rfl rfl q_561 dX4_readEnd_56 rfl h1 ?_
      refine g_iconst (pc' := 60) (1 : Int32) dX4_readEnd_59 rfl (by decide) ?_
      refine g_iadd (pc' := 61) dX4_readEnd_60 rfl ?_
      refine g_putI (pc' := 64) 4 1 rfl rfl (by decide) inX4 tyX4_ok nmX4 (by decide) rfl rfl rfl rfl q_561 dX4_readEnd_61 rfl h1 (gM fun M4 hM4 => ?_)
      have hf := ap_eq hf hM4
      refine g_aload_n (pc' := 65) dX4_readEnd_64 rfl rfl ?_
      obtain ⟨h5, hf⟩ := chk_s hf
      refine g_getR (pc' := 68) 4 2 rfl rfl (by decide) inX4 (by decide) rfl rfl q_556 dX4_readEnd_65 rfl h5 ?_
      obtain ⟨h6, hf⟩ := chk_s hf
      obtain ⟨_, M7, e8, hf⟩ := bnd_some hf
      refine g_callVv (pc' := 71) (k' := 0) (u' := 0) (fr2 := 2) (As := []) (b := (mR M4 v0 2)) (st := []) cf_X9_advance q_592 (by omega) (ci := 9) rfl rfl (by decide) dX4_readEnd_68 rfl rfl rfl (Nat.le_of_ble_eq_true rfl) (Or.inl rfl) (Nat.le_refl _) (Nat.le_refl _) (Nat.le_refl _) (Nat.le_refl _) h6 (s_X9_advance (mR M4 v0 2) M4 _ e8) ?_
      refine g_iconst (pc' := 72) (1 : Int32) dX4_readEnd_71 rfl (by decide) ?_
      cases hf
      exact g_zreturn dX4_readEnd_72 rfl (Or.inr rfl) (Nat.le_of_ble_eq_true rfl) (Nat.le_of_ble_eq_true rfl)
    · have hf := ite_f c3 hf
      refine g_aload_n (pc' := 32) dX4_readEnd_31 rfl rfl ?_
      refine g_getR (pc' := 35) 4 0 rfl rfl (by decide) inX4 (by decide) rfl rfl q_66 dX4_readEnd_32 rfl h1 ?_
      refine g_iload_n (pc' := 36) dX4_readEnd_35 rfl rfl ?_
      obtain ⟨h9, hf⟩ := chk_s hf
      obtain ⟨b10, hf⟩ := chk_s hf
      refine g_iald (pc' := 37) dX4_readEnd_36 rfl h9 (inB_in b10) ?_
      refine g_bipush (pc' := 39) (120 : Int32) dX4_readEnd_37 rfl (by decide) ?_
      refine g_icmp_le (pc' := 42) 48 dX4_readEnd_39 rfl (by decide) (fun c11 => ?_) (fun c11 => ?_)
      · have hf := ite_t c11 hf
        refine g_iinc (pc' := 51) (lv' := [some (aR v0), some (aI (v1 + 1))]) (v1 + 1) dX4_readEnd_48 rfl rfl (by rfl) rfl (by decide) rfl ?_
        refine g_goto (pc' := 20) dX4_readEnd_51 (by decide) ?_
        exact ih v0 (v1 + 1) M _ hf
      · have hf := ite_f c11 hf
        refine g_aload_n (pc' := 43) dX4_readEnd_42 rfl rfl ?_
        refine g_iconst (pc' := 44) (2 : Int32) dX4_readEnd_43 rfl (by decide) ?_
        obtain ⟨r13, M12, e13, hf⟩ := bnd_some hf
        refine g_callVi (pc' := 47) (k' := 0) (u' := 0) (fr2 := 1) (As := [aI (2 : Int32)]) (b := v0) (st := []) cf_X4_fail q_578 (by omega) (ci := 4) rfl rfl (by decide) dX4_readEnd_44 rfl rfl rfl (Nat.le_of_ble_eq_true rfl) (Or.inl rfl) (Nat.le_refl _) (Nat.le_refl _) (Nat.le_refl _) (Nat.le_refl _) h1 (s_X4_fail v0 (2 : Int32) M _ e13) ?_
        obtain ⟨hz, hf⟩ := chk_s hf
        cases hf
        exact g_zreturn dX4_readEnd_47 rfl (zB_ok hz) (Nat.le_of_ble_eq_true rfl) (Nat.le_of_ble_eq_true rfl)
theorem s_X4_readEnd (v0 : Nat) (M : Mem) (r : (Int32 × Mem)) (hf : f_X4_readEnd v0 M = some r) : Sem mi_X4_readEnd (3) [aR v0] M (oI r.1) r.2 := by
  unfold f_X4_readEnd at hf
  refine sem_of (by decide) rfl rfl rfl (Nat.le_of_ble_eq_true rfl) (lv := [some (aR v0), none]) rfl ?_
  refine g_aload_n (pc' := 1) dX4_readEnd_0 rfl rfl ?_
  obtain ⟨h1, hf⟩ := chk_s hf
  refine g_getR (pc' := 4) 4 2 rfl rfl (by decide) inX4 (by decide) rfl rfl q_556 dX4_readEnd_1 rfl h1 ?_
  obtain ⟨h2, hf⟩ := chk_s hf
  refine g_getI (pc' := 7) 9 3 rfl rfl (by decide) inX9 (by decide) rfl rfl q_565 dX4_readEnd_4 rfl h2 ?_
  refine g_bipush (pc' := 9) (59 : Int32) dX4_readEnd_7 rfl (by decide) ?_
  refine g_icmp_eq (pc' := 12) 18 dX4_readEnd_9 rfl (by decide) (fun c3 => ?_) (fun c3 => ?_)
  · have hf := ite_t c3 hf
    refine g_iconst (pc' := 19) (0 : Int32) dX4_readEnd_18 rfl (by decide) ?_
    refine g_istore_n (pc' := 20) (lv' := [some (aR v0), some (aI (0 : Int32))]) dX4_readEnd_19 rfl rfl (by decide) rfl ?_
    exact s_X4_readEnd_20 FUEL v0 (0 : Int32) M _ hf
  · have hf := ite_f c3 hf
    refine g_aload_n (pc' := 13) dX4_readEnd_12 rfl rfl ?_
    refine g_iconst (pc' := 14) (1 : Int32) dX4_readEnd_13 rfl (by decide) ?_
    obtain ⟨r5, M4, e5, hf⟩ := bnd_some hf
    refine g_callVi (pc' := 17) (k' := 0) (u' := 0) (fr2 := 1) (As := [aI (1 : Int32)]) (b := v0) (st := []) cf_X4_fail q_578 (by omega) (ci := 4) rfl rfl (by decide) dX4_readEnd_14 rfl rfl rfl (Nat.le_of_ble_eq_true rfl) (Or.inl rfl) (Nat.le_refl _) (Nat.le_refl _) (Nat.le_refl _) (Nat.le_refl _) h1 (s_X4_fail v0 (1 : Int32) M _ e5) ?_
    obtain ⟨hz, hf⟩ := chk_s hf
    cases hf
    exact g_zreturn dX4_readEnd_17 rfl (zB_ok hz) (Nat.le_of_ble_eq_true rfl) (Nat.le_of_ble_eq_true rfl)
def f_X4_read_139 (v0 : Nat) (M : Mem) : Option (Int32 × Mem) :=
  if mK M v0 = 5 then
    some (mI M v0 5, M)
  else none
def f_X4_read_69 : Nat → Nat → Int32 → Mem → Option (Int32 × Mem)
  | 0, _, _, _ => none
  | n + 1, v0, v4, M =>
    if (700 : Int32) < v4 then
      some ((1 : Int32), M)
    else
      if mK M v0 = 5 then
        if mK M (mR M v0 2) = 10 then
          if (mI M (mR M v0 2) 3) = 0 then
            if v4 = 0 then
              some ((1 : Int32), M)
            else
              some ((0 : Int32), M)
          else
            if (mI M v0 1) < (30 : Int32) then
              bnd (f_X4_readFields 6 v0 (-1 : Int32) (0 : Int32) (0 : Int32) (0 : Int32) M) fun r7 M6 =>
              if r7 = 0 then
                f_X4_read_139 v0 M6
              else
                if mK M6 v0 = 5 then
                  bnd (f_X4_readEnd v0 M6) fun r11 M10 =>
                  if r11 = 0 then
                    f_X4_read_139 v0 M10
                  else
                    f_X4_read_69 n v0 (v4 + 1) M10
                else none
            else
              bnd (f_X4_canBegin v0 (0 : Int32) M) fun r14 M13 =>
              if r14 = 0 then
                some ((1 : Int32), M13)
              else
                some ((2 : Int32), M13)
        else none
      else none
def f_X4_read_31 : Nat → Nat → Nat → Int32 → Mem → Option (Int32 × Mem)
  | 0, _, _, _, _ => none
  | n + 1, v0, v3, v4, M =>
    if mK M v0 = 5 then
      if mK M (mR M v0 3) = 6 then
        if (mI M (mR M v0 3) 1) ≤ v4 then
          f_X4_read_69 FUEL v0 (0 : Int32) M
        else
          if mK M v3 = 8 then
            if mK M (mR M v3 0) = 23 then
              if inB v4 (mN M (mR M v3 0)) = true then
                if mK M (mR M (mR M v3 0) v4.toNatClampNeg) = 3 then
                  if mK M (mR M v0 0) = 21 then
                    if inB v4 (mN M (mR M v0 0)) = true then
                      ap (sI M (mR M v0 0) v4.toNatClampNeg (mI M (mR M (mR M v3 0) v4.toNatClampNeg) 3)) fun M10 =>
                      f_X4_read_31 n v0 v3 (v4 + 1) M10
                    else none
                  else none
                else none
              else none
            else none
          else none
      else none
    else none
def f_X4_read (v0 : Nat) (v1 : Nat) (v2 : Nat) (v3 : Nat) (M : Mem) : Option (Int32 × Mem) :=
  if mK M v0 = 5 then
    if okrB M [v1] = true then
      ap (sR M v0 2 v1) fun M2 =>
      if mK M2 v0 = 5 then
        if okrB M2 [v2] = true then
          ap (sR M2 v0 3 v2) fun M5 =>
          if mK M5 v0 = 5 then
            if okrB M5 [v3] = true then
              ap (sR M5 v0 4 v3) fun M8 =>
              if mK M8 v0 = 5 then
                ap (sI M8 v0 5 (0 : Int32)) fun M11 =>
                if mK M11 v3 = 8 then
                  if mK M11 v0 = 5 then
                    ap (sI M11 v0 1 (mI M11 v3 1)) fun M14 =>
                    f_X4_read_31 FUEL v0 v3 (0 : Int32) M14
                  else none
                else none
              else none
            else none
          else none
        else none
      else none
    else none
  else none
theorem s_X4_read_139 (v0 : Nat) (M : Mem) (r : (Int32 × Mem)) (hf : f_X4_read_139 v0 M = some r) : G mi_X4_read 37 (oI r.1) r.2 139 [some (aR v0), none, none, none, none] [] M 0 0 := by
  unfold f_X4_read_139 at hf
  refine g_aload_n (pc' := 140) dX4_read_139 rfl rfl ?_
  obtain ⟨h1, hf⟩ := chk_s hf
  refine g_getI (pc' := 143) 4 5 rfl rfl (by decide) inX4 (by decide) rfl rfl q_559 dX4_read_140 rfl h1 ?_
  cases hf
  exact g_ireturn dX4_read_143 rfl (Nat.le_of_ble_eq_true rfl) (Nat.le_of_ble_eq_true rfl)
theorem s_X4_read_69 : ∀ (n : Nat) (v0 : Nat) (v4 : Int32) (M : Mem) (r : (Int32 × Mem)), f_X4_read_69 n v0 v4 M = some r → G mi_X4_read 37 (oI r.1) r.2 69 [some (aR v0), none, none, none, some (aI v4)] [] M 0 0 := by
  intro n
  induction n with
  | zero => intro v0 v4 M r hf; cases hf
  | succ n ih =>
    intro v0 v4 M r hf
    unfold f_X4_read_69 at hf
    refine g_iload (pc' := 71) dX4_read_69 rfl rfl ?_
    refine g_sipush (pc' := 74) (700 : Int32) dX4_read_71 rfl (by decide) ?_
    refine g_icmp_gt (pc' := 77) 150 dX4_read_74 rfl (by decide) (fun c1 => ?_) (fun c1 => ?_)
    · have hf := ite_t c1 hf
      refine g_iconst (pc' := 151) (1 : Int32) dX4_read_150 rfl (by decide) ?_
      cases hf
      exact g_ireturn dX4_read_151 rfl (Nat.le_of_ble_eq_true rfl) (Nat.le_of_ble_eq_true rfl)
    · have hf := ite_f c1 hf
      refine g_aload_n (pc' := 78) dX4_read_77 rfl rfl ?_
      obtain ⟨h2, hf⟩ := chk_s hf
      refine g_getR (pc' := 81) 4 2 rfl rfl (by decide) inX4 (by decide) rfl rfl q_556 dX4_read_78 rfl h2 ?_
      obtain ⟨h3, hf⟩ := chk_s hf
      refine g_getI (pc' := 84) 9 3 rfl rfl (by decide) inX9 (by decide) rfl rfl q_565 dX4_read_81 rfl h3 ?_
      refine g_if_ne (pc' := 87) 98 dX4_read_84 rfl (by decide) (fun c4 => ?_) (fun c4 => ?_)
      · have hf := ite_f c4 hf
        refine g_aload_n (pc' := 99) dX4_read_98 rfl rfl ?_
        refine g_getI (pc' := 102) 4 1 rfl rfl (by decide) inX4 (by decide) rfl rfl q_561 dX4_read_99 rfl h2 ?_
        refine g_bipush (pc' := 104) (30 : Int32) dX4_read_102 rfl (by decide) ?_
        refine g_icmp_lt (pc' := 107) 121 dX4_read_104 rfl (by decide) (fun c5 => ?_) (fun c5 => ?_)
        · have hf := ite_t c5 hf
          refine g_aload_n (pc' := 122) dX4_read_121 rfl rfl ?_
          refine g_iconst (pc' := 123) (-1 : Int32) dX4_read_122 rfl (by decide) ?_
          refine g_iconst (pc' := 124) (0 : Int32) dX4_read_123 rfl (by decide) ?_
          refine g_iconst (pc' := 125) (0 : Int32) dX4_read_124 rfl (by decide) ?_
          refine g_iconst (pc' := 126) (0 : Int32) dX4_read_125 rfl (by decide) ?_
          obtain ⟨r7, M6, e7, hf⟩ := bnd_some hf
          refine g_callVi (pc' := 129) (k' := 0) (u' := 0) (fr2 := 6 * 6 + 0) (As := [aI (-1 : Int32), aI (0 : Int32), aI (0 : Int32), aI (0 : Int32)]) (b := v0) (st := []) cf_X4_readFields q_572 (by omega) (ci := 4) rfl rfl (by decide) dX4_read_126 rfl rfl rfl (Nat.le_of_ble_eq_true rfl) (Or.inl rfl) (Nat.le_refl _) (Nat.le_refl _) (Nat.le_refl _) (Nat.le_refl _) h2 (s_X4_readFields 6 v0 (-1 : Int32) (0 : Int32) (0 : Int32) (0 : Int32) M _ e7) ?_
          refine g_if_eq (pc' := 132) 139 dX4_read_129 rfl (by decide) (fun c8 => ?_) (fun c8 => ?_)
          · have hf := ite_t c8 hf
            refine g_mask [true, true, true, true, false] rfl ?_
            refine g_widen (k' := 0) (u' := 0) (by omega) (by omega) ?_
            exact s_X4_read_139 v0 M6 _ hf
          · have hf := ite_f c8 hf
            refine g_aload_n (pc' := 133) dX4_read_132 rfl rfl ?_
            obtain ⟨h9, hf⟩ := chk_s hf
            obtain ⟨r11, M10, e11, hf⟩ := bnd_some hf
            refine g_callVi (pc' := 136) (k' := 0) (u' := 0) (fr2 := 3) (As := []) (b := v0) (st := []) cf_X4_readEnd q_617 (by omega) (ci := 4) rfl rfl (by decide) dX4_read_133 rfl rfl rfl (Nat.le_of_ble_eq_true rfl) (Or.inl rfl) (Nat.le_refl _) (Nat.le_refl _) (Nat.le_refl _) (Nat.le_refl _) h9 (s_X4_readEnd v0 M6 _ e11) ?_
            refine g_if_ne (pc' := 139) 144 dX4_read_136 rfl (by decide) (fun c12 => ?_) (fun c12 => ?_)
            · have hf := ite_f c12 hf
              refine g_iinc (pc' := 147) (lv' := [some (aR v0), none, none, none, some (aI (v4 + 1))]) (v4 + 1) dX4_read_144 rfl rfl (by rfl) rfl (by decide) rfl ?_
              refine g_goto (pc' := 69) dX4_read_147 (by decide) ?_
              refine g_widen (k' := 0) (u' := 0) (by omega) (by omega) ?_
              exact ih v0 (v4 + 1) M10 _ hf
            · have hf := ite_t c12 hf
              refine g_mask [true, true, true, true, false] rfl ?_
              refine g_widen (k' := 0) (u' := 0) (by omega) (by omega) ?_
              exact s_X4_read_139 v0 M10 _ hf
        · have hf := ite_f c5 hf
          refine g_aload_n (pc' := 108) dX4_read_107 rfl rfl ?_
          refine g_iconst (pc' := 109) (0 : Int32) dX4_read_108 rfl (by decide) ?_
          obtain ⟨r14, M13, e14, hf⟩ := bnd_some hf
          refine g_callVi (pc' := 112) (k' := 0) (u' := 0) (fr2 := 1) (As := [aI (0 : Int32)]) (b := v0) (st := []) cf_X4_canBegin q_566 (by omega) (ci := 4) rfl rfl (by decide) dX4_read_109 rfl rfl rfl (Nat.le_of_ble_eq_true rfl) (Or.inl rfl) (Nat.le_refl _) (Nat.le_refl _) (Nat.le_refl _) (Nat.le_refl _) h2 (s_X4_canBegin v0 (0 : Int32) M _ e14) ?_
          refine g_if_eq (pc' := 115) 119 dX4_read_112 rfl (by decide) (fun c15 => ?_) (fun c15 => ?_)
          · have hf := ite_t c15 hf
            refine g_iconst (pc' := 120) (1 : Int32) dX4_read_119 rfl (by decide) ?_
            cases hf
            exact g_ireturn dX4_read_120 rfl (Nat.le_of_ble_eq_true rfl) (Nat.le_of_ble_eq_true rfl)
          · have hf := ite_f c15 hf
            refine g_iconst (pc' := 116) (2 : Int32) dX4_read_115 rfl (by decide) ?_
            refine g_goto (pc' := 120) dX4_read_116 (by decide) ?_
            cases hf
            exact g_ireturn dX4_read_120 rfl (Nat.le_of_ble_eq_true rfl) (Nat.le_of_ble_eq_true rfl)
      · have hf := ite_t c4 hf
        refine g_iload (pc' := 89) dX4_read_87 rfl rfl ?_
        refine g_if_ne (pc' := 92) 96 dX4_read_89 rfl (by decide) (fun c16 => ?_) (fun c16 => ?_)
        · have hf := ite_f c16 hf
          refine g_iconst (pc' := 97) (0 : Int32) dX4_read_96 rfl (by decide) ?_
          cases hf
          exact g_ireturn dX4_read_97 rfl (Nat.le_of_ble_eq_true rfl) (Nat.le_of_ble_eq_true rfl)
        · have hf := ite_t c16 hf
          refine g_iconst (pc' := 93) (1 : Int32) dX4_read_92 rfl (by decide) ?_
          refine g_goto (pc' := 97) dX4_read_93 (by decide) ?_
          cases hf
          exact g_ireturn dX4_read_97 rfl (Nat.le_of_ble_eq_true rfl) (Nat.le_of_ble_eq_true rfl)
theorem s_X4_read_31 : ∀ (n : Nat) (v0 : Nat) (v3 : Nat) (v4 : Int32) (M : Mem) (r : (Int32 × Mem)), f_X4_read_31 n v0 v3 v4 M = some r → G mi_X4_read 37 (oI r.1) r.2 31 [some (aR v0), none, none, some (aR v3), some (aI v4)] [] M 0 0 := by
  intro n
  induction n with
  | zero => intro v0 v3 v4 M r hf; cases hf
  | succ n ih =>
    intro v0 v3 v4 M r hf
    unfold f_X4_read_31 at hf
    refine g_iload (pc' := 33) dX4_read_31 rfl rfl ?_
    refine g_aload_n (pc' := 34) dX4_read_33 rfl rfl ?_
    obtain ⟨h1, hf⟩ := chk_s hf
    refine g_getR (pc' := 37) 4 3 rfl rfl (by decide) inX4 (by decide) rfl rfl q_557 dX4_read_34 rfl h1 ?_
    obtain ⟨h2, hf⟩ := chk_s hf
    refine g_getI (pc' := 40) 5 1 rfl rfl (by decide) inX5 (by decide) rfl rfl q_562 dX4_read_37 rfl h2 ?_
    refine g_icmp_ge (pc' := 43) 66 dX4_read_40 rfl (by decide) (fun c3 => ?_) (fun c3 => ?_)
    · have hf := ite_t c3 hf
      refine g_iconst (pc' := 67) (0 : Int32) dX4_read_66 rfl (by decide) ?_
      refine g_istore (pc' := 69) (lv' := [some (aR v0), none, none, some (aR v3), some (aI (0 : Int32))]) dX4_read_67 rfl rfl (by decide) rfl ?_
      refine g_mask [true, true, true, false, true] rfl ?_
      exact s_X4_read_69 FUEL v0 (0 : Int32) M _ hf
    · have hf := ite_f c3 hf
      refine g_aload_n (pc' := 44) dX4_read_43 rfl rfl ?_
      refine g_getR (pc' := 47) 4 0 rfl rfl (by decide) inX4 (by decide) rfl rfl q_66 dX4_read_44 rfl h1 ?_
      refine g_iload (pc' := 49) dX4_read_47 rfl rfl ?_
      refine g_aload_n (pc' := 50) dX4_read_49 rfl rfl ?_
      obtain ⟨h4, hf⟩ := chk_s hf
      refine g_getR (pc' := 53) 7 0 rfl rfl (by decide) inX7 (by decide) rfl rfl q_563 dX4_read_50 rfl h4 ?_
      refine g_iload (pc' := 55) dX4_read_53 rfl rfl ?_
      obtain ⟨h5, hf⟩ := chk_s hf
      obtain ⟨b6, hf⟩ := chk_s hf
      refine g_aald (pc' := 56) (t0 := 2) (fun _ => rfl) (by decide) dX4_read_55 rfl h5 (inB_in b6) ?_
      obtain ⟨h7, hf⟩ := chk_s hf
      refine g_getI (pc' := 59) 2 3 rfl rfl (by decide) inX2 (by decide) rfl rfl q_564 dX4_read_56 rfl h7 ?_
      obtain ⟨h8, hf⟩ := chk_s hf
      obtain ⟨b9, hf⟩ := chk_s hf
      refine g_iast (pc' := 60) dX4_read_59 rfl h8 (inB_in b9) (gM fun M10 hM10 => ?_)
      have hf := ap_eq hf hM10
      refine g_iinc (pc' := 63) (lv' := [some (aR v0), none, none, some (aR v3), some (aI (v4 + 1))]) (v4 + 1) dX4_read_60 rfl rfl (by rfl) rfl (by decide) rfl ?_
      refine g_goto (pc' := 31) dX4_read_63 (by decide) ?_
      exact ih v0 v3 (v4 + 1) M10 _ hf
theorem s_X4_read (v0 : Nat) (v1 : Nat) (v2 : Nat) (v3 : Nat) (M : Mem) (r : (Int32 × Mem)) (hf : f_X4_read v0 v1 v2 v3 M = some r) : Sem mi_X4_read (37) [aR v0, aR v1, aR v2, aR v3] M (oI r.1) r.2 := by
  unfold f_X4_read at hf
  refine sem_of (by decide) rfl rfl rfl (Nat.le_of_ble_eq_true rfl) (lv := [some (aR v0), some (aR v1), some (aR v2), some (aR v3), none]) rfl ?_
  refine g_aload_n (pc' := 1) dX4_read_0 rfl rfl ?_
  refine g_aload_n (pc' := 2) dX4_read_1 rfl rfl ?_
  obtain ⟨h1, hf⟩ := chk_s hf
  obtain ⟨hr3, hf⟩ := chk_s hf
  refine g_putR (pc' := 5) 4 2 rfl rfl (by decide) inX4 tyX4_ok nmX4 (by decide) rfl rfl rfl (Or.inl ⟨_, rfl⟩) (okrB_1 hr3) q_556 dX4_read_2 rfl h1 (gM fun M2 hM2 => ?_)
  have hf := ap_eq hf hM2
  refine g_aload_n (pc' := 6) dX4_read_5 rfl rfl ?_
  refine g_aload_n (pc' := 7) dX4_read_6 rfl rfl ?_
  obtain ⟨h4, hf⟩ := chk_s hf
  obtain ⟨hr6, hf⟩ := chk_s hf
  refine g_putR (pc' := 10) 4 3 rfl rfl (by decide) inX4 tyX4_ok nmX4 (by decide) rfl rfl rfl (Or.inl ⟨_, rfl⟩) (okrB_1 hr6) q_557 dX4_read_7 rfl h4 (gM fun M5 hM5 => ?_)
  have hf := ap_eq hf hM5
  refine g_aload_n (pc' := 11) dX4_read_10 rfl rfl ?_
  refine g_aload_n (pc' := 12) dX4_read_11 rfl rfl ?_
  obtain ⟨h7, hf⟩ := chk_s hf
  obtain ⟨hr9, hf⟩ := chk_s hf
  refine g_putR (pc' := 15) 4 4 rfl rfl (by decide) inX4 tyX4_ok nmX4 (by decide) rfl rfl rfl (Or.inl ⟨_, rfl⟩) (okrB_1 hr9) q_558 dX4_read_12 rfl h7 (gM fun M8 hM8 => ?_)
  have hf := ap_eq hf hM8
  refine g_aload_n (pc' := 16) dX4_read_15 rfl rfl ?_
  refine g_iconst (pc' := 17) (0 : Int32) dX4_read_16 rfl (by decide) ?_
  obtain ⟨h10, hf⟩ := chk_s hf
  refine g_putI (pc' := 20) 4 5 rfl rfl (by decide) inX4 tyX4_ok nmX4 (by decide) rfl rfl rfl rfl q_559 dX4_read_17 rfl h10 (gM fun M11 hM11 => ?_)
  have hf := ap_eq hf hM11
  refine g_aload_n (pc' := 21) dX4_read_20 rfl rfl ?_
  refine g_aload_n (pc' := 22) dX4_read_21 rfl rfl ?_
  obtain ⟨h12, hf⟩ := chk_s hf
  refine g_getI (pc' := 25) 7 1 rfl rfl (by decide) inX7 (by decide) rfl rfl q_560 dX4_read_22 rfl h12 ?_
  obtain ⟨h13, hf⟩ := chk_s hf
  refine g_putI (pc' := 28) 4 1 rfl rfl (by decide) inX4 tyX4_ok nmX4 (by decide) rfl rfl rfl rfl q_561 dX4_read_25 rfl h13 (gM fun M14 hM14 => ?_)
  have hf := ap_eq hf hM14
  refine g_iconst (pc' := 29) (0 : Int32) dX4_read_28 rfl (by decide) ?_
  refine g_istore (pc' := 31) (lv' := [some (aR v0), some (aR v1), some (aR v2), some (aR v3), some (aI (0 : Int32))]) dX4_read_29 rfl rfl (by decide) rfl ?_
  refine g_mask [true, false, false, true, true] rfl ?_
  exact s_X4_read_31 FUEL v0 v3 (0 : Int32) M14 _ hf
def f_X5_init (v0 : Nat) (M : Mem) : Option (Unit × Mem) :=
  if ¬ v0 = 0 then
    if mn M + 1 < 900000 then
      if okrB M [v0, v0] = true then
        ap (mNew M 21 (16 : Int32).toNatClampNeg) fun M2 =>
        if mK M2 v0 = 6 then
          if okrB M2 [(mn M + 1)] = true then
            ap (sR M2 v0 2 (mn M + 1)) fun M4 =>
            if mn M4 + 1 < 900000 then
              if okrB M4 [v0, v0] = true then
                ap (mNew M4 21 (16 : Int32).toNatClampNeg) fun M7 =>
                if mK M7 v0 = 6 then
                  if okrB M7 [(mn M4 + 1)] = true then
                    ap (sR M7 v0 3 (mn M4 + 1)) fun M9 =>
                    if mn M9 + 1 < 900000 then
                      if okrB M9 [v0, v0] = true then
                        ap (mNew M9 21 (16 : Int32).toNatClampNeg) fun M12 =>
                        if mK M12 v0 = 6 then
                          if okrB M12 [(mn M9 + 1)] = true then
                            ap (sR M12 v0 4 (mn M9 + 1)) fun M14 =>
                            if mn M14 + 1 < 900000 then
                              if okrB M14 [v0, v0] = true then
                                ap (mNew M14 21 (16 : Int32).toNatClampNeg) fun M17 =>
                                if mK M17 v0 = 6 then
                                  if okrB M17 [(mn M14 + 1)] = true then
                                    ap (sR M17 v0 5 (mn M14 + 1)) fun M19 =>
                                    if mn M19 + 1 < 900000 then
                                      if okrB M19 [v0, v0] = true then
                                        ap (mNew M19 21 (16 : Int32).toNatClampNeg) fun M22 =>
                                        if mK M22 v0 = 6 then
                                          if okrB M22 [(mn M19 + 1)] = true then
                                            ap (sR M22 v0 6 (mn M19 + 1)) fun M24 =>
                                            if mn M24 + 1 < 900000 then
                                              if okrB M24 [v0, v0] = true then
                                                ap (mNew M24 21 (16 : Int32).toNatClampNeg) fun M27 =>
                                                if mK M27 v0 = 6 then
                                                  if okrB M27 [(mn M24 + 1)] = true then
                                                    ap (sR M27 v0 7 (mn M24 + 1)) fun M29 =>
                                                    if mn M29 + 1 < 900000 then
                                                      if okrB M29 [v0, v0] = true then
                                                        ap (mNew M29 21 (64 : Int32).toNatClampNeg) fun M32 =>
                                                        if mK M32 v0 = 6 then
                                                          if okrB M32 [(mn M29 + 1)] = true then
                                                            ap (sR M32 v0 8 (mn M29 + 1)) fun M34 =>
                                                            if mn M34 + 1 < 900000 then
                                                              if okrB M34 [v0, v0] = true then
                                                                ap (mNew M34 21 (16 : Int32).toNatClampNeg) fun M37 =>
                                                                if mK M37 v0 = 6 then
                                                                  if okrB M37 [(mn M34 + 1)] = true then
                                                                    ap (sR M37 v0 9 (mn M34 + 1)) fun M39 =>
                                                                    if mn M39 + 1 < 900000 then
                                                                      if okrB M39 [v0, v0] = true then
                                                                        ap (mNew M39 21 (16 : Int32).toNatClampNeg) fun M42 =>
                                                                        if mK M42 v0 = 6 then
                                                                          if okrB M42 [(mn M39 + 1)] = true then
                                                                            ap (sR M42 v0 10 (mn M39 + 1)) fun M44 =>
                                                                            if mn M44 + 1 < 900000 then
                                                                              if okrB M44 [v0, v0] = true then
                                                                                ap (mNew M44 21 (16 : Int32).toNatClampNeg) fun M47 =>
                                                                                if mK M47 v0 = 6 then
                                                                                  if okrB M47 [(mn M44 + 1)] = true then
                                                                                    ap (sR M47 v0 11 (mn M44 + 1)) fun M49 =>
                                                                                    if mn M49 + 1 < 900000 then
                                                                                      if okrB M49 [v0, v0] = true then
                                                                                        ap (mNew M49 21 (8 : Int32).toNatClampNeg) fun M52 =>
                                                                                        if mK M52 v0 = 6 then
                                                                                          if okrB M52 [(mn M49 + 1)] = true then
                                                                                            ap (sR M52 v0 12 (mn M49 + 1)) fun M54 =>
                                                                                            some ((), M54)
                                                                                          else none
                                                                                        else none
                                                                                      else none
                                                                                    else none
                                                                                  else none
                                                                                else none
                                                                              else none
                                                                            else none
                                                                          else none
                                                                        else none
                                                                      else none
                                                                    else none
                                                                  else none
                                                                else none
                                                              else none
                                                            else none
                                                          else none
                                                        else none
                                                      else none
                                                    else none
                                                  else none
                                                else none
                                              else none
                                            else none
                                          else none
                                        else none
                                      else none
                                    else none
                                  else none
                                else none
                              else none
                            else none
                          else none
                        else none
                      else none
                    else none
                  else none
                else none
              else none
            else none
          else none
        else none
      else none
    else none
  else none
theorem s_X5_init (v0 : Nat) (M : Mem) (r : (Unit × Mem)) (hf : f_X5_init v0 M = some r) : Sem mi_X5_init (1) [aR v0] M (oU r.1) r.2 := by
  unfold f_X5_init at hf
  refine sem_of (by decide) rfl rfl rfl (Nat.le_of_ble_eq_true rfl) (lv := [some (aR v0)]) rfl ?_
  refine g_aload_n (pc' := 1) dX5_init_0 rfl rfl ?_
  obtain ⟨ho56, hf⟩ := chk_s hf
  refine g_obj (pc' := 4) q_98 q_11 q_12 (by omega) ho56 (Nat.le_of_ble_eq_true rfl) dX5_init_1 rfl ?_
  refine g_aload_n (pc' := 5) dX5_init_4 rfl rfl ?_
  refine g_bipush (pc' := 7) (16 : Int32) dX5_init_5 rfl (by decide) ?_
  obtain ⟨hm1, hf⟩ := chk_s hf
  obtain ⟨ha1, hf⟩ := chk_s hf
  refine g_newI (pc' := 9) (k' := 1) (u' := 16) (by decide) wall_aint dX5_init_7 rfl (by decide) (by decide) hm1 (okrB_ok ha1 rfl) (by omega) (by show 0 + 16 ≤ 16; omega) (by show 1 ≤ 11; omega) (by show 16 ≤ 216; omega) (gM fun M2 hM2 => ?_)
  have hf := ap_eq hf hM2
  obtain ⟨h3, hf⟩ := chk_s hf
  obtain ⟨hr5, hf⟩ := chk_s hf
  refine g_putFR (pc' := 12) 5 2 rfl rfl (by decide) inX5 tyX5_ok nmX5 (by decide) rfl rfl rfl rfl rfl (Or.inr ⟨_, rfl⟩) (okrB_1 hr5) q_99 dX5_init_9 rfl h3 (gM fun M4 hM4 => ?_)
  have hf := ap_eq hf hM4
  refine g_aload_n (pc' := 13) dX5_init_12 rfl rfl ?_
  refine g_bipush (pc' := 15) (16 : Int32) dX5_init_13 rfl (by decide) ?_
  obtain ⟨hm6, hf⟩ := chk_s hf
  obtain ⟨ha6, hf⟩ := chk_s hf
  refine g_newI (pc' := 17) (k' := 2) (u' := 32) (by decide) wall_aint dX5_init_15 rfl (by decide) (by decide) hm6 (okrB_ok ha6 rfl) (by omega) (by show 16 + 16 ≤ 32; omega) (by show 2 ≤ 11; omega) (by show 32 ≤ 216; omega) (gM fun M7 hM7 => ?_)
  have hf := ap_eq hf hM7
  obtain ⟨h8, hf⟩ := chk_s hf
  obtain ⟨hr10, hf⟩ := chk_s hf
  refine g_putFR (pc' := 20) 5 3 rfl rfl (by decide) inX5 tyX5_ok nmX5 (by decide) rfl rfl rfl rfl rfl (Or.inr ⟨_, rfl⟩) (okrB_1 hr10) q_100 dX5_init_17 rfl h8 (gM fun M9 hM9 => ?_)
  have hf := ap_eq hf hM9
  refine g_aload_n (pc' := 21) dX5_init_20 rfl rfl ?_
  refine g_bipush (pc' := 23) (16 : Int32) dX5_init_21 rfl (by decide) ?_
  obtain ⟨hm11, hf⟩ := chk_s hf
  obtain ⟨ha11, hf⟩ := chk_s hf
  refine g_newI (pc' := 25) (k' := 3) (u' := 48) (by decide) wall_aint dX5_init_23 rfl (by decide) (by decide) hm11 (okrB_ok ha11 rfl) (by omega) (by show 32 + 16 ≤ 48; omega) (by show 3 ≤ 11; omega) (by show 48 ≤ 216; omega) (gM fun M12 hM12 => ?_)
  have hf := ap_eq hf hM12
  obtain ⟨h13, hf⟩ := chk_s hf
  obtain ⟨hr15, hf⟩ := chk_s hf
  refine g_putFR (pc' := 28) 5 4 rfl rfl (by decide) inX5 tyX5_ok nmX5 (by decide) rfl rfl rfl rfl rfl (Or.inr ⟨_, rfl⟩) (okrB_1 hr15) q_101 dX5_init_25 rfl h13 (gM fun M14 hM14 => ?_)
  have hf := ap_eq hf hM14
  refine g_aload_n (pc' := 29) dX5_init_28 rfl rfl ?_
  refine g_bipush (pc' := 31) (16 : Int32) dX5_init_29 rfl (by decide) ?_
  obtain ⟨hm16, hf⟩ := chk_s hf
  obtain ⟨ha16, hf⟩ := chk_s hf
  refine g_newI (pc' := 33) (k' := 4) (u' := 64) (by decide) wall_aint dX5_init_31 rfl (by decide) (by decide) hm16 (okrB_ok ha16 rfl) (by omega) (by show 48 + 16 ≤ 64; omega) (by show 4 ≤ 11; omega) (by show 64 ≤ 216; omega) (gM fun M17 hM17 => ?_)
  have hf := ap_eq hf hM17
  obtain ⟨h18, hf⟩ := chk_s hf
  obtain ⟨hr20, hf⟩ := chk_s hf
  refine g_putFR (pc' := 36) 5 5 rfl rfl (by decide) inX5 tyX5_ok nmX5 (by decide) rfl rfl rfl rfl rfl (Or.inr ⟨_, rfl⟩) (okrB_1 hr20) q_102 dX5_init_33 rfl h18 (gM fun M19 hM19 => ?_)
  have hf := ap_eq hf hM19
  refine g_aload_n (pc' := 37) dX5_init_36 rfl rfl ?_
  refine g_bipush (pc' := 39) (16 : Int32) dX5_init_37 rfl (by decide) ?_
  obtain ⟨hm21, hf⟩ := chk_s hf
  obtain ⟨ha21, hf⟩ := chk_s hf
  refine g_newI (pc' := 41) (k' := 5) (u' := 80) (by decide) wall_aint dX5_init_39 rfl (by decide) (by decide) hm21 (okrB_ok ha21 rfl) (by omega) (by show 64 + 16 ≤ 80; omega) (by show 5 ≤ 11; omega) (by show 80 ≤ 216; omega) (gM fun M22 hM22 => ?_)
  have hf := ap_eq hf hM22
  obtain ⟨h23, hf⟩ := chk_s hf
  obtain ⟨hr25, hf⟩ := chk_s hf
  refine g_putFR (pc' := 44) 5 6 rfl rfl (by decide) inX5 tyX5_ok nmX5 (by decide) rfl rfl rfl rfl rfl (Or.inr ⟨_, rfl⟩) (okrB_1 hr25) q_103 dX5_init_41 rfl h23 (gM fun M24 hM24 => ?_)
  have hf := ap_eq hf hM24
  refine g_aload_n (pc' := 45) dX5_init_44 rfl rfl ?_
  refine g_bipush (pc' := 47) (16 : Int32) dX5_init_45 rfl (by decide) ?_
  obtain ⟨hm26, hf⟩ := chk_s hf
  obtain ⟨ha26, hf⟩ := chk_s hf
  refine g_newI (pc' := 49) (k' := 6) (u' := 96) (by decide) wall_aint dX5_init_47 rfl (by decide) (by decide) hm26 (okrB_ok ha26 rfl) (by omega) (by show 80 + 16 ≤ 96; omega) (by show 6 ≤ 11; omega) (by show 96 ≤ 216; omega) (gM fun M27 hM27 => ?_)
  have hf := ap_eq hf hM27
  obtain ⟨h28, hf⟩ := chk_s hf
  obtain ⟨hr30, hf⟩ := chk_s hf
  refine g_putFR (pc' := 52) 5 7 rfl rfl (by decide) inX5 tyX5_ok nmX5 (by decide) rfl rfl rfl rfl rfl (Or.inr ⟨_, rfl⟩) (okrB_1 hr30) q_104 dX5_init_49 rfl h28 (gM fun M29 hM29 => ?_)
  have hf := ap_eq hf hM29
  refine g_aload_n (pc' := 53) dX5_init_52 rfl rfl ?_
  refine g_bipush (pc' := 55) (64 : Int32) dX5_init_53 rfl (by decide) ?_
  obtain ⟨hm31, hf⟩ := chk_s hf
  obtain ⟨ha31, hf⟩ := chk_s hf
  refine g_newI (pc' := 57) (k' := 7) (u' := 160) (by decide) wall_aint dX5_init_55 rfl (by decide) (by decide) hm31 (okrB_ok ha31 rfl) (by omega) (by show 96 + 64 ≤ 160; omega) (by show 7 ≤ 11; omega) (by show 160 ≤ 216; omega) (gM fun M32 hM32 => ?_)
  have hf := ap_eq hf hM32
  obtain ⟨h33, hf⟩ := chk_s hf
  obtain ⟨hr35, hf⟩ := chk_s hf
  refine g_putFR (pc' := 60) 5 8 rfl rfl (by decide) inX5 tyX5_ok nmX5 (by decide) rfl rfl rfl rfl rfl (Or.inr ⟨_, rfl⟩) (okrB_1 hr35) q_105 dX5_init_57 rfl h33 (gM fun M34 hM34 => ?_)
  have hf := ap_eq hf hM34
  refine g_aload_n (pc' := 61) dX5_init_60 rfl rfl ?_
  refine g_bipush (pc' := 63) (16 : Int32) dX5_init_61 rfl (by decide) ?_
  obtain ⟨hm36, hf⟩ := chk_s hf
  obtain ⟨ha36, hf⟩ := chk_s hf
  refine g_newI (pc' := 65) (k' := 8) (u' := 176) (by decide) wall_aint dX5_init_63 rfl (by decide) (by decide) hm36 (okrB_ok ha36 rfl) (by omega) (by show 160 + 16 ≤ 176; omega) (by show 8 ≤ 11; omega) (by show 176 ≤ 216; omega) (gM fun M37 hM37 => ?_)
  have hf := ap_eq hf hM37
  obtain ⟨h38, hf⟩ := chk_s hf
  obtain ⟨hr40, hf⟩ := chk_s hf
  refine g_putFR (pc' := 68) 5 9 rfl rfl (by decide) inX5 tyX5_ok nmX5 (by decide) rfl rfl rfl rfl rfl (Or.inr ⟨_, rfl⟩) (okrB_1 hr40) q_106 dX5_init_65 rfl h38 (gM fun M39 hM39 => ?_)
  have hf := ap_eq hf hM39
  refine g_aload_n (pc' := 69) dX5_init_68 rfl rfl ?_
  refine g_bipush (pc' := 71) (16 : Int32) dX5_init_69 rfl (by decide) ?_
  obtain ⟨hm41, hf⟩ := chk_s hf
  obtain ⟨ha41, hf⟩ := chk_s hf
  refine g_newI (pc' := 73) (k' := 9) (u' := 192) (by decide) wall_aint dX5_init_71 rfl (by decide) (by decide) hm41 (okrB_ok ha41 rfl) (by omega) (by show 176 + 16 ≤ 192; omega) (by show 9 ≤ 11; omega) (by show 192 ≤ 216; omega) (gM fun M42 hM42 => ?_)
  have hf := ap_eq hf hM42
  obtain ⟨h43, hf⟩ := chk_s hf
  obtain ⟨hr45, hf⟩ := chk_s hf
  refine g_putFR (pc' := 76) 5 10 rfl rfl (by decide) inX5 tyX5_ok nmX5 (by decide) rfl rfl rfl rfl rfl (Or.inr ⟨_, rfl⟩) (okrB_1 hr45) q_107 dX5_init_73 rfl h43 (gM fun M44 hM44 => ?_)
  have hf := ap_eq hf hM44
  refine g_aload_n (pc' := 77) dX5_init_76 rfl rfl ?_
  refine g_bipush (pc' := 79) (16 : Int32) dX5_init_77 rfl (by decide) ?_
  obtain ⟨hm46, hf⟩ := chk_s hf
  obtain ⟨ha46, hf⟩ := chk_s hf
  refine g_newI (pc' := 81) (k' := 10) (u' := 208) (by decide) wall_aint dX5_init_79 rfl (by decide) (by decide) hm46 (okrB_ok ha46 rfl) (by omega) (by show 192 + 16 ≤ 208; omega) (by show 10 ≤ 11; omega) (by show 208 ≤ 216; omega) (gM fun M47 hM47 => ?_)
  have hf := ap_eq hf hM47
  obtain ⟨h48, hf⟩ := chk_s hf
  obtain ⟨hr50, hf⟩ := chk_s hf
  refine g_putFR (pc' := 84) 5 11 rfl rfl (by decide) inX5 tyX5_ok nmX5 (by decide) rfl rfl rfl rfl rfl (Or.inr ⟨_, rfl⟩) (okrB_1 hr50) q_108 dX5_init_81 rfl h48 (gM fun M49 hM49 => ?_)
  have hf := ap_eq hf hM49
  refine g_aload_n (pc' := 85) dX5_init_84 rfl rfl ?_
  refine g_bipush (pc' := 87) (8 : Int32) dX5_init_85 rfl (by decide) ?_
  obtain ⟨hm51, hf⟩ := chk_s hf
  obtain ⟨ha51, hf⟩ := chk_s hf
  refine g_newI (pc' := 89) (k' := 11) (u' := 216) (by decide) wall_aint dX5_init_87 rfl (by decide) (by decide) hm51 (okrB_ok ha51 rfl) (by omega) (by show 208 + 8 ≤ 216; omega) (by show 11 ≤ 11; omega) (by show 216 ≤ 216; omega) (gM fun M52 hM52 => ?_)
  have hf := ap_eq hf hM52
  obtain ⟨h53, hf⟩ := chk_s hf
  obtain ⟨hr55, hf⟩ := chk_s hf
  refine g_putFR (pc' := 92) 5 12 rfl rfl (by decide) inX5 tyX5_ok nmX5 (by decide) rfl rfl rfl rfl rfl (Or.inr ⟨_, rfl⟩) (okrB_1 hr55) q_109 dX5_init_89 rfl h53 (gM fun M54 hM54 => ?_)
  have hf := ap_eq hf hM54
  cases hf
  exact g_return dX5_init_92 rfl (Nat.le_of_ble_eq_true rfl) (Nat.le_of_ble_eq_true rfl)
def f_X5_clear (v0 : Nat) (M : Mem) : Option (Unit × Mem) :=
  if mK M v0 = 6 then
    ap (sI M v0 0 (0 : Int32)) fun M2 =>
    if mK M2 v0 = 6 then
      ap (sI M2 v0 1 (0 : Int32)) fun M4 =>
      some ((), M4)
    else none
  else none
theorem s_X5_clear (v0 : Nat) (M : Mem) (r : (Unit × Mem)) (hf : f_X5_clear v0 M = some r) : Sem mi_X5_clear (1) [aR v0] M (oU r.1) r.2 := by
  unfold f_X5_clear at hf
  refine sem_of (by decide) rfl rfl rfl (Nat.le_of_ble_eq_true rfl) (lv := [some (aR v0)]) rfl ?_
  refine g_aload_n (pc' := 1) dX5_clear_0 rfl rfl ?_
  refine g_iconst (pc' := 2) (0 : Int32) dX5_clear_1 rfl (by decide) ?_
  obtain ⟨h1, hf⟩ := chk_s hf
  refine g_putI (pc' := 5) 5 0 rfl rfl (by decide) inX5 tyX5_ok nmX5 (by decide) rfl rfl rfl rfl q_221 dX5_clear_2 rfl h1 (gM fun M2 hM2 => ?_)
  have hf := ap_eq hf hM2
  refine g_aload_n (pc' := 6) dX5_clear_5 rfl rfl ?_
  refine g_iconst (pc' := 7) (0 : Int32) dX5_clear_6 rfl (by decide) ?_
  obtain ⟨h3, hf⟩ := chk_s hf
  refine g_putI (pc' := 10) 5 1 rfl rfl (by decide) inX5 tyX5_ok nmX5 (by decide) rfl rfl rfl rfl q_222 dX5_clear_7 rfl h3 (gM fun M4 hM4 => ?_)
  have hf := ap_eq hf hM4
  cases hf
  exact g_return dX5_clear_10 rfl (Nat.le_of_ble_eq_true rfl) (Nat.le_of_ble_eq_true rfl)
def f_X5_openField_102 (v0 : Nat) (v3 : Int32) (M : Mem) : Option (Int32 × Mem) :=
  if mK M v0 = 6 then
    if mK M (mR M v0 7) = 21 then
      if inB v3 (mN M (mR M v0 7)) = true then
        ap (sI M (mR M v0 7) v3.toNatClampNeg (0 : Int32)) fun M4 =>
        if mK M4 v0 = 6 then
          if mK M4 (mR M4 v0 9) = 21 then
            if inB v3 (mN M4 (mR M4 v0 9)) = true then
              ap (sI M4 (mR M4 v0 9) v3.toNatClampNeg (0 : Int32)) fun M8 =>
              if mK M8 v0 = 6 then
                if mK M8 (mR M8 v0 10) = 21 then
                  if inB v3 (mN M8 (mR M8 v0 10)) = true then
                    ap (sI M8 (mR M8 v0 10) v3.toNatClampNeg (0 : Int32)) fun M12 =>
                    if mK M12 v0 = 6 then
                      if mK M12 (mR M12 v0 11) = 21 then
                        if inB v3 (mN M12 (mR M12 v0 11)) = true then
                          ap (sI M12 (mR M12 v0 11) v3.toNatClampNeg (-1 : Int32)) fun M16 =>
                          if mK M16 v0 = 6 then
                            ap (sI M16 v0 0 ((mI M16 v0 0) + (1 : Int32))) fun M18 =>
                            some (v3, M18)
                          else none
                        else none
                      else none
                    else none
                  else none
                else none
              else none
            else none
          else none
        else none
      else none
    else none
  else none
def f_X5_openField_56 (v0 : Nat) (v2 : Int32) (v3 : Int32) (w0 : Nat) (w1 : Int32) (w2 : Int32) (M : Mem) : Option (Int32 × Mem) :=
  if mK M w0 = 21 then
    if inB w1 (mN M w0) = true then
      ap (sI M w0 w1.toNatClampNeg w2) fun M3 =>
      if v2 = (-1 : Int32) then
        f_X5_openField_102 v0 v3 M3
      else
        if mK M3 v0 = 6 then
          if mK M3 (mR M3 v0 5) = 21 then
            if inB v3 (mN M3 (mR M3 v0 5)) = true then
              if inB v2 (mN M3 (mR M3 v0 5)) = true then
                ap (sI M3 (mR M3 v0 5) v3.toNatClampNeg ((mI M3 (mR M3 v0 5) v3.toNatClampNeg) + (mI M3 (mR M3 v0 5) v2.toNatClampNeg))) fun M9 =>
                if mK M9 v0 = 6 then
                  if mK M9 (mR M9 v0 6) = 21 then
                    if inB v3 (mN M9 (mR M9 v0 6)) = true then
                      if inB v2 (mN M9 (mR M9 v0 6)) = true then
                        ap (sI M9 (mR M9 v0 6) v3.toNatClampNeg ((mI M9 (mR M9 v0 6) v3.toNatClampNeg) + (mI M9 (mR M9 v0 6) v2.toNatClampNeg))) fun M14 =>
                        if mK M14 v0 = 6 then
                          if mK M14 (mR M14 v0 9) = 21 then
                            if inB v2 (mN M14 (mR M14 v0 9)) = true then
                              ap (sI M14 (mR M14 v0 9) v2.toNatClampNeg ((mI M14 (mR M14 v0 9) v2.toNatClampNeg) + (1 : Int32))) fun M18 =>
                              f_X5_openField_102 v0 v3 M18
                            else none
                          else none
                        else none
                      else none
                    else none
                  else none
                else none
              else none
            else none
          else none
        else none
    else none
  else none
def f_X5_openField_40 (v0 : Nat) (v1 : Int32) (v2 : Int32) (v3 : Int32) (w0 : Nat) (w1 : Int32) (w2 : Int32) (M : Mem) : Option (Int32 × Mem) :=
  if mK M w0 = 21 then
    if inB w1 (mN M w0) = true then
      ap (sI M w0 w1.toNatClampNeg w2) fun M3 =>
      if mK M3 v0 = 6 then
        if v1 = (2 : Int32) then
          f_X5_openField_56 v0 v2 v3 (mR M3 v0 6) v3 (1 : Int32) M3
        else
          f_X5_openField_56 v0 v2 v3 (mR M3 v0 6) v3 (0 : Int32) M3
      else none
    else none
  else none
def f_X5_openField (v0 : Nat) (v1 : Int32) (v2 : Int32) (M : Mem) : Option (Int32 × Mem) :=
  if mK M v0 = 6 then
    if mK M (mR M v0 2) = 21 then
      if inB (mI M v0 0) (mN M (mR M v0 2)) = true then
        ap (sI M (mR M v0 2) (mI M v0 0).toNatClampNeg v1) fun M4 =>
        if mK M4 v0 = 6 then
          if mK M4 (mR M4 v0 3) = 21 then
            if inB (mI M v0 0) (mN M4 (mR M4 v0 3)) = true then
              ap (sI M4 (mR M4 v0 3) (mI M v0 0).toNatClampNeg v2) fun M8 =>
              if mK M8 v0 = 6 then
                if mK M8 (mR M8 v0 4) = 21 then
                  if inB (mI M v0 0) (mN M8 (mR M8 v0 4)) = true then
                    ap (sI M8 (mR M8 v0 4) (mI M v0 0).toNatClampNeg (-1 : Int32)) fun M12 =>
                    if mK M12 v0 = 6 then
                      if v1 = 0 then
                        f_X5_openField_40 v0 v1 v2 (mI M v0 0) (mR M12 v0 5) (mI M v0 0) (0 : Int32) M12
                      else
                        f_X5_openField_40 v0 v1 v2 (mI M v0 0) (mR M12 v0 5) (mI M v0 0) (1 : Int32) M12
                    else none
                  else none
                else none
              else none
            else none
          else none
        else none
      else none
    else none
  else none
theorem s_X5_openField_102 (v0 : Nat) (v3 : Int32) (M : Mem) (r : (Int32 × Mem)) (hf : f_X5_openField_102 v0 v3 M = some r) : G mi_X5_openField 1 (oI r.1) r.2 102 [some (aR v0), none, none, some (aI v3)] [] M 0 0 := by
  unfold f_X5_openField_102 at hf
  refine g_aload_n (pc' := 103) dX5_openField_102 rfl rfl ?_
  obtain ⟨h1, hf⟩ := chk_s hf
  refine g_getR (pc' := 106) 5 7 rfl rfl (by decide) inX5 (by decide) rfl rfl q_104 dX5_openField_103 rfl h1 ?_
  refine g_iload_n (pc' := 107) dX5_openField_106 rfl rfl ?_
  refine g_iconst (pc' := 108) (0 : Int32) dX5_openField_107 rfl (by decide) ?_
  obtain ⟨h2, hf⟩ := chk_s hf
  obtain ⟨b3, hf⟩ := chk_s hf
  refine g_iast (pc' := 109) dX5_openField_108 rfl h2 (inB_in b3) (gM fun M4 hM4 => ?_)
  have hf := ap_eq hf hM4
  refine g_aload_n (pc' := 110) dX5_openField_109 rfl rfl ?_
  obtain ⟨h5, hf⟩ := chk_s hf
  refine g_getR (pc' := 113) 5 9 rfl rfl (by decide) inX5 (by decide) rfl rfl q_106 dX5_openField_110 rfl h5 ?_
  refine g_iload_n (pc' := 114) dX5_openField_113 rfl rfl ?_
  refine g_iconst (pc' := 115) (0 : Int32) dX5_openField_114 rfl (by decide) ?_
  obtain ⟨h6, hf⟩ := chk_s hf
  obtain ⟨b7, hf⟩ := chk_s hf
  refine g_iast (pc' := 116) dX5_openField_115 rfl h6 (inB_in b7) (gM fun M8 hM8 => ?_)
  have hf := ap_eq hf hM8
  refine g_aload_n (pc' := 117) dX5_openField_116 rfl rfl ?_
  obtain ⟨h9, hf⟩ := chk_s hf
  refine g_getR (pc' := 120) 5 10 rfl rfl (by decide) inX5 (by decide) rfl rfl q_107 dX5_openField_117 rfl h9 ?_
  refine g_iload_n (pc' := 121) dX5_openField_120 rfl rfl ?_
  refine g_iconst (pc' := 122) (0 : Int32) dX5_openField_121 rfl (by decide) ?_
  obtain ⟨h10, hf⟩ := chk_s hf
  obtain ⟨b11, hf⟩ := chk_s hf
  refine g_iast (pc' := 123) dX5_openField_122 rfl h10 (inB_in b11) (gM fun M12 hM12 => ?_)
  have hf := ap_eq hf hM12
  refine g_aload_n (pc' := 124) dX5_openField_123 rfl rfl ?_
  obtain ⟨h13, hf⟩ := chk_s hf
  refine g_getR (pc' := 127) 5 11 rfl rfl (by decide) inX5 (by decide) rfl rfl q_108 dX5_openField_124 rfl h13 ?_
  refine g_iload_n (pc' := 128) dX5_openField_127 rfl rfl ?_
  refine g_iconst (pc' := 129) (-1 : Int32) dX5_openField_128 rfl (by decide) ?_
  obtain ⟨h14, hf⟩ := chk_s hf
  obtain ⟨b15, hf⟩ := chk_s hf
  refine g_iast (pc' := 130) dX5_openField_129 rfl h14 (inB_in b15) (gM fun M16 hM16 => ?_)
  have hf := ap_eq hf hM16
  refine g_aload_n (pc' := 131) dX5_openField_130 rfl rfl ?_
  refine g_dup (pc' := 132) dX5_openField_131 rfl rfl ?_
  obtain ⟨h17, hf⟩ := chk_s hf
  refine g_getI (pc' := 135) 5 0 rfl rfl (by decide) inX5 (by decide) rfl rfl q_221 dX5_openField_132 rfl h17 ?_
  refine g_iconst (pc' := 136) (1 : Int32) dX5_openField_135 rfl (by decide) ?_
  refine g_iadd (pc' := 137) dX5_openField_136 rfl ?_
  refine g_putI (pc' := 140) 5 0 rfl rfl (by decide) inX5 tyX5_ok nmX5 (by decide) rfl rfl rfl rfl q_221 dX5_openField_137 rfl h17 (gM fun M18 hM18 => ?_)
  have hf := ap_eq hf hM18
  refine g_iload_n (pc' := 141) dX5_openField_140 rfl rfl ?_
  cases hf
  exact g_ireturn dX5_openField_141 rfl (Nat.le_of_ble_eq_true rfl) (Nat.le_of_ble_eq_true rfl)
theorem s_X5_openField_56 (v0 : Nat) (v2 : Int32) (v3 : Int32) (w0 : Nat) (w1 : Int32) (w2 : Int32) (M : Mem) (r : (Int32 × Mem)) (hf : f_X5_openField_56 v0 v2 v3 w0 w1 w2 M = some r) : G mi_X5_openField 1 (oI r.1) r.2 56 [some (aR v0), none, some (aI v2), some (aI v3)] [aI w2, aI w1, aR w0] M 0 0 := by
  unfold f_X5_openField_56 at hf
  obtain ⟨h1, hf⟩ := chk_s hf
  obtain ⟨b2, hf⟩ := chk_s hf
  refine g_iast (pc' := 57) dX5_openField_56 rfl h1 (inB_in b2) (gM fun M3 hM3 => ?_)
  have hf := ap_eq hf hM3
  refine g_iload_n (pc' := 58) dX5_openField_57 rfl rfl ?_
  refine g_iconst (pc' := 59) (-1 : Int32) dX5_openField_58 rfl (by decide) ?_
  refine g_icmp_eq (pc' := 62) 102 dX5_openField_59 rfl (by decide) (fun c4 => ?_) (fun c4 => ?_)
  · have hf := ite_t c4 hf
    refine g_mask [true, true, false, true] rfl ?_
    exact s_X5_openField_102 v0 v3 M3 _ hf
  · have hf := ite_f c4 hf
    refine g_aload_n (pc' := 63) dX5_openField_62 rfl rfl ?_
    obtain ⟨h5, hf⟩ := chk_s hf
    refine g_getR (pc' := 66) 5 5 rfl rfl (by decide) inX5 (by decide) rfl rfl q_102 dX5_openField_63 rfl h5 ?_
    refine g_iload_n (pc' := 67) dX5_openField_66 rfl rfl ?_
    refine g_dup2 (pc' := 68) dX5_openField_67 rfl rfl rfl ?_
    obtain ⟨h6, hf⟩ := chk_s hf
    obtain ⟨b7, hf⟩ := chk_s hf
    refine g_iald (pc' := 69) dX5_openField_68 rfl h6 (inB_in b7) ?_
    refine g_aload_n (pc' := 70) dX5_openField_69 rfl rfl ?_
    refine g_getR (pc' := 73) 5 5 rfl rfl (by decide) inX5 (by decide) rfl rfl q_102 dX5_openField_70 rfl h5 ?_
    refine g_iload_n (pc' := 74) dX5_openField_73 rfl rfl ?_
    obtain ⟨b8, hf⟩ := chk_s hf
    refine g_iald (pc' := 75) dX5_openField_74 rfl h6 (inB_in b8) ?_
    refine g_iadd (pc' := 76) dX5_openField_75 rfl ?_
    refine g_iast (pc' := 77) dX5_openField_76 rfl h6 (inB_in b7) (gM fun M9 hM9 => ?_)
    have hf := ap_eq hf hM9
    refine g_aload_n (pc' := 78) dX5_openField_77 rfl rfl ?_
    obtain ⟨h10, hf⟩ := chk_s hf
    refine g_getR (pc' := 81) 5 6 rfl rfl (by decide) inX5 (by decide) rfl rfl q_103 dX5_openField_78 rfl h10 ?_
    refine g_iload_n (pc' := 82) dX5_openField_81 rfl rfl ?_
    refine g_dup2 (pc' := 83) dX5_openField_82 rfl rfl rfl ?_
    obtain ⟨h11, hf⟩ := chk_s hf
    obtain ⟨b12, hf⟩ := chk_s hf
    refine g_iald (pc' := 84) dX5_openField_83 rfl h11 (inB_in b12) ?_
    refine g_aload_n (pc' := 85) dX5_openField_84 rfl rfl ?_
    refine g_getR (pc' := 88) 5 6 rfl rfl (by decide) inX5 (by decide) rfl rfl q_103 dX5_openField_85 rfl h10 ?_
    refine g_iload_n (pc' := 89) dX5_openField_88 rfl rfl ?_
    obtain ⟨b13, hf⟩ := chk_s hf
    refine g_iald (pc' := 90) dX5_openField_89 rfl h11 (inB_in b13) ?_
    refine g_iadd (pc' := 91) dX5_openField_90 rfl ?_
    refine g_iast (pc' := 92) dX5_openField_91 rfl h11 (inB_in b12) (gM fun M14 hM14 => ?_)
    have hf := ap_eq hf hM14
    refine g_aload_n (pc' := 93) dX5_openField_92 rfl rfl ?_
    obtain ⟨h15, hf⟩ := chk_s hf
    refine g_getR (pc' := 96) 5 9 rfl rfl (by decide) inX5 (by decide) rfl rfl q_106 dX5_openField_93 rfl h15 ?_
    refine g_iload_n (pc' := 97) dX5_openField_96 rfl rfl ?_
    refine g_dup2 (pc' := 98) dX5_openField_97 rfl rfl rfl ?_
    obtain ⟨h16, hf⟩ := chk_s hf
    obtain ⟨b17, hf⟩ := chk_s hf
    refine g_iald (pc' := 99) dX5_openField_98 rfl h16 (inB_in b17) ?_
    refine g_iconst (pc' := 100) (1 : Int32) dX5_openField_99 rfl (by decide) ?_
    refine g_iadd (pc' := 101) dX5_openField_100 rfl ?_
    refine g_iast (pc' := 102) dX5_openField_101 rfl h16 (inB_in b17) (gM fun M18 hM18 => ?_)
    have hf := ap_eq hf hM18
    refine g_mask [true, true, false, true] rfl ?_
    exact s_X5_openField_102 v0 v3 M18 _ hf
theorem s_X5_openField_40 (v0 : Nat) (v1 : Int32) (v2 : Int32) (v3 : Int32) (w0 : Nat) (w1 : Int32) (w2 : Int32) (M : Mem) (r : (Int32 × Mem)) (hf : f_X5_openField_40 v0 v1 v2 v3 w0 w1 w2 M = some r) : G mi_X5_openField 1 (oI r.1) r.2 40 [some (aR v0), some (aI v1), some (aI v2), some (aI v3)] [aI w2, aI w1, aR w0] M 0 0 := by
  unfold f_X5_openField_40 at hf
  obtain ⟨h1, hf⟩ := chk_s hf
  obtain ⟨b2, hf⟩ := chk_s hf
  refine g_iast (pc' := 41) dX5_openField_40 rfl h1 (inB_in b2) (gM fun M3 hM3 => ?_)
  have hf := ap_eq hf hM3
  refine g_aload_n (pc' := 42) dX5_openField_41 rfl rfl ?_
  obtain ⟨h4, hf⟩ := chk_s hf
  refine g_getR (pc' := 45) 5 6 rfl rfl (by decide) inX5 (by decide) rfl rfl q_103 dX5_openField_42 rfl h4 ?_
  refine g_iload_n (pc' := 46) dX5_openField_45 rfl rfl ?_
  refine g_iload_n (pc' := 47) dX5_openField_46 rfl rfl ?_
  refine g_iconst (pc' := 48) (2 : Int32) dX5_openField_47 rfl (by decide) ?_
  refine g_icmp_ne (pc' := 51) 55 dX5_openField_48 rfl (by decide) (fun c5 => ?_) (fun c5 => ?_)
  · have hf := ite_f c5 hf
    refine g_iconst (pc' := 56) (0 : Int32) dX5_openField_55 rfl (by decide) ?_
    refine g_mask [true, false, true, true] rfl ?_
    exact s_X5_openField_56 v0 v2 v3 (mR M3 v0 6) v3 (0 : Int32) M3 _ hf
  · have hf := ite_t c5 hf
    refine g_iconst (pc' := 52) (1 : Int32) dX5_openField_51 rfl (by decide) ?_
    refine g_goto (pc' := 56) dX5_openField_52 (by decide) ?_
    refine g_mask [true, false, true, true] rfl ?_
    exact s_X5_openField_56 v0 v2 v3 (mR M3 v0 6) v3 (1 : Int32) M3 _ hf
theorem s_X5_openField (v0 : Nat) (v1 : Int32) (v2 : Int32) (M : Mem) (r : (Int32 × Mem)) (hf : f_X5_openField v0 v1 v2 M = some r) : Sem mi_X5_openField (1) [aR v0, aI v1, aI v2] M (oI r.1) r.2 := by
  unfold f_X5_openField at hf
  refine sem_of (by decide) rfl rfl rfl (Nat.le_of_ble_eq_true rfl) (lv := [some (aR v0), some (aI v1), some (aI v2), none]) rfl ?_
  refine g_aload_n (pc' := 1) dX5_openField_0 rfl rfl ?_
  obtain ⟨h1, hf⟩ := chk_s hf
  refine g_getI (pc' := 4) 5 0 rfl rfl (by decide) inX5 (by decide) rfl rfl q_221 dX5_openField_1 rfl h1 ?_
  refine g_istore_n (pc' := 5) (lv' := [some (aR v0), some (aI v1), some (aI v2), some (aI (mI M v0 0))]) dX5_openField_4 rfl rfl (by decide) rfl ?_
  refine g_aload_n (pc' := 6) dX5_openField_5 rfl rfl ?_
  refine g_getR (pc' := 9) 5 2 rfl rfl (by decide) inX5 (by decide) rfl rfl q_99 dX5_openField_6 rfl h1 ?_
  refine g_iload_n (pc' := 10) dX5_openField_9 rfl rfl ?_
  refine g_iload_n (pc' := 11) dX5_openField_10 rfl rfl ?_
  obtain ⟨h2, hf⟩ := chk_s hf
  obtain ⟨b3, hf⟩ := chk_s hf
  refine g_iast (pc' := 12) dX5_openField_11 rfl h2 (inB_in b3) (gM fun M4 hM4 => ?_)
  have hf := ap_eq hf hM4
  refine g_aload_n (pc' := 13) dX5_openField_12 rfl rfl ?_
  obtain ⟨h5, hf⟩ := chk_s hf
  refine g_getR (pc' := 16) 5 3 rfl rfl (by decide) inX5 (by decide) rfl rfl q_100 dX5_openField_13 rfl h5 ?_
  refine g_iload_n (pc' := 17) dX5_openField_16 rfl rfl ?_
  refine g_iload_n (pc' := 18) dX5_openField_17 rfl rfl ?_
  obtain ⟨h6, hf⟩ := chk_s hf
  obtain ⟨b7, hf⟩ := chk_s hf
  refine g_iast (pc' := 19) dX5_openField_18 rfl h6 (inB_in b7) (gM fun M8 hM8 => ?_)
  have hf := ap_eq hf hM8
  refine g_aload_n (pc' := 20) dX5_openField_19 rfl rfl ?_
  obtain ⟨h9, hf⟩ := chk_s hf
  refine g_getR (pc' := 23) 5 4 rfl rfl (by decide) inX5 (by decide) rfl rfl q_101 dX5_openField_20 rfl h9 ?_
  refine g_iload_n (pc' := 24) dX5_openField_23 rfl rfl ?_
  refine g_iconst (pc' := 25) (-1 : Int32) dX5_openField_24 rfl (by decide) ?_
  obtain ⟨h10, hf⟩ := chk_s hf
  obtain ⟨b11, hf⟩ := chk_s hf
  refine g_iast (pc' := 26) dX5_openField_25 rfl h10 (inB_in b11) (gM fun M12 hM12 => ?_)
  have hf := ap_eq hf hM12
  refine g_aload_n (pc' := 27) dX5_openField_26 rfl rfl ?_
  obtain ⟨h13, hf⟩ := chk_s hf
  refine g_getR (pc' := 30) 5 5 rfl rfl (by decide) inX5 (by decide) rfl rfl q_102 dX5_openField_27 rfl h13 ?_
  refine g_iload_n (pc' := 31) dX5_openField_30 rfl rfl ?_
  refine g_iload_n (pc' := 32) dX5_openField_31 rfl rfl ?_
  refine g_if_ne (pc' := 35) 39 dX5_openField_32 rfl (by decide) (fun c14 => ?_) (fun c14 => ?_)
  · have hf := ite_f c14 hf
    refine g_iconst (pc' := 40) (1 : Int32) dX5_openField_39 rfl (by decide) ?_
    exact s_X5_openField_40 v0 v1 v2 (mI M v0 0) (mR M12 v0 5) (mI M v0 0) (1 : Int32) M12 _ hf
  · have hf := ite_t c14 hf
    refine g_iconst (pc' := 36) (0 : Int32) dX5_openField_35 rfl (by decide) ?_
    refine g_goto (pc' := 40) dX5_openField_36 (by decide) ?_
    exact s_X5_openField_40 v0 v1 v2 (mI M v0 0) (mR M12 v0 5) (mI M v0 0) (0 : Int32) M12 _ hf
def f_X5_makeLeaf_63 (v0 : Nat) (M : Mem) : Option (Unit × Mem) :=
  if mK M v0 = 6 then
    ap (sI M v0 1 ((mI M v0 1) + (1 : Int32))) fun M2 =>
    some ((), M2)
  else none
def f_X5_makeLeaf_24 : Nat → Nat → Int32 → Int32 → Mem → Option (Unit × Mem)
  | 0, _, _, _, _ => none
  | n + 1, v0, v2, v3, M =>
    if (16 : Int32) ≤ v3 then
      f_X5_makeLeaf_63 v0 M
    else
      if v2 = (-1 : Int32) then
        f_X5_makeLeaf_63 v0 M
      else
        if mK M v0 = 6 then
          if mK M (mR M v0 10) = 21 then
            if inB v2 (mN M (mR M v0 10)) = true then
              ap (sI M (mR M v0 10) v2.toNatClampNeg ((mI M (mR M v0 10) v2.toNatClampNeg) ||| ((1 : Int32) <<< ((mI M v0 1) &&& 31)))) fun M6 =>
              if mK M6 v0 = 6 then
                if mK M6 (mR M6 v0 3) = 21 then
                  if inB v2 (mN M6 (mR M6 v0 3)) = true then
                    f_X5_makeLeaf_24 n v0 (mI M6 (mR M6 v0 3) v2.toNatClampNeg) (v3 + 1) M6
                  else none
                else none
              else none
            else none
          else none
        else none
def f_X5_makeLeaf (v0 : Nat) (v1 : Int32) (M : Mem) : Option (Unit × Mem) :=
  if mK M v0 = 6 then
    if mK M (mR M v0 4) = 21 then
      if inB v1 (mN M (mR M v0 4)) = true then
        ap (sI M (mR M v0 4) v1.toNatClampNeg (mI M v0 1)) fun M4 =>
        if mK M4 v0 = 6 then
          if mK M4 (mR M4 v0 12) = 21 then
            if inB (mI M4 v0 1) (mN M4 (mR M4 v0 12)) = true then
              ap (sI M4 (mR M4 v0 12) (mI M4 v0 1).toNatClampNeg v1) fun M8 =>
              f_X5_makeLeaf_24 FUEL v0 v1 (0 : Int32) M8
            else none
          else none
        else none
      else none
    else none
  else none
theorem s_X5_makeLeaf_63 (v0 : Nat) (M : Mem) (r : (Unit × Mem)) (hf : f_X5_makeLeaf_63 v0 M = some r) : G mi_X5_makeLeaf 1 (oU r.1) r.2 63 [some (aR v0), none, none, none] [] M 0 0 := by
  unfold f_X5_makeLeaf_63 at hf
  refine g_aload_n (pc' := 64) dX5_makeLeaf_63 rfl rfl ?_
  refine g_dup (pc' := 65) dX5_makeLeaf_64 rfl rfl ?_
  obtain ⟨h1, hf⟩ := chk_s hf
  refine g_getI (pc' := 68) 5 1 rfl rfl (by decide) inX5 (by decide) rfl rfl q_222 dX5_makeLeaf_65 rfl h1 ?_
  refine g_iconst (pc' := 69) (1 : Int32) dX5_makeLeaf_68 rfl (by decide) ?_
  refine g_iadd (pc' := 70) dX5_makeLeaf_69 rfl ?_
  refine g_putI (pc' := 73) 5 1 rfl rfl (by decide) inX5 tyX5_ok nmX5 (by decide) rfl rfl rfl rfl q_222 dX5_makeLeaf_70 rfl h1 (gM fun M2 hM2 => ?_)
  have hf := ap_eq hf hM2
  cases hf
  exact g_return dX5_makeLeaf_73 rfl (Nat.le_of_ble_eq_true rfl) (Nat.le_of_ble_eq_true rfl)
theorem s_X5_makeLeaf_24 : ∀ (n : Nat) (v0 : Nat) (v2 : Int32) (v3 : Int32) (M : Mem) (r : (Unit × Mem)), f_X5_makeLeaf_24 n v0 v2 v3 M = some r → G mi_X5_makeLeaf 1 (oU r.1) r.2 24 [some (aR v0), none, some (aI v2), some (aI v3)] [] M 0 0 := by
  intro n
  induction n with
  | zero => intro v0 v2 v3 M r hf; cases hf
  | succ n ih =>
    intro v0 v2 v3 M r hf
    unfold f_X5_makeLeaf_24 at hf
    refine g_iload_n (pc' := 25) dX5_makeLeaf_24 rfl rfl ?_
    refine g_bipush (pc' := 27) (16 : Int32) dX5_makeLeaf_25 rfl (by decide) ?_
    refine g_icmp_ge (pc' := 30) 63 dX5_makeLeaf_27 rfl (by decide) (fun c1 => ?_) (fun c1 => ?_)
    · have hf := ite_t c1 hf
      refine g_mask [true, true, false, false] rfl ?_
      exact s_X5_makeLeaf_63 v0 M _ hf
    · have hf := ite_f c1 hf
      refine g_iload_n (pc' := 31) dX5_makeLeaf_30 rfl rfl ?_
      refine g_iconst (pc' := 32) (-1 : Int32) dX5_makeLeaf_31 rfl (by decide) ?_
      refine g_icmp_eq (pc' := 35) 63 dX5_makeLeaf_32 rfl (by decide) (fun c2 => ?_) (fun c2 => ?_)
      · have hf := ite_t c2 hf
        refine g_mask [true, true, false, false] rfl ?_
        exact s_X5_makeLeaf_63 v0 M _ hf
      · have hf := ite_f c2 hf
        refine g_aload_n (pc' := 36) dX5_makeLeaf_35 rfl rfl ?_
        obtain ⟨h3, hf⟩ := chk_s hf
        refine g_getR (pc' := 39) 5 10 rfl rfl (by decide) inX5 (by decide) rfl rfl q_107 dX5_makeLeaf_36 rfl h3 ?_
        refine g_iload_n (pc' := 40) dX5_makeLeaf_39 rfl rfl ?_
        refine g_dup2 (pc' := 41) dX5_makeLeaf_40 rfl rfl rfl ?_
        obtain ⟨h4, hf⟩ := chk_s hf
        obtain ⟨b5, hf⟩ := chk_s hf
        refine g_iald (pc' := 42) dX5_makeLeaf_41 rfl h4 (inB_in b5) ?_
        refine g_iconst (pc' := 43) (1 : Int32) dX5_makeLeaf_42 rfl (by decide) ?_
        refine g_aload_n (pc' := 44) dX5_makeLeaf_43 rfl rfl ?_
        refine g_getI (pc' := 47) 5 1 rfl rfl (by decide) inX5 (by decide) rfl rfl q_222 dX5_makeLeaf_44 rfl h3 ?_
        refine g_ishl (pc' := 48) dX5_makeLeaf_47 rfl ?_
        refine g_ior (pc' := 49) dX5_makeLeaf_48 rfl ?_
        refine g_iast (pc' := 50) dX5_makeLeaf_49 rfl h4 (inB_in b5) (gM fun M6 hM6 => ?_)
        have hf := ap_eq hf hM6
        refine g_aload_n (pc' := 51) dX5_makeLeaf_50 rfl rfl ?_
        obtain ⟨h7, hf⟩ := chk_s hf
        refine g_getR (pc' := 54) 5 3 rfl rfl (by decide) inX5 (by decide) rfl rfl q_100 dX5_makeLeaf_51 rfl h7 ?_
        refine g_iload_n (pc' := 55) dX5_makeLeaf_54 rfl rfl ?_
        obtain ⟨h8, hf⟩ := chk_s hf
        obtain ⟨b9, hf⟩ := chk_s hf
        refine g_iald (pc' := 56) dX5_makeLeaf_55 rfl h8 (inB_in b9) ?_
        refine g_istore_n (pc' := 57) (lv' := [some (aR v0), none, some (aI (mI M6 (mR M6 v0 3) v2.toNatClampNeg)), some (aI v3)]) dX5_makeLeaf_56 rfl rfl (by decide) rfl ?_
        refine g_iinc (pc' := 60) (lv' := [some (aR v0), none, some (aI (mI M6 (mR M6 v0 3) v2.toNatClampNeg)), some (aI (v3 + 1))]) (v3 + 1) dX5_makeLeaf_57 rfl rfl (by rfl) rfl (by decide) rfl ?_
        refine g_goto (pc' := 24) dX5_makeLeaf_60 (by decide) ?_
        exact ih v0 (mI M6 (mR M6 v0 3) v2.toNatClampNeg) (v3 + 1) M6 _ hf
theorem s_X5_makeLeaf (v0 : Nat) (v1 : Int32) (M : Mem) (r : (Unit × Mem)) (hf : f_X5_makeLeaf v0 v1 M = some r) : Sem mi_X5_makeLeaf (1) [aR v0, aI v1] M (oU r.1) r.2 := by
  unfold f_X5_makeLeaf at hf
  refine sem_of (by decide) rfl rfl rfl (Nat.le_of_ble_eq_true rfl) (lv := [some (aR v0), some (aI v1), none, none]) rfl ?_
  refine g_aload_n (pc' := 1) dX5_makeLeaf_0 rfl rfl ?_
  obtain ⟨h1, hf⟩ := chk_s hf
  refine g_getR (pc' := 4) 5 4 rfl rfl (by decide) inX5 (by decide) rfl rfl q_101 dX5_makeLeaf_1 rfl h1 ?_
  refine g_iload_n (pc' := 5) dX5_makeLeaf_4 rfl rfl ?_
  refine g_aload_n (pc' := 6) dX5_makeLeaf_5 rfl rfl ?_
  refine g_getI (pc' := 9) 5 1 rfl rfl (by decide) inX5 (by decide) rfl rfl q_222 dX5_makeLeaf_6 rfl h1 ?_
  obtain ⟨h2, hf⟩ := chk_s hf
  obtain ⟨b3, hf⟩ := chk_s hf
  refine g_iast (pc' := 10) dX5_makeLeaf_9 rfl h2 (inB_in b3) (gM fun M4 hM4 => ?_)
  have hf := ap_eq hf hM4
  refine g_aload_n (pc' := 11) dX5_makeLeaf_10 rfl rfl ?_
  obtain ⟨h5, hf⟩ := chk_s hf
  refine g_getR (pc' := 14) 5 12 rfl rfl (by decide) inX5 (by decide) rfl rfl q_109 dX5_makeLeaf_11 rfl h5 ?_
  refine g_aload_n (pc' := 15) dX5_makeLeaf_14 rfl rfl ?_
  refine g_getI (pc' := 18) 5 1 rfl rfl (by decide) inX5 (by decide) rfl rfl q_222 dX5_makeLeaf_15 rfl h5 ?_
  refine g_iload_n (pc' := 19) dX5_makeLeaf_18 rfl rfl ?_
  obtain ⟨h6, hf⟩ := chk_s hf
  obtain ⟨b7, hf⟩ := chk_s hf
  refine g_iast (pc' := 20) dX5_makeLeaf_19 rfl h6 (inB_in b7) (gM fun M8 hM8 => ?_)
  have hf := ap_eq hf hM8
  refine g_iload_n (pc' := 21) dX5_makeLeaf_20 rfl rfl ?_
  refine g_istore_n (pc' := 22) (lv' := [some (aR v0), some (aI v1), some (aI v1), none]) dX5_makeLeaf_21 rfl rfl (by decide) rfl ?_
  refine g_iconst (pc' := 23) (0 : Int32) dX5_makeLeaf_22 rfl (by decide) ?_
  refine g_istore_n (pc' := 24) (lv' := [some (aR v0), some (aI v1), some (aI v1), some (aI (0 : Int32))]) dX5_makeLeaf_23 rfl rfl (by decide) rfl ?_
  refine g_mask [true, false, true, true] rfl ?_
  exact s_X5_makeLeaf_24 FUEL v0 v1 (0 : Int32) M8 _ hf
def f_X5_putName_2 : Nat → Nat → Int32 → Nat → Int32 → Mem → Option (Unit × Mem)
  | 0, _, _, _, _, _ => none
  | n + 1, v0, v1, v2, v3, M =>
    if mK M v2 = 10 then
      bnd (f_X9_width v2 M) fun r3 M2 =>
      if r3 ≤ v3 then
        some ((), M2)
      else
        if (4 : Int32) ≤ v3 then
          some ((), M2)
        else
          if mK M2 v0 = 6 then
            if mK M2 v2 = 10 then
              if mK M2 (mR M2 v2 0) = 21 then
                if inB ((mI M2 v2 4) + v3) (mN M2 (mR M2 v2 0)) = true then
                  if mK M2 (mR M2 v0 8) = 21 then
                    if inB ((v1 * (4 : Int32)) + v3) (mN M2 (mR M2 v0 8)) = true then
                      ap (sI M2 (mR M2 v0 8) ((v1 * (4 : Int32)) + v3).toNatClampNeg (mI M2 (mR M2 v2 0) ((mI M2 v2 4) + v3).toNatClampNeg)) fun M12 =>
                      if mK M12 v0 = 6 then
                        if mK M12 (mR M12 v0 7) = 21 then
                          if inB v1 (mN M12 (mR M12 v0 7)) = true then
                            ap (sI M12 (mR M12 v0 7) v1.toNatClampNeg (v3 + (1 : Int32))) fun M16 =>
                            f_X5_putName_2 n v0 v1 v2 (v3 + 1) M16
                          else none
                        else none
                      else none
                    else none
                  else none
                else none
              else none
            else none
          else none
    else none
def f_X5_putName (v0 : Nat) (v1 : Int32) (v2 : Nat) (M : Mem) : Option (Unit × Mem) :=
  f_X5_putName_2 FUEL v0 v1 v2 (0 : Int32) M
theorem s_X5_putName_2 : ∀ (n : Nat) (v0 : Nat) (v1 : Int32) (v2 : Nat) (v3 : Int32) (M : Mem) (r : (Unit × Mem)), f_X5_putName_2 n v0 v1 v2 v3 M = some r → G mi_X5_putName 2 (oU r.1) r.2 2 [some (aR v0), some (aI v1), some (aR v2), some (aI v3)] [] M 0 0 := by
  intro n
  induction n with
  | zero => intro v0 v1 v2 v3 M r hf; cases hf
  | succ n ih =>
    intro v0 v1 v2 v3 M r hf
    unfold f_X5_putName_2 at hf
    refine g_iload_n (pc' := 3) dX5_putName_2 rfl rfl ?_
    refine g_aload_n (pc' := 4) dX5_putName_3 rfl rfl ?_
    obtain ⟨h1, hf⟩ := chk_s hf
    obtain ⟨r3, M2, e3, hf⟩ := bnd_some hf
    refine g_callVi (pc' := 7) (k' := 0) (u' := 0) (fr2 := 1) (As := []) (b := v2) (st := [aI v3]) cf_X9_width q_310 (by omega) (ci := 9) rfl rfl (by decide) dX5_putName_4 rfl rfl rfl (Nat.le_of_ble_eq_true rfl) (Or.inl rfl) (Nat.le_refl _) (Nat.le_refl _) (Nat.le_refl _) (Nat.le_refl _) h1 (s_X9_width v2 M _ e3) ?_
    refine g_icmp_ge (pc' := 10) 51 dX5_putName_7 rfl (by decide) (fun c4 => ?_) (fun c4 => ?_)
    · have hf := ite_t c4 hf
      cases hf
      exact g_return dX5_putName_51 rfl (Nat.le_of_ble_eq_true rfl) (Nat.le_of_ble_eq_true rfl)
    · have hf := ite_f c4 hf
      refine g_iload_n (pc' := 11) dX5_putName_10 rfl rfl ?_
      refine g_iconst (pc' := 12) (4 : Int32) dX5_putName_11 rfl (by decide) ?_
      refine g_icmp_ge (pc' := 15) 51 dX5_putName_12 rfl (by decide) (fun c5 => ?_) (fun c5 => ?_)
      · have hf := ite_t c5 hf
        cases hf
        exact g_return dX5_putName_51 rfl (Nat.le_of_ble_eq_true rfl) (Nat.le_of_ble_eq_true rfl)
      · have hf := ite_f c5 hf
        refine g_aload_n (pc' := 16) dX5_putName_15 rfl rfl ?_
        obtain ⟨h6, hf⟩ := chk_s hf
        refine g_getR (pc' := 19) 5 8 rfl rfl (by decide) inX5 (by decide) rfl rfl q_105 dX5_putName_16 rfl h6 ?_
        refine g_iload_n (pc' := 20) dX5_putName_19 rfl rfl ?_
        refine g_iconst (pc' := 21) (4 : Int32) dX5_putName_20 rfl (by decide) ?_
        refine g_imul (pc' := 22) dX5_putName_21 rfl ?_
        refine g_iload_n (pc' := 23) dX5_putName_22 rfl rfl ?_
        refine g_iadd (pc' := 24) dX5_putName_23 rfl ?_
        refine g_aload_n (pc' := 25) dX5_putName_24 rfl rfl ?_
        obtain ⟨h7, hf⟩ := chk_s hf
        refine g_getR (pc' := 28) 9 0 rfl rfl (by decide) inX9 (by decide) rfl rfl q_308 dX5_putName_25 rfl h7 ?_
        refine g_aload_n (pc' := 29) dX5_putName_28 rfl rfl ?_
        refine g_getI (pc' := 32) 9 4 rfl rfl (by decide) inX9 (by decide) rfl rfl q_309 dX5_putName_29 rfl h7 ?_
        refine g_iload_n (pc' := 33) dX5_putName_32 rfl rfl ?_
        refine g_iadd (pc' := 34) dX5_putName_33 rfl ?_
        obtain ⟨h8, hf⟩ := chk_s hf
        obtain ⟨b9, hf⟩ := chk_s hf
        refine g_iald (pc' := 35) dX5_putName_34 rfl h8 (inB_in b9) ?_
        obtain ⟨h10, hf⟩ := chk_s hf
        obtain ⟨b11, hf⟩ := chk_s hf
        refine g_iast (pc' := 36) dX5_putName_35 rfl h10 (inB_in b11) (gM fun M12 hM12 => ?_)
        have hf := ap_eq hf hM12
        refine g_aload_n (pc' := 37) dX5_putName_36 rfl rfl ?_
        obtain ⟨h13, hf⟩ := chk_s hf
        refine g_getR (pc' := 40) 5 7 rfl rfl (by decide) inX5 (by decide) rfl rfl q_104 dX5_putName_37 rfl h13 ?_
        refine g_iload_n (pc' := 41) dX5_putName_40 rfl rfl ?_
        refine g_iload_n (pc' := 42) dX5_putName_41 rfl rfl ?_
        refine g_iconst (pc' := 43) (1 : Int32) dX5_putName_42 rfl (by decide) ?_
        refine g_iadd (pc' := 44) dX5_putName_43 rfl ?_
        obtain ⟨h14, hf⟩ := chk_s hf
        obtain ⟨b15, hf⟩ := chk_s hf
        refine g_iast (pc' := 45) dX5_putName_44 rfl h14 (inB_in b15) (gM fun M16 hM16 => ?_)
        have hf := ap_eq hf hM16
        refine g_iinc (pc' := 48) (lv' := [some (aR v0), some (aI v1), some (aR v2), some (aI (v3 + 1))]) (v3 + 1) dX5_putName_45 rfl rfl (by rfl) rfl (by decide) rfl ?_
        refine g_goto (pc' := 2) dX5_putName_48 (by decide) ?_
        refine g_widen (k' := 0) (u' := 0) (by omega) (by omega) ?_
        exact ih v0 v1 v2 (v3 + 1) M16 _ hf
theorem s_X5_putName (v0 : Nat) (v1 : Int32) (v2 : Nat) (M : Mem) (r : (Unit × Mem)) (hf : f_X5_putName v0 v1 v2 M = some r) : Sem mi_X5_putName (2) [aR v0, aI v1, aR v2] M (oU r.1) r.2 := by
  unfold f_X5_putName at hf
  refine sem_of (by decide) rfl rfl rfl (Nat.le_of_ble_eq_true rfl) (lv := [some (aR v0), some (aI v1), some (aR v2), none]) rfl ?_
  refine g_iconst (pc' := 1) (0 : Int32) dX5_putName_0 rfl (by decide) ?_
  refine g_istore_n (pc' := 2) (lv' := [some (aR v0), some (aI v1), some (aR v2), some (aI (0 : Int32))]) dX5_putName_1 rfl rfl (by decide) rfl ?_
  exact s_X5_putName_2 FUEL v0 v1 v2 (0 : Int32) M _ hf
def f_X5_hasNameOf_20 : Nat → Nat → Int32 → Nat → Int32 → Int32 → Mem → Option (Int32 × Mem)
  | 0, _, _, _, _, _, _ => none
  | n + 1, v0, v1, v2, v3, v4, M =>
    if mK M v0 = 6 then
      if mK M (mR M v0 7) = 21 then
        if inB v1 (mN M (mR M v0 7)) = true then
          if (mI M (mR M v0 7) v1.toNatClampNeg) ≤ v4 then
            some ((1 : Int32), M)
          else
            if mK M (mR M v0 8) = 21 then
              if inB ((v1 * (4 : Int32)) + v4) (mN M (mR M v0 8)) = true then
                if mK M v2 = 6 then
                  if mK M (mR M v2 8) = 21 then
                    if inB ((v3 * (4 : Int32)) + v4) (mN M (mR M v2 8)) = true then
                      if (mI M (mR M v0 8) ((v1 * (4 : Int32)) + v4).toNatClampNeg) = (mI M (mR M v2 8) ((v3 * (4 : Int32)) + v4).toNatClampNeg) then
                        f_X5_hasNameOf_20 n v0 v1 v2 v3 (v4 + 1) M
                      else
                        some ((0 : Int32), M)
                    else none
                  else none
                else none
              else none
            else none
        else none
      else none
    else none
def f_X5_hasNameOf (v0 : Nat) (v1 : Int32) (v2 : Nat) (v3 : Int32) (M : Mem) : Option (Int32 × Mem) :=
  if mK M v0 = 6 then
    if mK M (mR M v0 7) = 21 then
      if inB v1 (mN M (mR M v0 7)) = true then
        if mK M v2 = 6 then
          if mK M (mR M v2 7) = 21 then
            if inB v3 (mN M (mR M v2 7)) = true then
              if (mI M (mR M v0 7) v1.toNatClampNeg) = (mI M (mR M v2 7) v3.toNatClampNeg) then
                f_X5_hasNameOf_20 FUEL v0 v1 v2 v3 (0 : Int32) M
              else
                some ((0 : Int32), M)
            else none
          else none
        else none
      else none
    else none
  else none
theorem s_X5_hasNameOf_20 : ∀ (n : Nat) (v0 : Nat) (v1 : Int32) (v2 : Nat) (v3 : Int32) (v4 : Int32) (M : Mem) (r : (Int32 × Mem)), f_X5_hasNameOf_20 n v0 v1 v2 v3 v4 M = some r → G mi_X5_hasNameOf 1 (oI r.1) r.2 20 [some (aR v0), some (aI v1), some (aR v2), some (aI v3), some (aI v4)] [] M 0 0 := by
  intro n
  induction n with
  | zero => intro v0 v1 v2 v3 v4 M r hf; cases hf
  | succ n ih =>
    intro v0 v1 v2 v3 v4 M r hf
    unfold f_X5_hasNameOf_20 at hf
    refine g_iload (pc' := 22) dX5_hasNameOf_20 rfl rfl ?_
    refine g_aload_n (pc' := 23) dX5_hasNameOf_22 rfl rfl ?_
    obtain ⟨h1, hf⟩ := chk_s hf
    refine g_getR (pc' := 26) 5 7 rfl rfl (by decide) inX5 (by decide) rfl rfl q_104 dX5_hasNameOf_23 rfl h1 ?_
    refine g_iload_n (pc' := 27) dX5_hasNameOf_26 rfl rfl ?_
    obtain ⟨h2, hf⟩ := chk_s hf
    obtain ⟨b3, hf⟩ := chk_s hf
    refine g_iald (pc' := 28) dX5_hasNameOf_27 rfl h2 (inB_in b3) ?_
    refine g_icmp_ge (pc' := 31) 64 dX5_hasNameOf_28 rfl (by decide) (fun c4 => ?_) (fun c4 => ?_)
    · have hf := ite_t c4 hf
      refine g_iconst (pc' := 65) (1 : Int32) dX5_hasNameOf_64 rfl (by decide) ?_
      cases hf
      exact g_zreturn dX5_hasNameOf_65 rfl (Or.inr rfl) (Nat.le_of_ble_eq_true rfl) (Nat.le_of_ble_eq_true rfl)
    · have hf := ite_f c4 hf
      refine g_aload_n (pc' := 32) dX5_hasNameOf_31 rfl rfl ?_
      refine g_getR (pc' := 35) 5 8 rfl rfl (by decide) inX5 (by decide) rfl rfl q_105 dX5_hasNameOf_32 rfl h1 ?_
      refine g_iload_n (pc' := 36) dX5_hasNameOf_35 rfl rfl ?_
      refine g_iconst (pc' := 37) (4 : Int32) dX5_hasNameOf_36 rfl (by decide) ?_
      refine g_imul (pc' := 38) dX5_hasNameOf_37 rfl ?_
      refine g_iload (pc' := 40) dX5_hasNameOf_38 rfl rfl ?_
      refine g_iadd (pc' := 41) dX5_hasNameOf_40 rfl ?_
      obtain ⟨h5, hf⟩ := chk_s hf
      obtain ⟨b6, hf⟩ := chk_s hf
      refine g_iald (pc' := 42) dX5_hasNameOf_41 rfl h5 (inB_in b6) ?_
      refine g_aload_n (pc' := 43) dX5_hasNameOf_42 rfl rfl ?_
      obtain ⟨h7, hf⟩ := chk_s hf
      refine g_getR (pc' := 46) 5 8 rfl rfl (by decide) inX5 (by decide) rfl rfl q_105 dX5_hasNameOf_43 rfl h7 ?_
      refine g_iload_n (pc' := 47) dX5_hasNameOf_46 rfl rfl ?_
      refine g_iconst (pc' := 48) (4 : Int32) dX5_hasNameOf_47 rfl (by decide) ?_
      refine g_imul (pc' := 49) dX5_hasNameOf_48 rfl ?_
      refine g_iload (pc' := 51) dX5_hasNameOf_49 rfl rfl ?_
      refine g_iadd (pc' := 52) dX5_hasNameOf_51 rfl ?_
      obtain ⟨h8, hf⟩ := chk_s hf
      obtain ⟨b9, hf⟩ := chk_s hf
      refine g_iald (pc' := 53) dX5_hasNameOf_52 rfl h8 (inB_in b9) ?_
      refine g_icmp_eq (pc' := 56) 58 dX5_hasNameOf_53 rfl (by decide) (fun c10 => ?_) (fun c10 => ?_)
      · have hf := ite_t c10 hf
        refine g_iinc (pc' := 61) (lv' := [some (aR v0), some (aI v1), some (aR v2), some (aI v3), some (aI (v4 + 1))]) (v4 + 1) dX5_hasNameOf_58 rfl rfl (by rfl) rfl (by decide) rfl ?_
        refine g_goto (pc' := 20) dX5_hasNameOf_61 (by decide) ?_
        exact ih v0 v1 v2 v3 (v4 + 1) M _ hf
      · have hf := ite_f c10 hf
        refine g_iconst (pc' := 57) (0 : Int32) dX5_hasNameOf_56 rfl (by decide) ?_
        cases hf
        exact g_zreturn dX5_hasNameOf_57 rfl (Or.inl rfl) (Nat.le_of_ble_eq_true rfl) (Nat.le_of_ble_eq_true rfl)
theorem s_X5_hasNameOf (v0 : Nat) (v1 : Int32) (v2 : Nat) (v3 : Int32) (M : Mem) (r : (Int32 × Mem)) (hf : f_X5_hasNameOf v0 v1 v2 v3 M = some r) : Sem mi_X5_hasNameOf (1) [aR v0, aI v1, aR v2, aI v3] M (oI r.1) r.2 := by
  unfold f_X5_hasNameOf at hf
  refine sem_of (by decide) rfl rfl rfl (Nat.le_of_ble_eq_true rfl) (lv := [some (aR v0), some (aI v1), some (aR v2), some (aI v3), none]) rfl ?_
  refine g_aload_n (pc' := 1) dX5_hasNameOf_0 rfl rfl ?_
  obtain ⟨h1, hf⟩ := chk_s hf
  refine g_getR (pc' := 4) 5 7 rfl rfl (by decide) inX5 (by decide) rfl rfl q_104 dX5_hasNameOf_1 rfl h1 ?_
  refine g_iload_n (pc' := 5) dX5_hasNameOf_4 rfl rfl ?_
  obtain ⟨h2, hf⟩ := chk_s hf
  obtain ⟨b3, hf⟩ := chk_s hf
  refine g_iald (pc' := 6) dX5_hasNameOf_5 rfl h2 (inB_in b3) ?_
  refine g_aload_n (pc' := 7) dX5_hasNameOf_6 rfl rfl ?_
  obtain ⟨h4, hf⟩ := chk_s hf
  refine g_getR (pc' := 10) 5 7 rfl rfl (by decide) inX5 (by decide) rfl rfl q_104 dX5_hasNameOf_7 rfl h4 ?_
  refine g_iload_n (pc' := 11) dX5_hasNameOf_10 rfl rfl ?_
  obtain ⟨h5, hf⟩ := chk_s hf
  obtain ⟨b6, hf⟩ := chk_s hf
  refine g_iald (pc' := 12) dX5_hasNameOf_11 rfl h5 (inB_in b6) ?_
  refine g_icmp_eq (pc' := 15) 17 dX5_hasNameOf_12 rfl (by decide) (fun c7 => ?_) (fun c7 => ?_)
  · have hf := ite_t c7 hf
    refine g_iconst (pc' := 18) (0 : Int32) dX5_hasNameOf_17 rfl (by decide) ?_
    refine g_istore (pc' := 20) (lv' := [some (aR v0), some (aI v1), some (aR v2), some (aI v3), some (aI (0 : Int32))]) dX5_hasNameOf_18 rfl rfl (by decide) rfl ?_
    exact s_X5_hasNameOf_20 FUEL v0 v1 v2 v3 (0 : Int32) M _ hf
  · have hf := ite_f c7 hf
    refine g_iconst (pc' := 16) (0 : Int32) dX5_hasNameOf_15 rfl (by decide) ?_
    cases hf
    exact g_zreturn dX5_hasNameOf_16 rfl (Or.inl rfl) (Nat.le_of_ble_eq_true rfl) (Nat.le_of_ble_eq_true rfl)
def f_X5_fieldNamed_37 (k3 : Nat → Int32 → Nat → Int32 → Int32 → Mem → Option (Int32 × Mem)) (v0 : Nat) (v1 : Int32) (v2 : Nat) (v3 : Int32) (v4 : Int32) (M : Mem) : Option (Int32 × Mem) :=
  k3 v0 v1 v2 v3 (v4 + 1) M
def f_X5_fieldNamed_3 : Nat → Nat → Int32 → Nat → Int32 → Int32 → Mem → Option (Int32 × Mem)
  | 0, _, _, _, _, _, _ => none
  | n + 1, v0, v1, v2, v3, v4, M =>
    if mK M v0 = 6 then
      if (mI M v0 0) ≤ v4 then
        some ((-1 : Int32), M)
      else
        if mK M (mR M v0 3) = 21 then
          if inB v4 (mN M (mR M v0 3)) = true then
            if (mI M (mR M v0 3) v4.toNatClampNeg) = v1 then
              bnd (f_X5_hasNameOf v0 v4 v2 v3 M) fun r7 M6 =>
              if r7 = 0 then
                f_X5_fieldNamed_37 (f_X5_fieldNamed_3 n) v0 v1 v2 v3 v4 M6
              else
                some (v4, M6)
            else
              f_X5_fieldNamed_37 (f_X5_fieldNamed_3 n) v0 v1 v2 v3 v4 M
          else none
        else none
    else none
def f_X5_fieldNamed (v0 : Nat) (v1 : Int32) (v2 : Nat) (v3 : Int32) (M : Mem) : Option (Int32 × Mem) :=
  f_X5_fieldNamed_3 FUEL v0 v1 v2 v3 (0 : Int32) M
theorem s_X5_fieldNamed_37 (k3 : Nat → Int32 → Nat → Int32 → Int32 → Mem → Option (Int32 × Mem)) (hk3 : ∀ (v0 : Nat) (v1 : Int32) (v2 : Nat) (v3 : Int32) (v4 : Int32) (M : Mem) (r : (Int32 × Mem)), k3 v0 v1 v2 v3 v4 M = some r → G mi_X5_fieldNamed 2 (oI r.1) r.2 3 [some (aR v0), some (aI v1), some (aR v2), some (aI v3), some (aI v4)] [] M 0 0) (v0 : Nat) (v1 : Int32) (v2 : Nat) (v3 : Int32) (v4 : Int32) (M : Mem) (r : (Int32 × Mem)) (hf : f_X5_fieldNamed_37 k3 v0 v1 v2 v3 v4 M = some r) : G mi_X5_fieldNamed 2 (oI r.1) r.2 37 [some (aR v0), some (aI v1), some (aR v2), some (aI v3), some (aI v4)] [] M 0 0 := by
  unfold f_X5_fieldNamed_37 at hf
  refine g_iinc (pc' := 40) (lv' := [some (aR v0), some (aI v1), some (aR v2), some (aI v3), some (aI (v4 + 1))]) (v4 + 1) dX5_fieldNamed_37 rfl rfl (by rfl) rfl (by decide) rfl ?_
  refine g_goto (pc' := 3) dX5_fieldNamed_40 (by decide) ?_
  exact hk3 v0 v1 v2 v3 (v4 + 1) M _ hf
theorem s_X5_fieldNamed_3 : ∀ (n : Nat) (v0 : Nat) (v1 : Int32) (v2 : Nat) (v3 : Int32) (v4 : Int32) (M : Mem) (r : (Int32 × Mem)), f_X5_fieldNamed_3 n v0 v1 v2 v3 v4 M = some r → G mi_X5_fieldNamed 2 (oI r.1) r.2 3 [some (aR v0), some (aI v1), some (aR v2), some (aI v3), some (aI v4)] [] M 0 0 := by
  intro n
  induction n with
  | zero => intro v0 v1 v2 v3 v4 M r hf; cases hf
  | succ n ih =>
    intro v0 v1 v2 v3 v4 M r hf
    unfold f_X5_fieldNamed_3 at hf
    refine g_iload (pc' := 5) dX5_fieldNamed_3 rfl rfl ?_
    refine g_aload_n (pc' := 6) dX5_fieldNamed_5 rfl rfl ?_
    obtain ⟨h1, hf⟩ := chk_s hf
    refine g_getI (pc' := 9) 5 0 rfl rfl (by decide) inX5 (by decide) rfl rfl q_221 dX5_fieldNamed_6 rfl h1 ?_
    refine g_icmp_ge (pc' := 12) 43 dX5_fieldNamed_9 rfl (by decide) (fun c2 => ?_) (fun c2 => ?_)
    · have hf := ite_t c2 hf
      refine g_iconst (pc' := 44) (-1 : Int32) dX5_fieldNamed_43 rfl (by decide) ?_
      cases hf
      exact g_ireturn dX5_fieldNamed_44 rfl (Nat.le_of_ble_eq_true rfl) (Nat.le_of_ble_eq_true rfl)
    · have hf := ite_f c2 hf
      refine g_aload_n (pc' := 13) dX5_fieldNamed_12 rfl rfl ?_
      refine g_getR (pc' := 16) 5 3 rfl rfl (by decide) inX5 (by decide) rfl rfl q_100 dX5_fieldNamed_13 rfl h1 ?_
      refine g_iload (pc' := 18) dX5_fieldNamed_16 rfl rfl ?_
      obtain ⟨h3, hf⟩ := chk_s hf
      obtain ⟨b4, hf⟩ := chk_s hf
      refine g_iald (pc' := 19) dX5_fieldNamed_18 rfl h3 (inB_in b4) ?_
      refine g_iload_n (pc' := 20) dX5_fieldNamed_19 rfl rfl ?_
      refine g_icmp_ne (pc' := 23) 37 dX5_fieldNamed_20 rfl (by decide) (fun c5 => ?_) (fun c5 => ?_)
      · have hf := ite_f c5 hf
        exact s_X5_fieldNamed_37 (f_X5_fieldNamed_3 n) ih v0 v1 v2 v3 v4 M _ hf
      · have hf := ite_t c5 hf
        refine g_aload_n (pc' := 24) dX5_fieldNamed_23 rfl rfl ?_
        refine g_iload (pc' := 26) dX5_fieldNamed_24 rfl rfl ?_
        refine g_aload_n (pc' := 27) dX5_fieldNamed_26 rfl rfl ?_
        refine g_iload_n (pc' := 28) dX5_fieldNamed_27 rfl rfl ?_
        obtain ⟨r7, M6, e7, hf⟩ := bnd_some hf
        refine g_callVi (pc' := 31) (k' := 0) (u' := 0) (fr2 := 1) (As := [aI v4, aR v2, aI v3]) (b := v0) (st := []) cf_X5_hasNameOf q_321 (by omega) (ci := 5) rfl rfl (by decide) dX5_fieldNamed_28 rfl rfl rfl (Nat.le_of_ble_eq_true rfl) (Or.inl rfl) (Nat.le_refl _) (Nat.le_refl _) (Nat.le_refl _) (Nat.le_refl _) h1 (s_X5_hasNameOf v0 v4 v2 v3 M _ e7) ?_
        refine g_if_eq (pc' := 34) 37 dX5_fieldNamed_31 rfl (by decide) (fun c8 => ?_) (fun c8 => ?_)
        · have hf := ite_t c8 hf
          refine g_widen (k' := 0) (u' := 0) (by omega) (by omega) ?_
          exact s_X5_fieldNamed_37 (f_X5_fieldNamed_3 n) ih v0 v1 v2 v3 v4 M6 _ hf
        · have hf := ite_f c8 hf
          refine g_iload (pc' := 36) dX5_fieldNamed_34 rfl rfl ?_
          cases hf
          exact g_ireturn dX5_fieldNamed_36 rfl (Nat.le_of_ble_eq_true rfl) (Nat.le_of_ble_eq_true rfl)
theorem s_X5_fieldNamed (v0 : Nat) (v1 : Int32) (v2 : Nat) (v3 : Int32) (M : Mem) (r : (Int32 × Mem)) (hf : f_X5_fieldNamed v0 v1 v2 v3 M = some r) : Sem mi_X5_fieldNamed (2) [aR v0, aI v1, aR v2, aI v3] M (oI r.1) r.2 := by
  unfold f_X5_fieldNamed at hf
  refine sem_of (by decide) rfl rfl rfl (Nat.le_of_ble_eq_true rfl) (lv := [some (aR v0), some (aI v1), some (aR v2), some (aI v3), none]) rfl ?_
  refine g_iconst (pc' := 1) (0 : Int32) dX5_fieldNamed_0 rfl (by decide) ?_
  refine g_istore (pc' := 3) (lv' := [some (aR v0), some (aI v1), some (aR v2), some (aI v3), some (aI (0 : Int32))]) dX5_fieldNamed_1 rfl rfl (by decide) rfl ?_
  exact s_X5_fieldNamed_3 FUEL v0 v1 v2 v3 (0 : Int32) M _ hf
def f_X11_lowestBit_2 : Nat → Int32 → Int32 → Mem → Option (Int32 × Mem)
  | 0, _, _, _ => none
  | n + 1, v0, v1, M =>
    if (32 : Int32) ≤ v1 then
      some ((-1 : Int32), M)
    else
      if (((v0.toUInt32 >>> (v1.toUInt32 &&& Int32.toUInt32 31)).toInt32) &&& (1 : Int32)) = 0 then
        f_X11_lowestBit_2 n v0 (v1 + 1) M
      else
        some (v1, M)
def f_X11_lowestBit (v0 : Int32) (M : Mem) : Option (Int32 × Mem) :=
  f_X11_lowestBit_2 FUEL v0 (0 : Int32) M
theorem s_X11_lowestBit_2 : ∀ (n : Nat) (v0 : Int32) (v1 : Int32) (M : Mem) (r : (Int32 × Mem)), f_X11_lowestBit_2 n v0 v1 M = some r → G mi_X11_lowestBit 1 (oI r.1) r.2 2 [some (aI v0), some (aI v1)] [] M 0 0 := by
  intro n
  induction n with
  | zero => intro v0 v1 M r hf; cases hf
  | succ n ih =>
    intro v0 v1 M r hf
    unfold f_X11_lowestBit_2 at hf
    refine g_iload_n (pc' := 3) dX11_lowestBit_2 rfl rfl ?_
    refine g_bipush (pc' := 5) (32 : Int32) dX11_lowestBit_3 rfl (by decide) ?_
    refine g_icmp_ge (pc' := 8) 24 dX11_lowestBit_5 rfl (by decide) (fun c1 => ?_) (fun c1 => ?_)
    · have hf := ite_t c1 hf
      refine g_iconst (pc' := 25) (-1 : Int32) dX11_lowestBit_24 rfl (by decide) ?_
      cases hf
      exact g_ireturn dX11_lowestBit_25 rfl (Nat.le_of_ble_eq_true rfl) (Nat.le_of_ble_eq_true rfl)
    · have hf := ite_f c1 hf
      refine g_iload_n (pc' := 9) dX11_lowestBit_8 rfl rfl ?_
      refine g_iload_n (pc' := 10) dX11_lowestBit_9 rfl rfl ?_
      refine g_iushr (pc' := 11) dX11_lowestBit_10 rfl ?_
      refine g_iconst (pc' := 12) (1 : Int32) dX11_lowestBit_11 rfl (by decide) ?_
      refine g_iand (pc' := 13) dX11_lowestBit_12 rfl ?_
      refine g_if_eq (pc' := 16) 18 dX11_lowestBit_13 rfl (by decide) (fun c2 => ?_) (fun c2 => ?_)
      · have hf := ite_t c2 hf
        refine g_iinc (pc' := 21) (lv' := [some (aI v0), some (aI (v1 + 1))]) (v1 + 1) dX11_lowestBit_18 rfl rfl (by rfl) rfl (by decide) rfl ?_
        refine g_goto (pc' := 2) dX11_lowestBit_21 (by decide) ?_
        exact ih v0 (v1 + 1) M _ hf
      · have hf := ite_f c2 hf
        refine g_iload_n (pc' := 17) dX11_lowestBit_16 rfl rfl ?_
        cases hf
        exact g_ireturn dX11_lowestBit_17 rfl (Nat.le_of_ble_eq_true rfl) (Nat.le_of_ble_eq_true rfl)
theorem s_X11_lowestBit (v0 : Int32) (M : Mem) (r : (Int32 × Mem)) (hf : f_X11_lowestBit v0 M = some r) : Sem mi_X11_lowestBit (1) [aI v0] M (oI r.1) r.2 := by
  unfold f_X11_lowestBit at hf
  refine sem_of (by decide) rfl rfl rfl (Nat.le_of_ble_eq_true rfl) (lv := [some (aI v0), none]) rfl ?_
  refine g_iconst (pc' := 1) (0 : Int32) dX11_lowestBit_0 rfl (by decide) ?_
  refine g_istore_n (pc' := 2) (lv' := [some (aI v0), some (aI (0 : Int32))]) dX11_lowestBit_1 rfl rfl (by decide) rfl ?_
  exact s_X11_lowestBit_2 FUEL v0 (0 : Int32) M _ hf
def f_X5_leafAfter_28 (v0 : Nat) (v1 : Int32) (v2 : Int32) (v3 : Int32) (v4 : Int32) (w0 : Int32) (M : Mem) : Option (Int32 × Mem) :=
  if w0 < v3 then
    if mK M v0 = 6 then
      bnd (f_X5_manyAround v0 v2 v3 M) fun r4 M3 =>
      if r4 = (-1 : Int32) then
        some ((-1 : Int32), M3)
      else
        if mK M3 v0 = 6 then
          if mK M3 (mR M3 v0 10) = 21 then
            if inB r4 (mN M3 (mR M3 v0 10)) = true then
              bnd (f_X11_lowestBit (v1 &&& (mI M3 (mR M3 v0 10) r4.toNatClampNeg)) M3) fun r10 M9 =>
              some (r10, M9)
            else none
          else none
        else none
    else none
  else
    some (v4, M)
def f_X5_leafAfter (v0 : Nat) (v1 : Int32) (v2 : Int32) (v3 : Int32) (M : Mem) : Option (Int32 × Mem) :=
  bnd (f_X11_lowestBit (v1 &&& ((-2 : Int32) <<< (v2 &&& 31))) M) fun r2 M1 =>
  if r2 = (-1 : Int32) then
    f_X5_leafAfter_28 v0 v1 v2 v3 r2 (0 : Int32) M1
  else
    if mK M1 v0 = 6 then
      bnd (f_X5_levelOf v0 v2 r2 M1) fun r6 M5 =>
      f_X5_leafAfter_28 v0 v1 v2 v3 r2 r6 M5
    else none
theorem s_X5_leafAfter_28 (v0 : Nat) (v1 : Int32) (v2 : Int32) (v3 : Int32) (v4 : Int32) (w0 : Int32) (M : Mem) (r : (Int32 × Mem)) (hf : f_X5_leafAfter_28 v0 v1 v2 v3 v4 w0 M = some r) : G mi_X5_leafAfter 3 (oI r.1) r.2 28 [some (aR v0), some (aI v1), some (aI v2), some (aI v3), some (aI v4), none, none] [aI w0] M 0 0 := by
  unfold f_X5_leafAfter_28 at hf
  refine g_istore (pc' := 30) (lv' := [some (aR v0), some (aI v1), some (aI v2), some (aI v3), some (aI v4), some (aI w0), none]) dX5_leafAfter_28 rfl rfl (by decide) rfl ?_
  refine g_iload_n (pc' := 31) dX5_leafAfter_30 rfl rfl ?_
  refine g_iload (pc' := 33) dX5_leafAfter_31 rfl rfl ?_
  refine g_icmp_gt (pc' := 36) 39 dX5_leafAfter_33 rfl (by decide) (fun c1 => ?_) (fun c1 => ?_)
  · have hf := ite_t c1 hf
    refine g_aload_n (pc' := 40) dX5_leafAfter_39 rfl rfl ?_
    refine g_iload_n (pc' := 41) dX5_leafAfter_40 rfl rfl ?_
    refine g_iload_n (pc' := 42) dX5_leafAfter_41 rfl rfl ?_
    obtain ⟨h2, hf⟩ := chk_s hf
    obtain ⟨r4, M3, e4, hf⟩ := bnd_some hf
    refine g_callVi (pc' := 45) (k' := 0) (u' := 0) (fr2 := 1) (As := [aI v2, aI v3]) (b := v0) (st := []) cf_X5_manyAround q_1064 (by omega) (ci := 5) rfl rfl (by decide) dX5_leafAfter_42 rfl rfl rfl (Nat.le_of_ble_eq_true rfl) (Or.inl rfl) (Nat.le_refl _) (Nat.le_refl _) (Nat.le_refl _) (Nat.le_refl _) h2 (s_X5_manyAround v0 v2 v3 M _ e4) ?_
    refine g_istore (pc' := 47) (lv' := [some (aR v0), some (aI v1), some (aI v2), some (aI v3), some (aI v4), some (aI w0), some (aI r4)]) dX5_leafAfter_45 rfl rfl (by decide) rfl ?_
    refine g_iload (pc' := 49) dX5_leafAfter_47 rfl rfl ?_
    refine g_iconst (pc' := 50) (-1 : Int32) dX5_leafAfter_49 rfl (by decide) ?_
    refine g_icmp_ne (pc' := 53) 57 dX5_leafAfter_50 rfl (by decide) (fun c5 => ?_) (fun c5 => ?_)
    · have hf := ite_f c5 hf
      refine g_iload_n (pc' := 58) dX5_leafAfter_57 rfl rfl ?_
      refine g_aload_n (pc' := 59) dX5_leafAfter_58 rfl rfl ?_
      obtain ⟨h6, hf⟩ := chk_s hf
      refine g_getR (pc' := 62) 5 10 rfl rfl (by decide) inX5 (by decide) rfl rfl q_107 dX5_leafAfter_59 rfl h6 ?_
      refine g_iload (pc' := 64) dX5_leafAfter_62 rfl rfl ?_
      obtain ⟨h7, hf⟩ := chk_s hf
      obtain ⟨b8, hf⟩ := chk_s hf
      refine g_iald (pc' := 65) dX5_leafAfter_64 rfl h7 (inB_in b8) ?_
      refine g_iand (pc' := 66) dX5_leafAfter_65 rfl ?_
      obtain ⟨r10, M9, e10, hf⟩ := bnd_some hf
      refine g_callSNi (pc' := 69) (k' := 0) (u' := 0) (fr2 := 1) (As := [aI (v1 &&& (mI M3 (mR M3 v0 10) r4.toNatClampNeg))]) (st := []) cf_X11_lowestBit (List.mem_of_getElem? (i := 9) rfl) (by omega) dX5_leafAfter_66 rfl rfl rfl (Nat.le_of_ble_eq_true rfl) (Or.inl rfl) (Nat.le_refl _) (Nat.le_refl _) (Nat.le_refl _) (Nat.le_refl _) (s_X11_lowestBit (v1 &&& (mI M3 (mR M3 v0 10) r4.toNatClampNeg)) M3 _ e10) ?_
      cases hf
      exact g_ireturn dX5_leafAfter_69 rfl (Nat.le_of_ble_eq_true rfl) (Nat.le_of_ble_eq_true rfl)
    · have hf := ite_t c5 hf
      refine g_iconst (pc' := 54) (-1 : Int32) dX5_leafAfter_53 rfl (by decide) ?_
      refine g_goto (pc' := 69) dX5_leafAfter_54 (by decide) ?_
      cases hf
      exact g_ireturn dX5_leafAfter_69 rfl (Nat.le_of_ble_eq_true rfl) (Nat.le_of_ble_eq_true rfl)
  · have hf := ite_f c1 hf
    refine g_iload (pc' := 38) dX5_leafAfter_36 rfl rfl ?_
    cases hf
    exact g_ireturn dX5_leafAfter_38 rfl (Nat.le_of_ble_eq_true rfl) (Nat.le_of_ble_eq_true rfl)
theorem s_X5_leafAfter (v0 : Nat) (v1 : Int32) (v2 : Int32) (v3 : Int32) (M : Mem) (r : (Int32 × Mem)) (hf : f_X5_leafAfter v0 v1 v2 v3 M = some r) : Sem mi_X5_leafAfter (3) [aR v0, aI v1, aI v2, aI v3] M (oI r.1) r.2 := by
  unfold f_X5_leafAfter at hf
  refine sem_of (by decide) rfl rfl rfl (Nat.le_of_ble_eq_true rfl) (lv := [some (aR v0), some (aI v1), some (aI v2), some (aI v3), none, none, none]) rfl ?_
  refine g_iload_n (pc' := 1) dX5_leafAfter_0 rfl rfl ?_
  refine g_bipush (pc' := 3) (-2 : Int32) dX5_leafAfter_1 rfl (by decide) ?_
  refine g_iload_n (pc' := 4) dX5_leafAfter_3 rfl rfl ?_
  refine g_ishl (pc' := 5) dX5_leafAfter_4 rfl ?_
  refine g_iand (pc' := 6) dX5_leafAfter_5 rfl ?_
  obtain ⟨r2, M1, e2, hf⟩ := bnd_some hf
  refine g_callSNi (pc' := 9) (k' := 0) (u' := 0) (fr2 := 1) (As := [aI (v1 &&& ((-2 : Int32) <<< (v2 &&& 31)))]) (st := []) cf_X11_lowestBit (List.mem_of_getElem? (i := 9) rfl) (by omega) dX5_leafAfter_6 rfl rfl rfl (Nat.le_of_ble_eq_true rfl) (Or.inl rfl) (Nat.le_refl _) (Nat.le_refl _) (Nat.le_refl _) (Nat.le_refl _) (s_X11_lowestBit (v1 &&& ((-2 : Int32) <<< (v2 &&& 31))) M _ e2) ?_
  refine g_istore (pc' := 11) (lv' := [some (aR v0), some (aI v1), some (aI v2), some (aI v3), some (aI r2), none, none]) dX5_leafAfter_9 rfl rfl (by decide) rfl ?_
  refine g_iload (pc' := 13) dX5_leafAfter_11 rfl rfl ?_
  refine g_iconst (pc' := 14) (-1 : Int32) dX5_leafAfter_13 rfl (by decide) ?_
  refine g_icmp_ne (pc' := 17) 21 dX5_leafAfter_14 rfl (by decide) (fun c3 => ?_) (fun c3 => ?_)
  · have hf := ite_f c3 hf
    refine g_aload_n (pc' := 22) dX5_leafAfter_21 rfl rfl ?_
    refine g_iload_n (pc' := 23) dX5_leafAfter_22 rfl rfl ?_
    refine g_iload (pc' := 25) dX5_leafAfter_23 rfl rfl ?_
    obtain ⟨h4, hf⟩ := chk_s hf
    obtain ⟨r6, M5, e6, hf⟩ := bnd_some hf
    refine g_callVi (pc' := 28) (k' := 0) (u' := 0) (fr2 := 2) (As := [aI v2, aI r2]) (b := v0) (st := []) cf_X5_levelOf q_1063 (by omega) (ci := 5) rfl rfl (by decide) dX5_leafAfter_25 rfl rfl rfl (Nat.le_of_ble_eq_true rfl) (Or.inl rfl) (Nat.le_refl _) (Nat.le_refl _) (Nat.le_refl _) (Nat.le_refl _) h4 (s_X5_levelOf v0 v2 r2 M1 _ e6) ?_
    refine g_widen (k' := 0) (u' := 0) (by omega) (by omega) ?_
    exact s_X5_leafAfter_28 v0 v1 v2 v3 r2 r6 M5 _ hf
  · have hf := ite_t c3 hf
    refine g_iconst (pc' := 18) (0 : Int32) dX5_leafAfter_17 rfl (by decide) ?_
    refine g_goto (pc' := 28) dX5_leafAfter_18 (by decide) ?_
    refine g_widen (k' := 0) (u' := 0) (by omega) (by omega) ?_
    exact s_X5_leafAfter_28 v0 v1 v2 v3 r2 (0 : Int32) M1 _ hf
def f_X5_greatestOfLeaves_4 : Nat → Nat → Nat → Int32 → Int32 → Mem → Option (Int32 × Mem)
  | 0, _, _, _, _, _ => none
  | n + 1, v0, v1, v2, v3, M =>
    if mK M v0 = 6 then
      if (mI M v0 1) ≤ v3 then
        some (v2, M)
      else
        if mK M (mR M v0 12) = 21 then
          if inB v3 (mN M (mR M v0 12)) = true then
            if mK M v1 = 21 then
              if inB (mI M (mR M v0 12) v3.toNatClampNeg) (mN M v1) = true then
                f_X5_greatestOfLeaves_4 n v0 v1 (if v2 < (mI M v1 (mI M (mR M v0 12) v3.toNatClampNeg).toNatClampNeg) then (mI M v1 (mI M (mR M v0 12) v3.toNatClampNeg).toNatClampNeg) else v2) (v3 + 1) M
              else none
            else none
          else none
        else none
    else none
def f_X5_greatestOfLeaves (v0 : Nat) (v1 : Nat) (M : Mem) : Option (Int32 × Mem) :=
  f_X5_greatestOfLeaves_4 FUEL v0 v1 (0 : Int32) (0 : Int32) M
theorem s_X5_greatestOfLeaves_4 : ∀ (n : Nat) (v0 : Nat) (v1 : Nat) (v2 : Int32) (v3 : Int32) (M : Mem) (r : (Int32 × Mem)), f_X5_greatestOfLeaves_4 n v0 v1 v2 v3 M = some r → G mi_X5_greatestOfLeaves 1 (oI r.1) r.2 4 [some (aR v0), some (aR v1), some (aI v2), some (aI v3)] [] M 0 0 := by
  intro n
  induction n with
  | zero => intro v0 v1 v2 v3 M r hf; cases hf
  | succ n ih =>
    intro v0 v1 v2 v3 M r hf
    unfold f_X5_greatestOfLeaves_4 at hf
    refine g_iload_n (pc' := 5) dX5_greatestOfLeaves_4 rfl rfl ?_
    refine g_aload_n (pc' := 6) dX5_greatestOfLeaves_5 rfl rfl ?_
    obtain ⟨h1, hf⟩ := chk_s hf
    refine g_getI (pc' := 9) 5 1 rfl rfl (by decide) inX5 (by decide) rfl rfl q_222 dX5_greatestOfLeaves_6 rfl h1 ?_
    refine g_icmp_ge (pc' := 12) 31 dX5_greatestOfLeaves_9 rfl (by decide) (fun c2 => ?_) (fun c2 => ?_)
    · have hf := ite_t c2 hf
      refine g_iload_n (pc' := 32) dX5_greatestOfLeaves_31 rfl rfl ?_
      cases hf
      exact g_ireturn dX5_greatestOfLeaves_32 rfl (Nat.le_of_ble_eq_true rfl) (Nat.le_of_ble_eq_true rfl)
    · have hf := ite_f c2 hf
      refine g_iload_n (pc' := 13) dX5_greatestOfLeaves_12 rfl rfl ?_
      refine g_aload_n (pc' := 14) dX5_greatestOfLeaves_13 rfl rfl ?_
      refine g_aload_n (pc' := 15) dX5_greatestOfLeaves_14 rfl rfl ?_
      refine g_getR (pc' := 18) 5 12 rfl rfl (by decide) inX5 (by decide) rfl rfl q_109 dX5_greatestOfLeaves_15 rfl h1 ?_
      refine g_iload_n (pc' := 19) dX5_greatestOfLeaves_18 rfl rfl ?_
      obtain ⟨h3, hf⟩ := chk_s hf
      obtain ⟨b4, hf⟩ := chk_s hf
      refine g_iald (pc' := 20) dX5_greatestOfLeaves_19 rfl h3 (inB_in b4) ?_
      obtain ⟨h5, hf⟩ := chk_s hf
      obtain ⟨b6, hf⟩ := chk_s hf
      refine g_iald (pc' := 21) dX5_greatestOfLeaves_20 rfl h5 (inB_in b6) ?_
      refine g_max (pc' := 24) q_809 q_810 wall_i_java_lang_Math q_811 (by omega) (Nat.le_of_ble_eq_true rfl) (Nat.le_of_ble_eq_true rfl) (Nat.le_of_ble_eq_true rfl) dX5_greatestOfLeaves_21 rfl ?_
      refine g_istore_n (pc' := 25) (lv' := [some (aR v0), some (aR v1), some (aI (if v2 < (mI M v1 (mI M (mR M v0 12) v3.toNatClampNeg).toNatClampNeg) then (mI M v1 (mI M (mR M v0 12) v3.toNatClampNeg).toNatClampNeg) else v2)), some (aI v3)]) dX5_greatestOfLeaves_24 rfl rfl (by decide) rfl ?_
      refine g_iinc (pc' := 28) (lv' := [some (aR v0), some (aR v1), some (aI (if v2 < (mI M v1 (mI M (mR M v0 12) v3.toNatClampNeg).toNatClampNeg) then (mI M v1 (mI M (mR M v0 12) v3.toNatClampNeg).toNatClampNeg) else v2)), some (aI (v3 + 1))]) (v3 + 1) dX5_greatestOfLeaves_25 rfl rfl (by rfl) rfl (by decide) rfl ?_
      refine g_goto (pc' := 4) dX5_greatestOfLeaves_28 (by decide) ?_
      exact ih v0 v1 (if v2 < (mI M v1 (mI M (mR M v0 12) v3.toNatClampNeg).toNatClampNeg) then (mI M v1 (mI M (mR M v0 12) v3.toNatClampNeg).toNatClampNeg) else v2) (v3 + 1) M _ hf
theorem s_X5_greatestOfLeaves (v0 : Nat) (v1 : Nat) (M : Mem) (r : (Int32 × Mem)) (hf : f_X5_greatestOfLeaves v0 v1 M = some r) : Sem mi_X5_greatestOfLeaves (1) [aR v0, aR v1] M (oI r.1) r.2 := by
  unfold f_X5_greatestOfLeaves at hf
  refine sem_of (by decide) rfl rfl rfl (Nat.le_of_ble_eq_true rfl) (lv := [some (aR v0), some (aR v1), none, none]) rfl ?_
  refine g_iconst (pc' := 1) (0 : Int32) dX5_greatestOfLeaves_0 rfl (by decide) ?_
  refine g_istore_n (pc' := 2) (lv' := [some (aR v0), some (aR v1), some (aI (0 : Int32)), none]) dX5_greatestOfLeaves_1 rfl rfl (by decide) rfl ?_
  refine g_iconst (pc' := 3) (0 : Int32) dX5_greatestOfLeaves_2 rfl (by decide) ?_
  refine g_istore_n (pc' := 4) (lv' := [some (aR v0), some (aR v1), some (aI (0 : Int32)), some (aI (0 : Int32))]) dX5_greatestOfLeaves_3 rfl rfl (by decide) rfl ?_
  exact s_X5_greatestOfLeaves_4 FUEL v0 v1 (0 : Int32) (0 : Int32) M _ hf
def f_J6_bitCount_0f7a4 (v0 : Int32) (M : Mem) : Option (Int32 × Mem) :=
  some ((((((((v0 - (((v0.toUInt32 >>> ((1 : Int32).toUInt32 &&& Int32.toUInt32 31)).toInt32) &&& (1431655765 : Int32))) &&& (858993459 : Int32)) + ((((v0 - (((v0.toUInt32 >>> ((1 : Int32).toUInt32 &&& Int32.toUInt32 31)).toInt32) &&& (1431655765 : Int32))).toUInt32 >>> ((2 : Int32).toUInt32 &&& Int32.toUInt32 31)).toInt32) &&& (858993459 : Int32))) + (((((v0 - (((v0.toUInt32 >>> ((1 : Int32).toUInt32 &&& Int32.toUInt32 31)).toInt32) &&& (1431655765 : Int32))) &&& (858993459 : Int32)) + ((((v0 - (((v0.toUInt32 >>> ((1 : Int32).toUInt32 &&& Int32.toUInt32 31)).toInt32) &&& (1431655765 : Int32))).toUInt32 >>> ((2 : Int32).toUInt32 &&& Int32.toUInt32 31)).toInt32) &&& (858993459 : Int32))).toUInt32 >>> ((4 : Int32).toUInt32 &&& Int32.toUInt32 31)).toInt32)) &&& (252645135 : Int32)) + (((((((v0 - (((v0.toUInt32 >>> ((1 : Int32).toUInt32 &&& Int32.toUInt32 31)).toInt32) &&& (1431655765 : Int32))) &&& (858993459 : Int32)) + ((((v0 - (((v0.toUInt32 >>> ((1 : Int32).toUInt32 &&& Int32.toUInt32 31)).toInt32) &&& (1431655765 : Int32))).toUInt32 >>> ((2 : Int32).toUInt32 &&& Int32.toUInt32 31)).toInt32) &&& (858993459 : Int32))) + (((((v0 - (((v0.toUInt32 >>> ((1 : Int32).toUInt32 &&& Int32.toUInt32 31)).toInt32) &&& (1431655765 : Int32))) &&& (858993459 : Int32)) + ((((v0 - (((v0.toUInt32 >>> ((1 : Int32).toUInt32 &&& Int32.toUInt32 31)).toInt32) &&& (1431655765 : Int32))).toUInt32 >>> ((2 : Int32).toUInt32 &&& Int32.toUInt32 31)).toInt32) &&& (858993459 : Int32))).toUInt32 >>> ((4 : Int32).toUInt32 &&& Int32.toUInt32 31)).toInt32)) &&& (252645135 : Int32)).toUInt32 >>> ((8 : Int32).toUInt32 &&& Int32.toUInt32 31)).toInt32)) + ((((((((v0 - (((v0.toUInt32 >>> ((1 : Int32).toUInt32 &&& Int32.toUInt32 31)).toInt32) &&& (1431655765 : Int32))) &&& (858993459 : Int32)) + ((((v0 - (((v0.toUInt32 >>> ((1 : Int32).toUInt32 &&& Int32.toUInt32 31)).toInt32) &&& (1431655765 : Int32))).toUInt32 >>> ((2 : Int32).toUInt32 &&& Int32.toUInt32 31)).toInt32) &&& (858993459 : Int32))) + (((((v0 - (((v0.toUInt32 >>> ((1 : Int32).toUInt32 &&& Int32.toUInt32 31)).toInt32) &&& (1431655765 : Int32))) &&& (858993459 : Int32)) + ((((v0 - (((v0.toUInt32 >>> ((1 : Int32).toUInt32 &&& Int32.toUInt32 31)).toInt32) &&& (1431655765 : Int32))).toUInt32 >>> ((2 : Int32).toUInt32 &&& Int32.toUInt32 31)).toInt32) &&& (858993459 : Int32))).toUInt32 >>> ((4 : Int32).toUInt32 &&& Int32.toUInt32 31)).toInt32)) &&& (252645135 : Int32)) + (((((((v0 - (((v0.toUInt32 >>> ((1 : Int32).toUInt32 &&& Int32.toUInt32 31)).toInt32) &&& (1431655765 : Int32))) &&& (858993459 : Int32)) + ((((v0 - (((v0.toUInt32 >>> ((1 : Int32).toUInt32 &&& Int32.toUInt32 31)).toInt32) &&& (1431655765 : Int32))).toUInt32 >>> ((2 : Int32).toUInt32 &&& Int32.toUInt32 31)).toInt32) &&& (858993459 : Int32))) + (((((v0 - (((v0.toUInt32 >>> ((1 : Int32).toUInt32 &&& Int32.toUInt32 31)).toInt32) &&& (1431655765 : Int32))) &&& (858993459 : Int32)) + ((((v0 - (((v0.toUInt32 >>> ((1 : Int32).toUInt32 &&& Int32.toUInt32 31)).toInt32) &&& (1431655765 : Int32))).toUInt32 >>> ((2 : Int32).toUInt32 &&& Int32.toUInt32 31)).toInt32) &&& (858993459 : Int32))).toUInt32 >>> ((4 : Int32).toUInt32 &&& Int32.toUInt32 31)).toInt32)) &&& (252645135 : Int32)).toUInt32 >>> ((8 : Int32).toUInt32 &&& Int32.toUInt32 31)).toInt32)).toUInt32 >>> ((16 : Int32).toUInt32 &&& Int32.toUInt32 31)).toInt32)) &&& (63 : Int32), M)
theorem s_J6_bitCount_0f7a4 (v0 : Int32) (M : Mem) (r : (Int32 × Mem)) (hf : f_J6_bitCount_0f7a4 v0 M = some r) : Sem mi_J6_bitCount_0f7a4 (1) [aI v0] M (oI r.1) r.2 := by
  unfold f_J6_bitCount_0f7a4 at hf
  refine sem_of (by decide) rfl rfl rfl (Nat.le_of_ble_eq_true rfl) (lv := [some (aI v0)]) rfl ?_
  refine g_iload_n (pc' := 1) dJ6_bitCount_0f7a4_0 rfl rfl ?_
  refine g_iload_n (pc' := 2) dJ6_bitCount_0f7a4_1 rfl rfl ?_
  refine g_iconst (pc' := 3) (1 : Int32) dJ6_bitCount_0f7a4_2 rfl (by decide) ?_
  refine g_iushr (pc' := 4) dJ6_bitCount_0f7a4_3 rfl ?_
  refine g_ldcw (pc' := 7) (v := (1431655765 : Int32)) dJ6_bitCount_0f7a4_4 rfl q_820 ?_
  refine g_iand (pc' := 8) dJ6_bitCount_0f7a4_7 rfl ?_
  refine g_isub (pc' := 9) dJ6_bitCount_0f7a4_8 rfl ?_
  refine g_istore_n (pc' := 10) (lv' := [some (aI (v0 - (((v0.toUInt32 >>> ((1 : Int32).toUInt32 &&& Int32.toUInt32 31)).toInt32) &&& (1431655765 : Int32))))]) dJ6_bitCount_0f7a4_9 rfl rfl (by decide) rfl ?_
  refine g_iload_n (pc' := 11) dJ6_bitCount_0f7a4_10 rfl rfl ?_
  refine g_ldcw (pc' := 14) (v := (858993459 : Int32)) dJ6_bitCount_0f7a4_11 rfl q_821 ?_
  refine g_iand (pc' := 15) dJ6_bitCount_0f7a4_14 rfl ?_
  refine g_iload_n (pc' := 16) dJ6_bitCount_0f7a4_15 rfl rfl ?_
  refine g_iconst (pc' := 17) (2 : Int32) dJ6_bitCount_0f7a4_16 rfl (by decide) ?_
  refine g_iushr (pc' := 18) dJ6_bitCount_0f7a4_17 rfl ?_
  refine g_ldcw (pc' := 21) (v := (858993459 : Int32)) dJ6_bitCount_0f7a4_18 rfl q_821 ?_
  refine g_iand (pc' := 22) dJ6_bitCount_0f7a4_21 rfl ?_
  refine g_iadd (pc' := 23) dJ6_bitCount_0f7a4_22 rfl ?_
  refine g_istore_n (pc' := 24) (lv' := [some (aI (((v0 - (((v0.toUInt32 >>> ((1 : Int32).toUInt32 &&& Int32.toUInt32 31)).toInt32) &&& (1431655765 : Int32))) &&& (858993459 : Int32)) + ((((v0 - (((v0.toUInt32 >>> ((1 : Int32).toUInt32 &&& Int32.toUInt32 31)).toInt32) &&& (1431655765 : Int32))).toUInt32 >>> ((2 : Int32).toUInt32 &&& Int32.toUInt32 31)).toInt32) &&& (858993459 : Int32))))]) dJ6_bitCount_0f7a4_23 rfl rfl (by decide) rfl ?_
  refine g_iload_n (pc' := 25) dJ6_bitCount_0f7a4_24 rfl rfl ?_
  refine g_iload_n (pc' := 26) dJ6_bitCount_0f7a4_25 rfl rfl ?_
  refine g_iconst (pc' := 27) (4 : Int32) dJ6_bitCount_0f7a4_26 rfl (by decide) ?_
  refine g_iushr (pc' := 28) dJ6_bitCount_0f7a4_27 rfl ?_
  refine g_iadd (pc' := 29) dJ6_bitCount_0f7a4_28 rfl ?_
  refine g_ldcw (pc' := 32) (v := (252645135 : Int32)) dJ6_bitCount_0f7a4_29 rfl q_822 ?_
  refine g_iand (pc' := 33) dJ6_bitCount_0f7a4_32 rfl ?_
  refine g_istore_n (pc' := 34) (lv' := [some (aI (((((v0 - (((v0.toUInt32 >>> ((1 : Int32).toUInt32 &&& Int32.toUInt32 31)).toInt32) &&& (1431655765 : Int32))) &&& (858993459 : Int32)) + ((((v0 - (((v0.toUInt32 >>> ((1 : Int32).toUInt32 &&& Int32.toUInt32 31)).toInt32) &&& (1431655765 : Int32))).toUInt32 >>> ((2 : Int32).toUInt32 &&& Int32.toUInt32 31)).toInt32) &&& (858993459 : Int32))) + (((((v0 - (((v0.toUInt32 >>> ((1 : Int32).toUInt32 &&& Int32.toUInt32 31)).toInt32) &&& (1431655765 : Int32))) &&& (858993459 : Int32)) + ((((v0 - (((v0.toUInt32 >>> ((1 : Int32).toUInt32 &&& Int32.toUInt32 31)).toInt32) &&& (1431655765 : Int32))).toUInt32 >>> ((2 : Int32).toUInt32 &&& Int32.toUInt32 31)).toInt32) &&& (858993459 : Int32))).toUInt32 >>> ((4 : Int32).toUInt32 &&& Int32.toUInt32 31)).toInt32)) &&& (252645135 : Int32)))]) dJ6_bitCount_0f7a4_33 rfl rfl (by decide) rfl ?_
  refine g_iload_n (pc' := 35) dJ6_bitCount_0f7a4_34 rfl rfl ?_
  refine g_iload_n (pc' := 36) dJ6_bitCount_0f7a4_35 rfl rfl ?_
  refine g_bipush (pc' := 38) (8 : Int32) dJ6_bitCount_0f7a4_36 rfl (by decide) ?_
  refine g_iushr (pc' := 39) dJ6_bitCount_0f7a4_38 rfl ?_
  refine g_iadd (pc' := 40) dJ6_bitCount_0f7a4_39 rfl ?_
  refine g_istore_n (pc' := 41) (lv' := [some (aI ((((((v0 - (((v0.toUInt32 >>> ((1 : Int32).toUInt32 &&& Int32.toUInt32 31)).toInt32) &&& (1431655765 : Int32))) &&& (858993459 : Int32)) + ((((v0 - (((v0.toUInt32 >>> ((1 : Int32).toUInt32 &&& Int32.toUInt32 31)).toInt32) &&& (1431655765 : Int32))).toUInt32 >>> ((2 : Int32).toUInt32 &&& Int32.toUInt32 31)).toInt32) &&& (858993459 : Int32))) + (((((v0 - (((v0.toUInt32 >>> ((1 : Int32).toUInt32 &&& Int32.toUInt32 31)).toInt32) &&& (1431655765 : Int32))) &&& (858993459 : Int32)) + ((((v0 - (((v0.toUInt32 >>> ((1 : Int32).toUInt32 &&& Int32.toUInt32 31)).toInt32) &&& (1431655765 : Int32))).toUInt32 >>> ((2 : Int32).toUInt32 &&& Int32.toUInt32 31)).toInt32) &&& (858993459 : Int32))).toUInt32 >>> ((4 : Int32).toUInt32 &&& Int32.toUInt32 31)).toInt32)) &&& (252645135 : Int32)) + (((((((v0 - (((v0.toUInt32 >>> ((1 : Int32).toUInt32 &&& Int32.toUInt32 31)).toInt32) &&& (1431655765 : Int32))) &&& (858993459 : Int32)) + ((((v0 - (((v0.toUInt32 >>> ((1 : Int32).toUInt32 &&& Int32.toUInt32 31)).toInt32) &&& (1431655765 : Int32))).toUInt32 >>> ((2 : Int32).toUInt32 &&& Int32.toUInt32 31)).toInt32) &&& (858993459 : Int32))) + (((((v0 - (((v0.toUInt32 >>> ((1 : Int32).toUInt32 &&& Int32.toUInt32 31)).toInt32) &&& (1431655765 : Int32))) &&& (858993459 : Int32)) + ((((v0 - (((v0.toUInt32 >>> ((1 : Int32).toUInt32 &&& Int32.toUInt32 31)).toInt32) &&& (1431655765 : Int32))).toUInt32 >>> ((2 : Int32).toUInt32 &&& Int32.toUInt32 31)).toInt32) &&& (858993459 : Int32))).toUInt32 >>> ((4 : Int32).toUInt32 &&& Int32.toUInt32 31)).toInt32)) &&& (252645135 : Int32)).toUInt32 >>> ((8 : Int32).toUInt32 &&& Int32.toUInt32 31)).toInt32)))]) dJ6_bitCount_0f7a4_40 rfl rfl (by decide) rfl ?_
  refine g_iload_n (pc' := 42) dJ6_bitCount_0f7a4_41 rfl rfl ?_
  refine g_iload_n (pc' := 43) dJ6_bitCount_0f7a4_42 rfl rfl ?_
  refine g_bipush (pc' := 45) (16 : Int32) dJ6_bitCount_0f7a4_43 rfl (by decide) ?_
  refine g_iushr (pc' := 46) dJ6_bitCount_0f7a4_45 rfl ?_
  refine g_iadd (pc' := 47) dJ6_bitCount_0f7a4_46 rfl ?_
  refine g_istore_n (pc' := 48) (lv' := [some (aI (((((((v0 - (((v0.toUInt32 >>> ((1 : Int32).toUInt32 &&& Int32.toUInt32 31)).toInt32) &&& (1431655765 : Int32))) &&& (858993459 : Int32)) + ((((v0 - (((v0.toUInt32 >>> ((1 : Int32).toUInt32 &&& Int32.toUInt32 31)).toInt32) &&& (1431655765 : Int32))).toUInt32 >>> ((2 : Int32).toUInt32 &&& Int32.toUInt32 31)).toInt32) &&& (858993459 : Int32))) + (((((v0 - (((v0.toUInt32 >>> ((1 : Int32).toUInt32 &&& Int32.toUInt32 31)).toInt32) &&& (1431655765 : Int32))) &&& (858993459 : Int32)) + ((((v0 - (((v0.toUInt32 >>> ((1 : Int32).toUInt32 &&& Int32.toUInt32 31)).toInt32) &&& (1431655765 : Int32))).toUInt32 >>> ((2 : Int32).toUInt32 &&& Int32.toUInt32 31)).toInt32) &&& (858993459 : Int32))).toUInt32 >>> ((4 : Int32).toUInt32 &&& Int32.toUInt32 31)).toInt32)) &&& (252645135 : Int32)) + (((((((v0 - (((v0.toUInt32 >>> ((1 : Int32).toUInt32 &&& Int32.toUInt32 31)).toInt32) &&& (1431655765 : Int32))) &&& (858993459 : Int32)) + ((((v0 - (((v0.toUInt32 >>> ((1 : Int32).toUInt32 &&& Int32.toUInt32 31)).toInt32) &&& (1431655765 : Int32))).toUInt32 >>> ((2 : Int32).toUInt32 &&& Int32.toUInt32 31)).toInt32) &&& (858993459 : Int32))) + (((((v0 - (((v0.toUInt32 >>> ((1 : Int32).toUInt32 &&& Int32.toUInt32 31)).toInt32) &&& (1431655765 : Int32))) &&& (858993459 : Int32)) + ((((v0 - (((v0.toUInt32 >>> ((1 : Int32).toUInt32 &&& Int32.toUInt32 31)).toInt32) &&& (1431655765 : Int32))).toUInt32 >>> ((2 : Int32).toUInt32 &&& Int32.toUInt32 31)).toInt32) &&& (858993459 : Int32))).toUInt32 >>> ((4 : Int32).toUInt32 &&& Int32.toUInt32 31)).toInt32)) &&& (252645135 : Int32)).toUInt32 >>> ((8 : Int32).toUInt32 &&& Int32.toUInt32 31)).toInt32)) + ((((((((v0 - (((v0.toUInt32 >>> ((1 : Int32).toUInt32 &&& Int32.toUInt32 31)).toInt32) &&& (1431655765 : Int32))) &&& (858993459 : Int32)) + ((((v0 - (((v0.toUInt32 >>> ((1 : Int32).toUInt32 &&& Int32.toUInt32 31)).toInt32) &&& (1431655765 : Int32))).toUInt32 >>> ((2 : Int32).toUInt32 &&& Int32.toUInt32 31)).toInt32) &&& (858993459 : Int32))) + (((((v0 - (((v0.toUInt32 >>> ((1 : Int32).toUInt32 &&& Int32.toUInt32 31)).toInt32) &&& (1431655765 : Int32))) &&& (858993459 : Int32)) + ((((v0 - (((v0.toUInt32 >>> ((1 : Int32).toUInt32 &&& Int32.toUInt32 31)).toInt32) &&& (1431655765 : Int32))).toUInt32 >>> ((2 : Int32).toUInt32 &&& Int32.toUInt32 31)).toInt32) &&& (858993459 : Int32))).toUInt32 >>> ((4 : Int32).toUInt32 &&& Int32.toUInt32 31)).toInt32)) &&& (252645135 : Int32)) + (((((((v0 - (((v0.toUInt32 >>> ((1 : Int32).toUInt32 &&& Int32.toUInt32 31)).toInt32) &&& (1431655765 : Int32))) &&& (858993459 : Int32)) + ((((v0 - (((v0.toUInt32 >>> ((1 : Int32).toUInt32 &&& Int32.toUInt32 31)).toInt32) &&& (1431655765 : Int32))).toUInt32 >>> ((2 : Int32).toUInt32 &&& Int32.toUInt32 31)).toInt32) &&& (858993459 : Int32))) + (((((v0 - (((v0.toUInt32 >>> ((1 : Int32).toUInt32 &&& Int32.toUInt32 31)).toInt32) &&& (1431655765 : Int32))) &&& (858993459 : Int32)) + ((((v0 - (((v0.toUInt32 >>> ((1 : Int32).toUInt32 &&& Int32.toUInt32 31)).toInt32) &&& (1431655765 : Int32))).toUInt32 >>> ((2 : Int32).toUInt32 &&& Int32.toUInt32 31)).toInt32) &&& (858993459 : Int32))).toUInt32 >>> ((4 : Int32).toUInt32 &&& Int32.toUInt32 31)).toInt32)) &&& (252645135 : Int32)).toUInt32 >>> ((8 : Int32).toUInt32 &&& Int32.toUInt32 31)).toInt32)).toUInt32 >>> ((16 : Int32).toUInt32 &&& Int32.toUInt32 31)).toInt32)))]) dJ6_bitCount_0f7a4_47 rfl rfl (by decide) rfl ?_
  refine g_iload_n (pc' := 49) dJ6_bitCount_0f7a4_48 rfl rfl ?_
  refine g_bipush (pc' := 51) (63 : Int32) dJ6_bitCount_0f7a4_49 rfl (by decide) ?_
  refine g_iand (pc' := 52) dJ6_bitCount_0f7a4_51 rfl ?_
  cases hf
  exact g_ireturn dJ6_bitCount_0f7a4_52 rfl (Nat.le_of_ble_eq_true rfl) (Nat.le_of_ble_eq_true rfl)
def f_X5_tellsShapes_32 (k2 : Nat → Int32 → Int32 → Mem → Option (Int32 × Mem)) (v0 : Nat) (v1 : Int32) (v2 : Int32) (M : Mem) : Option (Int32 × Mem) :=
  k2 v0 v1 (v2 + 1) M
def f_X5_tellsShapes_2 : Nat → Nat → Int32 → Int32 → Mem → Option (Int32 × Mem)
  | 0, _, _, _, _ => none
  | n + 1, v0, v1, v2, M =>
    if mK M v0 = 6 then
      if (mI M v0 0) ≤ v2 then
        some ((1 : Int32), M)
      else
        if mK M (mR M v0 2) = 21 then
          if inB v2 (mN M (mR M v0 2)) = true then
            if (mI M (mR M v0 2) v2.toNatClampNeg) = 0 then
              f_X5_tellsShapes_32 (f_X5_tellsShapes_2 n) v0 v1 v2 M
            else
              if mK M (mR M v0 10) = 21 then
                if inB v2 (mN M (mR M v0 10)) = true then
                  if ((mI M (mR M v0 10) v2.toNatClampNeg) &&& v1) = 0 then
                    some ((0 : Int32), M)
                  else
                    f_X5_tellsShapes_32 (f_X5_tellsShapes_2 n) v0 v1 v2 M
                else none
              else none
          else none
        else none
    else none
def f_X5_tellsShapes (v0 : Nat) (v1 : Int32) (M : Mem) : Option (Int32 × Mem) :=
  f_X5_tellsShapes_2 FUEL v0 v1 (0 : Int32) M
theorem s_X5_tellsShapes_32 (k2 : Nat → Int32 → Int32 → Mem → Option (Int32 × Mem)) (hk2 : ∀ (v0 : Nat) (v1 : Int32) (v2 : Int32) (M : Mem) (r : (Int32 × Mem)), k2 v0 v1 v2 M = some r → G mi_X5_tellsShapes 1 (oI r.1) r.2 2 [some (aR v0), some (aI v1), some (aI v2)] [] M 0 0) (v0 : Nat) (v1 : Int32) (v2 : Int32) (M : Mem) (r : (Int32 × Mem)) (hf : f_X5_tellsShapes_32 k2 v0 v1 v2 M = some r) : G mi_X5_tellsShapes 1 (oI r.1) r.2 32 [some (aR v0), some (aI v1), some (aI v2)] [] M 0 0 := by
  unfold f_X5_tellsShapes_32 at hf
  refine g_iinc (pc' := 35) (lv' := [some (aR v0), some (aI v1), some (aI (v2 + 1))]) (v2 + 1) dX5_tellsShapes_32 rfl rfl (by rfl) rfl (by decide) rfl ?_
  refine g_goto (pc' := 2) dX5_tellsShapes_35 (by decide) ?_
  exact hk2 v0 v1 (v2 + 1) M _ hf
theorem s_X5_tellsShapes_2 : ∀ (n : Nat) (v0 : Nat) (v1 : Int32) (v2 : Int32) (M : Mem) (r : (Int32 × Mem)), f_X5_tellsShapes_2 n v0 v1 v2 M = some r → G mi_X5_tellsShapes 1 (oI r.1) r.2 2 [some (aR v0), some (aI v1), some (aI v2)] [] M 0 0 := by
  intro n
  induction n with
  | zero => intro v0 v1 v2 M r hf; cases hf
  | succ n ih =>
    intro v0 v1 v2 M r hf
    unfold f_X5_tellsShapes_2 at hf
    refine g_iload_n (pc' := 3) dX5_tellsShapes_2 rfl rfl ?_
    refine g_aload_n (pc' := 4) dX5_tellsShapes_3 rfl rfl ?_
    obtain ⟨h1, hf⟩ := chk_s hf
    refine g_getI (pc' := 7) 5 0 rfl rfl (by decide) inX5 (by decide) rfl rfl q_221 dX5_tellsShapes_4 rfl h1 ?_
    refine g_icmp_ge (pc' := 10) 38 dX5_tellsShapes_7 rfl (by decide) (fun c2 => ?_) (fun c2 => ?_)
    · have hf := ite_t c2 hf
      refine g_iconst (pc' := 39) (1 : Int32) dX5_tellsShapes_38 rfl (by decide) ?_
      cases hf
      exact g_zreturn dX5_tellsShapes_39 rfl (Or.inr rfl) (Nat.le_of_ble_eq_true rfl) (Nat.le_of_ble_eq_true rfl)
    · have hf := ite_f c2 hf
      refine g_aload_n (pc' := 11) dX5_tellsShapes_10 rfl rfl ?_
      refine g_getR (pc' := 14) 5 2 rfl rfl (by decide) inX5 (by decide) rfl rfl q_99 dX5_tellsShapes_11 rfl h1 ?_
      refine g_iload_n (pc' := 15) dX5_tellsShapes_14 rfl rfl ?_
      obtain ⟨h3, hf⟩ := chk_s hf
      obtain ⟨b4, hf⟩ := chk_s hf
      refine g_iald (pc' := 16) dX5_tellsShapes_15 rfl h3 (inB_in b4) ?_
      refine g_if_eq (pc' := 19) 32 dX5_tellsShapes_16 rfl (by decide) (fun c5 => ?_) (fun c5 => ?_)
      · have hf := ite_t c5 hf
        exact s_X5_tellsShapes_32 (f_X5_tellsShapes_2 n) ih v0 v1 v2 M _ hf
      · have hf := ite_f c5 hf
        refine g_aload_n (pc' := 20) dX5_tellsShapes_19 rfl rfl ?_
        refine g_getR (pc' := 23) 5 10 rfl rfl (by decide) inX5 (by decide) rfl rfl q_107 dX5_tellsShapes_20 rfl h1 ?_
        refine g_iload_n (pc' := 24) dX5_tellsShapes_23 rfl rfl ?_
        obtain ⟨h6, hf⟩ := chk_s hf
        obtain ⟨b7, hf⟩ := chk_s hf
        refine g_iald (pc' := 25) dX5_tellsShapes_24 rfl h6 (inB_in b7) ?_
        refine g_iload_n (pc' := 26) dX5_tellsShapes_25 rfl rfl ?_
        refine g_iand (pc' := 27) dX5_tellsShapes_26 rfl ?_
        refine g_if_ne (pc' := 30) 32 dX5_tellsShapes_27 rfl (by decide) (fun c8 => ?_) (fun c8 => ?_)
        · have hf := ite_f c8 hf
          exact s_X5_tellsShapes_32 (f_X5_tellsShapes_2 n) ih v0 v1 v2 M _ hf
        · have hf := ite_t c8 hf
          refine g_iconst (pc' := 31) (0 : Int32) dX5_tellsShapes_30 rfl (by decide) ?_
          cases hf
          exact g_zreturn dX5_tellsShapes_31 rfl (Or.inl rfl) (Nat.le_of_ble_eq_true rfl) (Nat.le_of_ble_eq_true rfl)
theorem s_X5_tellsShapes (v0 : Nat) (v1 : Int32) (M : Mem) (r : (Int32 × Mem)) (hf : f_X5_tellsShapes v0 v1 M = some r) : Sem mi_X5_tellsShapes (1) [aR v0, aI v1] M (oI r.1) r.2 := by
  unfold f_X5_tellsShapes at hf
  refine sem_of (by decide) rfl rfl rfl (Nat.le_of_ble_eq_true rfl) (lv := [some (aR v0), some (aI v1), none]) rfl ?_
  refine g_iconst (pc' := 1) (0 : Int32) dX5_tellsShapes_0 rfl (by decide) ?_
  refine g_istore_n (pc' := 2) (lv' := [some (aR v0), some (aI v1), some (aI (0 : Int32))]) dX5_tellsShapes_1 rfl rfl (by decide) rfl ?_
  exact s_X5_tellsShapes_2 FUEL v0 v1 (0 : Int32) M _ hf
def f_X5_cover_36 (k11 : Nat → Int32 → Int32 → Mem → Option (Int32 × Mem)) (v0 : Nat) (v1 : Int32) (v2 : Int32) (M : Mem) : Option (Int32 × Mem) :=
  k11 v0 v1 (v2 + (-1)) M
def f_X5_cover_11 : Nat → Nat → Int32 → Int32 → Mem → Option (Int32 × Mem)
  | 0, _, _, _, _ => none
  | n + 1, v0, v1, v2, M =>
    if v2 < 0 then
      some (v1, M)
    else
      bnd (f_J6_bitCount_0f7a4 v2 M) fun r3 M2 =>
      bnd (f_J6_bitCount_0f7a4 v1 M2) fun r5 M4 =>
      if r5 < r3 then
        f_X5_cover_36 (f_X5_cover_11 n) v0 v1 v2 M4
      else
        if mK M4 v0 = 6 then
          bnd (f_X5_tellsShapes v0 v2 M4) fun r9 M8 =>
          if r9 = 0 then
            f_X5_cover_36 (f_X5_cover_11 n) v0 v1 v2 M8
          else
            f_X5_cover_36 (f_X5_cover_11 n) v0 v2 v2 M8
        else none
def f_X5_cover (v0 : Nat) (M : Mem) : Option (Int32 × Mem) :=
  if mK M v0 = 6 then
    f_X5_cover_11 FUEL v0 (((1 : Int32) <<< ((mI M v0 1) &&& 31)) - (1 : Int32)) (((1 : Int32) <<< ((mI M v0 1) &&& 31)) - (1 : Int32)) M
  else none
theorem s_X5_cover_36 (k11 : Nat → Int32 → Int32 → Mem → Option (Int32 × Mem)) (hk11 : ∀ (v0 : Nat) (v1 : Int32) (v2 : Int32) (M : Mem) (r : (Int32 × Mem)), k11 v0 v1 v2 M = some r → G mi_X5_cover 2 (oI r.1) r.2 11 [some (aR v0), some (aI v1), some (aI v2)] [] M 0 0) (v0 : Nat) (v1 : Int32) (v2 : Int32) (M : Mem) (r : (Int32 × Mem)) (hf : f_X5_cover_36 k11 v0 v1 v2 M = some r) : G mi_X5_cover 2 (oI r.1) r.2 36 [some (aR v0), some (aI v1), some (aI v2)] [] M 0 0 := by
  unfold f_X5_cover_36 at hf
  refine g_iinc (pc' := 39) (lv' := [some (aR v0), some (aI v1), some (aI (v2 + (-1)))]) (v2 + (-1)) dX5_cover_36 rfl rfl (by rfl) rfl (by decide) rfl ?_
  refine g_goto (pc' := 11) dX5_cover_39 (by decide) ?_
  exact hk11 v0 v1 (v2 + (-1)) M _ hf
theorem s_X5_cover_11 : ∀ (n : Nat) (v0 : Nat) (v1 : Int32) (v2 : Int32) (M : Mem) (r : (Int32 × Mem)), f_X5_cover_11 n v0 v1 v2 M = some r → G mi_X5_cover 2 (oI r.1) r.2 11 [some (aR v0), some (aI v1), some (aI v2)] [] M 0 0 := by
  intro n
  induction n with
  | zero => intro v0 v1 v2 M r hf; cases hf
  | succ n ih =>
    intro v0 v1 v2 M r hf
    unfold f_X5_cover_11 at hf
    refine g_iload_n (pc' := 12) dX5_cover_11 rfl rfl ?_
    refine g_if_lt (pc' := 15) 42 dX5_cover_12 rfl (by decide) (fun c1 => ?_) (fun c1 => ?_)
    · have hf := ite_t c1 hf
      refine g_iload_n (pc' := 43) dX5_cover_42 rfl rfl ?_
      cases hf
      exact g_ireturn dX5_cover_43 rfl (Nat.le_of_ble_eq_true rfl) (Nat.le_of_ble_eq_true rfl)
    · have hf := ite_f c1 hf
      refine g_iload_n (pc' := 16) dX5_cover_15 rfl rfl ?_
      obtain ⟨r3, M2, e3, hf⟩ := bnd_some hf
      refine g_callSi (pc' := 19) (k' := 0) (u' := 0) (fr2 := 1) (As := [aI v2]) (st := []) cf_J6_bitCount_0f7a4 q_816 (by omega) dX5_cover_16 rfl rfl rfl (Nat.le_of_ble_eq_true rfl) (Or.inl rfl) (Nat.le_refl _) (Nat.le_refl _) (Nat.le_refl _) (Nat.le_refl _) (s_J6_bitCount_0f7a4 v2 M _ e3) ?_
      refine g_iload_n (pc' := 20) dX5_cover_19 rfl rfl ?_
      obtain ⟨r5, M4, e5, hf⟩ := bnd_some hf
      refine g_callSi (pc' := 23) (k' := 0) (u' := 0) (fr2 := 1) (As := [aI v1]) (st := [aI r3]) cf_J6_bitCount_0f7a4 q_816 (by omega) dX5_cover_20 rfl rfl rfl (Nat.le_of_ble_eq_true rfl) (Or.inl rfl) (Nat.le_refl _) (Nat.le_refl _) (Nat.le_refl _) (Nat.le_refl _) (s_J6_bitCount_0f7a4 v1 M2 _ e5) ?_
      refine g_icmp_gt (pc' := 26) 36 dX5_cover_23 rfl (by decide) (fun c6 => ?_) (fun c6 => ?_)
      · have hf := ite_t c6 hf
        refine g_widen (k' := 0) (u' := 0) (by omega) (by omega) ?_
        exact s_X5_cover_36 (f_X5_cover_11 n) ih v0 v1 v2 M4 _ hf
      · have hf := ite_f c6 hf
        refine g_aload_n (pc' := 27) dX5_cover_26 rfl rfl ?_
        refine g_iload_n (pc' := 28) dX5_cover_27 rfl rfl ?_
        obtain ⟨h7, hf⟩ := chk_s hf
        obtain ⟨r9, M8, e9, hf⟩ := bnd_some hf
        refine g_callVi (pc' := 31) (k' := 0) (u' := 0) (fr2 := 1) (As := [aI v2]) (b := v0) (st := []) cf_X5_tellsShapes q_823 (by omega) (ci := 5) rfl rfl (by decide) dX5_cover_28 rfl rfl rfl (Nat.le_of_ble_eq_true rfl) (Or.inl rfl) (Nat.le_refl _) (Nat.le_refl _) (Nat.le_refl _) (Nat.le_refl _) h7 (s_X5_tellsShapes v0 v2 M4 _ e9) ?_
        refine g_if_eq (pc' := 34) 36 dX5_cover_31 rfl (by decide) (fun c10 => ?_) (fun c10 => ?_)
        · have hf := ite_t c10 hf
          refine g_widen (k' := 0) (u' := 0) (by omega) (by omega) ?_
          exact s_X5_cover_36 (f_X5_cover_11 n) ih v0 v1 v2 M8 _ hf
        · have hf := ite_f c10 hf
          refine g_iload_n (pc' := 35) dX5_cover_34 rfl rfl ?_
          refine g_istore_n (pc' := 36) (lv' := [some (aR v0), some (aI v2), some (aI v2)]) dX5_cover_35 rfl rfl (by decide) rfl ?_
          refine g_widen (k' := 0) (u' := 0) (by omega) (by omega) ?_
          exact s_X5_cover_36 (f_X5_cover_11 n) ih v0 v2 v2 M8 _ hf
theorem s_X5_cover (v0 : Nat) (M : Mem) (r : (Int32 × Mem)) (hf : f_X5_cover v0 M = some r) : Sem mi_X5_cover (2) [aR v0] M (oI r.1) r.2 := by
  unfold f_X5_cover at hf
  refine sem_of (by decide) rfl rfl rfl (Nat.le_of_ble_eq_true rfl) (lv := [some (aR v0), none, none]) rfl ?_
  refine g_iconst (pc' := 1) (1 : Int32) dX5_cover_0 rfl (by decide) ?_
  refine g_aload_n (pc' := 2) dX5_cover_1 rfl rfl ?_
  obtain ⟨h1, hf⟩ := chk_s hf
  refine g_getI (pc' := 5) 5 1 rfl rfl (by decide) inX5 (by decide) rfl rfl q_222 dX5_cover_2 rfl h1 ?_
  refine g_ishl (pc' := 6) dX5_cover_5 rfl ?_
  refine g_iconst (pc' := 7) (1 : Int32) dX5_cover_6 rfl (by decide) ?_
  refine g_isub (pc' := 8) dX5_cover_7 rfl ?_
  refine g_istore_n (pc' := 9) (lv' := [some (aR v0), some (aI (((1 : Int32) <<< ((mI M v0 1) &&& 31)) - (1 : Int32))), none]) dX5_cover_8 rfl rfl (by decide) rfl ?_
  refine g_iload_n (pc' := 10) dX5_cover_9 rfl rfl ?_
  refine g_istore_n (pc' := 11) (lv' := [some (aR v0), some (aI (((1 : Int32) <<< ((mI M v0 1) &&& 31)) - (1 : Int32))), some (aI (((1 : Int32) <<< ((mI M v0 1) &&& 31)) - (1 : Int32)))]) dX5_cover_10 rfl rfl (by decide) rfl ?_
  exact s_X5_cover_11 FUEL v0 (((1 : Int32) <<< ((mI M v0 1) &&& 31)) - (1 : Int32)) (((1 : Int32) <<< ((mI M v0 1) &&& 31)) - (1 : Int32)) M _ hf
def f_X6_init (v0 : Nat) (M : Mem) : Option (Unit × Mem) :=
  if ¬ v0 = 0 then
    some ((), M)
  else none
theorem s_X6_init (v0 : Nat) (M : Mem) (r : (Unit × Mem)) (hf : f_X6_init v0 M = some r) : Sem mi_X6_init (1) [aR v0] M (oU r.1) r.2 := by
  unfold f_X6_init at hf
  refine sem_of (by decide) rfl rfl rfl (Nat.le_of_ble_eq_true rfl) (lv := [some (aR v0)]) rfl ?_
  refine g_aload_n (pc' := 1) dX6_init_0 rfl rfl ?_
  obtain ⟨ho1, hf⟩ := chk_s hf
  refine g_obj (pc' := 4) q_62 q_11 q_12 (by omega) ho1 (Nat.le_of_ble_eq_true rfl) dX6_init_1 rfl ?_
  cases hf
  exact g_return dX6_init_4 rfl (Nat.le_of_ble_eq_true rfl) (Nat.le_of_ble_eq_true rfl)
def f_X6_readClose (v0 : Nat) (M : Mem) : Option (Int32 × Mem) :=
  if mK M v0 = 7 then
    if (mI M v0 4) = (-1 : Int32) then
      some ((1 : Int32), M)
    else
      if mK M (mR M v0 1) = 6 then
        if mK M (mR M (mR M v0 1) 9) = 21 then
          if inB (mI M v0 4) (mN M (mR M (mR M v0 1) 9)) = true then
            if (mI M (mR M (mR M v0 1) 9) (mI M v0 4).toNatClampNeg) = 0 then
              some ((1 : Int32), M)
            else
              if mK M (mR M (mR M v0 1) 3) = 21 then
                if inB (mI M v0 4) (mN M (mR M (mR M v0 1) 3)) = true then
                  ap (sI M v0 4 (mI M (mR M (mR M v0 1) 3) (mI M v0 4).toNatClampNeg)) fun M9 =>
                  if mK M9 v0 = 7 then
                    ap (sI M9 v0 5 ((mI M9 v0 5) - (1 : Int32))) fun M11 =>
                    some ((0 : Int32), M11)
                  else none
                else none
              else none
          else none
        else none
      else none
  else none
theorem s_X6_readClose (v0 : Nat) (M : Mem) (r : (Int32 × Mem)) (hf : f_X6_readClose v0 M = some r) : Sem mi_X6_readClose (1) [aR v0] M (oI r.1) r.2 := by
  unfold f_X6_readClose at hf
  refine sem_of (by decide) rfl rfl rfl (Nat.le_of_ble_eq_true rfl) (lv := [some (aR v0)]) rfl ?_
  refine g_aload_n (pc' := 1) dX6_readClose_0 rfl rfl ?_
  obtain ⟨h1, hf⟩ := chk_s hf
  refine g_getI (pc' := 4) 6 4 rfl rfl (by decide) inX6 (by decide) rfl rfl q_213 dX6_readClose_1 rfl h1 ?_
  refine g_iconst (pc' := 5) (-1 : Int32) dX6_readClose_4 rfl (by decide) ?_
  refine g_icmp_eq (pc' := 8) 23 dX6_readClose_5 rfl (by decide) (fun c2 => ?_) (fun c2 => ?_)
  · have hf := ite_t c2 hf
    refine g_iconst (pc' := 24) (1 : Int32) dX6_readClose_23 rfl (by decide) ?_
    cases hf
    exact g_ireturn dX6_readClose_24 rfl (Nat.le_of_ble_eq_true rfl) (Nat.le_of_ble_eq_true rfl)
  · have hf := ite_f c2 hf
    refine g_aload_n (pc' := 9) dX6_readClose_8 rfl rfl ?_
    refine g_getR (pc' := 12) 6 1 rfl rfl (by decide) inX6 (by decide) rfl rfl q_210 dX6_readClose_9 rfl h1 ?_
    obtain ⟨h3, hf⟩ := chk_s hf
    refine g_getR (pc' := 15) 5 9 rfl rfl (by decide) inX5 (by decide) rfl rfl q_227 dX6_readClose_12 rfl h3 ?_
    refine g_aload_n (pc' := 16) dX6_readClose_15 rfl rfl ?_
    refine g_getI (pc' := 19) 6 4 rfl rfl (by decide) inX6 (by decide) rfl rfl q_213 dX6_readClose_16 rfl h1 ?_
    obtain ⟨h4, hf⟩ := chk_s hf
    obtain ⟨b5, hf⟩ := chk_s hf
    refine g_iald (pc' := 20) dX6_readClose_19 rfl h4 (inB_in b5) ?_
    refine g_if_ne (pc' := 23) 25 dX6_readClose_20 rfl (by decide) (fun c6 => ?_) (fun c6 => ?_)
    · have hf := ite_f c6 hf
      refine g_aload_n (pc' := 26) dX6_readClose_25 rfl rfl ?_
      refine g_aload_n (pc' := 27) dX6_readClose_26 rfl rfl ?_
      refine g_getR (pc' := 30) 6 1 rfl rfl (by decide) inX6 (by decide) rfl rfl q_210 dX6_readClose_27 rfl h1 ?_
      refine g_getR (pc' := 33) 5 3 rfl rfl (by decide) inX5 (by decide) rfl rfl q_228 dX6_readClose_30 rfl h3 ?_
      refine g_aload_n (pc' := 34) dX6_readClose_33 rfl rfl ?_
      refine g_getI (pc' := 37) 6 4 rfl rfl (by decide) inX6 (by decide) rfl rfl q_213 dX6_readClose_34 rfl h1 ?_
      obtain ⟨h7, hf⟩ := chk_s hf
      obtain ⟨b8, hf⟩ := chk_s hf
      refine g_iald (pc' := 38) dX6_readClose_37 rfl h7 (inB_in b8) ?_
      refine g_putI (pc' := 41) 6 4 rfl rfl (by decide) inX6 tyX6_ok nmX6 (by decide) rfl rfl rfl rfl q_213 dX6_readClose_38 rfl h1 (gM fun M9 hM9 => ?_)
      have hf := ap_eq hf hM9
      refine g_aload_n (pc' := 42) dX6_readClose_41 rfl rfl ?_
      refine g_dup (pc' := 43) dX6_readClose_42 rfl rfl ?_
      obtain ⟨h10, hf⟩ := chk_s hf
      refine g_getI (pc' := 46) 6 5 rfl rfl (by decide) inX6 (by decide) rfl rfl q_214 dX6_readClose_43 rfl h10 ?_
      refine g_iconst (pc' := 47) (1 : Int32) dX6_readClose_46 rfl (by decide) ?_
      refine g_isub (pc' := 48) dX6_readClose_47 rfl ?_
      refine g_putI (pc' := 51) 6 5 rfl rfl (by decide) inX6 tyX6_ok nmX6 (by decide) rfl rfl rfl rfl q_214 dX6_readClose_48 rfl h10 (gM fun M11 hM11 => ?_)
      have hf := ap_eq hf hM11
      refine g_iconst (pc' := 52) (0 : Int32) dX6_readClose_51 rfl (by decide) ?_
      cases hf
      exact g_ireturn dX6_readClose_52 rfl (Nat.le_of_ble_eq_true rfl) (Nat.le_of_ble_eq_true rfl)
    · have hf := ite_t c6 hf
      refine g_iconst (pc' := 24) (1 : Int32) dX6_readClose_23 rfl (by decide) ?_
      cases hf
      exact g_ireturn dX6_readClose_24 rfl (Nat.le_of_ble_eq_true rfl) (Nat.le_of_ble_eq_true rfl)
def f_X6_kindTold (v0 : Nat) (M : Mem) : Option (Int32 × Mem) :=
  if mK M v0 = 7 then
    if mK M (mR M v0 0) = 10 then
      bnd (f_X9_isWord (mR M v0 0) 1000000 M) fun r4 M3 =>
      if r4 = 0 then
        if mK M3 v0 = 7 then
          if mK M3 (mR M3 v0 0) = 10 then
            bnd (f_X9_isWord (mR M3 v0 0) 1000001 M3) fun r9 M8 =>
            if r9 = 0 then
              if mK M8 v0 = 7 then
                if mK M8 (mR M8 v0 0) = 10 then
                  bnd (f_X9_isWord (mR M8 v0 0) 1000002 M8) fun r14 M13 =>
                  if r14 = 0 then
                    some ((-1 : Int32), M13)
                  else
                    some ((2 : Int32), M13)
                else none
              else none
            else
              some ((1 : Int32), M8)
          else none
        else none
      else
        some ((0 : Int32), M3)
    else none
  else none
theorem s_X6_kindTold (v0 : Nat) (M : Mem) (r : (Int32 × Mem)) (hf : f_X6_kindTold v0 M = some r) : Sem mi_X6_kindTold (6) [aR v0] M (oI r.1) r.2 := by
  unfold f_X6_kindTold at hf
  refine sem_of (by decide) rfl rfl rfl (Nat.le_of_ble_eq_true rfl) (lv := [some (aR v0)]) rfl ?_
  refine g_aload_n (pc' := 1) dX6_kindTold_0 rfl rfl ?_
  obtain ⟨h1, hf⟩ := chk_s hf
  refine g_getR (pc' := 4) 6 0 rfl rfl (by decide) inX6 (by decide) rfl rfl q_209 dX6_kindTold_1 rfl h1 ?_
  refine g_ldcS (pc' := 6) (k1 := 0) rfl dX6_kindTold_4 rfl ?_
  obtain ⟨h2, hf⟩ := chk_s hf
  obtain ⟨r4, M3, e4, hf⟩ := bnd_some hf
  refine g_callVi (pc' := 9) (k' := 0) (u' := 0) (fr2 := 5) (As := [aR 1000000]) (b := (mR M v0 0)) (st := []) cf_X9_isWord q_237 (by omega) (ci := 9) rfl rfl (by decide) dX6_kindTold_6 rfl rfl rfl (Nat.le_of_ble_eq_true rfl) (Or.inl rfl) (Nat.le_refl _) (Nat.le_refl _) (Nat.le_refl _) (Nat.le_refl _) h2 (s_X9_isWord (mR M v0 0) 1000000 M _ e4) ?_
  refine g_if_eq (pc' := 12) 14 dX6_kindTold_9 rfl (by decide) (fun c5 => ?_) (fun c5 => ?_)
  · have hf := ite_t c5 hf
    refine g_aload_n (pc' := 15) dX6_kindTold_14 rfl rfl ?_
    obtain ⟨h6, hf⟩ := chk_s hf
    refine g_getR (pc' := 18) 6 0 rfl rfl (by decide) inX6 (by decide) rfl rfl q_209 dX6_kindTold_15 rfl h6 ?_
    refine g_ldcS (pc' := 20) (k1 := 1) rfl dX6_kindTold_18 rfl ?_
    obtain ⟨h7, hf⟩ := chk_s hf
    obtain ⟨r9, M8, e9, hf⟩ := bnd_some hf
    refine g_callVi (pc' := 23) (k' := 0) (u' := 0) (fr2 := 5) (As := [aR 1000001]) (b := (mR M3 v0 0)) (st := []) cf_X9_isWord q_237 (by omega) (ci := 9) rfl rfl (by decide) dX6_kindTold_20 rfl rfl rfl (Nat.le_of_ble_eq_true rfl) (Or.inl rfl) (Nat.le_refl _) (Nat.le_refl _) (Nat.le_refl _) (Nat.le_refl _) h7 (s_X9_isWord (mR M3 v0 0) 1000001 M3 _ e9) ?_
    refine g_if_eq (pc' := 26) 28 dX6_kindTold_23 rfl (by decide) (fun c10 => ?_) (fun c10 => ?_)
    · have hf := ite_t c10 hf
      refine g_aload_n (pc' := 29) dX6_kindTold_28 rfl rfl ?_
      obtain ⟨h11, hf⟩ := chk_s hf
      refine g_getR (pc' := 32) 6 0 rfl rfl (by decide) inX6 (by decide) rfl rfl q_209 dX6_kindTold_29 rfl h11 ?_
      refine g_ldcS (pc' := 34) (k1 := 2) rfl dX6_kindTold_32 rfl ?_
      obtain ⟨h12, hf⟩ := chk_s hf
      obtain ⟨r14, M13, e14, hf⟩ := bnd_some hf
      refine g_callVi (pc' := 37) (k' := 0) (u' := 0) (fr2 := 5) (As := [aR 1000002]) (b := (mR M8 v0 0)) (st := []) cf_X9_isWord q_237 (by omega) (ci := 9) rfl rfl (by decide) dX6_kindTold_34 rfl rfl rfl (Nat.le_of_ble_eq_true rfl) (Or.inl rfl) (Nat.le_refl _) (Nat.le_refl _) (Nat.le_refl _) (Nat.le_refl _) h12 (s_X9_isWord (mR M8 v0 0) 1000002 M8 _ e14) ?_
      refine g_if_eq (pc' := 40) 44 dX6_kindTold_37 rfl (by decide) (fun c15 => ?_) (fun c15 => ?_)
      · have hf := ite_t c15 hf
        refine g_iconst (pc' := 45) (-1 : Int32) dX6_kindTold_44 rfl (by decide) ?_
        cases hf
        exact g_ireturn dX6_kindTold_45 rfl (Nat.le_of_ble_eq_true rfl) (Nat.le_of_ble_eq_true rfl)
      · have hf := ite_f c15 hf
        refine g_iconst (pc' := 41) (2 : Int32) dX6_kindTold_40 rfl (by decide) ?_
        refine g_goto (pc' := 45) dX6_kindTold_41 (by decide) ?_
        cases hf
        exact g_ireturn dX6_kindTold_45 rfl (Nat.le_of_ble_eq_true rfl) (Nat.le_of_ble_eq_true rfl)
    · have hf := ite_f c10 hf
      refine g_iconst (pc' := 27) (1 : Int32) dX6_kindTold_26 rfl (by decide) ?_
      cases hf
      exact g_ireturn dX6_kindTold_27 rfl (Nat.le_of_ble_eq_true rfl) (Nat.le_of_ble_eq_true rfl)
  · have hf := ite_f c5 hf
    refine g_iconst (pc' := 13) (0 : Int32) dX6_kindTold_12 rfl (by decide) ?_
    cases hf
    exact g_ireturn dX6_kindTold_13 rfl (Nat.le_of_ble_eq_true rfl) (Nat.le_of_ble_eq_true rfl)
