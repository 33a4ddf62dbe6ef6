abbrev mi_X0_init : MI := (yX0_init, Cond.code yX0_init cX0_init 6 none, cX0_init, 6, none, [], 0, 0, 0, none)
theorem cf_X0_init : CFi mi_X0_init 5 := ⟨⟨rfl, q_629, wall_i_LeafStripes_Act, ⟨by decide, by decide, by decide +kernel⟩, by decide⟩, q_628, rfl, rfl⟩
abbrev mi_X1_init : MI := (yX1_init, Cond.code yX1_init cX1_init 1 none, cX1_init, 1, none, [], 0, 0, 0, none)
theorem cf_X1_init : CFi mi_X1_init 0 := ⟨⟨rfl, q_68, wall_i_LeafStripes_Check, ⟨by decide, by decide, by decide +kernel⟩, by decide⟩, q_67, rfl, rfl⟩
abbrev mi_X5_manyAround : MI := (yX5_manyAround, Cond.code yX5_manyAround cX5_manyAround 5 (some .int), cX5_manyAround, 5, (some .int), [], 0, 0, 0, none)
theorem cf_X5_manyAround : CFv mi_X5_manyAround 2 := ⟨⟨rfl, q_515, wall_i_LeafStripes_Shape, ⟨by decide, by decide, by decide +kernel⟩, by decide⟩, q_513, q_514⟩
abbrev mi_X1_needOf : MI := (yX1_needOf, Cond.code yX1_needOf cX1_needOf 4 (some .int), cX1_needOf, 4, (some .int), [], 0, 0, 0, none)
theorem cf_X1_needOf : CFv mi_X1_needOf 2 := ⟨⟨rfl, q_511, wall_i_LeafStripes_Check, ⟨by decide, by decide, by decide +kernel⟩, by decide⟩, q_509, q_510⟩
abbrev mi_X1_wrongAt : MI := (yX1_wrongAt, Cond.code yX1_wrongAt cX1_wrongAt 7 (some .int), cX1_wrongAt, 7, (some .int), [], 0, 0, 0, none)
theorem cf_X1_wrongAt : CFv mi_X1_wrongAt 2 := ⟨⟨rfl, q_502, wall_i_LeafStripes_Check, ⟨by decide, by decide, by decide +kernel⟩, by decide⟩, q_500, q_501⟩
abbrev mi_X1_note : MI := (yX1_note, Cond.code yX1_note cX1_note 4 none, cX1_note, 4, none, [], 0, 0, 0, none)
theorem cf_X1_note : CFv mi_X1_note 3 := ⟨⟨rfl, q_519, wall_i_LeafStripes_Check, ⟨by decide, by decide, by decide +kernel⟩, by decide⟩, q_517, q_518⟩
abbrev mi_X2_firsts : MI := (yX2_firsts, Cond.code yX2_firsts cX2_firsts 3 (some .int), cX2_firsts, 3, (some .int), [], 0, 0, 0, none)
theorem cf_X2_firsts : CFv mi_X2_firsts 0 := ⟨⟨rfl, q_523, wall_i_LeafStripes_Column, ⟨by decide, by decide, by decide +kernel⟩, by decide⟩, q_521, q_522⟩
abbrev mi_X1_checkColumn : MI := (yX1_checkColumn, Cond.code yX1_checkColumn cX1_checkColumn 5 none, cX1_checkColumn, 5, none, [], 0, 0, 0, none)
theorem cf_X1_checkColumn : CFv mi_X1_checkColumn 1 := ⟨⟨rfl, q_495, wall_i_LeafStripes_Check, ⟨by decide, by decide, by decide +kernel⟩, by decide⟩, q_493, q_494⟩
abbrev mi_X5_innermostAround : MI := (yX5_innermostAround, Cond.code yX5_innermostAround cX5_innermostAround 5 (some .int), cX5_innermostAround, 5, (some .int), [], 0, 0, 0, none)
theorem cf_X5_innermostAround : CFv mi_X5_innermostAround 2 := ⟨⟨rfl, q_537, wall_i_LeafStripes_Shape, ⟨by decide, by decide, by decide +kernel⟩, by decide⟩, q_535, q_536⟩
abbrev mi_X5_levelOf : MI := (yX5_levelOf, Cond.code yX5_levelOf cX5_levelOf 4 (some .int), cX5_levelOf, 4, (some .int), [], 0, 0, 0, none)
theorem cf_X5_levelOf : CFv mi_X5_levelOf 2 := ⟨⟨rfl, q_533, wall_i_LeafStripes_Shape, ⟨by decide, by decide, by decide +kernel⟩, by decide⟩, q_531, q_532⟩
abbrev mi_X1_mostShared : MI := (yX1_mostShared, Cond.code yX1_mostShared cX1_mostShared 4 (some .int), cX1_mostShared, 4, (some .int), [], 0, 0, 0, none)
theorem cf_X1_mostShared : CFv mi_X1_mostShared 2 := ⟨⟨rfl, q_541, wall_i_LeafStripes_Check, ⟨by decide, by decide, by decide +kernel⟩, by decide⟩, q_539, q_540⟩
abbrev mi_X2_behind : MI := (yX2_behind, Cond.code yX2_behind cX2_behind 4 (some .int), cX2_behind, 4, (some .int), [], 0, 0, 0, none)
theorem cf_X2_behind : CFv mi_X2_behind 2 := ⟨⟨rfl, q_546, wall_i_LeafStripes_Column, ⟨by decide, by decide, by decide +kernel⟩, by decide⟩, q_544, q_545⟩
abbrev mi_X1_checkWithAhead : MI := (yX1_checkWithAhead, Cond.code yX1_checkWithAhead cX1_checkWithAhead 8 none, cX1_checkWithAhead, 8, none, [], 0, 0, 0, none)
theorem cf_X1_checkWithAhead : CFv mi_X1_checkWithAhead 1 := ⟨⟨rfl, q_528, wall_i_LeafStripes_Check, ⟨by decide, by decide, by decide +kernel⟩, by decide⟩, q_526, q_527⟩
abbrev mi_X1_run : MI := (yX1_run, Cond.code yX1_run cX1_run 4 (some .int), cX1_run, 4, (some .int), [], 0, 0, 0, none)
theorem cf_X1_run : CFv mi_X1_run 2 := ⟨⟨rfl, q_485, wall_i_LeafStripes_Check, ⟨by decide, by decide, by decide +kernel⟩, by decide⟩, q_483, q_484⟩
abbrev mi_X1_repIsHarmless : MI := (yX1_repIsHarmless, Cond.code yX1_repIsHarmless cX1_repIsHarmless 8 (some .boolean), cX1_repIsHarmless, 8, (some .boolean), [], 0, 0, 0, none)
theorem cf_X1_repIsHarmless : CFv mi_X1_repIsHarmless 3 := ⟨⟨rfl, q_846, wall_i_LeafStripes_Check, ⟨by decide, by decide, by decide +kernel⟩, by decide⟩, q_844, q_845⟩
abbrev mi_X1_weighOne : MI := (yX1_weighOne, Cond.code yX1_weighOne cX1_weighOne 3 none, cX1_weighOne, 3, none, [], 0, 0, 0, none)
theorem cf_X1_weighOne : CFv mi_X1_weighOne 2 := ⟨⟨rfl, q_850, wall_i_LeafStripes_Check, ⟨by decide, by decide, by decide +kernel⟩, by decide⟩, q_848, q_849⟩
abbrev mi_X1_looksAlike : MI := (yX1_looksAlike, Cond.code yX1_looksAlike cX1_looksAlike 7 (some .boolean), cX1_looksAlike, 7, (some .boolean), [], 0, 0, 0, none)
theorem cf_X1_looksAlike : CFv mi_X1_looksAlike 4 := ⟨⟨rfl, q_858, wall_i_LeafStripes_Check, ⟨by decide, by decide, by decide +kernel⟩, by decide⟩, q_856, q_857⟩
abbrev mi_X1_defIsHarmless : MI := (yX1_defIsHarmless, Cond.code yX1_defIsHarmless cX1_defIsHarmless 5 (some .boolean), cX1_defIsHarmless, 5, (some .boolean), [], 0, 0, 0, none)
theorem cf_X1_defIsHarmless : CFv mi_X1_defIsHarmless 3 := ⟨⟨rfl, q_854, wall_i_LeafStripes_Check, ⟨by decide, by decide, by decide +kernel⟩, by decide⟩, q_852, q_853⟩
def f_X0_init (v0 : Nat) (v1 : Int32) (v2 : Int32) (v3 : Int32) (v4 : Int32) (v5 : Nat) (M : Mem) : Option (Unit × Mem) :=
  if ¬ v0 = 0 then
    if mK M v0 = 1 then
      ap (sI M v0 0 v1) fun M2 =>
      if mK M2 v0 = 1 then
        ap (sI M2 v0 1 v2) fun M4 =>
        if mK M4 v0 = 1 then
          ap (sI M4 v0 2 v3) fun M6 =>
          if mK M6 v0 = 1 then
            ap (sI M6 v0 3 v4) fun M8 =>
            if mK M8 v0 = 1 then
              if okrB M8 [v5] = true then
                ap (sR M8 v0 4 v5) fun M10 =>
                some ((), M10)
              else none
            else none
          else none
        else none
      else none
    else none
  else none
theorem s_X0_init (v0 : Nat) (v1 : Int32) (v2 : Int32) (v3 : Int32) (v4 : Int32) (v5 : Nat) (M : Mem) (r : (Unit × Mem)) (hf : f_X0_init v0 v1 v2 v3 v4 v5 M = some r) : Sem mi_X0_init (1) [aR v0, aI v1, aI v2, aI v3, aI v4, aR v5] M (oU r.1) r.2 := by
  unfold f_X0_init at hf
  refine sem_of (by decide) rfl rfl rfl (Nat.le_of_ble_eq_true rfl) (lv := [some (aR v0), some (aI v1), some (aI v2), some (aI v3), some (aI v4), some (aR v5)]) rfl ?_
  refine g_aload_n (pc' := 1) dX0_init_0 rfl rfl ?_
  obtain ⟨ho12, hf⟩ := chk_s hf
  refine g_obj (pc' := 4) q_630 q_11 q_12 (by omega) ho12 (Nat.le_of_ble_eq_true rfl) dX0_init_1 rfl ?_
  refine g_aload_n (pc' := 5) dX0_init_4 rfl rfl ?_
  refine g_iload_n (pc' := 6) dX0_init_5 rfl rfl ?_
  obtain ⟨h1, hf⟩ := chk_s hf
  refine g_putFI (pc' := 9) 0 0 rfl rfl (by decide) inX0 tyX0_ok nmX0 (by decide) rfl rfl rfl rfl rfl rfl q_631 dX0_init_6 rfl h1 (gM fun M2 hM2 => ?_)
  have hf := ap_eq hf hM2
  refine g_aload_n (pc' := 10) dX0_init_9 rfl rfl ?_
  refine g_iload_n (pc' := 11) dX0_init_10 rfl rfl ?_
  obtain ⟨h3, hf⟩ := chk_s hf
  refine g_putFI (pc' := 14) 0 1 rfl rfl (by decide) inX0 tyX0_ok nmX0 (by decide) rfl rfl rfl rfl rfl rfl q_632 dX0_init_11 rfl h3 (gM fun M4 hM4 => ?_)
  have hf := ap_eq hf hM4
  refine g_aload_n (pc' := 15) dX0_init_14 rfl rfl ?_
  refine g_iload_n (pc' := 16) dX0_init_15 rfl rfl ?_
  obtain ⟨h5, hf⟩ := chk_s hf
  refine g_putFI (pc' := 19) 0 2 rfl rfl (by decide) inX0 tyX0_ok nmX0 (by decide) rfl rfl rfl rfl rfl rfl q_633 dX0_init_16 rfl h5 (gM fun M6 hM6 => ?_)
  have hf := ap_eq hf hM6
  refine g_aload_n (pc' := 20) dX0_init_19 rfl rfl ?_
  refine g_iload (pc' := 22) dX0_init_20 rfl rfl ?_
  obtain ⟨h7, hf⟩ := chk_s hf
  refine g_putFI (pc' := 25) 0 3 rfl rfl (by decide) inX0 tyX0_ok nmX0 (by decide) rfl rfl rfl rfl rfl rfl q_634 dX0_init_22 rfl h7 (gM fun M8 hM8 => ?_)
  have hf := ap_eq hf hM8
  refine g_aload_n (pc' := 26) dX0_init_25 rfl rfl ?_
  refine g_aload (pc' := 28) dX0_init_26 rfl rfl ?_
  obtain ⟨h9, hf⟩ := chk_s hf
  obtain ⟨hr11, hf⟩ := chk_s hf
  refine g_putFR (pc' := 31) 0 4 rfl rfl (by decide) inX0 tyX0_ok nmX0 (by decide) rfl rfl rfl rfl rfl (Or.inr ⟨_, rfl⟩) (okrB_1 hr11) q_635 dX0_init_28 rfl h9 (gM fun M10 hM10 => ?_)
  have hf := ap_eq hf hM10
  cases hf
  exact g_return dX0_init_31 rfl (Nat.le_of_ble_eq_true rfl) (Nat.le_of_ble_eq_true rfl)
def f_X1_init (v0 : Nat) (M : Mem) : Option (Unit × Mem) :=
  if ¬ v0 = 0 then
    some ((), M)
  else none
theorem s_X1_init (v0 : Nat) (M : Mem) (r : (Unit × Mem)) (hf : f_X1_init v0 M = some r) : Sem mi_X1_init (1) [aR v0] M (oU r.1) r.2 := by
  unfold f_X1_init at hf
  refine sem_of (by decide) rfl rfl rfl (Nat.le_of_ble_eq_true rfl) (lv := [some (aR v0)]) rfl ?_
  refine g_aload_n (pc' := 1) dX1_init_0 rfl rfl ?_
  obtain ⟨ho1, hf⟩ := chk_s hf
  refine g_obj (pc' := 4) q_69 q_11 q_12 (by omega) ho1 (Nat.le_of_ble_eq_true rfl) dX1_init_1 rfl ?_
  cases hf
  exact g_return dX1_init_4 rfl (Nat.le_of_ble_eq_true rfl) (Nat.le_of_ble_eq_true rfl)
def f_X5_manyAround_44 (k10 : Nat → Int32 → Int32 → Int32 → Mem → Option (Int32 × Mem)) (v0 : Nat) (v2 : Int32) (v3 : Int32) (v4 : Int32) (M : Mem) : Option (Int32 × Mem) :=
  if mK M v0 = 6 then
    if mK M (mR M v0 3) = 21 then
      if inB v3 (mN M (mR M v0 3)) = true then
        k10 v0 v2 (mI M (mR M v0 3) v3.toNatClampNeg) (v4 + 1) M
      else none
    else none
  else none
def f_X5_manyAround_10 : Nat → Nat → Int32 → Int32 → Int32 → Mem → Option (Int32 × Mem)
  | 0, _, _, _, _, _ => none
  | n + 1, v0, v2, v3, v4, M =>
    if (16 : Int32) ≤ v4 then
      some ((-1 : Int32), M)
    else
      if v3 = (-1 : Int32) then
        some ((-1 : Int32), M)
      else
        if mK M v0 = 6 then
          if mK M (mR M v0 2) = 21 then
            if inB v3 (mN M (mR M v0 2)) = true then
              if (mI M (mR M v0 2) v3.toNatClampNeg) = (2 : Int32) then
                if mK M (mR M v0 6) = 21 then
                  if inB v3 (mN M (mR M v0 6)) = true then
                    if (mI M (mR M v0 6) v3.toNatClampNeg) = v2 then
                      some (v3, M)
                    else
                      f_X5_manyAround_44 (f_X5_manyAround_10 n) v0 v2 v3 v4 M
                  else none
                else none
              else
                f_X5_manyAround_44 (f_X5_manyAround_10 n) v0 v2 v3 v4 M
            else none
          else none
        else none
def f_X5_manyAround (v0 : Nat) (v1 : Int32) (v2 : Int32) (M : Mem) : Option (Int32 × Mem) :=
  if mK M v0 = 6 then
    if mK M (mR M v0 12) = 21 then
      if inB v1 (mN M (mR M v0 12)) = true then
        f_X5_manyAround_10 FUEL v0 v2 (mI M (mR M v0 12) v1.toNatClampNeg) (0 : Int32) M
      else none
    else none
  else none
theorem s_X5_manyAround_44 (k10 : Nat → Int32 → Int32 → Int32 → Mem → Option (Int32 × Mem)) (hk10 : ∀ (v0 : Nat) (v2 : Int32) (v3 : Int32) (v4 : Int32) (M : Mem) (r : (Int32 × Mem)), k10 v0 v2 v3 v4 M = some r → G mi_X5_manyAround 1 (oI r.1) r.2 10 [some (aR v0), none, some (aI v2), some (aI v3), some (aI v4)] [] M 0 0) (v0 : Nat) (v2 : Int32) (v3 : Int32) (v4 : Int32) (M : Mem) (r : (Int32 × Mem)) (hf : f_X5_manyAround_44 k10 v0 v2 v3 v4 M = some r) : G mi_X5_manyAround 1 (oI r.1) r.2 44 [some (aR v0), none, some (aI v2), some (aI v3), some (aI v4)] [] M 0 0 := by
  unfold f_X5_manyAround_44 at hf
  refine g_aload_n (pc' := 45) dX5_manyAround_44 rfl rfl ?_
  obtain ⟨h1, hf⟩ := chk_s hf
  refine g_getR (pc' := 48) 5 3 rfl rfl (by decide) inX5 (by decide) rfl rfl q_100 dX5_manyAround_45 rfl h1 ?_
  refine g_iload_n (pc' := 49) dX5_manyAround_48 rfl rfl ?_
  obtain ⟨h2, hf⟩ := chk_s hf
  obtain ⟨b3, hf⟩ := chk_s hf
  refine g_iald (pc' := 50) dX5_manyAround_49 rfl h2 (inB_in b3) ?_
  refine g_istore_n (pc' := 51) (lv' := [some (aR v0), none, some (aI v2), some (aI (mI M (mR M v0 3) v3.toNatClampNeg)), some (aI v4)]) dX5_manyAround_50 rfl rfl (by decide) rfl ?_
  refine g_iinc (pc' := 54) (lv' := [some (aR v0), none, some (aI v2), some (aI (mI M (mR M v0 3) v3.toNatClampNeg)), some (aI (v4 + 1))]) (v4 + 1) dX5_manyAround_51 rfl rfl (by rfl) rfl (by decide) rfl ?_
  refine g_goto (pc' := 10) dX5_manyAround_54 (by decide) ?_
  exact hk10 v0 v2 (mI M (mR M v0 3) v3.toNatClampNeg) (v4 + 1) M _ hf
theorem s_X5_manyAround_10 : ∀ (n : Nat) (v0 : Nat) (v2 : Int32) (v3 : Int32) (v4 : Int32) (M : Mem) (r : (Int32 × Mem)), f_X5_manyAround_10 n v0 v2 v3 v4 M = some r → G mi_X5_manyAround 1 (oI r.1) r.2 10 [some (aR v0), none, some (aI v2), some (aI v3), some (aI v4)] [] M 0 0 := by
  intro n
  induction n with
  | zero => intro v0 v2 v3 v4 M r hf; cases hf
  | succ n ih =>
    intro v0 v2 v3 v4 M r hf
    unfold f_X5_manyAround_10 at hf
    refine g_iload (pc' := 12) dX5_manyAround_10 rfl rfl ?_
    refine g_bipush (pc' := 14) (16 : Int32) dX5_manyAround_12 rfl (by decide) ?_
    refine g_icmp_ge (pc' := 17) 57 dX5_manyAround_14 rfl (by decide) (fun c1 => ?_) (fun c1 => ?_)
    · have hf := ite_t c1 hf
      refine g_iconst (pc' := 58) (-1 : Int32) dX5_manyAround_57 rfl (by decide) ?_
      cases hf
      exact g_ireturn dX5_manyAround_58 rfl (Nat.le_of_ble_eq_true rfl) (Nat.le_of_ble_eq_true rfl)
    · have hf := ite_f c1 hf
      refine g_iload_n (pc' := 18) dX5_manyAround_17 rfl rfl ?_
      refine g_iconst (pc' := 19) (-1 : Int32) dX5_manyAround_18 rfl (by decide) ?_
      refine g_icmp_eq (pc' := 22) 57 dX5_manyAround_19 rfl (by decide) (fun c2 => ?_) (fun c2 => ?_)
      · have hf := ite_t c2 hf
        refine g_iconst (pc' := 58) (-1 : Int32) dX5_manyAround_57 rfl (by decide) ?_
        cases hf
        exact g_ireturn dX5_manyAround_58 rfl (Nat.le_of_ble_eq_true rfl) (Nat.le_of_ble_eq_true rfl)
      · have hf := ite_f c2 hf
        refine g_aload_n (pc' := 23) dX5_manyAround_22 rfl rfl ?_
        obtain ⟨h3, hf⟩ := chk_s hf
        refine g_getR (pc' := 26) 5 2 rfl rfl (by decide) inX5 (by decide) rfl rfl q_99 dX5_manyAround_23 rfl h3 ?_
        refine g_iload_n (pc' := 27) dX5_manyAround_26 rfl rfl ?_
        obtain ⟨h4, hf⟩ := chk_s hf
        obtain ⟨b5, hf⟩ := chk_s hf
        refine g_iald (pc' := 28) dX5_manyAround_27 rfl h4 (inB_in b5) ?_
        refine g_iconst (pc' := 29) (2 : Int32) dX5_manyAround_28 rfl (by decide) ?_
        refine g_icmp_ne (pc' := 32) 44 dX5_manyAround_29 rfl (by decide) (fun c6 => ?_) (fun c6 => ?_)
        · have hf := ite_f c6 hf
          exact s_X5_manyAround_44 (f_X5_manyAround_10 n) ih v0 v2 v3 v4 M _ hf
        · have hf := ite_t c6 hf
          refine g_aload_n (pc' := 33) dX5_manyAround_32 rfl rfl ?_
          refine g_getR (pc' := 36) 5 6 rfl rfl (by decide) inX5 (by decide) rfl rfl q_103 dX5_manyAround_33 rfl h3 ?_
          refine g_iload_n (pc' := 37) dX5_manyAround_36 rfl rfl ?_
          obtain ⟨h7, hf⟩ := chk_s hf
          obtain ⟨b8, hf⟩ := chk_s hf
          refine g_iald (pc' := 38) dX5_manyAround_37 rfl h7 (inB_in b8) ?_
          refine g_iload_n (pc' := 39) dX5_manyAround_38 rfl rfl ?_
          refine g_icmp_ne (pc' := 42) 44 dX5_manyAround_39 rfl (by decide) (fun c9 => ?_) (fun c9 => ?_)
          · have hf := ite_f c9 hf
            exact s_X5_manyAround_44 (f_X5_manyAround_10 n) ih v0 v2 v3 v4 M _ hf
          · have hf := ite_t c9 hf
            refine g_iload_n (pc' := 43) dX5_manyAround_42 rfl rfl ?_
            cases hf
            exact g_ireturn dX5_manyAround_43 rfl (Nat.le_of_ble_eq_true rfl) (Nat.le_of_ble_eq_true rfl)
theorem s_X5_manyAround (v0 : Nat) (v1 : Int32) (v2 : Int32) (M : Mem) (r : (Int32 × Mem)) (hf : f_X5_manyAround v0 v1 v2 M = some r) : Sem mi_X5_manyAround (1) [aR v0, aI v1, aI v2] M (oI r.1) r.2 := by
  unfold f_X5_manyAround at hf
  refine sem_of (by decide) rfl rfl rfl (Nat.le_of_ble_eq_true rfl) (lv := [some (aR v0), some (aI v1), some (aI v2), none, none]) rfl ?_
  refine g_aload_n (pc' := 1) dX5_manyAround_0 rfl rfl ?_
  obtain ⟨h1, hf⟩ := chk_s hf
  refine g_getR (pc' := 4) 5 12 rfl rfl (by decide) inX5 (by decide) rfl rfl q_109 dX5_manyAround_1 rfl h1 ?_
  refine g_iload_n (pc' := 5) dX5_manyAround_4 rfl rfl ?_
  obtain ⟨h2, hf⟩ := chk_s hf
  obtain ⟨b3, hf⟩ := chk_s hf
  refine g_iald (pc' := 6) dX5_manyAround_5 rfl h2 (inB_in b3) ?_
  refine g_istore_n (pc' := 7) (lv' := [some (aR v0), some (aI v1), some (aI v2), some (aI (mI M (mR M v0 12) v1.toNatClampNeg)), none]) dX5_manyAround_6 rfl rfl (by decide) rfl ?_
  refine g_iconst (pc' := 8) (0 : Int32) dX5_manyAround_7 rfl (by decide) ?_
  refine g_istore (pc' := 10) (lv' := [some (aR v0), some (aI v1), some (aI v2), some (aI (mI M (mR M v0 12) v1.toNatClampNeg)), some (aI (0 : Int32))]) dX5_manyAround_8 rfl rfl (by decide) rfl ?_
  refine g_mask [true, false, true, true, true] rfl ?_
  exact s_X5_manyAround_10 FUEL v0 v2 (mI M (mR M v0 12) v1.toNatClampNeg) (0 : Int32) M _ hf
def f_X1_needOf_17 (v0 : Nat) (w0 : Int32) (M : Mem) : Option (Int32 × Mem) :=
  if w0 = (-1 : Int32) then
    some ((0 : Int32), M)
  else
    if mK M v0 = 2 then
      if mK M (mR M v0 5) = 6 then
        if mK M (mR M (mR M v0 5) 5) = 21 then
          if inB w0 (mN M (mR M (mR M v0 5) 5)) = true then
            some (mI M (mR M (mR M v0 5) 5) w0.toNatClampNeg, M)
          else none
        else none
      else none
    else none
def f_X1_needOf (v0 : Nat) (v1 : Int32) (v2 : Int32) (M : Mem) : Option (Int32 × Mem) :=
  if v2 ≤ 0 then
    f_X1_needOf_17 v0 (-1 : Int32) M
  else
    if mK M v0 = 2 then
      if mK M (mR M v0 5) = 6 then
        bnd (f_X5_manyAround (mR M v0 5) v1 v2 M) fun r5 M4 =>
        f_X1_needOf_17 v0 r5 M4
      else none
    else none
theorem s_X1_needOf_17 (v0 : Nat) (w0 : Int32) (M : Mem) (r : (Int32 × Mem)) (hf : f_X1_needOf_17 v0 w0 M = some r) : G mi_X1_needOf 2 (oI r.1) r.2 17 [some (aR v0), none, none, none] [aI w0] M 0 0 := by
  unfold f_X1_needOf_17 at hf
  refine g_istore_n (pc' := 18) (lv' := [some (aR v0), none, none, some (aI w0)]) dX1_needOf_17 rfl rfl (by decide) rfl ?_
  refine g_iload_n (pc' := 19) dX1_needOf_18 rfl rfl ?_
  refine g_iconst (pc' := 20) (-1 : Int32) dX1_needOf_19 rfl (by decide) ?_
  refine g_icmp_ne (pc' := 23) 27 dX1_needOf_20 rfl (by decide) (fun c1 => ?_) (fun c1 => ?_)
  · have hf := ite_f c1 hf
    refine g_aload_n (pc' := 28) dX1_needOf_27 rfl rfl ?_
    obtain ⟨h2, hf⟩ := chk_s hf
    refine g_getR (pc' := 31) 1 5 rfl rfl (by decide) inX1 (by decide) rfl rfl q_486 dX1_needOf_28 rfl h2 ?_
    obtain ⟨h3, hf⟩ := chk_s hf
    refine g_getR (pc' := 34) 5 5 rfl rfl (by decide) inX5 (by decide) rfl rfl q_507 dX1_needOf_31 rfl h3 ?_
    refine g_iload_n (pc' := 35) dX1_needOf_34 rfl rfl ?_
    obtain ⟨h4, hf⟩ := chk_s hf
    obtain ⟨b5, hf⟩ := chk_s hf
    refine g_iald (pc' := 36) dX1_needOf_35 rfl h4 (inB_in b5) ?_
    cases hf
    exact g_ireturn dX1_needOf_36 rfl (Nat.le_of_ble_eq_true rfl) (Nat.le_of_ble_eq_true rfl)
  · have hf := ite_t c1 hf
    refine g_iconst (pc' := 24) (0 : Int32) dX1_needOf_23 rfl (by decide) ?_
    refine g_goto (pc' := 36) dX1_needOf_24 (by decide) ?_
    cases hf
    exact g_ireturn dX1_needOf_36 rfl (Nat.le_of_ble_eq_true rfl) (Nat.le_of_ble_eq_true rfl)
theorem s_X1_needOf (v0 : Nat) (v1 : Int32) (v2 : Int32) (M : Mem) (r : (Int32 × Mem)) (hf : f_X1_needOf v0 v1 v2 M = some r) : Sem mi_X1_needOf (2) [aR v0, aI v1, aI v2] M (oI r.1) r.2 := by
  unfold f_X1_needOf at hf
  refine sem_of (by decide) rfl rfl rfl (Nat.le_of_ble_eq_true rfl) (lv := [some (aR v0), some (aI v1), some (aI v2), none]) rfl ?_
  refine g_iload_n (pc' := 1) dX1_needOf_0 rfl rfl ?_
  refine g_if_le (pc' := 4) 16 dX1_needOf_1 rfl (by decide) (fun c1 => ?_) (fun c1 => ?_)
  · have hf := ite_t c1 hf
    refine g_iconst (pc' := 17) (-1 : Int32) dX1_needOf_16 rfl (by decide) ?_
    refine g_mask [true, false, false, true] rfl ?_
    exact s_X1_needOf_17 v0 (-1 : Int32) M _ hf
  · have hf := ite_f c1 hf
    refine g_aload_n (pc' := 5) dX1_needOf_4 rfl rfl ?_
    obtain ⟨h2, hf⟩ := chk_s hf
    refine g_getR (pc' := 8) 1 5 rfl rfl (by decide) inX1 (by decide) rfl rfl q_486 dX1_needOf_5 rfl h2 ?_
    refine g_iload_n (pc' := 9) dX1_needOf_8 rfl rfl ?_
    refine g_iload_n (pc' := 10) dX1_needOf_9 rfl rfl ?_
    obtain ⟨h3, hf⟩ := chk_s hf
    obtain ⟨r5, M4, e5, hf⟩ := bnd_some hf
    refine g_callVi (pc' := 13) (k' := 0) (u' := 0) (fr2 := 1) (As := [aI v1, aI v2]) (b := (mR M v0 5)) (st := []) cf_X5_manyAround q_512 (by omega) (ci := 5) rfl rfl (by decide) dX1_needOf_10 rfl rfl rfl (Nat.le_of_ble_eq_true rfl) (Or.inl rfl) (Nat.le_refl _) (Nat.le_refl _) (Nat.le_refl _) (Nat.le_refl _) h3 (s_X5_manyAround (mR M v0 5) v1 v2 M _ e5) ?_
    refine g_goto (pc' := 17) dX1_needOf_13 (by decide) ?_
    refine g_mask [true, false, false, true] rfl ?_
    refine g_widen (k' := 0) (u' := 0) (by omega) (by omega) ?_
    exact s_X1_needOf_17 v0 r5 M4 _ hf
def f_X1_wrongAt_113  (M : Mem) : Option (Int32 × Mem) :=
  some ((3 : Int32), M)
def f_X1_wrongAt_55 (v0 : Nat) (v1 : Int32) (v2 : Int32) (v3 : Nat) (v4 : Int32) (v5 : Int32) (M : Mem) : Option (Int32 × Mem) :=
  if mK M v3 = 3 then
    if mK M (mR M v3 1) = 21 then
      if inB v2 (mN M (mR M v3 1)) = true then
        if mK M v0 = 2 then
          if mK M (mR M v0 5) = 6 then
            if mK M (mR M (mR M v0 5) 5) = 21 then
              if inB v5 (mN M (mR M (mR M v0 5) 5)) = true then
                if (mI M (mR M v3 1) v2.toNatClampNeg) ≤ (mI M (mR M (mR M v0 5) 5) v5.toNatClampNeg) then
                  bnd (f_X1_needOf v0 v1 v4 M) fun r10 M9 =>
                  if mK M9 v3 = 3 then
                    if mK M9 (mR M9 v3 1) = 21 then
                      if inB v2 (mN M9 (mR M9 v3 1)) = true then
                        if (mI M9 (mR M9 v3 1) v2.toNatClampNeg) < r10 then
                          f_X1_wrongAt_113 M9
                        else
                          if v2 ≤ 0 then
                            some ((0 : Int32), M9)
                          else
                            if inB (v2 - (1 : Int32)) (mN M9 (mR M9 v3 1)) = true then
                              if r10 ≤ (mI M9 (mR M9 v3 1) (v2 - (1 : Int32)).toNatClampNeg) then
                                some ((0 : Int32), M9)
                              else
                                f_X1_wrongAt_113 M9
                            else none
                      else none
                    else none
                  else none
                else
                  some ((2 : Int32), M)
              else none
            else none
          else none
        else none
      else none
    else none
  else none
def f_X1_wrongAt (v0 : Nat) (v1 : Int32) (v2 : Int32) (M : Mem) : Option (Int32 × Mem) :=
  if mK M v0 = 2 then
    if mK M (mR M v0 6) = 8 then
      if mK M (mR M (mR M v0 6) 0) = 23 then
        if inB v1 (mN M (mR M (mR M v0 6) 0)) = true then
          if mK M (mR M (mR M (mR M v0 6) 0) v1.toNatClampNeg) = 3 then
            if mK M (mR M (mR M (mR M (mR M v0 6) 0) v1.toNatClampNeg) 0) = 21 then
              if inB v2 (mN M (mR M (mR M (mR M (mR M v0 6) 0) v1.toNatClampNeg) 0)) = true then
                if mK M (mR M v0 5) = 6 then
                  if mK M (mR M (mR M v0 5) 12) = 21 then
                    if inB v1 (mN M (mR M (mR M v0 5) 12)) = true then
                      if mK M (mR M (mR M v0 5) 6) = 21 then
                        if inB (mI M (mR M (mR M v0 5) 12) v1.toNatClampNeg) (mN M (mR M (mR M v0 5) 6)) = true then
                          if (mI M (mR M (mR M v0 5) 6) (mI M (mR M (mR M v0 5) 12) v1.toNatClampNeg).toNatClampNeg) < (mI M (mR M (mR M (mR M (mR M v0 6) 0) v1.toNatClampNeg) 0) v2.toNatClampNeg) then
                            some ((1 : Int32), M)
                          else
                            if v2 = 0 then
                              if (mI M (mR M (mR M (mR M (mR M v0 6) 0) v1.toNatClampNeg) 0) v2.toNatClampNeg) = 0 then
                                f_X1_wrongAt_55 v0 v1 v2 (mR M (mR M (mR M v0 6) 0) v1.toNatClampNeg) (mI M (mR M (mR M (mR M (mR M v0 6) 0) v1.toNatClampNeg) 0) v2.toNatClampNeg) (mI M (mR M (mR M v0 5) 12) v1.toNatClampNeg) M
                              else
                                some ((1 : Int32), M)
                            else
                              f_X1_wrongAt_55 v0 v1 v2 (mR M (mR M (mR M v0 6) 0) v1.toNatClampNeg) (mI M (mR M (mR M (mR M (mR M v0 6) 0) v1.toNatClampNeg) 0) v2.toNatClampNeg) (mI M (mR M (mR M v0 5) 12) v1.toNatClampNeg) M
                        else none
                      else none
                    else none
                  else none
                else none
              else none
            else none
          else none
        else none
      else none
    else none
  else none
theorem s_X1_wrongAt_113  (M : Mem) (r : (Int32 × Mem)) (hf : f_X1_wrongAt_113  M = some r) : G mi_X1_wrongAt 3 (oI r.1) r.2 113 [none, none, none, none, none, none, none] [] M 0 0 := by
  unfold f_X1_wrongAt_113 at hf
  refine g_iconst (pc' := 114) (3 : Int32) dX1_wrongAt_113 rfl (by decide) ?_
  refine g_goto (pc' := 118) dX1_wrongAt_114 (by decide) ?_
  cases hf
  exact g_ireturn dX1_wrongAt_118 rfl (Nat.le_of_ble_eq_true rfl) (Nat.le_of_ble_eq_true rfl)
theorem s_X1_wrongAt_55 (v0 : Nat) (v1 : Int32) (v2 : Int32) (v3 : Nat) (v4 : Int32) (v5 : Int32) (M : Mem) (r : (Int32 × Mem)) (hf : f_X1_wrongAt_55 v0 v1 v2 v3 v4 v5 M = some r) : G mi_X1_wrongAt 3 (oI r.1) r.2 55 [some (aR v0), some (aI v1), some (aI v2), some (aR v3), some (aI v4), some (aI v5), none] [] M 0 0 := by
  unfold f_X1_wrongAt_55 at hf
  refine g_aload_n (pc' := 56) dX1_wrongAt_55 rfl rfl ?_
  obtain ⟨h1, hf⟩ := chk_s hf
  refine g_getR (pc' := 59) 2 1 rfl rfl (by decide) inX2 (by decide) rfl rfl q_506 dX1_wrongAt_56 rfl h1 ?_
  refine g_iload_n (pc' := 60) dX1_wrongAt_59 rfl rfl ?_
  obtain ⟨h2, hf⟩ := chk_s hf
  obtain ⟨b3, hf⟩ := chk_s hf
  refine g_iald (pc' := 61) dX1_wrongAt_60 rfl h2 (inB_in b3) ?_
  refine g_aload_n (pc' := 62) dX1_wrongAt_61 rfl rfl ?_
  obtain ⟨h4, hf⟩ := chk_s hf
  refine g_getR (pc' := 65) 1 5 rfl rfl (by decide) inX1 (by decide) rfl rfl q_486 dX1_wrongAt_62 rfl h4 ?_
  obtain ⟨h5, hf⟩ := chk_s hf
  refine g_getR (pc' := 68) 5 5 rfl rfl (by decide) inX5 (by decide) rfl rfl q_507 dX1_wrongAt_65 rfl h5 ?_
  refine g_iload (pc' := 70) dX1_wrongAt_68 rfl rfl ?_
  obtain ⟨h6, hf⟩ := chk_s hf
  obtain ⟨b7, hf⟩ := chk_s hf
  refine g_iald (pc' := 71) dX1_wrongAt_70 rfl h6 (inB_in b7) ?_
  refine g_icmp_le (pc' := 74) 76 dX1_wrongAt_71 rfl (by decide) (fun c8 => ?_) (fun c8 => ?_)
  · have hf := ite_t c8 hf
    refine g_aload_n (pc' := 77) dX1_wrongAt_76 rfl rfl ?_
    refine g_iload_n (pc' := 78) dX1_wrongAt_77 rfl rfl ?_
    refine g_iload (pc' := 80) dX1_wrongAt_78 rfl rfl ?_
    obtain ⟨r10, M9, e10, hf⟩ := bnd_some hf
    refine g_callVi (pc' := 83) (k' := 0) (u' := 0) (fr2 := 2) (As := [aI v1, aI v4]) (b := v0) (st := []) cf_X1_needOf q_508 (by omega) (ci := 1) rfl rfl (by decide) dX1_wrongAt_80 rfl rfl rfl (Nat.le_of_ble_eq_true rfl) (Or.inl rfl) (Nat.le_refl _) (Nat.le_refl _) (Nat.le_refl _) (Nat.le_refl _) h4 (s_X1_needOf v0 v1 v4 M _ e10) ?_
    refine g_istore (pc' := 85) (lv' := [some (aR v0), some (aI v1), some (aI v2), some (aR v3), some (aI v4), some (aI v5), some (aI r10)]) dX1_wrongAt_83 rfl rfl (by decide) rfl ?_
    refine g_aload_n (pc' := 86) dX1_wrongAt_85 rfl rfl ?_
    obtain ⟨h11, hf⟩ := chk_s hf
    refine g_getR (pc' := 89) 2 1 rfl rfl (by decide) inX2 (by decide) rfl rfl q_506 dX1_wrongAt_86 rfl h11 ?_
    refine g_iload_n (pc' := 90) dX1_wrongAt_89 rfl rfl ?_
    obtain ⟨h12, hf⟩ := chk_s hf
    obtain ⟨b13, hf⟩ := chk_s hf
    refine g_iald (pc' := 91) dX1_wrongAt_90 rfl h12 (inB_in b13) ?_
    refine g_iload (pc' := 93) dX1_wrongAt_91 rfl rfl ?_
    refine g_icmp_lt (pc' := 96) 113 dX1_wrongAt_93 rfl (by decide) (fun c14 => ?_) (fun c14 => ?_)
    · have hf := ite_t c14 hf
      refine g_mask [false, false, false, false, false, false, false] rfl ?_
      refine g_widen (k' := 0) (u' := 0) (by omega) (by omega) ?_
      exact s_X1_wrongAt_113 M9 _ hf
    · have hf := ite_f c14 hf
      refine g_iload_n (pc' := 97) dX1_wrongAt_96 rfl rfl ?_
      refine g_if_le (pc' := 100) 117 dX1_wrongAt_97 rfl (by decide) (fun c15 => ?_) (fun c15 => ?_)
      · have hf := ite_t c15 hf
        refine g_iconst (pc' := 118) (0 : Int32) dX1_wrongAt_117 rfl (by decide) ?_
        cases hf
        exact g_ireturn dX1_wrongAt_118 rfl (Nat.le_of_ble_eq_true rfl) (Nat.le_of_ble_eq_true rfl)
      · have hf := ite_f c15 hf
        refine g_aload_n (pc' := 101) dX1_wrongAt_100 rfl rfl ?_
        refine g_getR (pc' := 104) 2 1 rfl rfl (by decide) inX2 (by decide) rfl rfl q_506 dX1_wrongAt_101 rfl h11 ?_
        refine g_iload_n (pc' := 105) dX1_wrongAt_104 rfl rfl ?_
        refine g_iconst (pc' := 106) (1 : Int32) dX1_wrongAt_105 rfl (by decide) ?_
        refine g_isub (pc' := 107) dX1_wrongAt_106 rfl ?_
        obtain ⟨b16, hf⟩ := chk_s hf
        refine g_iald (pc' := 108) dX1_wrongAt_107 rfl h12 (inB_in b16) ?_
        refine g_iload (pc' := 110) dX1_wrongAt_108 rfl rfl ?_
        refine g_icmp_ge (pc' := 113) 117 dX1_wrongAt_110 rfl (by decide) (fun c17 => ?_) (fun c17 => ?_)
        · have hf := ite_t c17 hf
          refine g_iconst (pc' := 118) (0 : Int32) dX1_wrongAt_117 rfl (by decide) ?_
          cases hf
          exact g_ireturn dX1_wrongAt_118 rfl (Nat.le_of_ble_eq_true rfl) (Nat.le_of_ble_eq_true rfl)
        · have hf := ite_f c17 hf
          refine g_mask [false, false, false, false, false, false, false] rfl ?_
          refine g_widen (k' := 0) (u' := 0) (by omega) (by omega) ?_
          exact s_X1_wrongAt_113 M9 _ hf
  · have hf := ite_f c8 hf
    refine g_iconst (pc' := 75) (2 : Int32) dX1_wrongAt_74 rfl (by decide) ?_
    cases hf
    exact g_ireturn dX1_wrongAt_75 rfl (Nat.le_of_ble_eq_true rfl) (Nat.le_of_ble_eq_true rfl)
theorem s_X1_wrongAt (v0 : Nat) (v1 : Int32) (v2 : Int32) (M : Mem) (r : (Int32 × Mem)) (hf : f_X1_wrongAt v0 v1 v2 M = some r) : Sem mi_X1_wrongAt (3) [aR v0, aI v1, aI v2] M (oI r.1) r.2 := by
  unfold f_X1_wrongAt at hf
  refine sem_of (by decide) rfl rfl rfl (Nat.le_of_ble_eq_true rfl) (lv := [some (aR v0), some (aI v1), some (aI v2), none, none, none, none]) rfl ?_
  refine g_aload_n (pc' := 1) dX1_wrongAt_0 rfl rfl ?_
  obtain ⟨h1, hf⟩ := chk_s hf
  refine g_getR (pc' := 4) 1 6 rfl rfl (by decide) inX1 (by decide) rfl rfl q_487 dX1_wrongAt_1 rfl h1 ?_
  obtain ⟨h2, hf⟩ := chk_s hf
  refine g_getR (pc' := 7) 7 0 rfl rfl (by decide) inX7 (by decide) rfl rfl q_496 dX1_wrongAt_4 rfl h2 ?_
  refine g_iload_n (pc' := 8) dX1_wrongAt_7 rfl rfl ?_
  obtain ⟨h3, hf⟩ := chk_s hf
  obtain ⟨b4, hf⟩ := chk_s hf
  refine g_aald (pc' := 9) (t0 := 2) (fun _ => rfl) (by decide) dX1_wrongAt_8 rfl h3 (inB_in b4) ?_
  refine g_astore_n (pc' := 10) (lv' := [some (aR v0), some (aI v1), some (aI v2), some (aR (mR M (mR M (mR M v0 6) 0) v1.toNatClampNeg)), none, none, none]) dX1_wrongAt_9 rfl rfl (by decide) rfl ?_
  refine g_aload_n (pc' := 11) dX1_wrongAt_10 rfl rfl ?_
  obtain ⟨h5, hf⟩ := chk_s hf
  refine g_getR (pc' := 14) 2 0 rfl rfl (by decide) inX2 (by decide) rfl rfl q_503 dX1_wrongAt_11 rfl h5 ?_
  refine g_iload_n (pc' := 15) dX1_wrongAt_14 rfl rfl ?_
  obtain ⟨h6, hf⟩ := chk_s hf
  obtain ⟨b7, hf⟩ := chk_s hf
  refine g_iald (pc' := 16) dX1_wrongAt_15 rfl h6 (inB_in b7) ?_
  refine g_istore (pc' := 18) (lv' := [some (aR v0), some (aI v1), some (aI v2), some (aR (mR M (mR M (mR M v0 6) 0) v1.toNatClampNeg)), some (aI (mI M (mR M (mR M (mR M (mR M v0 6) 0) v1.toNatClampNeg) 0) v2.toNatClampNeg)), none, none]) dX1_wrongAt_16 rfl rfl (by decide) rfl ?_
  refine g_aload_n (pc' := 19) dX1_wrongAt_18 rfl rfl ?_
  refine g_getR (pc' := 22) 1 5 rfl rfl (by decide) inX1 (by decide) rfl rfl q_486 dX1_wrongAt_19 rfl h1 ?_
  obtain ⟨h8, hf⟩ := chk_s hf
  refine g_getR (pc' := 25) 5 12 rfl rfl (by decide) inX5 (by decide) rfl rfl q_504 dX1_wrongAt_22 rfl h8 ?_
  refine g_iload_n (pc' := 26) dX1_wrongAt_25 rfl rfl ?_
  obtain ⟨h9, hf⟩ := chk_s hf
  obtain ⟨b10, hf⟩ := chk_s hf
  refine g_iald (pc' := 27) dX1_wrongAt_26 rfl h9 (inB_in b10) ?_
  refine g_istore (pc' := 29) (lv' := [some (aR v0), some (aI v1), some (aI v2), some (aR (mR M (mR M (mR M v0 6) 0) v1.toNatClampNeg)), some (aI (mI M (mR M (mR M (mR M (mR M v0 6) 0) v1.toNatClampNeg) 0) v2.toNatClampNeg)), some (aI (mI M (mR M (mR M v0 5) 12) v1.toNatClampNeg)), none]) dX1_wrongAt_27 rfl rfl (by decide) rfl ?_
  refine g_iload (pc' := 31) dX1_wrongAt_29 rfl rfl ?_
  refine g_aload_n (pc' := 32) dX1_wrongAt_31 rfl rfl ?_
  refine g_getR (pc' := 35) 1 5 rfl rfl (by decide) inX1 (by decide) rfl rfl q_486 dX1_wrongAt_32 rfl h1 ?_
  refine g_getR (pc' := 38) 5 6 rfl rfl (by decide) inX5 (by decide) rfl rfl q_505 dX1_wrongAt_35 rfl h8 ?_
  refine g_iload (pc' := 40) dX1_wrongAt_38 rfl rfl ?_
  obtain ⟨h11, hf⟩ := chk_s hf
  obtain ⟨b12, hf⟩ := chk_s hf
  refine g_iald (pc' := 41) dX1_wrongAt_40 rfl h11 (inB_in b12) ?_
  refine g_icmp_gt (pc' := 44) 53 dX1_wrongAt_41 rfl (by decide) (fun c13 => ?_) (fun c13 => ?_)
  · have hf := ite_t c13 hf
    refine g_iconst (pc' := 54) (1 : Int32) dX1_wrongAt_53 rfl (by decide) ?_
    cases hf
    exact g_ireturn dX1_wrongAt_54 rfl (Nat.le_of_ble_eq_true rfl) (Nat.le_of_ble_eq_true rfl)
  · have hf := ite_f c13 hf
    refine g_iload_n (pc' := 45) dX1_wrongAt_44 rfl rfl ?_
    refine g_if_ne (pc' := 48) 55 dX1_wrongAt_45 rfl (by decide) (fun c14 => ?_) (fun c14 => ?_)
    · have hf := ite_f c14 hf
      exact s_X1_wrongAt_55 v0 v1 v2 (mR M (mR M (mR M v0 6) 0) v1.toNatClampNeg) (mI M (mR M (mR M (mR M (mR M v0 6) 0) v1.toNatClampNeg) 0) v2.toNatClampNeg) (mI M (mR M (mR M v0 5) 12) v1.toNatClampNeg) M _ hf
    · have hf := ite_t c14 hf
      refine g_iload (pc' := 50) dX1_wrongAt_48 rfl rfl ?_
      refine g_if_eq (pc' := 53) 55 dX1_wrongAt_50 rfl (by decide) (fun c15 => ?_) (fun c15 => ?_)
      · have hf := ite_t c15 hf
        exact s_X1_wrongAt_55 v0 v1 v2 (mR M (mR M (mR M v0 6) 0) v1.toNatClampNeg) (mI M (mR M (mR M (mR M (mR M v0 6) 0) v1.toNatClampNeg) 0) v2.toNatClampNeg) (mI M (mR M (mR M v0 5) 12) v1.toNatClampNeg) M _ hf
      · have hf := ite_f c15 hf
        refine g_iconst (pc' := 54) (1 : Int32) dX1_wrongAt_53 rfl (by decide) ?_
        cases hf
        exact g_ireturn dX1_wrongAt_54 rfl (Nat.le_of_ble_eq_true rfl) (Nat.le_of_ble_eq_true rfl)
def f_X1_note (v0 : Nat) (v1 : Int32) (v2 : Int32) (v3 : Int32) (M : Mem) : Option (Unit × Mem) :=
  if mK M v0 = 2 then
    ap (sI M v0 0 v1) fun M2 =>
    if mK M2 v0 = 2 then
      ap (sI M2 v0 1 v2) fun M4 =>
      if mK M4 v0 = 2 then
        ap (sI M4 v0 2 v3) fun M6 =>
        some ((), M6)
      else none
    else none
  else none
theorem s_X1_note (v0 : Nat) (v1 : Int32) (v2 : Int32) (v3 : Int32) (M : Mem) (r : (Unit × Mem)) (hf : f_X1_note v0 v1 v2 v3 M = some r) : Sem mi_X1_note (1) [aR v0, aI v1, aI v2, aI v3] M (oU r.1) r.2 := by
  unfold f_X1_note at hf
  refine sem_of (by decide) rfl rfl rfl (Nat.le_of_ble_eq_true rfl) (lv := [some (aR v0), some (aI v1), some (aI v2), some (aI v3)]) rfl ?_
  refine g_aload_n (pc' := 1) dX1_note_0 rfl rfl ?_
  refine g_iload_n (pc' := 2) dX1_note_1 rfl rfl ?_
  obtain ⟨h1, hf⟩ := chk_s hf
  refine g_putI (pc' := 5) 1 0 rfl rfl (by decide) inX1 tyX1_ok nmX1 (by decide) rfl rfl rfl rfl q_488 dX1_note_2 rfl h1 (gM fun M2 hM2 => ?_)
  have hf := ap_eq hf hM2
  refine g_aload_n (pc' := 6) dX1_note_5 rfl rfl ?_
  refine g_iload_n (pc' := 7) dX1_note_6 rfl rfl ?_
  obtain ⟨h3, hf⟩ := chk_s hf
  refine g_putI (pc' := 10) 1 1 rfl rfl (by decide) inX1 tyX1_ok nmX1 (by decide) rfl rfl rfl rfl q_489 dX1_note_7 rfl h3 (gM fun M4 hM4 => ?_)
  have hf := ap_eq hf hM4
  refine g_aload_n (pc' := 11) dX1_note_10 rfl rfl ?_
  refine g_iload_n (pc' := 12) dX1_note_11 rfl rfl ?_
  obtain ⟨h5, hf⟩ := chk_s hf
  refine g_putI (pc' := 15) 1 2 rfl rfl (by decide) inX1 tyX1_ok nmX1 (by decide) rfl rfl rfl rfl q_490 dX1_note_12 rfl h5 (gM fun M6 hM6 => ?_)
  have hf := ap_eq hf hM6
  cases hf
  exact g_return dX1_note_15 rfl (Nat.le_of_ble_eq_true rfl) (Nat.le_of_ble_eq_true rfl)
def f_X2_firsts_27 (k4 : Nat → Int32 → Int32 → Mem → Option (Int32 × Mem)) (v0 : Nat) (v2 : Int32) (w0 : Int32) (w1 : Int32) (M : Mem) : Option (Int32 × Mem) :=
  k4 v0 (w0 + w1) (v2 + 1) M
def f_X2_firsts_4 : Nat → Nat → Int32 → Int32 → Mem → Option (Int32 × Mem)
  | 0, _, _, _, _ => none
  | n + 1, v0, v1, v2, M =>
    if mK M v0 = 3 then
      if (mI M v0 3) ≤ v2 then
        some (v1, M)
      else
        if mK M (mR M v0 0) = 21 then
          if inB v2 (mN M (mR M v0 0)) = true then
            if (mI M (mR M v0 0) v2.toNatClampNeg) = 0 then
              f_X2_firsts_27 (f_X2_firsts_4 n) v0 v2 v1 (1 : Int32) M
            else
              f_X2_firsts_27 (f_X2_firsts_4 n) v0 v2 v1 (0 : Int32) M
          else none
        else none
    else none
def f_X2_firsts (v0 : Nat) (M : Mem) : Option (Int32 × Mem) :=
  f_X2_firsts_4 FUEL v0 (0 : Int32) (0 : Int32) M
theorem s_X2_firsts_27 (k4 : Nat → Int32 → Int32 → Mem → Option (Int32 × Mem)) (hk4 : ∀ (v0 : Nat) (v1 : Int32) (v2 : Int32) (M : Mem) (r : (Int32 × Mem)), k4 v0 v1 v2 M = some r → G mi_X2_firsts 1 (oI r.1) r.2 4 [some (aR v0), some (aI v1), some (aI v2)] [] M 0 0) (v0 : Nat) (v2 : Int32) (w0 : Int32) (w1 : Int32) (M : Mem) (r : (Int32 × Mem)) (hf : f_X2_firsts_27 k4 v0 v2 w0 w1 M = some r) : G mi_X2_firsts 1 (oI r.1) r.2 27 [some (aR v0), none, some (aI v2)] [aI w1, aI w0] M 0 0 := by
  unfold f_X2_firsts_27 at hf
  refine g_iadd (pc' := 28) dX2_firsts_27 rfl ?_
  refine g_istore_n (pc' := 29) (lv' := [some (aR v0), some (aI (w0 + w1)), some (aI v2)]) dX2_firsts_28 rfl rfl (by decide) rfl ?_
  refine g_iinc (pc' := 32) (lv' := [some (aR v0), some (aI (w0 + w1)), some (aI (v2 + 1))]) (v2 + 1) dX2_firsts_29 rfl rfl (by rfl) rfl (by decide) rfl ?_
  refine g_goto (pc' := 4) dX2_firsts_32 (by decide) ?_
  exact hk4 v0 (w0 + w1) (v2 + 1) M _ hf
theorem s_X2_firsts_4 : ∀ (n : Nat) (v0 : Nat) (v1 : Int32) (v2 : Int32) (M : Mem) (r : (Int32 × Mem)), f_X2_firsts_4 n v0 v1 v2 M = some r → G mi_X2_firsts 1 (oI r.1) r.2 4 [some (aR v0), some (aI v1), some (aI v2)] [] M 0 0 := by
  intro n
  induction n with
  | zero => intro v0 v1 v2 M r hf; cases hf
  | succ n ih =>
    intro v0 v1 v2 M r hf
    unfold f_X2_firsts_4 at hf
    refine g_iload_n (pc' := 5) dX2_firsts_4 rfl rfl ?_
    refine g_aload_n (pc' := 6) dX2_firsts_5 rfl rfl ?_
    obtain ⟨h1, hf⟩ := chk_s hf
    refine g_getI (pc' := 9) 2 3 rfl rfl (by decide) inX2 (by decide) rfl rfl q_524 dX2_firsts_6 rfl h1 ?_
    refine g_icmp_ge (pc' := 12) 35 dX2_firsts_9 rfl (by decide) (fun c2 => ?_) (fun c2 => ?_)
    · have hf := ite_t c2 hf
      refine g_iload_n (pc' := 36) dX2_firsts_35 rfl rfl ?_
      cases hf
      exact g_ireturn dX2_firsts_36 rfl (Nat.le_of_ble_eq_true rfl) (Nat.le_of_ble_eq_true rfl)
    · have hf := ite_f c2 hf
      refine g_iload_n (pc' := 13) dX2_firsts_12 rfl rfl ?_
      refine g_aload_n (pc' := 14) dX2_firsts_13 rfl rfl ?_
      refine g_getR (pc' := 17) 2 0 rfl rfl (by decide) inX2 (by decide) rfl rfl q_93 dX2_firsts_14 rfl h1 ?_
      refine g_iload_n (pc' := 18) dX2_firsts_17 rfl rfl ?_
      obtain ⟨h3, hf⟩ := chk_s hf
      obtain ⟨b4, hf⟩ := chk_s hf
      refine g_iald (pc' := 19) dX2_firsts_18 rfl h3 (inB_in b4) ?_
      refine g_if_ne (pc' := 22) 26 dX2_firsts_19 rfl (by decide) (fun c5 => ?_) (fun c5 => ?_)
      · have hf := ite_f c5 hf
        refine g_iconst (pc' := 27) (0 : Int32) dX2_firsts_26 rfl (by decide) ?_
        refine g_mask [true, false, true] rfl ?_
        exact s_X2_firsts_27 (f_X2_firsts_4 n) ih v0 v2 v1 (0 : Int32) M _ hf
      · have hf := ite_t c5 hf
        refine g_iconst (pc' := 23) (1 : Int32) dX2_firsts_22 rfl (by decide) ?_
        refine g_goto (pc' := 27) dX2_firsts_23 (by decide) ?_
        refine g_mask [true, false, true] rfl ?_
        exact s_X2_firsts_27 (f_X2_firsts_4 n) ih v0 v2 v1 (1 : Int32) M _ hf
theorem s_X2_firsts (v0 : Nat) (M : Mem) (r : (Int32 × Mem)) (hf : f_X2_firsts v0 M = some r) : Sem mi_X2_firsts (1) [aR v0] M (oI r.1) r.2 := by
  unfold f_X2_firsts at hf
  refine sem_of (by decide) rfl rfl rfl (Nat.le_of_ble_eq_true rfl) (lv := [some (aR v0), none, none]) rfl ?_
  refine g_iconst (pc' := 1) (0 : Int32) dX2_firsts_0 rfl (by decide) ?_
  refine g_istore_n (pc' := 2) (lv' := [some (aR v0), some (aI (0 : Int32)), none]) dX2_firsts_1 rfl rfl (by decide) rfl ?_
  refine g_iconst (pc' := 3) (0 : Int32) dX2_firsts_2 rfl (by decide) ?_
  refine g_istore_n (pc' := 4) (lv' := [some (aR v0), some (aI (0 : Int32)), some (aI (0 : Int32))]) dX2_firsts_3 rfl rfl (by decide) rfl ?_
  exact s_X2_firsts_4 FUEL v0 (0 : Int32) (0 : Int32) M _ hf
def f_X1_checkColumn_12 : Nat → Nat → Int32 → Nat → Int32 → Mem → Option (Unit × Mem)
  | 0, _, _, _, _, _ => none
  | n + 1, v0, v1, v2, v3, M =>
    if mK M v2 = 3 then
      if (mI M v2 3) ≤ v3 then
        bnd (f_X2_firsts v2 M) fun r4 M3 =>
        if mK M3 v0 = 2 then
          if mK M3 (mR M3 v0 6) = 8 then
            if r4 = (mI M3 (mR M3 v0 6) 1) then
              some ((), M3)
            else
              if mK M3 v2 = 3 then
                bnd (f_X1_note v0 (4 : Int32) v1 (mI M3 v2 3) M3) fun _ M9 =>
                some ((), M9)
              else none
          else none
        else none
      else
        if mK M v0 = 2 then
          bnd (f_X1_wrongAt v0 v1 v3 M) fun r13 M12 =>
          if r13 = 0 then
            f_X1_checkColumn_12 n v0 v1 v2 (v3 + 1) M12
          else
            if mK M12 v0 = 2 then
              bnd (f_X1_note v0 r13 v1 v3 M12) fun _ M16 =>
              some ((), M16)
            else none
        else none
    else none
def f_X1_checkColumn (v0 : Nat) (v1 : Int32) (M : Mem) : Option (Unit × Mem) :=
  if mK M v0 = 2 then
    if mK M (mR M v0 6) = 8 then
      if mK M (mR M (mR M v0 6) 0) = 23 then
        if inB v1 (mN M (mR M (mR M v0 6) 0)) = true then
          f_X1_checkColumn_12 FUEL v0 v1 (mR M (mR M (mR M v0 6) 0) v1.toNatClampNeg) (0 : Int32) M
        else none
      else none
    else none
  else none
theorem s_X1_checkColumn_12 : ∀ (n : Nat) (v0 : Nat) (v1 : Int32) (v2 : Nat) (v3 : Int32) (M : Mem) (r : (Unit × Mem)), f_X1_checkColumn_12 n v0 v1 v2 v3 M = some r → G mi_X1_checkColumn 4 (oU r.1) r.2 12 [some (aR v0), some (aI v1), some (aR v2), some (aI v3), none] [] M 0 0 := by
  intro n
  induction n with
  | zero => intro v0 v1 v2 v3 M r hf; cases hf
  | succ n ih =>
    intro v0 v1 v2 v3 M r hf
    unfold f_X1_checkColumn_12 at hf
    refine g_iload_n (pc' := 13) dX1_checkColumn_12 rfl rfl ?_
    refine g_aload_n (pc' := 14) dX1_checkColumn_13 rfl rfl ?_
    obtain ⟨h1, hf⟩ := chk_s hf
    refine g_getI (pc' := 17) 2 3 rfl rfl (by decide) inX2 (by decide) rfl rfl q_497 dX1_checkColumn_14 rfl h1 ?_
    refine g_icmp_ge (pc' := 20) 48 dX1_checkColumn_17 rfl (by decide) (fun c2 => ?_) (fun c2 => ?_)
    · have hf := ite_t c2 hf
      refine g_aload_n (pc' := 49) dX1_checkColumn_48 rfl rfl ?_
      obtain ⟨r4, M3, e4, hf⟩ := bnd_some hf
      refine g_callVi (pc' := 52) (k' := 0) (u' := 0) (fr2 := 1) (As := []) (b := v2) (st := []) cf_X2_firsts q_520 (by omega) (ci := 2) rfl rfl (by decide) dX1_checkColumn_49 rfl rfl rfl (Nat.le_of_ble_eq_true rfl) (Or.inl rfl) (Nat.le_refl _) (Nat.le_refl _) (Nat.le_refl _) (Nat.le_refl _) h1 (s_X2_firsts v2 M _ e4) ?_
      refine g_aload_n (pc' := 53) dX1_checkColumn_52 rfl rfl ?_
      obtain ⟨h5, hf⟩ := chk_s hf
      refine g_getR (pc' := 56) 1 6 rfl rfl (by decide) inX1 (by decide) rfl rfl q_487 dX1_checkColumn_53 rfl h5 ?_
      obtain ⟨h6, hf⟩ := chk_s hf
      refine g_getI (pc' := 59) 7 1 rfl rfl (by decide) inX7 (by decide) rfl rfl q_498 dX1_checkColumn_56 rfl h6 ?_
      refine g_icmp_eq (pc' := 62) 72 dX1_checkColumn_59 rfl (by decide) (fun c7 => ?_) (fun c7 => ?_)
      · have hf := ite_t c7 hf
        cases hf
        exact g_return dX1_checkColumn_72 rfl (Nat.le_of_ble_eq_true rfl) (Nat.le_of_ble_eq_true rfl)
      · have hf := ite_f c7 hf
        refine g_aload_n (pc' := 63) dX1_checkColumn_62 rfl rfl ?_
        refine g_iconst (pc' := 64) (4 : Int32) dX1_checkColumn_63 rfl (by decide) ?_
        refine g_iload_n (pc' := 65) dX1_checkColumn_64 rfl rfl ?_
        refine g_aload_n (pc' := 66) dX1_checkColumn_65 rfl rfl ?_
        obtain ⟨h8, hf⟩ := chk_s hf
        refine g_getI (pc' := 69) 2 3 rfl rfl (by decide) inX2 (by decide) rfl rfl q_497 dX1_checkColumn_66 rfl h8 ?_
        obtain ⟨_, M9, e10, hf⟩ := bnd_some hf
        refine g_callVv (pc' := 72) (k' := 0) (u' := 0) (fr2 := 1) (As := [aI (4 : Int32), aI v1, aI (mI M3 v2 3)]) (b := v0) (st := []) cf_X1_note q_516 (by omega) (ci := 1) rfl rfl (by decide) dX1_checkColumn_69 rfl rfl rfl (Nat.le_of_ble_eq_true rfl) (Or.inl rfl) (Nat.le_refl _) (Nat.le_refl _) (Nat.le_refl _) (Nat.le_refl _) h5 (s_X1_note v0 (4 : Int32) v1 (mI M3 v2 3) M3 _ e10) ?_
        cases hf
        exact g_return dX1_checkColumn_72 rfl (Nat.le_of_ble_eq_true rfl) (Nat.le_of_ble_eq_true rfl)
    · have hf := ite_f c2 hf
      refine g_aload_n (pc' := 21) dX1_checkColumn_20 rfl rfl ?_
      refine g_iload_n (pc' := 22) dX1_checkColumn_21 rfl rfl ?_
      refine g_iload_n (pc' := 23) dX1_checkColumn_22 rfl rfl ?_
      obtain ⟨h11, hf⟩ := chk_s hf
      obtain ⟨r13, M12, e13, hf⟩ := bnd_some hf
      refine g_callVi (pc' := 26) (k' := 0) (u' := 0) (fr2 := 3) (As := [aI v1, aI v3]) (b := v0) (st := []) cf_X1_wrongAt q_499 (by omega) (ci := 1) rfl rfl (by decide) dX1_checkColumn_23 rfl rfl rfl (Nat.le_of_ble_eq_true rfl) (Or.inl rfl) (Nat.le_refl _) (Nat.le_refl _) (Nat.le_refl _) (Nat.le_refl _) h11 (s_X1_wrongAt v0 v1 v3 M _ e13) ?_
      refine g_istore (pc' := 28) (lv' := [some (aR v0), some (aI v1), some (aR v2), some (aI v3), some (aI r13)]) dX1_checkColumn_26 rfl rfl (by decide) rfl ?_
      refine g_iload (pc' := 30) dX1_checkColumn_28 rfl rfl ?_
      refine g_if_eq (pc' := 33) 42 dX1_checkColumn_30 rfl (by decide) (fun c14 => ?_) (fun c14 => ?_)
      · have hf := ite_t c14 hf
        refine g_iinc (pc' := 45) (lv' := [some (aR v0), some (aI v1), some (aR v2), some (aI (v3 + 1)), some (aI r13)]) (v3 + 1) dX1_checkColumn_42 rfl rfl (by rfl) rfl (by decide) rfl ?_
        refine g_goto (pc' := 12) dX1_checkColumn_45 (by decide) ?_
        refine g_mask [true, true, true, true, false] rfl ?_
        refine g_widen (k' := 0) (u' := 0) (by omega) (by omega) ?_
        exact ih v0 v1 v2 (v3 + 1) M12 _ hf
      · have hf := ite_f c14 hf
        refine g_aload_n (pc' := 34) dX1_checkColumn_33 rfl rfl ?_
        refine g_iload (pc' := 36) dX1_checkColumn_34 rfl rfl ?_
        refine g_iload_n (pc' := 37) dX1_checkColumn_36 rfl rfl ?_
        refine g_iload_n (pc' := 38) dX1_checkColumn_37 rfl rfl ?_
        obtain ⟨h15, hf⟩ := chk_s hf
        obtain ⟨_, M16, e17, hf⟩ := bnd_some hf
        refine g_callVv (pc' := 41) (k' := 0) (u' := 0) (fr2 := 1) (As := [aI r13, aI v1, aI v3]) (b := v0) (st := []) cf_X1_note q_516 (by omega) (ci := 1) rfl rfl (by decide) dX1_checkColumn_38 rfl rfl rfl (Nat.le_of_ble_eq_true rfl) (Or.inl rfl) (Nat.le_refl _) (Nat.le_refl _) (Nat.le_refl _) (Nat.le_refl _) h15 (s_X1_note v0 r13 v1 v3 M12 _ e17) ?_
        cases hf
        exact g_return dX1_checkColumn_41 rfl (Nat.le_of_ble_eq_true rfl) (Nat.le_of_ble_eq_true rfl)
theorem s_X1_checkColumn (v0 : Nat) (v1 : Int32) (M : Mem) (r : (Unit × Mem)) (hf : f_X1_checkColumn v0 v1 M = some r) : Sem mi_X1_checkColumn (4) [aR v0, aI v1] M (oU r.1) r.2 := by
  unfold f_X1_checkColumn at hf
  refine sem_of (by decide) rfl rfl rfl (Nat.le_of_ble_eq_true rfl) (lv := [some (aR v0), some (aI v1), none, none, none]) rfl ?_
  refine g_aload_n (pc' := 1) dX1_checkColumn_0 rfl rfl ?_
  obtain ⟨h1, hf⟩ := chk_s hf
  refine g_getR (pc' := 4) 1 6 rfl rfl (by decide) inX1 (by decide) rfl rfl q_487 dX1_checkColumn_1 rfl h1 ?_
  obtain ⟨h2, hf⟩ := chk_s hf
  refine g_getR (pc' := 7) 7 0 rfl rfl (by decide) inX7 (by decide) rfl rfl q_496 dX1_checkColumn_4 rfl h2 ?_
  refine g_iload_n (pc' := 8) dX1_checkColumn_7 rfl rfl ?_
  obtain ⟨h3, hf⟩ := chk_s hf
  obtain ⟨b4, hf⟩ := chk_s hf
  refine g_aald (pc' := 9) (t0 := 2) (fun _ => rfl) (by decide) dX1_checkColumn_8 rfl h3 (inB_in b4) ?_
  refine g_astore_n (pc' := 10) (lv' := [some (aR v0), some (aI v1), some (aR (mR M (mR M (mR M v0 6) 0) v1.toNatClampNeg)), none, none]) dX1_checkColumn_9 rfl rfl (by decide) rfl ?_
  refine g_iconst (pc' := 11) (0 : Int32) dX1_checkColumn_10 rfl (by decide) ?_
  refine g_istore_n (pc' := 12) (lv' := [some (aR v0), some (aI v1), some (aR (mR M (mR M (mR M v0 6) 0) v1.toNatClampNeg)), some (aI (0 : Int32)), none]) dX1_checkColumn_11 rfl rfl (by decide) rfl ?_
  exact s_X1_checkColumn_12 FUEL v0 v1 (mR M (mR M (mR M v0 6) 0) v1.toNatClampNeg) (0 : Int32) M _ hf
def f_X5_innermostAround_15 : Nat → Nat → Int32 → Int32 → Int32 → Mem → Option (Int32 × Mem)
  | 0, _, _, _, _, _ => none
  | n + 1, v0, v2, v3, v4, M =>
    if (16 : Int32) ≤ v4 then
      some ((-1 : Int32), M)
    else
      if v3 = (-1 : Int32) then
        some ((-1 : Int32), M)
      else
        if mK M v0 = 6 then
          if mK M (mR M v0 10) = 21 then
            if inB v3 (mN M (mR M v0 10)) = true then
              if ((((mI M (mR M v0 10) v3.toNatClampNeg).toUInt32 >>> (v2.toUInt32 &&& Int32.toUInt32 31)).toInt32) &&& (1 : Int32)) = 0 then
                if mK M (mR M v0 3) = 21 then
                  if inB v3 (mN M (mR M v0 3)) = true then
                    f_X5_innermostAround_15 n v0 v2 (mI M (mR M v0 3) v3.toNatClampNeg) (v4 + 1) M
                  else none
                else none
              else
                some (v3, M)
            else none
          else none
        else none
def f_X5_innermostAround (v0 : Nat) (v1 : Int32) (v2 : Int32) (M : Mem) : Option (Int32 × Mem) :=
  if mK M v0 = 6 then
    if mK M (mR M v0 12) = 21 then
      if inB v1 (mN M (mR M v0 12)) = true then
        if mK M (mR M v0 3) = 21 then
          if inB (mI M (mR M v0 12) v1.toNatClampNeg) (mN M (mR M v0 3)) = true then
            f_X5_innermostAround_15 FUEL v0 v2 (mI M (mR M v0 3) (mI M (mR M v0 12) v1.toNatClampNeg).toNatClampNeg) (0 : Int32) M
          else none
        else none
      else none
    else none
  else none
theorem s_X5_innermostAround_15 : ∀ (n : Nat) (v0 : Nat) (v2 : Int32) (v3 : Int32) (v4 : Int32) (M : Mem) (r : (Int32 × Mem)), f_X5_innermostAround_15 n v0 v2 v3 v4 M = some r → G mi_X5_innermostAround 1 (oI r.1) r.2 15 [some (aR v0), none, some (aI v2), some (aI v3), some (aI v4)] [] M 0 0 := by
  intro n
  induction n with
  | zero => intro v0 v2 v3 v4 M r hf; cases hf
  | succ n ih =>
    intro v0 v2 v3 v4 M r hf
    unfold f_X5_innermostAround_15 at hf
    refine g_iload (pc' := 17) dX5_innermostAround_15 rfl rfl ?_
    refine g_bipush (pc' := 19) (16 : Int32) dX5_innermostAround_17 rfl (by decide) ?_
    refine g_icmp_ge (pc' := 22) 55 dX5_innermostAround_19 rfl (by decide) (fun c1 => ?_) (fun c1 => ?_)
    · have hf := ite_t c1 hf
      refine g_iconst (pc' := 56) (-1 : Int32) dX5_innermostAround_55 rfl (by decide) ?_
      cases hf
      exact g_ireturn dX5_innermostAround_56 rfl (Nat.le_of_ble_eq_true rfl) (Nat.le_of_ble_eq_true rfl)
    · have hf := ite_f c1 hf
      refine g_iload_n (pc' := 23) dX5_innermostAround_22 rfl rfl ?_
      refine g_iconst (pc' := 24) (-1 : Int32) dX5_innermostAround_23 rfl (by decide) ?_
      refine g_icmp_eq (pc' := 27) 55 dX5_innermostAround_24 rfl (by decide) (fun c2 => ?_) (fun c2 => ?_)
      · have hf := ite_t c2 hf
        refine g_iconst (pc' := 56) (-1 : Int32) dX5_innermostAround_55 rfl (by decide) ?_
        cases hf
        exact g_ireturn dX5_innermostAround_56 rfl (Nat.le_of_ble_eq_true rfl) (Nat.le_of_ble_eq_true rfl)
      · have hf := ite_f c2 hf
        refine g_aload_n (pc' := 28) dX5_innermostAround_27 rfl rfl ?_
        obtain ⟨h3, hf⟩ := chk_s hf
        refine g_getR (pc' := 31) 5 10 rfl rfl (by decide) inX5 (by decide) rfl rfl q_107 dX5_innermostAround_28 rfl h3 ?_
        refine g_iload_n (pc' := 32) dX5_innermostAround_31 rfl rfl ?_
        obtain ⟨h4, hf⟩ := chk_s hf
        obtain ⟨b5, hf⟩ := chk_s hf
        refine g_iald (pc' := 33) dX5_innermostAround_32 rfl h4 (inB_in b5) ?_
        refine g_iload_n (pc' := 34) dX5_innermostAround_33 rfl rfl ?_
        refine g_iushr (pc' := 35) dX5_innermostAround_34 rfl ?_
        refine g_iconst (pc' := 36) (1 : Int32) dX5_innermostAround_35 rfl (by decide) ?_
        refine g_iand (pc' := 37) dX5_innermostAround_36 rfl ?_
        refine g_if_eq (pc' := 40) 42 dX5_innermostAround_37 rfl (by decide) (fun c6 => ?_) (fun c6 => ?_)
        · have hf := ite_t c6 hf
          refine g_aload_n (pc' := 43) dX5_innermostAround_42 rfl rfl ?_
          refine g_getR (pc' := 46) 5 3 rfl rfl (by decide) inX5 (by decide) rfl rfl q_100 dX5_innermostAround_43 rfl h3 ?_
          refine g_iload_n (pc' := 47) dX5_innermostAround_46 rfl rfl ?_
          obtain ⟨h7, hf⟩ := chk_s hf
          obtain ⟨b8, hf⟩ := chk_s hf
          refine g_iald (pc' := 48) dX5_innermostAround_47 rfl h7 (inB_in b8) ?_
          refine g_istore_n (pc' := 49) (lv' := [some (aR v0), none, some (aI v2), some (aI (mI M (mR M v0 3) v3.toNatClampNeg)), some (aI v4)]) dX5_innermostAround_48 rfl rfl (by decide) rfl ?_
          refine g_iinc (pc' := 52) (lv' := [some (aR v0), none, some (aI v2), some (aI (mI M (mR M v0 3) v3.toNatClampNeg)), some (aI (v4 + 1))]) (v4 + 1) dX5_innermostAround_49 rfl rfl (by rfl) rfl (by decide) rfl ?_
          refine g_goto (pc' := 15) dX5_innermostAround_52 (by decide) ?_
          exact ih v0 v2 (mI M (mR M v0 3) v3.toNatClampNeg) (v4 + 1) M _ hf
        · have hf := ite_f c6 hf
          refine g_iload_n (pc' := 41) dX5_innermostAround_40 rfl rfl ?_
          cases hf
          exact g_ireturn dX5_innermostAround_41 rfl (Nat.le_of_ble_eq_true rfl) (Nat.le_of_ble_eq_true rfl)
theorem s_X5_innermostAround (v0 : Nat) (v1 : Int32) (v2 : Int32) (M : Mem) (r : (Int32 × Mem)) (hf : f_X5_innermostAround v0 v1 v2 M = some r) : Sem mi_X5_innermostAround (1) [aR v0, aI v1, aI v2] M (oI r.1) r.2 := by
  unfold f_X5_innermostAround at hf
  refine sem_of (by decide) rfl rfl rfl (Nat.le_of_ble_eq_true rfl) (lv := [some (aR v0), some (aI v1), some (aI v2), none, none]) rfl ?_
  refine g_aload_n (pc' := 1) dX5_innermostAround_0 rfl rfl ?_
  obtain ⟨h1, hf⟩ := chk_s hf
  refine g_getR (pc' := 4) 5 3 rfl rfl (by decide) inX5 (by decide) rfl rfl q_100 dX5_innermostAround_1 rfl h1 ?_
  refine g_aload_n (pc' := 5) dX5_innermostAround_4 rfl rfl ?_
  refine g_getR (pc' := 8) 5 12 rfl rfl (by decide) inX5 (by decide) rfl rfl q_109 dX5_innermostAround_5 rfl h1 ?_
  refine g_iload_n (pc' := 9) dX5_innermostAround_8 rfl rfl ?_
  obtain ⟨h2, hf⟩ := chk_s hf
  obtain ⟨b3, hf⟩ := chk_s hf
  refine g_iald (pc' := 10) dX5_innermostAround_9 rfl h2 (inB_in b3) ?_
  obtain ⟨h4, hf⟩ := chk_s hf
  obtain ⟨b5, hf⟩ := chk_s hf
  refine g_iald (pc' := 11) dX5_innermostAround_10 rfl h4 (inB_in b5) ?_
  refine g_istore_n (pc' := 12) (lv' := [some (aR v0), some (aI v1), some (aI v2), some (aI (mI M (mR M v0 3) (mI M (mR M v0 12) v1.toNatClampNeg).toNatClampNeg)), none]) dX5_innermostAround_11 rfl rfl (by decide) rfl ?_
  refine g_iconst (pc' := 13) (0 : Int32) dX5_innermostAround_12 rfl (by decide) ?_
  refine g_istore (pc' := 15) (lv' := [some (aR v0), some (aI v1), some (aI v2), some (aI (mI M (mR M v0 3) (mI M (mR M v0 12) v1.toNatClampNeg).toNatClampNeg)), some (aI (0 : Int32))]) dX5_innermostAround_13 rfl rfl (by decide) rfl ?_
  refine g_mask [true, false, true, true, true] rfl ?_
  exact s_X5_innermostAround_15 FUEL v0 v2 (mI M (mR M v0 3) (mI M (mR M v0 12) v1.toNatClampNeg).toNatClampNeg) (0 : Int32) M _ hf
def f_X5_levelOf (v0 : Nat) (v1 : Int32) (v2 : Int32) (M : Mem) : Option (Int32 × Mem) :=
  if mK M v0 = 6 then
    bnd (f_X5_innermostAround v0 v1 v2 M) fun r3 M2 =>
    if r3 = (-1 : Int32) then
      some ((0 : Int32), M2)
    else
      if mK M2 v0 = 6 then
        if mK M2 (mR M2 v0 6) = 21 then
          if inB r3 (mN M2 (mR M2 v0 6)) = true then
            some (mI M2 (mR M2 v0 6) r3.toNatClampNeg, M2)
          else none
        else none
      else none
  else none
theorem s_X5_levelOf (v0 : Nat) (v1 : Int32) (v2 : Int32) (M : Mem) (r : (Int32 × Mem)) (hf : f_X5_levelOf v0 v1 v2 M = some r) : Sem mi_X5_levelOf (2) [aR v0, aI v1, aI v2] M (oI r.1) r.2 := by
  unfold f_X5_levelOf at hf
  refine sem_of (by decide) rfl rfl rfl (Nat.le_of_ble_eq_true rfl) (lv := [some (aR v0), some (aI v1), some (aI v2), none]) rfl ?_
  refine g_aload_n (pc' := 1) dX5_levelOf_0 rfl rfl ?_
  refine g_iload_n (pc' := 2) dX5_levelOf_1 rfl rfl ?_
  refine g_iload_n (pc' := 3) dX5_levelOf_2 rfl rfl ?_
  obtain ⟨h1, hf⟩ := chk_s hf
  obtain ⟨r3, M2, e3, hf⟩ := bnd_some hf
  refine g_callVi (pc' := 6) (k' := 0) (u' := 0) (fr2 := 1) (As := [aI v1, aI v2]) (b := v0) (st := []) cf_X5_innermostAround q_534 (by omega) (ci := 5) rfl rfl (by decide) dX5_levelOf_3 rfl rfl rfl (Nat.le_of_ble_eq_true rfl) (Or.inl rfl) (Nat.le_refl _) (Nat.le_refl _) (Nat.le_refl _) (Nat.le_refl _) h1 (s_X5_innermostAround v0 v1 v2 M _ e3) ?_
  refine g_istore_n (pc' := 7) (lv' := [some (aR v0), some (aI v1), some (aI v2), some (aI r3)]) dX5_levelOf_6 rfl rfl (by decide) rfl ?_
  refine g_iload_n (pc' := 8) dX5_levelOf_7 rfl rfl ?_
  refine g_iconst (pc' := 9) (-1 : Int32) dX5_levelOf_8 rfl (by decide) ?_
  refine g_icmp_ne (pc' := 12) 16 dX5_levelOf_9 rfl (by decide) (fun c4 => ?_) (fun c4 => ?_)
  · have hf := ite_f c4 hf
    refine g_aload_n (pc' := 17) dX5_levelOf_16 rfl rfl ?_
    obtain ⟨h5, hf⟩ := chk_s hf
    refine g_getR (pc' := 20) 5 6 rfl rfl (by decide) inX5 (by decide) rfl rfl q_103 dX5_levelOf_17 rfl h5 ?_
    refine g_iload_n (pc' := 21) dX5_levelOf_20 rfl rfl ?_
    obtain ⟨h6, hf⟩ := chk_s hf
    obtain ⟨b7, hf⟩ := chk_s hf
    refine g_iald (pc' := 22) dX5_levelOf_21 rfl h6 (inB_in b7) ?_
    cases hf
    exact g_ireturn dX5_levelOf_22 rfl (Nat.le_of_ble_eq_true rfl) (Nat.le_of_ble_eq_true rfl)
  · have hf := ite_t c4 hf
    refine g_iconst (pc' := 13) (0 : Int32) dX5_levelOf_12 rfl (by decide) ?_
    refine g_goto (pc' := 22) dX5_levelOf_13 (by decide) ?_
    cases hf
    exact g_ireturn dX5_levelOf_22 rfl (Nat.le_of_ble_eq_true rfl) (Nat.le_of_ble_eq_true rfl)
def f_X1_mostShared (v0 : Nat) (v1 : Int32) (v2 : Int32) (M : Mem) : Option (Int32 × Mem) :=
  if mK M v0 = 2 then
    if mK M (mR M v0 5) = 6 then
      bnd (f_X5_innermostAround (mR M v0 5) v1 v2 M) fun r4 M3 =>
      if r4 = (-1 : Int32) then
        some ((0 : Int32), M3)
      else
        if mK M3 v0 = 2 then
          if mK M3 (mR M3 v0 5) = 6 then
            if mK M3 (mR M3 (mR M3 v0 5) 5) = 21 then
              if inB r4 (mN M3 (mR M3 (mR M3 v0 5) 5)) = true then
                some (mI M3 (mR M3 (mR M3 v0 5) 5) r4.toNatClampNeg, M3)
              else none
            else none
          else none
        else none
    else none
  else none
theorem s_X1_mostShared (v0 : Nat) (v1 : Int32) (v2 : Int32) (M : Mem) (r : (Int32 × Mem)) (hf : f_X1_mostShared v0 v1 v2 M = some r) : Sem mi_X1_mostShared (2) [aR v0, aI v1, aI v2] M (oI r.1) r.2 := by
  unfold f_X1_mostShared at hf
  refine sem_of (by decide) rfl rfl rfl (Nat.le_of_ble_eq_true rfl) (lv := [some (aR v0), some (aI v1), some (aI v2), none]) rfl ?_
  refine g_aload_n (pc' := 1) dX1_mostShared_0 rfl rfl ?_
  obtain ⟨h1, hf⟩ := chk_s hf
  refine g_getR (pc' := 4) 1 5 rfl rfl (by decide) inX1 (by decide) rfl rfl q_486 dX1_mostShared_1 rfl h1 ?_
  refine g_iload_n (pc' := 5) dX1_mostShared_4 rfl rfl ?_
  refine g_iload_n (pc' := 6) dX1_mostShared_5 rfl rfl ?_
  obtain ⟨h2, hf⟩ := chk_s hf
  obtain ⟨r4, M3, e4, hf⟩ := bnd_some hf
  refine g_callVi (pc' := 9) (k' := 0) (u' := 0) (fr2 := 1) (As := [aI v1, aI v2]) (b := (mR M v0 5)) (st := []) cf_X5_innermostAround q_542 (by omega) (ci := 5) rfl rfl (by decide) dX1_mostShared_6 rfl rfl rfl (Nat.le_of_ble_eq_true rfl) (Or.inl rfl) (Nat.le_refl _) (Nat.le_refl _) (Nat.le_refl _) (Nat.le_refl _) h2 (s_X5_innermostAround (mR M v0 5) v1 v2 M _ e4) ?_
  refine g_istore_n (pc' := 10) (lv' := [some (aR v0), some (aI v1), some (aI v2), some (aI r4)]) dX1_mostShared_9 rfl rfl (by decide) rfl ?_
  refine g_iload_n (pc' := 11) dX1_mostShared_10 rfl rfl ?_
  refine g_iconst (pc' := 12) (-1 : Int32) dX1_mostShared_11 rfl (by decide) ?_
  refine g_icmp_ne (pc' := 15) 19 dX1_mostShared_12 rfl (by decide) (fun c5 => ?_) (fun c5 => ?_)
  · have hf := ite_f c5 hf
    refine g_aload_n (pc' := 20) dX1_mostShared_19 rfl rfl ?_
    obtain ⟨h6, hf⟩ := chk_s hf
    refine g_getR (pc' := 23) 1 5 rfl rfl (by decide) inX1 (by decide) rfl rfl q_486 dX1_mostShared_20 rfl h6 ?_
    obtain ⟨h7, hf⟩ := chk_s hf
    refine g_getR (pc' := 26) 5 5 rfl rfl (by decide) inX5 (by decide) rfl rfl q_507 dX1_mostShared_23 rfl h7 ?_
    refine g_iload_n (pc' := 27) dX1_mostShared_26 rfl rfl ?_
    obtain ⟨h8, hf⟩ := chk_s hf
    obtain ⟨b9, hf⟩ := chk_s hf
    refine g_iald (pc' := 28) dX1_mostShared_27 rfl h8 (inB_in b9) ?_
    cases hf
    exact g_ireturn dX1_mostShared_28 rfl (Nat.le_of_ble_eq_true rfl) (Nat.le_of_ble_eq_true rfl)
  · have hf := ite_t c5 hf
    refine g_iconst (pc' := 16) (0 : Int32) dX1_mostShared_15 rfl (by decide) ?_
    refine g_goto (pc' := 28) dX1_mostShared_16 (by decide) ?_
    cases hf
    exact g_ireturn dX1_mostShared_28 rfl (Nat.le_of_ble_eq_true rfl) (Nat.le_of_ble_eq_true rfl)
def f_X2_behind_4 : Nat → Nat → Int32 → Int32 → Mem → Option (Int32 × Mem)
  | 0, _, _, _, _ => none
  | n + 1, v0, v2, v3, M =>
    if mK M v0 = 3 then
      if (mI M v0 3) ≤ v3 then
        some (mI M v0 3, M)
      else
        if mK M (mR M v0 0) = 21 then
          if inB v3 (mN M (mR M v0 0)) = true then
            if v2 < (mI M (mR M v0 0) v3.toNatClampNeg) then
              f_X2_behind_4 n v0 v2 (v3 + 1) M
            else
              some (v3, M)
          else none
        else none
    else none
def f_X2_behind (v0 : Nat) (v1 : Int32) (v2 : Int32) (M : Mem) : Option (Int32 × Mem) :=
  f_X2_behind_4 FUEL v0 v2 (v1 + (1 : Int32)) M
theorem s_X2_behind_4 : ∀ (n : Nat) (v0 : Nat) (v2 : Int32) (v3 : Int32) (M : Mem) (r : (Int32 × Mem)), f_X2_behind_4 n v0 v2 v3 M = some r → G mi_X2_behind 1 (oI r.1) r.2 4 [some (aR v0), none, some (aI v2), some (aI v3)] [] M 0 0 := by
  intro n
  induction n with
  | zero => intro v0 v2 v3 M r hf; cases hf
  | succ n ih =>
    intro v0 v2 v3 M r hf
    unfold f_X2_behind_4 at hf
    refine g_iload_n (pc' := 5) dX2_behind_4 rfl rfl ?_
    refine g_aload_n (pc' := 6) dX2_behind_5 rfl rfl ?_
    obtain ⟨h1, hf⟩ := chk_s hf
    refine g_getI (pc' := 9) 2 3 rfl rfl (by decide) inX2 (by decide) rfl rfl q_524 dX2_behind_6 rfl h1 ?_
    refine g_icmp_ge (pc' := 12) 30 dX2_behind_9 rfl (by decide) (fun c2 => ?_) (fun c2 => ?_)
    · have hf := ite_t c2 hf
      refine g_aload_n (pc' := 31) dX2_behind_30 rfl rfl ?_
      refine g_getI (pc' := 34) 2 3 rfl rfl (by decide) inX2 (by decide) rfl rfl q_524 dX2_behind_31 rfl h1 ?_
      cases hf
      exact g_ireturn dX2_behind_34 rfl (Nat.le_of_ble_eq_true rfl) (Nat.le_of_ble_eq_true rfl)
    · have hf := ite_f c2 hf
      refine g_aload_n (pc' := 13) dX2_behind_12 rfl rfl ?_
      refine g_getR (pc' := 16) 2 0 rfl rfl (by decide) inX2 (by decide) rfl rfl q_93 dX2_behind_13 rfl h1 ?_
      refine g_iload_n (pc' := 17) dX2_behind_16 rfl rfl ?_
      obtain ⟨h3, hf⟩ := chk_s hf
      obtain ⟨b4, hf⟩ := chk_s hf
      refine g_iald (pc' := 18) dX2_behind_17 rfl h3 (inB_in b4) ?_
      refine g_iload_n (pc' := 19) dX2_behind_18 rfl rfl ?_
      refine g_icmp_gt (pc' := 22) 24 dX2_behind_19 rfl (by decide) (fun c5 => ?_) (fun c5 => ?_)
      · have hf := ite_t c5 hf
        refine g_iinc (pc' := 27) (lv' := [some (aR v0), none, some (aI v2), some (aI (v3 + 1))]) (v3 + 1) dX2_behind_24 rfl rfl (by rfl) rfl (by decide) rfl ?_
        refine g_goto (pc' := 4) dX2_behind_27 (by decide) ?_
        exact ih v0 v2 (v3 + 1) M _ hf
      · have hf := ite_f c5 hf
        refine g_iload_n (pc' := 23) dX2_behind_22 rfl rfl ?_
        cases hf
        exact g_ireturn dX2_behind_23 rfl (Nat.le_of_ble_eq_true rfl) (Nat.le_of_ble_eq_true rfl)
theorem s_X2_behind (v0 : Nat) (v1 : Int32) (v2 : Int32) (M : Mem) (r : (Int32 × Mem)) (hf : f_X2_behind v0 v1 v2 M = some r) : Sem mi_X2_behind (1) [aR v0, aI v1, aI v2] M (oI r.1) r.2 := by
  unfold f_X2_behind at hf
  refine sem_of (by decide) rfl rfl rfl (Nat.le_of_ble_eq_true rfl) (lv := [some (aR v0), some (aI v1), some (aI v2), none]) rfl ?_
  refine g_iload_n (pc' := 1) dX2_behind_0 rfl rfl ?_
  refine g_iconst (pc' := 2) (1 : Int32) dX2_behind_1 rfl (by decide) ?_
  refine g_iadd (pc' := 3) dX2_behind_2 rfl ?_
  refine g_istore_n (pc' := 4) (lv' := [some (aR v0), some (aI v1), some (aI v2), some (aI (v1 + (1 : Int32)))]) dX2_behind_3 rfl rfl (by decide) rfl ?_
  refine g_mask [true, false, true, true] rfl ?_
  exact s_X2_behind_4 FUEL v0 v2 (v1 + (1 : Int32)) M _ hf
def f_X1_checkWithAhead_150 (k57 : Nat → Int32 → Nat → Nat → Int32 → Int32 → Int32 → Int32 → Mem → Option (Unit × Mem)) (v0 : Nat) (v1 : Int32) (v2 : Nat) (v3 : Nat) (v4 : Int32) (v5 : Int32) (v6 : Int32) (v7 : Int32) (M : Mem) : Option (Unit × Mem) :=
  k57 v0 v1 v2 v3 v4 v5 v6 (v7 + 1) M
def f_X1_checkWithAhead_131 (v0 : Nat) (v1 : Int32) (v7 : Int32) (M : Mem) : Option (Unit × Mem) :=
  if mK M v0 = 2 then
    bnd (f_X1_note v0 (5 : Int32) v1 v7 M) fun _ M2 =>
    some ((), M2)
  else none
def f_X1_checkWithAhead_57 : Nat → Nat → Int32 → Nat → Nat → Int32 → Int32 → Int32 → Int32 → Mem → Option (Unit × Mem)
  | 0, _, _, _, _, _, _, _, _, _ => none
  | n + 1, v0, v1, v2, v3, v4, v5, v6, v7, M =>
    if mK M v2 = 3 then
      if (mI M v2 3) ≤ v7 then
        if mK M v3 = 3 then
          if (mI M v3 3) ≤ v6 then
            some ((), M)
          else
            if mK M v0 = 2 then
              bnd (f_X1_note v0 (5 : Int32) v1 (mI M v2 3) M) fun _ M6 =>
              some ((), M6)
            else none
        else none
      else
        if mK M (mR M v2 0) = 21 then
          if inB v7 (mN M (mR M v2 0)) = true then
            if v4 < (mI M (mR M v2 0) v7.toNatClampNeg) then
              f_X1_checkWithAhead_150 (f_X1_checkWithAhead_57 n) v0 v1 v2 v3 v4 v5 v6 v7 M
            else
              if mK M v3 = 3 then
                if (mI M v3 3) ≤ v6 then
                  f_X1_checkWithAhead_131 v0 v1 v7 M
                else
                  if mK M (mR M v3 0) = 21 then
                    if inB v6 (mN M (mR M v3 0)) = true then
                      if (mI M (mR M v2 0) v7.toNatClampNeg) = (mI M (mR M v3 0) v6.toNatClampNeg) then
                        if mK M (mR M v2 1) = 21 then
                          if inB v7 (mN M (mR M v2 1)) = true then
                            if mK M (mR M v3 1) = 21 then
                              if inB v6 (mN M (mR M v3 1)) = true then
                                if (if v5 < (mI M (mR M v2 1) v7.toNatClampNeg) then v5 else (mI M (mR M v2 1) v7.toNatClampNeg)) = (if v5 < (mI M (mR M v3 1) v6.toNatClampNeg) then v5 else (mI M (mR M v3 1) v6.toNatClampNeg)) then
                                  bnd (f_X2_behind v3 v6 v4 M) fun r22 M21 =>
                                  f_X1_checkWithAhead_150 (f_X1_checkWithAhead_57 n) v0 v1 v2 v3 v4 v5 r22 v7 M21
                                else
                                  f_X1_checkWithAhead_131 v0 v1 v7 M
                              else none
                            else none
                          else none
                        else none
                      else
                        f_X1_checkWithAhead_131 v0 v1 v7 M
                    else none
                  else none
              else none
          else none
        else none
    else none
def f_X1_checkWithAhead (v0 : Nat) (v1 : Int32) (M : Mem) : Option (Unit × Mem) :=
  if mK M v0 = 2 then
    if mK M (mR M v0 6) = 8 then
      if mK M (mR M (mR M v0 6) 0) = 23 then
        if inB v1 (mN M (mR M (mR M v0 6) 0)) = true then
          if inB (v1 - (1 : Int32)) (mN M (mR M (mR M v0 6) 0)) = true then
            if mK M (mR M v0 5) = 6 then
              bnd (f_X5_levelOf (mR M v0 5) v1 (v1 - (1 : Int32)) M) fun r8 M7 =>
              if mK M7 v0 = 2 then
                bnd (f_X1_mostShared v0 v1 (v1 - (1 : Int32)) M7) fun r11 M10 =>
                if mK M10 (mR M (mR M (mR M v0 6) 0) (v1 - (1 : Int32)).toNatClampNeg) = 3 then
                  bnd (f_X2_behind (mR M (mR M (mR M v0 6) 0) (v1 - (1 : Int32)).toNatClampNeg) (-1 : Int32) r8 M10) fun r14 M13 =>
                  f_X1_checkWithAhead_57 FUEL v0 v1 (mR M (mR M (mR M v0 6) 0) v1.toNatClampNeg) (mR M (mR M (mR M v0 6) 0) (v1 - (1 : Int32)).toNatClampNeg) r8 r11 r14 (0 : Int32) M13
                else none
              else none
            else none
          else none
        else none
      else none
    else none
  else none
theorem s_X1_checkWithAhead_150 (k57 : Nat → Int32 → Nat → Nat → Int32 → Int32 → Int32 → Int32 → Mem → Option (Unit × Mem)) (hk57 : ∀ (v0 : Nat) (v1 : Int32) (v2 : Nat) (v3 : Nat) (v4 : Int32) (v5 : Int32) (v6 : Int32) (v7 : Int32) (M : Mem) (r : (Unit × Mem)), k57 v0 v1 v2 v3 v4 v5 v6 v7 M = some r → G mi_X1_checkWithAhead 3 (oU r.1) r.2 57 [some (aR v0), some (aI v1), some (aR v2), some (aR v3), some (aI v4), some (aI v5), some (aI v6), some (aI v7)] [] M 0 0) (v0 : Nat) (v1 : Int32) (v2 : Nat) (v3 : Nat) (v4 : Int32) (v5 : Int32) (v6 : Int32) (v7 : Int32) (M : Mem) (r : (Unit × Mem)) (hf : f_X1_checkWithAhead_150 k57 v0 v1 v2 v3 v4 v5 v6 v7 M = some r) : G mi_X1_checkWithAhead 3 (oU r.1) r.2 150 [some (aR v0), some (aI v1), some (aR v2), some (aR v3), some (aI v4), some (aI v5), some (aI v6), some (aI v7)] [] M 0 0 := by
  unfold f_X1_checkWithAhead_150 at hf
  refine g_iinc (pc' := 153) (lv' := [some (aR v0), some (aI v1), some (aR v2), some (aR v3), some (aI v4), some (aI v5), some (aI v6), some (aI (v7 + 1))]) (v7 + 1) dX1_checkWithAhead_150 rfl rfl (by rfl) rfl (by decide) rfl ?_
  refine g_goto (pc' := 57) dX1_checkWithAhead_153 (by decide) ?_
  exact hk57 v0 v1 v2 v3 v4 v5 v6 (v7 + 1) M _ hf
theorem s_X1_checkWithAhead_131 (v0 : Nat) (v1 : Int32) (v7 : Int32) (M : Mem) (r : (Unit × Mem)) (hf : f_X1_checkWithAhead_131 v0 v1 v7 M = some r) : G mi_X1_checkWithAhead 3 (oU r.1) r.2 131 [some (aR v0), some (aI v1), none, none, none, none, none, some (aI v7)] [] M 0 0 := by
  unfold f_X1_checkWithAhead_131 at hf
  refine g_aload_n (pc' := 132) dX1_checkWithAhead_131 rfl rfl ?_
  refine g_iconst (pc' := 133) (5 : Int32) dX1_checkWithAhead_132 rfl (by decide) ?_
  refine g_iload_n (pc' := 134) dX1_checkWithAhead_133 rfl rfl ?_
  refine g_iload (pc' := 136) dX1_checkWithAhead_134 rfl rfl ?_
  obtain ⟨h1, hf⟩ := chk_s hf
  obtain ⟨_, M2, e3, hf⟩ := bnd_some hf
  refine g_callVv (pc' := 139) (k' := 0) (u' := 0) (fr2 := 1) (As := [aI (5 : Int32), aI v1, aI v7]) (b := v0) (st := []) cf_X1_note q_516 (by omega) (ci := 1) rfl rfl (by decide) dX1_checkWithAhead_136 rfl rfl rfl (Nat.le_of_ble_eq_true rfl) (Or.inl rfl) (Nat.le_refl _) (Nat.le_refl _) (Nat.le_refl _) (Nat.le_refl _) h1 (s_X1_note v0 (5 : Int32) v1 v7 M _ e3) ?_
  cases hf
  exact g_return dX1_checkWithAhead_139 rfl (Nat.le_of_ble_eq_true rfl) (Nat.le_of_ble_eq_true rfl)
theorem s_X1_checkWithAhead_57 : ∀ (n : Nat) (v0 : Nat) (v1 : Int32) (v2 : Nat) (v3 : Nat) (v4 : Int32) (v5 : Int32) (v6 : Int32) (v7 : Int32) (M : Mem) (r : (Unit × Mem)), f_X1_checkWithAhead_57 n v0 v1 v2 v3 v4 v5 v6 v7 M = some r → G mi_X1_checkWithAhead 3 (oU r.1) r.2 57 [some (aR v0), some (aI v1), some (aR v2), some (aR v3), some (aI v4), some (aI v5), some (aI v6), some (aI v7)] [] M 0 0 := by
  intro n
  induction n with
  | zero => intro v0 v1 v2 v3 v4 v5 v6 v7 M r hf; cases hf
  | succ n ih =>
    intro v0 v1 v2 v3 v4 v5 v6 v7 M r hf
    unfold f_X1_checkWithAhead_57 at hf
    refine g_iload (pc' := 59) dX1_checkWithAhead_57 rfl rfl ?_
    refine g_aload_n (pc' := 60) dX1_checkWithAhead_59 rfl rfl ?_
    obtain ⟨h1, hf⟩ := chk_s hf
    refine g_getI (pc' := 63) 2 3 rfl rfl (by decide) inX2 (by decide) rfl rfl q_497 dX1_checkWithAhead_60 rfl h1 ?_
    refine g_icmp_ge (pc' := 66) 156 dX1_checkWithAhead_63 rfl (by decide) (fun c2 => ?_) (fun c2 => ?_)
    · have hf := ite_t c2 hf
      refine g_iload (pc' := 158) dX1_checkWithAhead_156 rfl rfl ?_
      refine g_aload_n (pc' := 159) dX1_checkWithAhead_158 rfl rfl ?_
      obtain ⟨h3, hf⟩ := chk_s hf
      refine g_getI (pc' := 162) 2 3 rfl rfl (by decide) inX2 (by decide) rfl rfl q_497 dX1_checkWithAhead_159 rfl h3 ?_
      refine g_icmp_ge (pc' := 165) 175 dX1_checkWithAhead_162 rfl (by decide) (fun c4 => ?_) (fun c4 => ?_)
      · have hf := ite_t c4 hf
        cases hf
        exact g_return dX1_checkWithAhead_175 rfl (Nat.le_of_ble_eq_true rfl) (Nat.le_of_ble_eq_true rfl)
      · have hf := ite_f c4 hf
        refine g_aload_n (pc' := 166) dX1_checkWithAhead_165 rfl rfl ?_
        refine g_iconst (pc' := 167) (5 : Int32) dX1_checkWithAhead_166 rfl (by decide) ?_
        refine g_iload_n (pc' := 168) dX1_checkWithAhead_167 rfl rfl ?_
        refine g_aload_n (pc' := 169) dX1_checkWithAhead_168 rfl rfl ?_
        refine g_getI (pc' := 172) 2 3 rfl rfl (by decide) inX2 (by decide) rfl rfl q_497 dX1_checkWithAhead_169 rfl h1 ?_
        obtain ⟨h5, hf⟩ := chk_s hf
        obtain ⟨_, M6, e7, hf⟩ := bnd_some hf
        refine g_callVv (pc' := 175) (k' := 0) (u' := 0) (fr2 := 1) (As := [aI (5 : Int32), aI v1, aI (mI M v2 3)]) (b := v0) (st := []) cf_X1_note q_516 (by omega) (ci := 1) rfl rfl (by decide) dX1_checkWithAhead_172 rfl rfl rfl (Nat.le_of_ble_eq_true rfl) (Or.inl rfl) (Nat.le_refl _) (Nat.le_refl _) (Nat.le_refl _) (Nat.le_refl _) h5 (s_X1_note v0 (5 : Int32) v1 (mI M v2 3) M _ e7) ?_
        cases hf
        exact g_return dX1_checkWithAhead_175 rfl (Nat.le_of_ble_eq_true rfl) (Nat.le_of_ble_eq_true rfl)
    · have hf := ite_f c2 hf
      refine g_aload_n (pc' := 67) dX1_checkWithAhead_66 rfl rfl ?_
      refine g_getR (pc' := 70) 2 0 rfl rfl (by decide) inX2 (by decide) rfl rfl q_503 dX1_checkWithAhead_67 rfl h1 ?_
      refine g_iload (pc' := 72) dX1_checkWithAhead_70 rfl rfl ?_
      obtain ⟨h8, hf⟩ := chk_s hf
      obtain ⟨b9, hf⟩ := chk_s hf
      refine g_iald (pc' := 73) dX1_checkWithAhead_72 rfl h8 (inB_in b9) ?_
      refine g_iload (pc' := 75) dX1_checkWithAhead_73 rfl rfl ?_
      refine g_icmp_gt (pc' := 78) 150 dX1_checkWithAhead_75 rfl (by decide) (fun c10 => ?_) (fun c10 => ?_)
      · have hf := ite_t c10 hf
        exact s_X1_checkWithAhead_150 (f_X1_checkWithAhead_57 n) ih v0 v1 v2 v3 v4 v5 v6 v7 M _ hf
      · have hf := ite_f c10 hf
        refine g_iload (pc' := 80) dX1_checkWithAhead_78 rfl rfl ?_
        refine g_aload_n (pc' := 81) dX1_checkWithAhead_80 rfl rfl ?_
        obtain ⟨h11, hf⟩ := chk_s hf
        refine g_getI (pc' := 84) 2 3 rfl rfl (by decide) inX2 (by decide) rfl rfl q_497 dX1_checkWithAhead_81 rfl h11 ?_
        refine g_icmp_ge (pc' := 87) 131 dX1_checkWithAhead_84 rfl (by decide) (fun c12 => ?_) (fun c12 => ?_)
        · have hf := ite_t c12 hf
          refine g_mask [true, true, false, false, false, false, false, true] rfl ?_
          exact s_X1_checkWithAhead_131 v0 v1 v7 M _ hf
        · have hf := ite_f c12 hf
          refine g_aload_n (pc' := 88) dX1_checkWithAhead_87 rfl rfl ?_
          refine g_getR (pc' := 91) 2 0 rfl rfl (by decide) inX2 (by decide) rfl rfl q_503 dX1_checkWithAhead_88 rfl h1 ?_
          refine g_iload (pc' := 93) dX1_checkWithAhead_91 rfl rfl ?_
          refine g_iald (pc' := 94) dX1_checkWithAhead_93 rfl h8 (inB_in b9) ?_
          refine g_aload_n (pc' := 95) dX1_checkWithAhead_94 rfl rfl ?_
          refine g_getR (pc' := 98) 2 0 rfl rfl (by decide) inX2 (by decide) rfl rfl q_503 dX1_checkWithAhead_95 rfl h11 ?_
          refine g_iload (pc' := 100) dX1_checkWithAhead_98 rfl rfl ?_
          obtain ⟨h13, hf⟩ := chk_s hf
          obtain ⟨b14, hf⟩ := chk_s hf
          refine g_iald (pc' := 101) dX1_checkWithAhead_100 rfl h13 (inB_in b14) ?_
          refine g_icmp_ne (pc' := 104) 131 dX1_checkWithAhead_101 rfl (by decide) (fun c15 => ?_) (fun c15 => ?_)
          · have hf := ite_f c15 hf
            refine g_mask [true, true, false, false, false, false, false, true] rfl ?_
            exact s_X1_checkWithAhead_131 v0 v1 v7 M _ hf
          · have hf := ite_t c15 hf
            refine g_aload_n (pc' := 105) dX1_checkWithAhead_104 rfl rfl ?_
            refine g_getR (pc' := 108) 2 1 rfl rfl (by decide) inX2 (by decide) rfl rfl q_506 dX1_checkWithAhead_105 rfl h1 ?_
            refine g_iload (pc' := 110) dX1_checkWithAhead_108 rfl rfl ?_
            obtain ⟨h16, hf⟩ := chk_s hf
            obtain ⟨b17, hf⟩ := chk_s hf
            refine g_iald (pc' := 111) dX1_checkWithAhead_110 rfl h16 (inB_in b17) ?_
            refine g_iload (pc' := 113) dX1_checkWithAhead_111 rfl rfl ?_
            refine g_min (pc' := 116) q_529 q_387 wall_i_java_lang_Math q_389 (by omega) (Nat.le_of_ble_eq_true rfl) (Nat.le_of_ble_eq_true rfl) (Nat.le_of_ble_eq_true rfl) dX1_checkWithAhead_113 rfl ?_
            refine g_aload_n (pc' := 117) dX1_checkWithAhead_116 rfl rfl ?_
            refine g_getR (pc' := 120) 2 1 rfl rfl (by decide) inX2 (by decide) rfl rfl q_506 dX1_checkWithAhead_117 rfl h11 ?_
            refine g_iload (pc' := 122) dX1_checkWithAhead_120 rfl rfl ?_
            obtain ⟨h18, hf⟩ := chk_s hf
            obtain ⟨b19, hf⟩ := chk_s hf
            refine g_iald (pc' := 123) dX1_checkWithAhead_122 rfl h18 (inB_in b19) ?_
            refine g_iload (pc' := 125) dX1_checkWithAhead_123 rfl rfl ?_
            refine g_min (pc' := 128) q_529 q_387 wall_i_java_lang_Math q_389 (by omega) (Nat.le_of_ble_eq_true rfl) (Nat.le_of_ble_eq_true rfl) (Nat.le_of_ble_eq_true rfl) dX1_checkWithAhead_125 rfl ?_
            refine g_icmp_eq (pc' := 131) 140 dX1_checkWithAhead_128 rfl (by decide) (fun c20 => ?_) (fun c20 => ?_)
            · have hf := ite_t c20 hf
              refine g_aload_n (pc' := 141) dX1_checkWithAhead_140 rfl rfl ?_
              refine g_iload (pc' := 143) dX1_checkWithAhead_141 rfl rfl ?_
              refine g_iload (pc' := 145) dX1_checkWithAhead_143 rfl rfl ?_
              obtain ⟨r22, M21, e22, hf⟩ := bnd_some hf
              refine g_callVi (pc' := 148) (k' := 0) (u' := 0) (fr2 := 1) (As := [aI v6, aI v4]) (b := v3) (st := []) cf_X2_behind q_543 (by omega) (ci := 2) rfl rfl (by decide) dX1_checkWithAhead_145 rfl rfl rfl (Nat.le_of_ble_eq_true rfl) (Or.inl rfl) (Nat.le_refl _) (Nat.le_refl _) (Nat.le_refl _) (Nat.le_refl _) h11 (s_X2_behind v3 v6 v4 M _ e22) ?_
              refine g_istore (pc' := 150) (lv' := [some (aR v0), some (aI v1), some (aR v2), some (aR v3), some (aI v4), some (aI v5), some (aI r22), some (aI v7)]) dX1_checkWithAhead_148 rfl rfl (by decide) rfl ?_
              refine g_widen (k' := 0) (u' := 0) (by omega) (by omega) ?_
              exact s_X1_checkWithAhead_150 (f_X1_checkWithAhead_57 n) ih v0 v1 v2 v3 v4 v5 r22 v7 M21 _ hf
            · have hf := ite_f c20 hf
              refine g_mask [true, true, false, false, false, false, false, true] rfl ?_
              exact s_X1_checkWithAhead_131 v0 v1 v7 M _ hf
theorem s_X1_checkWithAhead (v0 : Nat) (v1 : Int32) (M : Mem) (r : (Unit × Mem)) (hf : f_X1_checkWithAhead v0 v1 M = some r) : Sem mi_X1_checkWithAhead (3) [aR v0, aI v1] M (oU r.1) r.2 := by
  unfold f_X1_checkWithAhead at hf
  refine sem_of (by decide) rfl rfl rfl (Nat.le_of_ble_eq_true rfl) (lv := [some (aR v0), some (aI v1), none, none, none, none, none, none]) rfl ?_
  refine g_aload_n (pc' := 1) dX1_checkWithAhead_0 rfl rfl ?_
  obtain ⟨h1, hf⟩ := chk_s hf
  refine g_getR (pc' := 4) 1 6 rfl rfl (by decide) inX1 (by decide) rfl rfl q_487 dX1_checkWithAhead_1 rfl h1 ?_
  obtain ⟨h2, hf⟩ := chk_s hf
  refine g_getR (pc' := 7) 7 0 rfl rfl (by decide) inX7 (by decide) rfl rfl q_496 dX1_checkWithAhead_4 rfl h2 ?_
  refine g_iload_n (pc' := 8) dX1_checkWithAhead_7 rfl rfl ?_
  obtain ⟨h3, hf⟩ := chk_s hf
  obtain ⟨b4, hf⟩ := chk_s hf
  refine g_aald (pc' := 9) (t0 := 2) (fun _ => rfl) (by decide) dX1_checkWithAhead_8 rfl h3 (inB_in b4) ?_
  refine g_astore_n (pc' := 10) (lv' := [some (aR v0), some (aI v1), some (aR (mR M (mR M (mR M v0 6) 0) v1.toNatClampNeg)), none, none, none, none, none]) dX1_checkWithAhead_9 rfl rfl (by decide) rfl ?_
  refine g_aload_n (pc' := 11) dX1_checkWithAhead_10 rfl rfl ?_
  refine g_getR (pc' := 14) 1 6 rfl rfl (by decide) inX1 (by decide) rfl rfl q_487 dX1_checkWithAhead_11 rfl h1 ?_
  refine g_getR (pc' := 17) 7 0 rfl rfl (by decide) inX7 (by decide) rfl rfl q_496 dX1_checkWithAhead_14 rfl h2 ?_
  refine g_iload_n (pc' := 18) dX1_checkWithAhead_17 rfl rfl ?_
  refine g_iconst (pc' := 19) (1 : Int32) dX1_checkWithAhead_18 rfl (by decide) ?_
  refine g_isub (pc' := 20) dX1_checkWithAhead_19 rfl ?_
  obtain ⟨b5, hf⟩ := chk_s hf
  refine g_aald (pc' := 21) (t0 := 2) (fun _ => rfl) (by decide) dX1_checkWithAhead_20 rfl h3 (inB_in b5) ?_
  refine g_astore_n (pc' := 22) (lv' := [some (aR v0), some (aI v1), some (aR (mR M (mR M (mR M v0 6) 0) v1.toNatClampNeg)), some (aR (mR M (mR M (mR M v0 6) 0) (v1 - (1 : Int32)).toNatClampNeg)), none, none, none, none]) dX1_checkWithAhead_21 rfl rfl (by decide) rfl ?_
  refine g_aload_n (pc' := 23) dX1_checkWithAhead_22 rfl rfl ?_
  refine g_getR (pc' := 26) 1 5 rfl rfl (by decide) inX1 (by decide) rfl rfl q_486 dX1_checkWithAhead_23 rfl h1 ?_
  refine g_iload_n (pc' := 27) dX1_checkWithAhead_26 rfl rfl ?_
  refine g_iload_n (pc' := 28) dX1_checkWithAhead_27 rfl rfl ?_
  refine g_iconst (pc' := 29) (1 : Int32) dX1_checkWithAhead_28 rfl (by decide) ?_
  refine g_isub (pc' := 30) dX1_checkWithAhead_29 rfl ?_
  obtain ⟨h6, hf⟩ := chk_s hf
  obtain ⟨r8, M7, e8, hf⟩ := bnd_some hf
  refine g_callVi (pc' := 33) (k' := 0) (u' := 0) (fr2 := 2) (As := [aI v1, aI (v1 - (1 : Int32))]) (b := (mR M v0 5)) (st := []) cf_X5_levelOf q_530 (by omega) (ci := 5) rfl rfl (by decide) dX1_checkWithAhead_30 rfl rfl rfl (Nat.le_of_ble_eq_true rfl) (Or.inl rfl) (Nat.le_refl _) (Nat.le_refl _) (Nat.le_refl _) (Nat.le_refl _) h6 (s_X5_levelOf (mR M v0 5) v1 (v1 - (1 : Int32)) M _ e8) ?_
  refine g_istore (pc' := 35) (lv' := [some (aR v0), some (aI v1), some (aR (mR M (mR M (mR M v0 6) 0) v1.toNatClampNeg)), some (aR (mR M (mR M (mR M v0 6) 0) (v1 - (1 : Int32)).toNatClampNeg)), some (aI r8), none, none, none]) dX1_checkWithAhead_33 rfl rfl (by decide) rfl ?_
  refine g_aload_n (pc' := 36) dX1_checkWithAhead_35 rfl rfl ?_
  refine g_iload_n (pc' := 37) dX1_checkWithAhead_36 rfl rfl ?_
  refine g_iload_n (pc' := 38) dX1_checkWithAhead_37 rfl rfl ?_
  refine g_iconst (pc' := 39) (1 : Int32) dX1_checkWithAhead_38 rfl (by decide) ?_
  refine g_isub (pc' := 40) dX1_checkWithAhead_39 rfl ?_
  obtain ⟨h9, hf⟩ := chk_s hf
  obtain ⟨r11, M10, e11, hf⟩ := bnd_some hf
  refine g_callVi (pc' := 43) (k' := 0) (u' := 0) (fr2 := 2) (As := [aI v1, aI (v1 - (1 : Int32))]) (b := v0) (st := []) cf_X1_mostShared q_538 (by omega) (ci := 1) rfl rfl (by decide) dX1_checkWithAhead_40 rfl rfl rfl (Nat.le_of_ble_eq_true rfl) (Or.inl rfl) (Nat.le_refl _) (Nat.le_refl _) (Nat.le_refl _) (Nat.le_refl _) h9 (s_X1_mostShared v0 v1 (v1 - (1 : Int32)) M7 _ e11) ?_
  refine g_istore (pc' := 45) (lv' := [some (aR v0), some (aI v1), some (aR (mR M (mR M (mR M v0 6) 0) v1.toNatClampNeg)), some (aR (mR M (mR M (mR M v0 6) 0) (v1 - (1 : Int32)).toNatClampNeg)), some (aI r8), some (aI r11), none, none]) dX1_checkWithAhead_43 rfl rfl (by decide) rfl ?_
  refine g_aload_n (pc' := 46) dX1_checkWithAhead_45 rfl rfl ?_
  refine g_iconst (pc' := 47) (-1 : Int32) dX1_checkWithAhead_46 rfl (by decide) ?_
  refine g_iload (pc' := 49) dX1_checkWithAhead_47 rfl rfl ?_
  obtain ⟨h12, hf⟩ := chk_s hf
  obtain ⟨r14, M13, e14, hf⟩ := bnd_some hf
  refine g_callVi (pc' := 52) (k' := 0) (u' := 0) (fr2 := 1) (As := [aI (-1 : Int32), aI r8]) (b := (mR M (mR M (mR M v0 6) 0) (v1 - (1 : Int32)).toNatClampNeg)) (st := []) cf_X2_behind q_543 (by omega) (ci := 2) rfl rfl (by decide) dX1_checkWithAhead_49 rfl rfl rfl (Nat.le_of_ble_eq_true rfl) (Or.inl rfl) (Nat.le_refl _) (Nat.le_refl _) (Nat.le_refl _) (Nat.le_refl _) h12 (s_X2_behind (mR M (mR M (mR M v0 6) 0) (v1 - (1 : Int32)).toNatClampNeg) (-1 : Int32) r8 M10 _ e14) ?_
  refine g_istore (pc' := 54) (lv' := [some (aR v0), some (aI v1), some (aR (mR M (mR M (mR M v0 6) 0) v1.toNatClampNeg)), some (aR (mR M (mR M (mR M v0 6) 0) (v1 - (1 : Int32)).toNatClampNeg)), some (aI r8), some (aI r11), some (aI r14), none]) dX1_checkWithAhead_52 rfl rfl (by decide) rfl ?_
  refine g_iconst (pc' := 55) (0 : Int32) dX1_checkWithAhead_54 rfl (by decide) ?_
  refine g_istore (pc' := 57) (lv' := [some (aR v0), some (aI v1), some (aR (mR M (mR M (mR M v0 6) 0) v1.toNatClampNeg)), some (aR (mR M (mR M (mR M v0 6) 0) (v1 - (1 : Int32)).toNatClampNeg)), some (aI r8), some (aI r11), some (aI r14), some (aI (0 : Int32))]) dX1_checkWithAhead_55 rfl rfl (by decide) rfl ?_
  refine g_widen (k' := 0) (u' := 0) (by omega) (by omega) ?_
  exact s_X1_checkWithAhead_57 FUEL v0 v1 (mR M (mR M (mR M v0 6) 0) v1.toNatClampNeg) (mR M (mR M (mR M v0 6) 0) (v1 - (1 : Int32)).toNatClampNeg) r8 r11 r14 (0 : Int32) M13 _ hf
def f_X1_run_72 (v0 : Nat) (M : Mem) : Option (Int32 × Mem) :=
  if mK M v0 = 2 then
    some (mI M v0 0, M)
  else none
def f_X1_run_66 (k27 : Nat → Int32 → Mem → Option (Int32 × Mem)) (v0 : Nat) (v3 : Int32) (M : Mem) : Option (Int32 × Mem) :=
  k27 v0 (v3 + 1) M
def f_X1_run_27 : Nat → Nat → Int32 → Mem → Option (Int32 × Mem)
  | 0, _, _, _ => none
  | n + 1, v0, v3, M =>
    if mK M v0 = 2 then
      if mK M (mR M v0 5) = 6 then
        if (mI M (mR M v0 5) 1) ≤ v3 then
          f_X1_run_72 v0 M
        else
          if (mI M v0 0) = 0 then
            bnd (f_X1_checkColumn v0 v3 M) fun _ M5 =>
            if mK M5 v0 = 2 then
              if (mI M5 v0 0) = 0 then
                if v3 ≤ 0 then
                  f_X1_run_66 (f_X1_run_27 n) v0 v3 M5
                else
                  bnd (f_X1_checkWithAhead v0 v3 M5) fun _ M10 =>
                  f_X1_run_66 (f_X1_run_27 n) v0 v3 M10
              else
                f_X1_run_66 (f_X1_run_27 n) v0 v3 M5
            else none
          else
            f_X1_run_72 v0 M
      else none
    else none
def f_X1_run (v0 : Nat) (v1 : Nat) (v2 : Nat) (M : Mem) : Option (Int32 × Mem) :=
  if mK M v0 = 2 then
    if okrB M [v1] = true then
      ap (sR M v0 5 v1) fun M2 =>
      if mK M2 v0 = 2 then
        if okrB M2 [v2] = true then
          ap (sR M2 v0 6 v2) fun M5 =>
          if mK M5 v0 = 2 then
            ap (sI M5 v0 0 (0 : Int32)) fun M8 =>
            if mK M8 v0 = 2 then
              ap (sI M8 v0 1 (-1 : Int32)) fun M10 =>
              if mK M10 v0 = 2 then
                ap (sI M10 v0 2 (-1 : Int32)) fun M12 =>
                f_X1_run_27 FUEL v0 (0 : Int32) M12
              else none
            else none
          else none
        else none
      else none
    else none
  else none
theorem s_X1_run_72 (v0 : Nat) (M : Mem) (r : (Int32 × Mem)) (hf : f_X1_run_72 v0 M = some r) : G mi_X1_run 5 (oI r.1) r.2 72 [some (aR v0), none, none, none] [] M 0 0 := by
  unfold f_X1_run_72 at hf
  refine g_aload_n (pc' := 73) dX1_run_72 rfl rfl ?_
  obtain ⟨h1, hf⟩ := chk_s hf
  refine g_getI (pc' := 76) 1 0 rfl rfl (by decide) inX1 (by decide) rfl rfl q_488 dX1_run_73 rfl h1 ?_
  cases hf
  exact g_ireturn dX1_run_76 rfl (Nat.le_of_ble_eq_true rfl) (Nat.le_of_ble_eq_true rfl)
theorem s_X1_run_66 (k27 : Nat → Int32 → Mem → Option (Int32 × Mem)) (hk27 : ∀ (v0 : Nat) (v3 : Int32) (M : Mem) (r : (Int32 × Mem)), k27 v0 v3 M = some r → G mi_X1_run 5 (oI r.1) r.2 27 [some (aR v0), none, none, some (aI v3)] [] M 0 0) (v0 : Nat) (v3 : Int32) (M : Mem) (r : (Int32 × Mem)) (hf : f_X1_run_66 k27 v0 v3 M = some r) : G mi_X1_run 5 (oI r.1) r.2 66 [some (aR v0), none, none, some (aI v3)] [] M 0 0 := by
  unfold f_X1_run_66 at hf
  refine g_iinc (pc' := 69) (lv' := [some (aR v0), none, none, some (aI (v3 + 1))]) (v3 + 1) dX1_run_66 rfl rfl (by rfl) rfl (by decide) rfl ?_
  refine g_goto (pc' := 27) dX1_run_69 (by decide) ?_
  exact hk27 v0 (v3 + 1) M _ hf
theorem s_X1_run_27 : ∀ (n : Nat) (v0 : Nat) (v3 : Int32) (M : Mem) (r : (Int32 × Mem)), f_X1_run_27 n v0 v3 M = some r → G mi_X1_run 5 (oI r.1) r.2 27 [some (aR v0), none, none, some (aI v3)] [] M 0 0 := by
  intro n
  induction n with
  | zero => intro v0 v3 M r hf; cases hf
  | succ n ih =>
    intro v0 v3 M r hf
    unfold f_X1_run_27 at hf
    refine g_iload_n (pc' := 28) dX1_run_27 rfl rfl ?_
    refine g_aload_n (pc' := 29) dX1_run_28 rfl rfl ?_
    obtain ⟨h1, hf⟩ := chk_s hf
    refine g_getR (pc' := 32) 1 5 rfl rfl (by decide) inX1 (by decide) rfl rfl q_486 dX1_run_29 rfl h1 ?_
    obtain ⟨h2, hf⟩ := chk_s hf
    refine g_getI (pc' := 35) 5 1 rfl rfl (by decide) inX5 (by decide) rfl rfl q_491 dX1_run_32 rfl h2 ?_
    refine g_icmp_ge (pc' := 38) 72 dX1_run_35 rfl (by decide) (fun c3 => ?_) (fun c3 => ?_)
    · have hf := ite_t c3 hf
      refine g_mask [true, true, true, false] rfl ?_
      exact s_X1_run_72 v0 M _ hf
    · have hf := ite_f c3 hf
      refine g_aload_n (pc' := 39) dX1_run_38 rfl rfl ?_
      refine g_getI (pc' := 42) 1 0 rfl rfl (by decide) inX1 (by decide) rfl rfl q_488 dX1_run_39 rfl h1 ?_
      refine g_if_ne (pc' := 45) 72 dX1_run_42 rfl (by decide) (fun c4 => ?_) (fun c4 => ?_)
      · have hf := ite_f c4 hf
        refine g_mask [true, true, true, false] rfl ?_
        exact s_X1_run_72 v0 M _ hf
      · have hf := ite_t c4 hf
        refine g_aload_n (pc' := 46) dX1_run_45 rfl rfl ?_
        refine g_iload_n (pc' := 47) dX1_run_46 rfl rfl ?_
        obtain ⟨_, M5, e6, hf⟩ := bnd_some hf
        refine g_callVv (pc' := 50) (k' := 0) (u' := 0) (fr2 := 4) (As := [aI v3]) (b := v0) (st := []) cf_X1_checkColumn q_492 (by omega) (ci := 1) rfl rfl (by decide) dX1_run_47 rfl rfl rfl (Nat.le_of_ble_eq_true rfl) (Or.inl rfl) (Nat.le_refl _) (Nat.le_refl _) (Nat.le_refl _) (Nat.le_refl _) h1 (s_X1_checkColumn v0 v3 M _ e6) ?_
        refine g_aload_n (pc' := 51) dX1_run_50 rfl rfl ?_
        obtain ⟨h7, hf⟩ := chk_s hf
        refine g_getI (pc' := 54) 1 0 rfl rfl (by decide) inX1 (by decide) rfl rfl q_488 dX1_run_51 rfl h7 ?_
        refine g_if_ne (pc' := 57) 66 dX1_run_54 rfl (by decide) (fun c8 => ?_) (fun c8 => ?_)
        · have hf := ite_f c8 hf
          refine g_widen (k' := 0) (u' := 0) (by omega) (by omega) ?_
          exact s_X1_run_66 (f_X1_run_27 n) ih v0 v3 M5 _ hf
        · have hf := ite_t c8 hf
          refine g_iload_n (pc' := 58) dX1_run_57 rfl rfl ?_
          refine g_if_le (pc' := 61) 66 dX1_run_58 rfl (by decide) (fun c9 => ?_) (fun c9 => ?_)
          · have hf := ite_t c9 hf
            refine g_widen (k' := 0) (u' := 0) (by omega) (by omega) ?_
            exact s_X1_run_66 (f_X1_run_27 n) ih v0 v3 M5 _ hf
          · have hf := ite_f c9 hf
            refine g_aload_n (pc' := 62) dX1_run_61 rfl rfl ?_
            refine g_iload_n (pc' := 63) dX1_run_62 rfl rfl ?_
            obtain ⟨_, M10, e11, hf⟩ := bnd_some hf
            refine g_callVv (pc' := 66) (k' := 0) (u' := 0) (fr2 := 3) (As := [aI v3]) (b := v0) (st := []) cf_X1_checkWithAhead q_525 (by omega) (ci := 1) rfl rfl (by decide) dX1_run_63 rfl rfl rfl (Nat.le_of_ble_eq_true rfl) (Or.inl rfl) (Nat.le_refl _) (Nat.le_refl _) (Nat.le_refl _) (Nat.le_refl _) h7 (s_X1_checkWithAhead v0 v3 M5 _ e11) ?_
            refine g_widen (k' := 0) (u' := 0) (by omega) (by omega) ?_
            exact s_X1_run_66 (f_X1_run_27 n) ih v0 v3 M10 _ hf
theorem s_X1_run (v0 : Nat) (v1 : Nat) (v2 : Nat) (M : Mem) (r : (Int32 × Mem)) (hf : f_X1_run v0 v1 v2 M = some r) : Sem mi_X1_run (5) [aR v0, aR v1, aR v2] M (oI r.1) r.2 := by
  unfold f_X1_run at hf
  refine sem_of (by decide) rfl rfl rfl (Nat.le_of_ble_eq_true rfl) (lv := [some (aR v0), some (aR v1), some (aR v2), none]) rfl ?_
  refine g_aload_n (pc' := 1) dX1_run_0 rfl rfl ?_
  refine g_aload_n (pc' := 2) dX1_run_1 rfl rfl ?_
  obtain ⟨h1, hf⟩ := chk_s hf
  obtain ⟨hr3, hf⟩ := chk_s hf
  refine g_putR (pc' := 5) 1 5 rfl rfl (by decide) inX1 tyX1_ok nmX1 (by decide) rfl rfl rfl (Or.inl ⟨_, rfl⟩) (okrB_1 hr3) q_486 dX1_run_2 rfl h1 (gM fun M2 hM2 => ?_)
  have hf := ap_eq hf hM2
  refine g_aload_n (pc' := 6) dX1_run_5 rfl rfl ?_
  refine g_aload_n (pc' := 7) dX1_run_6 rfl rfl ?_
  obtain ⟨h4, hf⟩ := chk_s hf
  obtain ⟨hr6, hf⟩ := chk_s hf
  refine g_putR (pc' := 10) 1 6 rfl rfl (by decide) inX1 tyX1_ok nmX1 (by decide) rfl rfl rfl (Or.inl ⟨_, rfl⟩) (okrB_1 hr6) q_487 dX1_run_7 rfl h4 (gM fun M5 hM5 => ?_)
  have hf := ap_eq hf hM5
  refine g_aload_n (pc' := 11) dX1_run_10 rfl rfl ?_
  refine g_iconst (pc' := 12) (0 : Int32) dX1_run_11 rfl (by decide) ?_
  obtain ⟨h7, hf⟩ := chk_s hf
  refine g_putI (pc' := 15) 1 0 rfl rfl (by decide) inX1 tyX1_ok nmX1 (by decide) rfl rfl rfl rfl q_488 dX1_run_12 rfl h7 (gM fun M8 hM8 => ?_)
  have hf := ap_eq hf hM8
  refine g_aload_n (pc' := 16) dX1_run_15 rfl rfl ?_
  refine g_iconst (pc' := 17) (-1 : Int32) dX1_run_16 rfl (by decide) ?_
  obtain ⟨h9, hf⟩ := chk_s hf
  refine g_putI (pc' := 20) 1 1 rfl rfl (by decide) inX1 tyX1_ok nmX1 (by decide) rfl rfl rfl rfl q_489 dX1_run_17 rfl h9 (gM fun M10 hM10 => ?_)
  have hf := ap_eq hf hM10
  refine g_aload_n (pc' := 21) dX1_run_20 rfl rfl ?_
  refine g_iconst (pc' := 22) (-1 : Int32) dX1_run_21 rfl (by decide) ?_
  obtain ⟨h11, hf⟩ := chk_s hf
  refine g_putI (pc' := 25) 1 2 rfl rfl (by decide) inX1 tyX1_ok nmX1 (by decide) rfl rfl rfl rfl q_490 dX1_run_22 rfl h11 (gM fun M12 hM12 => ?_)
  have hf := ap_eq hf hM12
  refine g_iconst (pc' := 26) (0 : Int32) dX1_run_25 rfl (by decide) ?_
  refine g_istore_n (pc' := 27) (lv' := [some (aR v0), some (aR v1), some (aR v2), some (aI (0 : Int32))]) dX1_run_26 rfl rfl (by decide) rfl ?_
  refine g_mask [true, false, false, true] rfl ?_
  exact s_X1_run_27 FUEL v0 (0 : Int32) M12 _ hf
def f_X1_repIsHarmless_134  (M : Mem) : Option (Int32 × Mem) :=
  some ((1 : Int32), M)
def f_X1_repIsHarmless_105 (v0 : Nat) (v1 : Int32) (v7 : Int32) (M : Mem) : Option (Int32 × Mem) :=
  if mK M v0 = 2 then
    if mK M (mR M v0 5) = 6 then
      if (mI M (mR M v0 5) 1) ≤ (v1 + (1 : Int32)) then
        f_X1_repIsHarmless_134 M
      else
        bnd (f_X5_levelOf (mR M v0 5) v1 (v1 + (1 : Int32)) M) fun r5 M4 =>
        if v7 ≤ r5 then
          some ((0 : Int32), M4)
        else
          f_X1_repIsHarmless_134 M4
    else none
  else none
def f_X1_repIsHarmless (v0 : Nat) (v1 : Int32) (v2 : Int32) (v3 : Int32) (M : Mem) : Option (Int32 × Mem) :=
  if mK M v0 = 2 then
    if mK M (mR M v0 6) = 8 then
      if mK M (mR M (mR M v0 6) 0) = 23 then
        if inB v1 (mN M (mR M (mR M v0 6) 0)) = true then
          if mK M (mR M (mR M (mR M v0 6) 0) v1.toNatClampNeg) = 3 then
            if mK M (mR M (mR M (mR M (mR M v0 6) 0) v1.toNatClampNeg) 0) = 21 then
              if inB v2 (mN M (mR M (mR M (mR M (mR M v0 6) 0) v1.toNatClampNeg) 0)) = true then
                if v3 = (mI M (mR M (mR M (mR M (mR M v0 6) 0) v1.toNatClampNeg) 0) v2.toNatClampNeg) then
                  some ((0 : Int32), M)
                else
                  if v3 = 0 then
                    some ((0 : Int32), M)
                  else
                    if (mI M (mR M (mR M (mR M (mR M v0 6) 0) v1.toNatClampNeg) 0) v2.toNatClampNeg) = 0 then
                      some ((0 : Int32), M)
                    else
                      if v2 = 0 then
                        some ((0 : Int32), M)
                      else
                        bnd (f_X1_needOf v0 v1 v3 M) fun r13 M12 =>
                        if mK M12 (mR M (mR M (mR M v0 6) 0) v1.toNatClampNeg) = 3 then
                          if mK M12 (mR M12 (mR M (mR M (mR M v0 6) 0) v1.toNatClampNeg) 1) = 21 then
                            if inB v2 (mN M12 (mR M12 (mR M (mR M (mR M v0 6) 0) v1.toNatClampNeg) 1)) = true then
                              if (mI M12 (mR M12 (mR M (mR M (mR M v0 6) 0) v1.toNatClampNeg) 1) v2.toNatClampNeg) < r13 then
                                some ((0 : Int32), M12)
                              else
                                if inB (v2 - (1 : Int32)) (mN M12 (mR M12 (mR M (mR M (mR M v0 6) 0) v1.toNatClampNeg) 1)) = true then
                                  if r13 ≤ (mI M12 (mR M12 (mR M (mR M (mR M v0 6) 0) v1.toNatClampNeg) 1) (v2 - (1 : Int32)).toNatClampNeg) then
                                    if v1 = 0 then
                                      f_X1_repIsHarmless_105 v0 v1 (if v3 < (mI M (mR M (mR M (mR M (mR M v0 6) 0) v1.toNatClampNeg) 0) v2.toNatClampNeg) then v3 else (mI M (mR M (mR M (mR M (mR M v0 6) 0) v1.toNatClampNeg) 0) v2.toNatClampNeg)) M12
                                    else
                                      if mK M12 v0 = 2 then
                                        if mK M12 (mR M12 v0 5) = 6 then
                                          bnd (f_X5_levelOf (mR M12 v0 5) v1 (v1 - (1 : Int32)) M12) fun r24 M23 =>
                                          if (if v3 < (mI M (mR M (mR M (mR M (mR M v0 6) 0) v1.toNatClampNeg) 0) v2.toNatClampNeg) then v3 else (mI M (mR M (mR M (mR M (mR M v0 6) 0) v1.toNatClampNeg) 0) v2.toNatClampNeg)) ≤ r24 then
                                            some ((0 : Int32), M23)
                                          else
                                            f_X1_repIsHarmless_105 v0 v1 (if v3 < (mI M (mR M (mR M (mR M (mR M v0 6) 0) v1.toNatClampNeg) 0) v2.toNatClampNeg) then v3 else (mI M (mR M (mR M (mR M (mR M v0 6) 0) v1.toNatClampNeg) 0) v2.toNatClampNeg)) M23
                                        else none
                                      else none
                                  else
                                    some ((0 : Int32), M12)
                                else none
                            else none
                          else none
                        else none
              else none
            else none
          else none
        else none
      else none
    else none
  else none
theorem s_X1_repIsHarmless_134  (M : Mem) (r : (Int32 × Mem)) (hf : f_X1_repIsHarmless_134  M = some r) : G mi_X1_repIsHarmless 3 (oI r.1) r.2 134 [none, none, none, none, none, none, none, none] [] M 0 0 := by
  unfold f_X1_repIsHarmless_134 at hf
  refine g_iconst (pc' := 135) (1 : Int32) dX1_repIsHarmless_134 rfl (by decide) ?_
  refine g_goto (pc' := 139) dX1_repIsHarmless_135 (by decide) ?_
  cases hf
  exact g_zreturn dX1_repIsHarmless_139 rfl (Or.inr rfl) (Nat.le_of_ble_eq_true rfl) (Nat.le_of_ble_eq_true rfl)
theorem s_X1_repIsHarmless_105 (v0 : Nat) (v1 : Int32) (v7 : Int32) (M : Mem) (r : (Int32 × Mem)) (hf : f_X1_repIsHarmless_105 v0 v1 v7 M = some r) : G mi_X1_repIsHarmless 3 (oI r.1) r.2 105 [some (aR v0), some (aI v1), none, none, none, none, none, some (aI v7)] [] M 0 0 := by
  unfold f_X1_repIsHarmless_105 at hf
  refine g_iload_n (pc' := 106) dX1_repIsHarmless_105 rfl rfl ?_
  refine g_iconst (pc' := 107) (1 : Int32) dX1_repIsHarmless_106 rfl (by decide) ?_
  refine g_iadd (pc' := 108) dX1_repIsHarmless_107 rfl ?_
  refine g_aload_n (pc' := 109) dX1_repIsHarmless_108 rfl rfl ?_
  obtain ⟨h1, hf⟩ := chk_s hf
  refine g_getR (pc' := 112) 1 5 rfl rfl (by decide) inX1 (by decide) rfl rfl q_486 dX1_repIsHarmless_109 rfl h1 ?_
  obtain ⟨h2, hf⟩ := chk_s hf
  refine g_getI (pc' := 115) 5 1 rfl rfl (by decide) inX5 (by decide) rfl rfl q_491 dX1_repIsHarmless_112 rfl h2 ?_
  refine g_icmp_ge (pc' := 118) 134 dX1_repIsHarmless_115 rfl (by decide) (fun c3 => ?_) (fun c3 => ?_)
  · have hf := ite_t c3 hf
    refine g_mask [false, false, true, true, true, true, true, false] rfl ?_
    exact s_X1_repIsHarmless_134 M _ hf
  · have hf := ite_f c3 hf
    refine g_iload (pc' := 120) dX1_repIsHarmless_118 rfl rfl ?_
    refine g_aload_n (pc' := 121) dX1_repIsHarmless_120 rfl rfl ?_
    refine g_getR (pc' := 124) 1 5 rfl rfl (by decide) inX1 (by decide) rfl rfl q_486 dX1_repIsHarmless_121 rfl h1 ?_
    refine g_iload_n (pc' := 125) dX1_repIsHarmless_124 rfl rfl ?_
    refine g_iload_n (pc' := 126) dX1_repIsHarmless_125 rfl rfl ?_
    refine g_iconst (pc' := 127) (1 : Int32) dX1_repIsHarmless_126 rfl (by decide) ?_
    refine g_iadd (pc' := 128) dX1_repIsHarmless_127 rfl ?_
    obtain ⟨r5, M4, e5, hf⟩ := bnd_some hf
    refine g_callVi (pc' := 131) (k' := 0) (u' := 0) (fr2 := 2) (As := [aI v1, aI (v1 + (1 : Int32))]) (b := (mR M v0 5)) (st := [aI v7]) cf_X5_levelOf q_530 (by omega) (ci := 5) rfl rfl (by decide) dX1_repIsHarmless_128 rfl rfl rfl (Nat.le_of_ble_eq_true rfl) (Or.inl rfl) (Nat.le_refl _) (Nat.le_refl _) (Nat.le_refl _) (Nat.le_refl _) h2 (s_X5_levelOf (mR M v0 5) v1 (v1 + (1 : Int32)) M _ e5) ?_
    refine g_icmp_le (pc' := 134) 138 dX1_repIsHarmless_131 rfl (by decide) (fun c6 => ?_) (fun c6 => ?_)
    · have hf := ite_t c6 hf
      refine g_iconst (pc' := 139) (0 : Int32) dX1_repIsHarmless_138 rfl (by decide) ?_
      cases hf
      exact g_zreturn dX1_repIsHarmless_139 rfl (Or.inl rfl) (Nat.le_of_ble_eq_true rfl) (Nat.le_of_ble_eq_true rfl)
    · have hf := ite_f c6 hf
      refine g_mask [false, false, true, true, true, true, true, false] rfl ?_
      refine g_widen (k' := 0) (u' := 0) (by omega) (by omega) ?_
      exact s_X1_repIsHarmless_134 M4 _ hf
theorem s_X1_repIsHarmless (v0 : Nat) (v1 : Int32) (v2 : Int32) (v3 : Int32) (M : Mem) (r : (Int32 × Mem)) (hf : f_X1_repIsHarmless v0 v1 v2 v3 M = some r) : Sem mi_X1_repIsHarmless (3) [aR v0, aI v1, aI v2, aI v3] M (oI r.1) r.2 := by
  unfold f_X1_repIsHarmless at hf
  refine sem_of (by decide) rfl rfl rfl (Nat.le_of_ble_eq_true rfl) (lv := [some (aR v0), some (aI v1), some (aI v2), some (aI v3), none, none, none, none]) rfl ?_
  refine g_aload_n (pc' := 1) dX1_repIsHarmless_0 rfl rfl ?_
  obtain ⟨h1, hf⟩ := chk_s hf
  refine g_getR (pc' := 4) 1 6 rfl rfl (by decide) inX1 (by decide) rfl rfl q_487 dX1_repIsHarmless_1 rfl h1 ?_
  obtain ⟨h2, hf⟩ := chk_s hf
  refine g_getR (pc' := 7) 7 0 rfl rfl (by decide) inX7 (by decide) rfl rfl q_496 dX1_repIsHarmless_4 rfl h2 ?_
  refine g_iload_n (pc' := 8) dX1_repIsHarmless_7 rfl rfl ?_
  obtain ⟨h3, hf⟩ := chk_s hf
  obtain ⟨b4, hf⟩ := chk_s hf
  refine g_aald (pc' := 9) (t0 := 2) (fun _ => rfl) (by decide) dX1_repIsHarmless_8 rfl h3 (inB_in b4) ?_
  refine g_astore (pc' := 11) (lv' := [some (aR v0), some (aI v1), some (aI v2), some (aI v3), some (aR (mR M (mR M (mR M v0 6) 0) v1.toNatClampNeg)), none, none, none]) dX1_repIsHarmless_9 rfl rfl (by decide) rfl ?_
  refine g_aload (pc' := 13) dX1_repIsHarmless_11 rfl rfl ?_
  obtain ⟨h5, hf⟩ := chk_s hf
  refine g_getR (pc' := 16) 2 0 rfl rfl (by decide) inX2 (by decide) rfl rfl q_503 dX1_repIsHarmless_13 rfl h5 ?_
  refine g_iload_n (pc' := 17) dX1_repIsHarmless_16 rfl rfl ?_
  obtain ⟨h6, hf⟩ := chk_s hf
  obtain ⟨b7, hf⟩ := chk_s hf
  refine g_iald (pc' := 18) dX1_repIsHarmless_17 rfl h6 (inB_in b7) ?_
  refine g_istore (pc' := 20) (lv' := [some (aR v0), some (aI v1), some (aI v2), some (aI v3), some (aR (mR M (mR M (mR M v0 6) 0) v1.toNatClampNeg)), some (aI (mI M (mR M (mR M (mR M (mR M v0 6) 0) v1.toNatClampNeg) 0) v2.toNatClampNeg)), none, none]) dX1_repIsHarmless_18 rfl rfl (by decide) rfl ?_
  refine g_iload_n (pc' := 21) dX1_repIsHarmless_20 rfl rfl ?_
  refine g_iload (pc' := 23) dX1_repIsHarmless_21 rfl rfl ?_
  refine g_icmp_eq (pc' := 26) 39 dX1_repIsHarmless_23 rfl (by decide) (fun c8 => ?_) (fun c8 => ?_)
  · have hf := ite_t c8 hf
    refine g_iconst (pc' := 40) (0 : Int32) dX1_repIsHarmless_39 rfl (by decide) ?_
    cases hf
    exact g_zreturn dX1_repIsHarmless_40 rfl (Or.inl rfl) (Nat.le_of_ble_eq_true rfl) (Nat.le_of_ble_eq_true rfl)
  · have hf := ite_f c8 hf
    refine g_iload_n (pc' := 27) dX1_repIsHarmless_26 rfl rfl ?_
    refine g_if_eq (pc' := 30) 39 dX1_repIsHarmless_27 rfl (by decide) (fun c9 => ?_) (fun c9 => ?_)
    · have hf := ite_t c9 hf
      refine g_iconst (pc' := 40) (0 : Int32) dX1_repIsHarmless_39 rfl (by decide) ?_
      cases hf
      exact g_zreturn dX1_repIsHarmless_40 rfl (Or.inl rfl) (Nat.le_of_ble_eq_true rfl) (Nat.le_of_ble_eq_true rfl)
    · have hf := ite_f c9 hf
      refine g_iload (pc' := 32) dX1_repIsHarmless_30 rfl rfl ?_
      refine g_if_eq (pc' := 35) 39 dX1_repIsHarmless_32 rfl (by decide) (fun c10 => ?_) (fun c10 => ?_)
      · have hf := ite_t c10 hf
        refine g_iconst (pc' := 40) (0 : Int32) dX1_repIsHarmless_39 rfl (by decide) ?_
        cases hf
        exact g_zreturn dX1_repIsHarmless_40 rfl (Or.inl rfl) (Nat.le_of_ble_eq_true rfl) (Nat.le_of_ble_eq_true rfl)
      · have hf := ite_f c10 hf
        refine g_iload_n (pc' := 36) dX1_repIsHarmless_35 rfl rfl ?_
        refine g_if_ne (pc' := 39) 41 dX1_repIsHarmless_36 rfl (by decide) (fun c11 => ?_) (fun c11 => ?_)
        · have hf := ite_f c11 hf
          refine g_aload_n (pc' := 42) dX1_repIsHarmless_41 rfl rfl ?_
          refine g_iload_n (pc' := 43) dX1_repIsHarmless_42 rfl rfl ?_
          refine g_iload_n (pc' := 44) dX1_repIsHarmless_43 rfl rfl ?_
          obtain ⟨r13, M12, e13, hf⟩ := bnd_some hf
          refine g_callVi (pc' := 47) (k' := 0) (u' := 0) (fr2 := 2) (As := [aI v1, aI v3]) (b := v0) (st := []) cf_X1_needOf q_508 (by omega) (ci := 1) rfl rfl (by decide) dX1_repIsHarmless_44 rfl rfl rfl (Nat.le_of_ble_eq_true rfl) (Or.inl rfl) (Nat.le_refl _) (Nat.le_refl _) (Nat.le_refl _) (Nat.le_refl _) h1 (s_X1_needOf v0 v1 v3 M _ e13) ?_
          refine g_istore (pc' := 49) (lv' := [some (aR v0), some (aI v1), some (aI v2), some (aI v3), some (aR (mR M (mR M (mR M v0 6) 0) v1.toNatClampNeg)), some (aI (mI M (mR M (mR M (mR M (mR M v0 6) 0) v1.toNatClampNeg) 0) v2.toNatClampNeg)), some (aI r13), none]) dX1_repIsHarmless_47 rfl rfl (by decide) rfl ?_
          refine g_aload (pc' := 51) dX1_repIsHarmless_49 rfl rfl ?_
          obtain ⟨h14, hf⟩ := chk_s hf
          refine g_getR (pc' := 54) 2 1 rfl rfl (by decide) inX2 (by decide) rfl rfl q_506 dX1_repIsHarmless_51 rfl h14 ?_
          refine g_iload_n (pc' := 55) dX1_repIsHarmless_54 rfl rfl ?_
          obtain ⟨h15, hf⟩ := chk_s hf
          obtain ⟨b16, hf⟩ := chk_s hf
          refine g_iald (pc' := 56) dX1_repIsHarmless_55 rfl h15 (inB_in b16) ?_
          refine g_iload (pc' := 58) dX1_repIsHarmless_56 rfl rfl ?_
          refine g_icmp_lt (pc' := 61) 75 dX1_repIsHarmless_58 rfl (by decide) (fun c17 => ?_) (fun c17 => ?_)
          · have hf := ite_t c17 hf
            refine g_iconst (pc' := 76) (0 : Int32) dX1_repIsHarmless_75 rfl (by decide) ?_
            cases hf
            exact g_zreturn dX1_repIsHarmless_76 rfl (Or.inl rfl) (Nat.le_of_ble_eq_true rfl) (Nat.le_of_ble_eq_true rfl)
          · have hf := ite_f c17 hf
            refine g_aload (pc' := 63) dX1_repIsHarmless_61 rfl rfl ?_
            refine g_getR (pc' := 66) 2 1 rfl rfl (by decide) inX2 (by decide) rfl rfl q_506 dX1_repIsHarmless_63 rfl h14 ?_
            refine g_iload_n (pc' := 67) dX1_repIsHarmless_66 rfl rfl ?_
            refine g_iconst (pc' := 68) (1 : Int32) dX1_repIsHarmless_67 rfl (by decide) ?_
            refine g_isub (pc' := 69) dX1_repIsHarmless_68 rfl ?_
            obtain ⟨b18, hf⟩ := chk_s hf
            refine g_iald (pc' := 70) dX1_repIsHarmless_69 rfl h15 (inB_in b18) ?_
            refine g_iload (pc' := 72) dX1_repIsHarmless_70 rfl rfl ?_
            refine g_icmp_ge (pc' := 75) 77 dX1_repIsHarmless_72 rfl (by decide) (fun c19 => ?_) (fun c19 => ?_)
            · have hf := ite_t c19 hf
              refine g_iload (pc' := 79) dX1_repIsHarmless_77 rfl rfl ?_
              refine g_iload_n (pc' := 80) dX1_repIsHarmless_79 rfl rfl ?_
              refine g_min (pc' := 83) q_529 q_387 wall_i_java_lang_Math q_389 (by omega) (Nat.le_of_ble_eq_true rfl) (Nat.le_of_ble_eq_true rfl) (Nat.le_of_ble_eq_true rfl) dX1_repIsHarmless_80 rfl ?_
              refine g_istore (pc' := 85) (lv' := [some (aR v0), some (aI v1), some (aI v2), some (aI v3), some (aR (mR M (mR M (mR M v0 6) 0) v1.toNatClampNeg)), some (aI (mI M (mR M (mR M (mR M (mR M v0 6) 0) v1.toNatClampNeg) 0) v2.toNatClampNeg)), some (aI r13), some (aI (if v3 < (mI M (mR M (mR M (mR M (mR M v0 6) 0) v1.toNatClampNeg) 0) v2.toNatClampNeg) then v3 else (mI M (mR M (mR M (mR M (mR M v0 6) 0) v1.toNatClampNeg) 0) v2.toNatClampNeg)))]) dX1_repIsHarmless_83 rfl rfl (by decide) rfl ?_
              refine g_iload_n (pc' := 86) dX1_repIsHarmless_85 rfl rfl ?_
              refine g_if_eq (pc' := 89) 105 dX1_repIsHarmless_86 rfl (by decide) (fun c20 => ?_) (fun c20 => ?_)
              · have hf := ite_t c20 hf
                refine g_mask [true, true, false, false, false, false, false, true] rfl ?_
                refine g_widen (k' := 0) (u' := 0) (by omega) (by omega) ?_
                exact s_X1_repIsHarmless_105 v0 v1 (if v3 < (mI M (mR M (mR M (mR M (mR M v0 6) 0) v1.toNatClampNeg) 0) v2.toNatClampNeg) then v3 else (mI M (mR M (mR M (mR M (mR M v0 6) 0) v1.toNatClampNeg) 0) v2.toNatClampNeg)) M12 _ hf
              · have hf := ite_f c20 hf
                refine g_iload (pc' := 91) dX1_repIsHarmless_89 rfl rfl ?_
                refine g_aload_n (pc' := 92) dX1_repIsHarmless_91 rfl rfl ?_
                obtain ⟨h21, hf⟩ := chk_s hf
                refine g_getR (pc' := 95) 1 5 rfl rfl (by decide) inX1 (by decide) rfl rfl q_486 dX1_repIsHarmless_92 rfl h21 ?_
                refine g_iload_n (pc' := 96) dX1_repIsHarmless_95 rfl rfl ?_
                refine g_iload_n (pc' := 97) dX1_repIsHarmless_96 rfl rfl ?_
                refine g_iconst (pc' := 98) (1 : Int32) dX1_repIsHarmless_97 rfl (by decide) ?_
                refine g_isub (pc' := 99) dX1_repIsHarmless_98 rfl ?_
                obtain ⟨h22, hf⟩ := chk_s hf
                obtain ⟨r24, M23, e24, hf⟩ := bnd_some hf
                refine g_callVi (pc' := 102) (k' := 0) (u' := 0) (fr2 := 2) (As := [aI v1, aI (v1 - (1 : Int32))]) (b := (mR M12 v0 5)) (st := [aI (if v3 < (mI M (mR M (mR M (mR M (mR M v0 6) 0) v1.toNatClampNeg) 0) v2.toNatClampNeg) then v3 else (mI M (mR M (mR M (mR M (mR M v0 6) 0) v1.toNatClampNeg) 0) v2.toNatClampNeg))]) cf_X5_levelOf q_530 (by omega) (ci := 5) rfl rfl (by decide) dX1_repIsHarmless_99 rfl rfl rfl (Nat.le_of_ble_eq_true rfl) (Or.inl rfl) (Nat.le_refl _) (Nat.le_refl _) (Nat.le_refl _) (Nat.le_refl _) h22 (s_X5_levelOf (mR M12 v0 5) v1 (v1 - (1 : Int32)) M12 _ e24) ?_
                refine g_icmp_le (pc' := 105) 138 dX1_repIsHarmless_102 rfl (by decide) (fun c25 => ?_) (fun c25 => ?_)
                · have hf := ite_t c25 hf
                  refine g_iconst (pc' := 139) (0 : Int32) dX1_repIsHarmless_138 rfl (by decide) ?_
                  cases hf
                  exact g_zreturn dX1_repIsHarmless_139 rfl (Or.inl rfl) (Nat.le_of_ble_eq_true rfl) (Nat.le_of_ble_eq_true rfl)
                · have hf := ite_f c25 hf
                  refine g_mask [true, true, false, false, false, false, false, true] rfl ?_
                  refine g_widen (k' := 0) (u' := 0) (by omega) (by omega) ?_
                  exact s_X1_repIsHarmless_105 v0 v1 (if v3 < (mI M (mR M (mR M (mR M (mR M v0 6) 0) v1.toNatClampNeg) 0) v2.toNatClampNeg) then v3 else (mI M (mR M (mR M (mR M (mR M v0 6) 0) v1.toNatClampNeg) 0) v2.toNatClampNeg)) M23 _ hf
            · have hf := ite_f c19 hf
              refine g_iconst (pc' := 76) (0 : Int32) dX1_repIsHarmless_75 rfl (by decide) ?_
              cases hf
              exact g_zreturn dX1_repIsHarmless_76 rfl (Or.inl rfl) (Nat.le_of_ble_eq_true rfl) (Nat.le_of_ble_eq_true rfl)
        · have hf := ite_t c11 hf
          refine g_iconst (pc' := 40) (0 : Int32) dX1_repIsHarmless_39 rfl (by decide) ?_
          cases hf
          exact g_zreturn dX1_repIsHarmless_40 rfl (Or.inl rfl) (Nat.le_of_ble_eq_true rfl) (Nat.le_of_ble_eq_true rfl)
def f_X1_weighOne (v0 : Nat) (v1 : Int32) (v2 : Int32) (M : Mem) : Option (Unit × Mem) :=
  if v1 = 0 then
    some ((), M)
  else
    if mK M v0 = 2 then
      ap (sI M v0 3 ((mI M v0 3) + (1 : Int32))) fun M3 =>
      if mK M3 v0 = 2 then
        if (mI M3 v0 4) = (-1 : Int32) then
          ap (sI M3 v0 4 v2) fun M6 =>
          some ((), M6)
        else
          some ((), M3)
      else none
    else none
theorem s_X1_weighOne (v0 : Nat) (v1 : Int32) (v2 : Int32) (M : Mem) (r : (Unit × Mem)) (hf : f_X1_weighOne v0 v1 v2 M = some r) : Sem mi_X1_weighOne (1) [aR v0, aI v1, aI v2] M (oU r.1) r.2 := by
  unfold f_X1_weighOne at hf
  refine sem_of (by decide) rfl rfl rfl (Nat.le_of_ble_eq_true rfl) (lv := [some (aR v0), some (aI v1), some (aI v2)]) rfl ?_
  refine g_iload_n (pc' := 1) dX1_weighOne_0 rfl rfl ?_
  refine g_if_eq (pc' := 4) 27 dX1_weighOne_1 rfl (by decide) (fun c1 => ?_) (fun c1 => ?_)
  · have hf := ite_t c1 hf
    cases hf
    exact g_return dX1_weighOne_27 rfl (Nat.le_of_ble_eq_true rfl) (Nat.le_of_ble_eq_true rfl)
  · have hf := ite_f c1 hf
    refine g_aload_n (pc' := 5) dX1_weighOne_4 rfl rfl ?_
    refine g_dup (pc' := 6) dX1_weighOne_5 rfl rfl ?_
    obtain ⟨h2, hf⟩ := chk_s hf
    refine g_getI (pc' := 9) 1 3 rfl rfl (by decide) inX1 (by decide) rfl rfl q_841 dX1_weighOne_6 rfl h2 ?_
    refine g_iconst (pc' := 10) (1 : Int32) dX1_weighOne_9 rfl (by decide) ?_
    refine g_iadd (pc' := 11) dX1_weighOne_10 rfl ?_
    refine g_putI (pc' := 14) 1 3 rfl rfl (by decide) inX1 tyX1_ok nmX1 (by decide) rfl rfl rfl rfl q_841 dX1_weighOne_11 rfl h2 (gM fun M3 hM3 => ?_)
    have hf := ap_eq hf hM3
    refine g_aload_n (pc' := 15) dX1_weighOne_14 rfl rfl ?_
    obtain ⟨h4, hf⟩ := chk_s hf
    refine g_getI (pc' := 18) 1 4 rfl rfl (by decide) inX1 (by decide) rfl rfl q_842 dX1_weighOne_15 rfl h4 ?_
    refine g_iconst (pc' := 19) (-1 : Int32) dX1_weighOne_18 rfl (by decide) ?_
    refine g_icmp_ne (pc' := 22) 27 dX1_weighOne_19 rfl (by decide) (fun c5 => ?_) (fun c5 => ?_)
    · have hf := ite_f c5 hf
      cases hf
      exact g_return dX1_weighOne_27 rfl (Nat.le_of_ble_eq_true rfl) (Nat.le_of_ble_eq_true rfl)
    · have hf := ite_t c5 hf
      refine g_aload_n (pc' := 23) dX1_weighOne_22 rfl rfl ?_
      refine g_iload_n (pc' := 24) dX1_weighOne_23 rfl rfl ?_
      refine g_putI (pc' := 27) 1 4 rfl rfl (by decide) inX1 tyX1_ok nmX1 (by decide) rfl rfl rfl rfl q_842 dX1_weighOne_24 rfl h4 (gM fun M6 hM6 => ?_)
      have hf := ap_eq hf hM6
      cases hf
      exact g_return dX1_weighOne_27 rfl (Nat.le_of_ble_eq_true rfl) (Nat.le_of_ble_eq_true rfl)
def f_X1_looksAlike_60  (M : Mem) : Option (Int32 × Mem) :=
  some ((1 : Int32), M)
def f_X1_looksAlike (v0 : Nat) (v1 : Int32) (v2 : Int32) (v3 : Int32) (v4 : Int32) (M : Mem) : Option (Int32 × Mem) :=
  if mK M v0 = 2 then
    if mK M (mR M v0 6) = 8 then
      if mK M (mR M (mR M v0 6) 0) = 23 then
        if inB v1 (mN M (mR M (mR M v0 6) 0)) = true then
          bnd (f_X1_mostShared v0 v1 v2 M) fun r6 M5 =>
          if mK M5 (mR M (mR M (mR M v0 6) 0) v1.toNatClampNeg) = 3 then
            if mK M5 (mR M5 (mR M (mR M (mR M v0 6) 0) v1.toNatClampNeg) 0) = 21 then
              if inB v3 (mN M5 (mR M5 (mR M (mR M (mR M v0 6) 0) v1.toNatClampNeg) 0)) = true then
                if mK M5 v0 = 2 then
                  if mK M5 (mR M5 v0 5) = 6 then
                    bnd (f_X5_levelOf (mR M5 v0 5) v1 v2 M5) fun r13 M12 =>
                    if r13 < (mI M5 (mR M5 (mR M (mR M (mR M v0 6) 0) v1.toNatClampNeg) 0) v3.toNatClampNeg) then
                      f_X1_looksAlike_60 M12
                    else
                      if mK M12 (mR M (mR M (mR M v0 6) 0) v1.toNatClampNeg) = 3 then
                        if mK M12 (mR M12 (mR M (mR M (mR M v0 6) 0) v1.toNatClampNeg) 1) = 21 then
                          if inB v3 (mN M12 (mR M12 (mR M (mR M (mR M v0 6) 0) v1.toNatClampNeg) 1)) = true then
                            if (if r6 < v4 then r6 else v4) = (if r6 < (mI M12 (mR M12 (mR M (mR M (mR M v0 6) 0) v1.toNatClampNeg) 1) v3.toNatClampNeg) then r6 else (mI M12 (mR M12 (mR M (mR M (mR M v0 6) 0) v1.toNatClampNeg) 1) v3.toNatClampNeg)) then
                              f_X1_looksAlike_60 M12
                            else
                              some ((0 : Int32), M12)
                          else none
                        else none
                      else none
                  else none
                else none
              else none
            else none
          else none
        else none
      else none
    else none
  else none
theorem s_X1_looksAlike_60  (M : Mem) (r : (Int32 × Mem)) (hf : f_X1_looksAlike_60  M = some r) : G mi_X1_looksAlike 3 (oI r.1) r.2 60 [none, none, none, none, none, none, none] [] M 0 0 := by
  unfold f_X1_looksAlike_60 at hf
  refine g_iconst (pc' := 61) (1 : Int32) dX1_looksAlike_60 rfl (by decide) ?_
  refine g_goto (pc' := 65) dX1_looksAlike_61 (by decide) ?_
  cases hf
  exact g_zreturn dX1_looksAlike_65 rfl (Or.inr rfl) (Nat.le_of_ble_eq_true rfl) (Nat.le_of_ble_eq_true rfl)
theorem s_X1_looksAlike (v0 : Nat) (v1 : Int32) (v2 : Int32) (v3 : Int32) (v4 : Int32) (M : Mem) (r : (Int32 × Mem)) (hf : f_X1_looksAlike v0 v1 v2 v3 v4 M = some r) : Sem mi_X1_looksAlike (3) [aR v0, aI v1, aI v2, aI v3, aI v4] M (oI r.1) r.2 := by
  unfold f_X1_looksAlike at hf
  refine sem_of (by decide) rfl rfl rfl (Nat.le_of_ble_eq_true rfl) (lv := [some (aR v0), some (aI v1), some (aI v2), some (aI v3), some (aI v4), none, none]) rfl ?_
  refine g_aload_n (pc' := 1) dX1_looksAlike_0 rfl rfl ?_
  obtain ⟨h1, hf⟩ := chk_s hf
  refine g_getR (pc' := 4) 1 6 rfl rfl (by decide) inX1 (by decide) rfl rfl q_487 dX1_looksAlike_1 rfl h1 ?_
  obtain ⟨h2, hf⟩ := chk_s hf
  refine g_getR (pc' := 7) 7 0 rfl rfl (by decide) inX7 (by decide) rfl rfl q_496 dX1_looksAlike_4 rfl h2 ?_
  refine g_iload_n (pc' := 8) dX1_looksAlike_7 rfl rfl ?_
  obtain ⟨h3, hf⟩ := chk_s hf
  obtain ⟨b4, hf⟩ := chk_s hf
  refine g_aald (pc' := 9) (t0 := 2) (fun _ => rfl) (by decide) dX1_looksAlike_8 rfl h3 (inB_in b4) ?_
  refine g_astore (pc' := 11) (lv' := [some (aR v0), some (aI v1), some (aI v2), some (aI v3), some (aI v4), some (aR (mR M (mR M (mR M v0 6) 0) v1.toNatClampNeg)), none]) dX1_looksAlike_9 rfl rfl (by decide) rfl ?_
  refine g_aload_n (pc' := 12) dX1_looksAlike_11 rfl rfl ?_
  refine g_iload_n (pc' := 13) dX1_looksAlike_12 rfl rfl ?_
  refine g_iload_n (pc' := 14) dX1_looksAlike_13 rfl rfl ?_
  obtain ⟨r6, M5, e6, hf⟩ := bnd_some hf
  refine g_callVi (pc' := 17) (k' := 0) (u' := 0) (fr2 := 2) (As := [aI v1, aI v2]) (b := v0) (st := []) cf_X1_mostShared q_538 (by omega) (ci := 1) rfl rfl (by decide) dX1_looksAlike_14 rfl rfl rfl (Nat.le_of_ble_eq_true rfl) (Or.inl rfl) (Nat.le_refl _) (Nat.le_refl _) (Nat.le_refl _) (Nat.le_refl _) h1 (s_X1_mostShared v0 v1 v2 M _ e6) ?_
  refine g_istore (pc' := 19) (lv' := [some (aR v0), some (aI v1), some (aI v2), some (aI v3), some (aI v4), some (aR (mR M (mR M (mR M v0 6) 0) v1.toNatClampNeg)), some (aI r6)]) dX1_looksAlike_17 rfl rfl (by decide) rfl ?_
  refine g_aload (pc' := 21) dX1_looksAlike_19 rfl rfl ?_
  obtain ⟨h7, hf⟩ := chk_s hf
  refine g_getR (pc' := 24) 2 0 rfl rfl (by decide) inX2 (by decide) rfl rfl q_503 dX1_looksAlike_21 rfl h7 ?_
  refine g_iload_n (pc' := 25) dX1_looksAlike_24 rfl rfl ?_
  obtain ⟨h8, hf⟩ := chk_s hf
  obtain ⟨b9, hf⟩ := chk_s hf
  refine g_iald (pc' := 26) dX1_looksAlike_25 rfl h8 (inB_in b9) ?_
  refine g_aload_n (pc' := 27) dX1_looksAlike_26 rfl rfl ?_
  obtain ⟨h10, hf⟩ := chk_s hf
  refine g_getR (pc' := 30) 1 5 rfl rfl (by decide) inX1 (by decide) rfl rfl q_486 dX1_looksAlike_27 rfl h10 ?_
  refine g_iload_n (pc' := 31) dX1_looksAlike_30 rfl rfl ?_
  refine g_iload_n (pc' := 32) dX1_looksAlike_31 rfl rfl ?_
  obtain ⟨h11, hf⟩ := chk_s hf
  obtain ⟨r13, M12, e13, hf⟩ := bnd_some hf
  refine g_callVi (pc' := 35) (k' := 0) (u' := 0) (fr2 := 2) (As := [aI v1, aI v2]) (b := (mR M5 v0 5)) (st := [aI (mI M5 (mR M5 (mR M (mR M (mR M v0 6) 0) v1.toNatClampNeg) 0) v3.toNatClampNeg)]) cf_X5_levelOf q_530 (by omega) (ci := 5) rfl rfl (by decide) dX1_looksAlike_32 rfl rfl rfl (Nat.le_of_ble_eq_true rfl) (Or.inl rfl) (Nat.le_refl _) (Nat.le_refl _) (Nat.le_refl _) (Nat.le_refl _) h11 (s_X5_levelOf (mR M5 v0 5) v1 v2 M5 _ e13) ?_
  refine g_icmp_gt (pc' := 38) 60 dX1_looksAlike_35 rfl (by decide) (fun c14 => ?_) (fun c14 => ?_)
  · have hf := ite_t c14 hf
    refine g_mask [false, false, false, false, false, false, false] rfl ?_
    refine g_widen (k' := 0) (u' := 0) (by omega) (by omega) ?_
    exact s_X1_looksAlike_60 M12 _ hf
  · have hf := ite_f c14 hf
    refine g_iload (pc' := 40) dX1_looksAlike_38 rfl rfl ?_
    refine g_iload (pc' := 42) dX1_looksAlike_40 rfl rfl ?_
    refine g_min (pc' := 45) q_529 q_387 wall_i_java_lang_Math q_389 (by omega) (Nat.le_of_ble_eq_true rfl) (Nat.le_of_ble_eq_true rfl) (Nat.le_of_ble_eq_true rfl) dX1_looksAlike_42 rfl ?_
    refine g_aload (pc' := 47) dX1_looksAlike_45 rfl rfl ?_
    obtain ⟨h15, hf⟩ := chk_s hf
    refine g_getR (pc' := 50) 2 1 rfl rfl (by decide) inX2 (by decide) rfl rfl q_506 dX1_looksAlike_47 rfl h15 ?_
    refine g_iload_n (pc' := 51) dX1_looksAlike_50 rfl rfl ?_
    obtain ⟨h16, hf⟩ := chk_s hf
    obtain ⟨b17, hf⟩ := chk_s hf
    refine g_iald (pc' := 52) dX1_looksAlike_51 rfl h16 (inB_in b17) ?_
    refine g_iload (pc' := 54) dX1_looksAlike_52 rfl rfl ?_
    refine g_min (pc' := 57) q_529 q_387 wall_i_java_lang_Math q_389 (by omega) (Nat.le_of_ble_eq_true rfl) (Nat.le_of_ble_eq_true rfl) (Nat.le_of_ble_eq_true rfl) dX1_looksAlike_54 rfl ?_
    refine g_icmp_ne (pc' := 60) 64 dX1_looksAlike_57 rfl (by decide) (fun c18 => ?_) (fun c18 => ?_)
    · have hf := ite_f c18 hf
      refine g_iconst (pc' := 65) (0 : Int32) dX1_looksAlike_64 rfl (by decide) ?_
      cases hf
      exact g_zreturn dX1_looksAlike_65 rfl (Or.inl rfl) (Nat.le_of_ble_eq_true rfl) (Nat.le_of_ble_eq_true rfl)
    · have hf := ite_t c18 hf
      refine g_mask [false, false, false, false, false, false, false] rfl ?_
      refine g_widen (k' := 0) (u' := 0) (by omega) (by omega) ?_
      exact s_X1_looksAlike_60 M12 _ hf
def f_X1_defIsHarmless_114  (M : Mem) : Option (Int32 × Mem) :=
  some ((1 : Int32), M)
def f_X1_defIsHarmless_88 (v0 : Nat) (v1 : Int32) (v2 : Int32) (v3 : Int32) (M : Mem) : Option (Int32 × Mem) :=
  if mK M v0 = 2 then
    if mK M (mR M v0 5) = 6 then
      if (mI M (mR M v0 5) 1) ≤ (v1 + (1 : Int32)) then
        f_X1_defIsHarmless_114 M
      else
        bnd (f_X1_looksAlike v0 v1 (v1 + (1 : Int32)) v2 v3 M) fun r5 M4 =>
        if r5 = 0 then
          some ((0 : Int32), M4)
        else
          f_X1_defIsHarmless_114 M4
    else none
  else none
def f_X1_defIsHarmless_71 (v0 : Nat) (v1 : Int32) (v2 : Int32) (v3 : Int32) (M : Mem) : Option (Int32 × Mem) :=
  if v1 = 0 then
    f_X1_defIsHarmless_88 v0 v1 v2 v3 M
  else
    if mK M v0 = 2 then
      bnd (f_X1_looksAlike v0 v1 (v1 - (1 : Int32)) v2 v3 M) fun r4 M3 =>
      if r4 = 0 then
        some ((0 : Int32), M3)
      else
        f_X1_defIsHarmless_88 v0 v1 v2 v3 M3
    else none
def f_X1_defIsHarmless (v0 : Nat) (v1 : Int32) (v2 : Int32) (v3 : Int32) (M : Mem) : Option (Int32 × Mem) :=
  if mK M v0 = 2 then
    if mK M (mR M v0 6) = 8 then
      if mK M (mR M (mR M v0 6) 0) = 23 then
        if inB v1 (mN M (mR M (mR M v0 6) 0)) = true then
          if mK M (mR M (mR M (mR M v0 6) 0) v1.toNatClampNeg) = 3 then
            if mK M (mR M (mR M (mR M (mR M v0 6) 0) v1.toNatClampNeg) 1) = 21 then
              if inB v2 (mN M (mR M (mR M (mR M (mR M v0 6) 0) v1.toNatClampNeg) 1)) = true then
                if v3 = (mI M (mR M (mR M (mR M (mR M v0 6) 0) v1.toNatClampNeg) 1) v2.toNatClampNeg) then
                  some ((0 : Int32), M)
                else
                  if mK M (mR M (mR M (mR M (mR M v0 6) 0) v1.toNatClampNeg) 0) = 21 then
                    if inB v2 (mN M (mR M (mR M (mR M (mR M v0 6) 0) v1.toNatClampNeg) 0)) = true then
                      bnd (f_X1_needOf v0 v1 (mI M (mR M (mR M (mR M (mR M v0 6) 0) v1.toNatClampNeg) 0) v2.toNatClampNeg) M) fun r12 M11 =>
                      if r12 ≤ v3 then
                        if mK M11 (mR M (mR M (mR M v0 6) 0) v1.toNatClampNeg) = 3 then
                          if (mI M11 (mR M (mR M (mR M v0 6) 0) v1.toNatClampNeg) 3) ≤ (v2 + (1 : Int32)) then
                            f_X1_defIsHarmless_71 v0 v1 v2 v3 M11
                          else
                            if mK M11 (mR M11 (mR M (mR M (mR M v0 6) 0) v1.toNatClampNeg) 0) = 21 then
                              if inB (v2 + (1 : Int32)) (mN M11 (mR M11 (mR M (mR M (mR M v0 6) 0) v1.toNatClampNeg) 0)) = true then
                                if mK M11 v0 = 2 then
                                  bnd (f_X1_needOf v0 v1 (mI M11 (mR M11 (mR M (mR M (mR M v0 6) 0) v1.toNatClampNeg) 0) (v2 + (1 : Int32)).toNatClampNeg) M11) fun r20 M19 =>
                                  if r20 ≤ v3 then
                                    f_X1_defIsHarmless_71 v0 v1 v2 v3 M19
                                  else
                                    some ((0 : Int32), M19)
                                else none
                              else none
                            else none
                        else none
                      else
                        some ((0 : Int32), M11)
                    else none
                  else none
              else none
            else none
          else none
        else none
      else none
    else none
  else none
theorem s_X1_defIsHarmless_114  (M : Mem) (r : (Int32 × Mem)) (hf : f_X1_defIsHarmless_114  M = some r) : G mi_X1_defIsHarmless 4 (oI r.1) r.2 114 [none, none, none, none, none] [] M 0 0 := by
  unfold f_X1_defIsHarmless_114 at hf
  refine g_iconst (pc' := 115) (1 : Int32) dX1_defIsHarmless_114 rfl (by decide) ?_
  refine g_goto (pc' := 119) dX1_defIsHarmless_115 (by decide) ?_
  cases hf
  exact g_zreturn dX1_defIsHarmless_119 rfl (Or.inr rfl) (Nat.le_of_ble_eq_true rfl) (Nat.le_of_ble_eq_true rfl)
theorem s_X1_defIsHarmless_88 (v0 : Nat) (v1 : Int32) (v2 : Int32) (v3 : Int32) (M : Mem) (r : (Int32 × Mem)) (hf : f_X1_defIsHarmless_88 v0 v1 v2 v3 M = some r) : G mi_X1_defIsHarmless 4 (oI r.1) r.2 88 [some (aR v0), some (aI v1), some (aI v2), some (aI v3), none] [] M 0 0 := by
  unfold f_X1_defIsHarmless_88 at hf
  refine g_iload_n (pc' := 89) dX1_defIsHarmless_88 rfl rfl ?_
  refine g_iconst (pc' := 90) (1 : Int32) dX1_defIsHarmless_89 rfl (by decide) ?_
  refine g_iadd (pc' := 91) dX1_defIsHarmless_90 rfl ?_
  refine g_aload_n (pc' := 92) dX1_defIsHarmless_91 rfl rfl ?_
  obtain ⟨h1, hf⟩ := chk_s hf
  refine g_getR (pc' := 95) 1 5 rfl rfl (by decide) inX1 (by decide) rfl rfl q_486 dX1_defIsHarmless_92 rfl h1 ?_
  obtain ⟨h2, hf⟩ := chk_s hf
  refine g_getI (pc' := 98) 5 1 rfl rfl (by decide) inX5 (by decide) rfl rfl q_491 dX1_defIsHarmless_95 rfl h2 ?_
  refine g_icmp_ge (pc' := 101) 114 dX1_defIsHarmless_98 rfl (by decide) (fun c3 => ?_) (fun c3 => ?_)
  · have hf := ite_t c3 hf
    refine g_mask [false, false, false, false, true] rfl ?_
    exact s_X1_defIsHarmless_114 M _ hf
  · have hf := ite_f c3 hf
    refine g_aload_n (pc' := 102) dX1_defIsHarmless_101 rfl rfl ?_
    refine g_iload_n (pc' := 103) dX1_defIsHarmless_102 rfl rfl ?_
    refine g_iload_n (pc' := 104) dX1_defIsHarmless_103 rfl rfl ?_
    refine g_iconst (pc' := 105) (1 : Int32) dX1_defIsHarmless_104 rfl (by decide) ?_
    refine g_iadd (pc' := 106) dX1_defIsHarmless_105 rfl ?_
    refine g_iload_n (pc' := 107) dX1_defIsHarmless_106 rfl rfl ?_
    refine g_iload_n (pc' := 108) dX1_defIsHarmless_107 rfl rfl ?_
    obtain ⟨r5, M4, e5, hf⟩ := bnd_some hf
    refine g_callVi (pc' := 111) (k' := 0) (u' := 0) (fr2 := 3) (As := [aI v1, aI (v1 + (1 : Int32)), aI v2, aI v3]) (b := v0) (st := []) cf_X1_looksAlike q_855 (by omega) (ci := 1) rfl rfl (by decide) dX1_defIsHarmless_108 rfl rfl rfl (Nat.le_of_ble_eq_true rfl) (Or.inl rfl) (Nat.le_refl _) (Nat.le_refl _) (Nat.le_refl _) (Nat.le_refl _) h1 (s_X1_looksAlike v0 v1 (v1 + (1 : Int32)) v2 v3 M _ e5) ?_
    refine g_if_eq (pc' := 114) 118 dX1_defIsHarmless_111 rfl (by decide) (fun c6 => ?_) (fun c6 => ?_)
    · have hf := ite_t c6 hf
      refine g_iconst (pc' := 119) (0 : Int32) dX1_defIsHarmless_118 rfl (by decide) ?_
      cases hf
      exact g_zreturn dX1_defIsHarmless_119 rfl (Or.inl rfl) (Nat.le_of_ble_eq_true rfl) (Nat.le_of_ble_eq_true rfl)
    · have hf := ite_f c6 hf
      refine g_mask [false, false, false, false, true] rfl ?_
      refine g_widen (k' := 0) (u' := 0) (by omega) (by omega) ?_
      exact s_X1_defIsHarmless_114 M4 _ hf
theorem s_X1_defIsHarmless_71 (v0 : Nat) (v1 : Int32) (v2 : Int32) (v3 : Int32) (M : Mem) (r : (Int32 × Mem)) (hf : f_X1_defIsHarmless_71 v0 v1 v2 v3 M = some r) : G mi_X1_defIsHarmless 4 (oI r.1) r.2 71 [some (aR v0), some (aI v1), some (aI v2), some (aI v3), none] [] M 0 0 := by
  unfold f_X1_defIsHarmless_71 at hf
  refine g_iload_n (pc' := 72) dX1_defIsHarmless_71 rfl rfl ?_
  refine g_if_eq (pc' := 75) 88 dX1_defIsHarmless_72 rfl (by decide) (fun c1 => ?_) (fun c1 => ?_)
  · have hf := ite_t c1 hf
    exact s_X1_defIsHarmless_88 v0 v1 v2 v3 M _ hf
  · have hf := ite_f c1 hf
    refine g_aload_n (pc' := 76) dX1_defIsHarmless_75 rfl rfl ?_
    refine g_iload_n (pc' := 77) dX1_defIsHarmless_76 rfl rfl ?_
    refine g_iload_n (pc' := 78) dX1_defIsHarmless_77 rfl rfl ?_
    refine g_iconst (pc' := 79) (1 : Int32) dX1_defIsHarmless_78 rfl (by decide) ?_
    refine g_isub (pc' := 80) dX1_defIsHarmless_79 rfl ?_
    refine g_iload_n (pc' := 81) dX1_defIsHarmless_80 rfl rfl ?_
    refine g_iload_n (pc' := 82) dX1_defIsHarmless_81 rfl rfl ?_
    obtain ⟨h2, hf⟩ := chk_s hf
    obtain ⟨r4, M3, e4, hf⟩ := bnd_some hf
    refine g_callVi (pc' := 85) (k' := 0) (u' := 0) (fr2 := 3) (As := [aI v1, aI (v1 - (1 : Int32)), aI v2, aI v3]) (b := v0) (st := []) cf_X1_looksAlike q_855 (by omega) (ci := 1) rfl rfl (by decide) dX1_defIsHarmless_82 rfl rfl rfl (Nat.le_of_ble_eq_true rfl) (Or.inl rfl) (Nat.le_refl _) (Nat.le_refl _) (Nat.le_refl _) (Nat.le_refl _) h2 (s_X1_looksAlike v0 v1 (v1 - (1 : Int32)) v2 v3 M _ e4) ?_
    refine g_if_eq (pc' := 88) 118 dX1_defIsHarmless_85 rfl (by decide) (fun c5 => ?_) (fun c5 => ?_)
    · have hf := ite_t c5 hf
      refine g_iconst (pc' := 119) (0 : Int32) dX1_defIsHarmless_118 rfl (by decide) ?_
      cases hf
      exact g_zreturn dX1_defIsHarmless_119 rfl (Or.inl rfl) (Nat.le_of_ble_eq_true rfl) (Nat.le_of_ble_eq_true rfl)
    · have hf := ite_f c5 hf
      refine g_widen (k' := 0) (u' := 0) (by omega) (by omega) ?_
      exact s_X1_defIsHarmless_88 v0 v1 v2 v3 M3 _ hf
theorem s_X1_defIsHarmless (v0 : Nat) (v1 : Int32) (v2 : Int32) (v3 : Int32) (M : Mem) (r : (Int32 × Mem)) (hf : f_X1_defIsHarmless v0 v1 v2 v3 M = some r) : Sem mi_X1_defIsHarmless (4) [aR v0, aI v1, aI v2, aI v3] M (oI r.1) r.2 := by
  unfold f_X1_defIsHarmless at hf
  refine sem_of (by decide) rfl rfl rfl (Nat.le_of_ble_eq_true rfl) (lv := [some (aR v0), some (aI v1), some (aI v2), some (aI v3), none]) rfl ?_
  refine g_aload_n (pc' := 1) dX1_defIsHarmless_0 rfl rfl ?_
  obtain ⟨h1, hf⟩ := chk_s hf
  refine g_getR (pc' := 4) 1 6 rfl rfl (by decide) inX1 (by decide) rfl rfl q_487 dX1_defIsHarmless_1 rfl h1 ?_
  obtain ⟨h2, hf⟩ := chk_s hf
  refine g_getR (pc' := 7) 7 0 rfl rfl (by decide) inX7 (by decide) rfl rfl q_496 dX1_defIsHarmless_4 rfl h2 ?_
  refine g_iload_n (pc' := 8) dX1_defIsHarmless_7 rfl rfl ?_
  obtain ⟨h3, hf⟩ := chk_s hf
  obtain ⟨b4, hf⟩ := chk_s hf
  refine g_aald (pc' := 9) (t0 := 2) (fun _ => rfl) (by decide) dX1_defIsHarmless_8 rfl h3 (inB_in b4) ?_
  refine g_astore (pc' := 11) (lv' := [some (aR v0), some (aI v1), some (aI v2), some (aI v3), some (aR (mR M (mR M (mR M v0 6) 0) v1.toNatClampNeg))]) dX1_defIsHarmless_9 rfl rfl (by decide) rfl ?_
  refine g_iload_n (pc' := 12) dX1_defIsHarmless_11 rfl rfl ?_
  refine g_aload (pc' := 14) dX1_defIsHarmless_12 rfl rfl ?_
  obtain ⟨h5, hf⟩ := chk_s hf
  refine g_getR (pc' := 17) 2 1 rfl rfl (by decide) inX2 (by decide) rfl rfl q_506 dX1_defIsHarmless_14 rfl h5 ?_
  refine g_iload_n (pc' := 18) dX1_defIsHarmless_17 rfl rfl ?_
  obtain ⟨h6, hf⟩ := chk_s hf
  obtain ⟨b7, hf⟩ := chk_s hf
  refine g_iald (pc' := 19) dX1_defIsHarmless_18 rfl h6 (inB_in b7) ?_
  refine g_icmp_eq (pc' := 22) 38 dX1_defIsHarmless_19 rfl (by decide) (fun c8 => ?_) (fun c8 => ?_)
  · have hf := ite_t c8 hf
    refine g_iconst (pc' := 39) (0 : Int32) dX1_defIsHarmless_38 rfl (by decide) ?_
    cases hf
    exact g_zreturn dX1_defIsHarmless_39 rfl (Or.inl rfl) (Nat.le_of_ble_eq_true rfl) (Nat.le_of_ble_eq_true rfl)
  · have hf := ite_f c8 hf
    refine g_iload_n (pc' := 23) dX1_defIsHarmless_22 rfl rfl ?_
    refine g_aload_n (pc' := 24) dX1_defIsHarmless_23 rfl rfl ?_
    refine g_iload_n (pc' := 25) dX1_defIsHarmless_24 rfl rfl ?_
    refine g_aload (pc' := 27) dX1_defIsHarmless_25 rfl rfl ?_
    refine g_getR (pc' := 30) 2 0 rfl rfl (by decide) inX2 (by decide) rfl rfl q_503 dX1_defIsHarmless_27 rfl h5 ?_
    refine g_iload_n (pc' := 31) dX1_defIsHarmless_30 rfl rfl ?_
    obtain ⟨h9, hf⟩ := chk_s hf
    obtain ⟨b10, hf⟩ := chk_s hf
    refine g_iald (pc' := 32) dX1_defIsHarmless_31 rfl h9 (inB_in b10) ?_
    obtain ⟨r12, M11, e12, hf⟩ := bnd_some hf
    refine g_callVi (pc' := 35) (k' := 0) (u' := 0) (fr2 := 2) (As := [aI v1, aI (mI M (mR M (mR M (mR M (mR M v0 6) 0) v1.toNatClampNeg) 0) v2.toNatClampNeg)]) (b := v0) (st := [aI v3]) cf_X1_needOf q_508 (by omega) (ci := 1) rfl rfl (by decide) dX1_defIsHarmless_32 rfl rfl rfl (Nat.le_of_ble_eq_true rfl) (Or.inl rfl) (Nat.le_refl _) (Nat.le_refl _) (Nat.le_refl _) (Nat.le_refl _) h1 (s_X1_needOf v0 v1 (mI M (mR M (mR M (mR M (mR M v0 6) 0) v1.toNatClampNeg) 0) v2.toNatClampNeg) M _ e12) ?_
    refine g_icmp_ge (pc' := 38) 40 dX1_defIsHarmless_35 rfl (by decide) (fun c13 => ?_) (fun c13 => ?_)
    · have hf := ite_t c13 hf
      refine g_iload_n (pc' := 41) dX1_defIsHarmless_40 rfl rfl ?_
      refine g_iconst (pc' := 42) (1 : Int32) dX1_defIsHarmless_41 rfl (by decide) ?_
      refine g_iadd (pc' := 43) dX1_defIsHarmless_42 rfl ?_
      refine g_aload (pc' := 45) dX1_defIsHarmless_43 rfl rfl ?_
      obtain ⟨h14, hf⟩ := chk_s hf
      refine g_getI (pc' := 48) 2 3 rfl rfl (by decide) inX2 (by decide) rfl rfl q_497 dX1_defIsHarmless_45 rfl h14 ?_
      refine g_icmp_ge (pc' := 51) 71 dX1_defIsHarmless_48 rfl (by decide) (fun c15 => ?_) (fun c15 => ?_)
      · have hf := ite_t c15 hf
        refine g_mask [true, true, true, true, false] rfl ?_
        refine g_widen (k' := 0) (u' := 0) (by omega) (by omega) ?_
        exact s_X1_defIsHarmless_71 v0 v1 v2 v3 M11 _ hf
      · have hf := ite_f c15 hf
        refine g_iload_n (pc' := 52) dX1_defIsHarmless_51 rfl rfl ?_
        refine g_aload_n (pc' := 53) dX1_defIsHarmless_52 rfl rfl ?_
        refine g_iload_n (pc' := 54) dX1_defIsHarmless_53 rfl rfl ?_
        refine g_aload (pc' := 56) dX1_defIsHarmless_54 rfl rfl ?_
        refine g_getR (pc' := 59) 2 0 rfl rfl (by decide) inX2 (by decide) rfl rfl q_503 dX1_defIsHarmless_56 rfl h14 ?_
        refine g_iload_n (pc' := 60) dX1_defIsHarmless_59 rfl rfl ?_
        refine g_iconst (pc' := 61) (1 : Int32) dX1_defIsHarmless_60 rfl (by decide) ?_
        refine g_iadd (pc' := 62) dX1_defIsHarmless_61 rfl ?_
        obtain ⟨h16, hf⟩ := chk_s hf
        obtain ⟨b17, hf⟩ := chk_s hf
        refine g_iald (pc' := 63) dX1_defIsHarmless_62 rfl h16 (inB_in b17) ?_
        obtain ⟨h18, hf⟩ := chk_s hf
        obtain ⟨r20, M19, e20, hf⟩ := bnd_some hf
        refine g_callVi (pc' := 66) (k' := 0) (u' := 0) (fr2 := 2) (As := [aI v1, aI (mI M11 (mR M11 (mR M (mR M (mR M v0 6) 0) v1.toNatClampNeg) 0) (v2 + (1 : Int32)).toNatClampNeg)]) (b := v0) (st := [aI v3]) cf_X1_needOf q_508 (by omega) (ci := 1) rfl rfl (by decide) dX1_defIsHarmless_63 rfl rfl rfl (Nat.le_of_ble_eq_true rfl) (Or.inl rfl) (Nat.le_refl _) (Nat.le_refl _) (Nat.le_refl _) (Nat.le_refl _) h18 (s_X1_needOf v0 v1 (mI M11 (mR M11 (mR M (mR M (mR M v0 6) 0) v1.toNatClampNeg) 0) (v2 + (1 : Int32)).toNatClampNeg) M11 _ e20) ?_
        refine g_icmp_ge (pc' := 69) 71 dX1_defIsHarmless_66 rfl (by decide) (fun c21 => ?_) (fun c21 => ?_)
        · have hf := ite_t c21 hf
          refine g_mask [true, true, true, true, false] rfl ?_
          refine g_widen (k' := 0) (u' := 0) (by omega) (by omega) ?_
          exact s_X1_defIsHarmless_71 v0 v1 v2 v3 M19 _ hf
        · have hf := ite_f c21 hf
          refine g_iconst (pc' := 70) (0 : Int32) dX1_defIsHarmless_69 rfl (by decide) ?_
          cases hf
          exact g_zreturn dX1_defIsHarmless_70 rfl (Or.inl rfl) (Nat.le_of_ble_eq_true rfl) (Nat.le_of_ble_eq_true rfl)
    · have hf := ite_f c13 hf
      refine g_iconst (pc' := 39) (0 : Int32) dX1_defIsHarmless_38 rfl (by decide) ?_
      cases hf
      exact g_zreturn dX1_defIsHarmless_39 rfl (Or.inl rfl) (Nat.le_of_ble_eq_true rfl) (Nat.le_of_ble_eq_true rfl)
