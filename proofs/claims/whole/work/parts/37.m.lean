abbrev mi_X11_undo : MI := (yX11_undo, Cond.code yX11_undo cX11_undo 1 (some .int), cX11_undo, 1, (some .int), [], 0, 0, 0, none)
theorem cf_X11_undo : CFv mi_X11_undo 0 := ⟨⟨rfl, q_1443, wall_i_LeafStripes, ⟨by decide, by decide, by decide +kernel⟩, by decide⟩, q_1441, q_1442⟩
abbrev mi_X11_years : MI := (yX11_years, Cond.code yX11_years cX11_years 4 (some .int), cX11_years, 4, (some .int), [], 1, 6, 0, none)
theorem cf_X11_years : CFv mi_X11_years 3 := ⟨⟨rfl, q_1476, wall_i_LeafStripes, ⟨by decide, by decide, by decide +kernel⟩, by decide⟩, q_1474, q_1475⟩
abbrev mi_X11_image : MI := (yX11_image, Cond.code yX11_image cX11_image 1 none, cX11_image, 1, none, [], 0, 0, 0, none)
theorem cf_X11_image : CFv mi_X11_image 0 := ⟨⟨rfl, q_1558, wall_i_LeafStripes, ⟨by decide, by decide, by decide +kernel⟩, by decide⟩, q_1556, q_1557⟩
abbrev mi_X11_restore : MI := (yX11_restore, Cond.code yX11_restore cX11_restore 1 (some .boolean), cX11_restore, 1, (some .boolean), [], 0, 0, 0, none)
theorem cf_X11_restore : CFv mi_X11_restore 0 := ⟨⟨rfl, q_1581, wall_i_LeafStripes, ⟨by decide, by decide, by decide +kernel⟩, by decide⟩, q_1579, q_1580⟩
abbrev mi_X12_init : MI := (yX12_init, Cond.code yX12_init cX12_init 1 none, cX12_init, 1, none, [], 29, 82795, 1, none)
theorem cf_X12_init : CFi mi_X12_init 0 := ⟨⟨rfl, q_119, wall_i_LeafStripesModel, ⟨by decide, by decide, by decide +kernel⟩, by decide⟩, q_118, rfl, rfl⟩
abbrev mi_X12_thrown : MI := (yX12_thrown, Cond.code yX12_thrown cX12_thrown 1 (some .int), cX12_thrown, 1, (some .int), [], 0, 0, 0, none)
theorem cf_X12_thrown : CFv mi_X12_thrown 0 := ⟨⟨rfl, q_466, wall_i_LeafStripesModel, ⟨by decide, by decide, by decide +kernel⟩, by decide⟩, q_464, q_465⟩
abbrev mi_X12_fail : MI := (yX12_fail, Cond.code yX12_fail cX12_fail 2 (some .int), cX12_fail, 2, (some .int), [], 0, 0, 0, none)
theorem cf_X12_fail : CFv mi_X12_fail 1 := ⟨⟨rfl, q_907, wall_i_LeafStripesModel, ⟨by decide, by decide, by decide +kernel⟩, by decide⟩, q_905, q_906⟩
abbrev mi_X12_isIn : MI := (yX12_isIn, Cond.code yX12_isIn cX12_isIn 6 (some .boolean), cX12_isIn, 6, (some .boolean), [], 0, 0, 0, none)
theorem cf_X12_isIn : CFs mi_X12_isIn 3 := ⟨⟨rfl, q_934, wall_i_LeafStripesModel, ⟨by decide, by decide, by decide +kernel⟩, by decide⟩, q_933⟩
abbrev mi_X12_isOf : MI := (yX12_isOf, Cond.code yX12_isOf cX12_isOf 2 (some .boolean), cX12_isOf, 2, (some .boolean), [], 0, 0, 0, none)
theorem cf_X12_isOf : CFs mi_X12_isOf 2 := ⟨⟨rfl, q_887, wall_i_LeafStripesModel, ⟨by decide, by decide, by decide +kernel⟩, by decide⟩, q_886⟩
abbrev mi_X12_bitsOf : MI := (yX12_bitsOf, Cond.code yX12_bitsOf cX12_bitsOf 3 (some .int), cX12_bitsOf, 3, (some .int), [], 0, 0, 0, none)
theorem cf_X12_bitsOf : CFs mi_X12_bitsOf 1 := ⟨⟨rfl, q_880, wall_i_LeafStripesModel, ⟨by decide, by decide, by decide +kernel⟩, by decide⟩, q_879⟩
abbrev mi_X12_feed : MI := (yX12_feed, Cond.code yX12_feed cX12_feed 8 (some .int), cX12_feed, 8, (some .int), [], 0, 0, 0, none)
theorem cf_X12_feed : CFv mi_X12_feed 5 := ⟨⟨rfl, q_166, wall_i_LeafStripesModel, ⟨by decide, by decide, by decide +kernel⟩, by decide⟩, q_164, q_165⟩
abbrev mi_X12_byteAt : MI := (yX12_byteAt, Cond.code yX12_byteAt cX12_byteAt 2 (some .int), cX12_byteAt, 2, (some .int), [], 0, 0, 0, none)
theorem cf_X12_byteAt : CFv mi_X12_byteAt 1 := ⟨⟨rfl, q_394, wall_i_LeafStripesModel, ⟨by decide, by decide, by decide +kernel⟩, by decide⟩, q_392, q_393⟩
abbrev mi_X12_isLetter : MI := (yX12_isLetter, Cond.code yX12_isLetter cX12_isLetter 1 (some .boolean), cX12_isLetter, 1, (some .boolean), [], 0, 0, 0, none)
theorem cf_X12_isLetter : CFs mi_X12_isLetter 1 := ⟨⟨rfl, q_397, wall_i_LeafStripesModel, ⟨by decide, by decide, by decide +kernel⟩, by decide⟩, q_396⟩
abbrev mi_X12_isDigit : MI := (yX12_isDigit, Cond.code yX12_isDigit cX12_isDigit 1 (some .boolean), cX12_isDigit, 1, (some .boolean), [], 0, 0, 0, none)
theorem cf_X12_isDigit : CFs mi_X12_isDigit 1 := ⟨⟨rfl, q_400, wall_i_LeafStripesModel, ⟨by decide, by decide, by decide +kernel⟩, by decide⟩, q_399⟩
abbrev mi_X12_isMark : MI := (yX12_isMark, Cond.code yX12_isMark cX12_isMark 1 (some .boolean), cX12_isMark, 1, (some .boolean), [], 0, 0, 0, none)
theorem cf_X12_isMark : CFs mi_X12_isMark 1 := ⟨⟨rfl, q_403, wall_i_LeafStripesModel, ⟨by decide, by decide, by decide +kernel⟩, by decide⟩, q_402⟩
abbrev mi_X12_stepOn : MI := (yX12_stepOn, Cond.code yX12_stepOn cX12_stepOn 2 none, cX12_stepOn, 2, none, [], 0, 0, 0, none)
theorem cf_X12_stepOn : CFv mi_X12_stepOn 0 := ⟨⟨rfl, q_381, wall_i_LeafStripesModel, ⟨by decide, by decide, by decide +kernel⟩, by decide⟩, q_379, q_380⟩
abbrev mi_X12_wrong : MI := (yX12_wrong, Cond.code yX12_wrong cX12_wrong 2 none, cX12_wrong, 2, none, [], 0, 0, 0, none)
theorem cf_X12_wrong : CFv mi_X12_wrong 1 := ⟨⟨rfl, q_429, wall_i_LeafStripesModel, ⟨by decide, by decide, by decide +kernel⟩, by decide⟩, q_427, q_428⟩
abbrev mi_X12_is : MI := (yX12_is, Cond.code yX12_is cX12_is 4 (some .boolean), cX12_is, 4, (some .boolean), [], 0, 0, 0, none)
theorem cf_X12_is : CFv mi_X12_is 1 := ⟨⟨rfl, q_423, wall_i_LeafStripesModel, ⟨by decide, by decide, by decide +kernel⟩, by decide⟩, q_421, q_422⟩
abbrev mi_X12_which : MI := (yX12_which, Cond.code yX12_which cX12_which 3 (some .int), cX12_which, 3, (some .int), [], 0, 0, 0, none)
theorem cf_X12_which : CFv mi_X12_which 1 := ⟨⟨rfl, q_419, wall_i_LeafStripesModel, ⟨by decide, by decide, by decide +kernel⟩, by decide⟩, q_417, q_418⟩
abbrev mi_X12_isMarked : MI := (yX12_isMarked, Cond.code yX12_isMarked cX12_isMarked 2 (some .boolean), cX12_isMarked, 2, (some .boolean), [], 0, 0, 0, none)
theorem cf_X12_isMarked : CFv mi_X12_isMarked 1 := ⟨⟨rfl, q_414, wall_i_LeafStripesModel, ⟨by decide, by decide, by decide +kernel⟩, by decide⟩, q_412, q_413⟩
abbrev mi_X12_mark : MI := (yX12_mark, Cond.code yX12_mark cX12_mark 2 none, cX12_mark, 2, none, [], 0, 0, 0, none)
theorem cf_X12_mark : CFv mi_X12_mark 1 := ⟨⟨rfl, q_454, wall_i_LeafStripesModel, ⟨by decide, by decide, by decide +kernel⟩, by decide⟩, q_452, q_453⟩
abbrev mi_X12_readNumber : MI := (yX12_readNumber, Cond.code yX12_readNumber cX12_readNumber 3 (some .int), cX12_readNumber, 3, (some .int), [], 0, 0, 0, none)
theorem cf_X12_readNumber : CFv mi_X12_readNumber 1 := ⟨⟨rfl, q_728, wall_i_LeafStripesModel, ⟨by decide, by decide, by decide +kernel⟩, by decide⟩, q_726, q_727⟩
def f_X11_undo (v0 : Nat) (M : Mem) : Option (Int32 × Mem) :=
  if mK M v0 = 12 then
    if mK M (mR M v0 6) = 8 then
      if (mI M (mR M v0 6) 3) = 0 then
        some ((-1 : Int32), M)
      else
        if mK M (mR M v0 8) = 6 then
          bnd (f_X7_undoLast (mR M v0 6) (mI M (mR M v0 8) 1) M) fun _ M5 =>
          if mK M5 v0 = 12 then
            if mK M5 (mR M5 v0 6) = 8 then
              some (mI M5 (mR M5 v0 6) 3, M5)
            else none
          else none
        else none
    else none
  else none
theorem s_X11_undo (v0 : Nat) (M : Mem) (r : (Int32 × Mem)) (hf : f_X11_undo v0 M = some r) : Sem mi_X11_undo (5) [aR v0] M (oI r.1) r.2 := by
  unfold f_X11_undo at hf
  refine sem_of (by decide) rfl rfl rfl (Nat.le_of_ble_eq_true rfl) (lv := [some (aR v0)]) rfl ?_
  refine g_aload_n (pc' := 1) dX11_undo_0 rfl rfl ?_
  obtain ⟨h1, hf⟩ := chk_s hf
  refine g_getR (pc' := 4) 11 6 rfl rfl (by decide) inX11 (by decide) rfl rfl q_40 dX11_undo_1 rfl h1 ?_
  obtain ⟨h2, hf⟩ := chk_s hf
  refine g_getI (pc' := 7) 7 3 rfl rfl (by decide) inX7 (by decide) rfl rfl q_800 dX11_undo_4 rfl h2 ?_
  refine g_if_ne (pc' := 10) 12 dX11_undo_7 rfl (by decide) (fun c3 => ?_) (fun c3 => ?_)
  · have hf := ite_f c3 hf
    refine g_aload_n (pc' := 13) dX11_undo_12 rfl rfl ?_
    refine g_getR (pc' := 16) 11 6 rfl rfl (by decide) inX11 (by decide) rfl rfl q_40 dX11_undo_13 rfl h1 ?_
    refine g_aload_n (pc' := 17) dX11_undo_16 rfl rfl ?_
    refine g_getR (pc' := 20) 11 8 rfl rfl (by decide) inX11 (by decide) rfl rfl q_45 dX11_undo_17 rfl h1 ?_
    obtain ⟨h4, hf⟩ := chk_s hf
    refine g_getI (pc' := 23) 5 1 rfl rfl (by decide) inX5 (by decide) rfl rfl q_477 dX11_undo_20 rfl h4 ?_
    obtain ⟨_, M5, e6, hf⟩ := bnd_some hf
    refine g_callVv (pc' := 26) (k' := 0) (u' := 0) (fr2 := 4) (As := [aI (mI M (mR M v0 8) 1)]) (b := (mR M v0 6)) (st := []) cf_X7_undoLast q_1444 (by omega) (ci := 7) rfl rfl (by decide) dX11_undo_23 rfl rfl rfl (Nat.le_of_ble_eq_true rfl) (Or.inl rfl) (Nat.le_refl _) (Nat.le_refl _) (Nat.le_refl _) (Nat.le_refl _) h2 (s_X7_undoLast (mR M v0 6) (mI M (mR M v0 8) 1) M _ e6) ?_
    refine g_aload_n (pc' := 27) dX11_undo_26 rfl rfl ?_
    obtain ⟨h7, hf⟩ := chk_s hf
    refine g_getR (pc' := 30) 11 6 rfl rfl (by decide) inX11 (by decide) rfl rfl q_40 dX11_undo_27 rfl h7 ?_
    obtain ⟨h8, hf⟩ := chk_s hf
    refine g_getI (pc' := 33) 7 3 rfl rfl (by decide) inX7 (by decide) rfl rfl q_800 dX11_undo_30 rfl h8 ?_
    cases hf
    exact g_ireturn dX11_undo_33 rfl (Nat.le_of_ble_eq_true rfl) (Nat.le_of_ble_eq_true rfl)
  · have hf := ite_t c3 hf
    refine g_iconst (pc' := 11) (-1 : Int32) dX11_undo_10 rfl (by decide) ?_
    cases hf
    exact g_ireturn dX11_undo_11 rfl (Nat.le_of_ble_eq_true rfl) (Nat.le_of_ble_eq_true rfl)
def f_X11_years_29  (M : Mem) : Option ((Nat ⊕ Int32) × Mem) :=
  some (.inl 2, M)
def f_X11_years_9  (M : Mem) : Option ((Nat ⊕ Int32) × Mem) :=
  some (.inl 1, M)
def f_X11_years (v0 : Nat) (v1 : Int32) (v2 : Int32) (v3 : Int32) (M : Mem) : Option ((Nat ⊕ Int32) × Mem) :=
  if v3 < 0 then
    f_X11_years_9 M
  else
    if v3 ≤ (2 : Int32) then
      if v2 < 0 then
        f_X11_years_29 M
      else
        if v2 ≤ (10 : Int32) then
          if mK M v0 = 12 then
            if mK M (mR M v0 8) = 6 then
              if (mI M (mR M v0 8) 0) = 0 then
                some (.inr (0 : Int32), M)
              else
                bnd (f_X11_isWrong v0 M) fun r9 M8 =>
                if r9 = 0 then
                  if mK M8 v0 = 12 then
                    if mK M8 (mR M8 v0 5) = 11 then
                      bnd (f_X10_run (mR M8 v0 5) (mR M8 v0 8) (mR M8 v0 6) v1 v2 M8) fun _ M13 =>
                      if v3 = 0 then
                        if mK M13 v0 = 12 then
                          if mK M13 (mR M13 v0 5) = 11 then
                            some (.inr (mI M13 (mR M13 v0 5) 0), M13)
                          else none
                        else none
                      else
                        if v3 = (1 : Int32) then
                          if mK M13 v0 = 12 then
                            if mK M13 (mR M13 v0 5) = 11 then
                              some (.inr (mI M13 (mR M13 v0 5) 1), M13)
                            else none
                          else none
                        else
                          if mK M13 v0 = 12 then
                            if mK M13 (mR M13 v0 5) = 11 then
                              bnd (f_X10_entrySum (mR M13 v0 5) M13) fun r20 M19 =>
                              some (.inr r20, M19)
                            else none
                          else none
                    else none
                  else none
                else
                  some (.inr (0 : Int32), M8)
            else none
          else none
        else
          f_X11_years_29 M
    else
      f_X11_years_9 M
theorem s_X11_years_29  (M : Mem) (r : ((Nat ⊕ Int32) × Mem)) (hf : f_X11_years_29  M = some r) : G mi_X11_years 27 (oX oI r.1) r.2 29 [none, none, none, none] [] M 0 0 := by
  unfold f_X11_years_29 at hf
  cases hf
  exact g_throwAW (xi := 15) rfl dX11_years_29 dX11_years_32 dX11_years_33 dX11_years_36 dX11_years_39 rfl rfl (by omega) (Nat.le_of_ble_eq_true rfl) (by show 0 + 1 ≤ 1; omega) (by show 0 + 6 ≤ 6; omega)
theorem s_X11_years_9  (M : Mem) (r : ((Nat ⊕ Int32) × Mem)) (hf : f_X11_years_9  M = some r) : G mi_X11_years 27 (oX oI r.1) r.2 9 [none, none, none, none] [] M 0 0 := by
  unfold f_X11_years_9 at hf
  cases hf
  exact g_throwN (xi := 1) rfl dX11_years_9 dX11_years_12 dX11_years_13 dX11_years_15 dX11_years_18 rfl rfl (by omega) (Nat.le_of_ble_eq_true rfl) (by show 0 + 1 ≤ 1; omega) (by show 0 + 6 ≤ 6; omega)
theorem s_X11_years (v0 : Nat) (v1 : Int32) (v2 : Int32) (v3 : Int32) (M : Mem) (r : ((Nat ⊕ Int32) × Mem)) (hf : f_X11_years v0 v1 v2 v3 M = some r) : Sem mi_X11_years (27) [aR v0, aI v1, aI v2, aI v3] M (oX oI r.1) r.2 := by
  unfold f_X11_years at hf
  refine sem_of (by decide) rfl rfl rfl (Nat.le_of_ble_eq_true rfl) (lv := [some (aR v0), some (aI v1), some (aI v2), some (aI v3)]) rfl ?_
  refine g_iload_n (pc' := 1) dX11_years_0 rfl rfl ?_
  refine g_if_lt (pc' := 4) 9 dX11_years_1 rfl (by decide) (fun c1 => ?_) (fun c1 => ?_)
  · have hf := ite_t c1 hf
    refine g_mask [false, false, false, false] rfl ?_
    exact s_X11_years_9 M _ hf
  · have hf := ite_f c1 hf
    refine g_iload_n (pc' := 5) dX11_years_4 rfl rfl ?_
    refine g_iconst (pc' := 6) (2 : Int32) dX11_years_5 rfl (by decide) ?_
    refine g_icmp_le (pc' := 9) 19 dX11_years_6 rfl (by decide) (fun c2 => ?_) (fun c2 => ?_)
    · have hf := ite_t c2 hf
      refine g_iload_n (pc' := 20) dX11_years_19 rfl rfl ?_
      refine g_if_lt (pc' := 23) 29 dX11_years_20 rfl (by decide) (fun c3 => ?_) (fun c3 => ?_)
      · have hf := ite_t c3 hf
        refine g_mask [false, false, false, false] rfl ?_
        exact s_X11_years_29 M _ hf
      · have hf := ite_f c3 hf
        refine g_iload_n (pc' := 24) dX11_years_23 rfl rfl ?_
        refine g_bipush (pc' := 26) (10 : Int32) dX11_years_24 rfl (by decide) ?_
        refine g_icmp_le (pc' := 29) 40 dX11_years_26 rfl (by decide) (fun c4 => ?_) (fun c4 => ?_)
        · have hf := ite_t c4 hf
          refine g_aload_n (pc' := 41) dX11_years_40 rfl rfl ?_
          obtain ⟨h5, hf⟩ := chk_s hf
          refine g_getR (pc' := 44) 11 8 rfl rfl (by decide) inX11 (by decide) rfl rfl q_45 dX11_years_41 rfl h5 ?_
          obtain ⟨h6, hf⟩ := chk_s hf
          refine g_getI (pc' := 47) 5 0 rfl rfl (by decide) inX5 (by decide) rfl rfl q_474 dX11_years_44 rfl h6 ?_
          refine g_if_eq (pc' := 50) 57 dX11_years_47 rfl (by decide) (fun c7 => ?_) (fun c7 => ?_)
          · have hf := ite_t c7 hf
            refine g_iconst (pc' := 58) (0 : Int32) dX11_years_57 rfl (by decide) ?_
            cases hf
            exact g_ireturn dX11_years_58 rfl (Nat.le_of_ble_eq_true rfl) (Nat.le_of_ble_eq_true rfl)
          · have hf := ite_f c7 hf
            refine g_aload_n (pc' := 51) dX11_years_50 rfl rfl ?_
            obtain ⟨r9, M8, e9, hf⟩ := bnd_some hf
            refine g_callVi (pc' := 54) (k' := 0) (u' := 0) (fr2 := 6) (As := []) (b := v0) (st := []) cf_X11_isWrong q_478 (by omega) (ci := 11) rfl rfl (by decide) dX11_years_51 rfl rfl rfl (Nat.le_of_ble_eq_true rfl) (Or.inl rfl) (by show 0 + 0 ≤ 0; omega) (by show 0 + 0 ≤ 0; omega) (by show 0 ≤ 1; omega) (by show 0 ≤ 6; omega) h5 (s_X11_isWrong v0 M _ e9) ?_
            refine g_if_eq (pc' := 57) 59 dX11_years_54 rfl (by decide) (fun c10 => ?_) (fun c10 => ?_)
            · have hf := ite_t c10 hf
              refine g_aload_n (pc' := 60) dX11_years_59 rfl rfl ?_
              obtain ⟨h11, hf⟩ := chk_s hf
              refine g_getR (pc' := 63) 11 5 rfl rfl (by decide) inX11 (by decide) rfl rfl q_36 dX11_years_60 rfl h11 ?_
              refine g_aload_n (pc' := 64) dX11_years_63 rfl rfl ?_
              refine g_getR (pc' := 67) 11 8 rfl rfl (by decide) inX11 (by decide) rfl rfl q_45 dX11_years_64 rfl h11 ?_
              refine g_aload_n (pc' := 68) dX11_years_67 rfl rfl ?_
              refine g_getR (pc' := 71) 11 6 rfl rfl (by decide) inX11 (by decide) rfl rfl q_40 dX11_years_68 rfl h11 ?_
              refine g_iload_n (pc' := 72) dX11_years_71 rfl rfl ?_
              refine g_iload_n (pc' := 73) dX11_years_72 rfl rfl ?_
              obtain ⟨h12, hf⟩ := chk_s hf
              obtain ⟨_, M13, e14, hf⟩ := bnd_some hf
              refine g_callVv (pc' := 76) (k' := 0) (u' := 0) (fr2 := 26) (As := [aR (mR M8 v0 8), aR (mR M8 v0 6), aI v1, aI v2]) (b := (mR M8 v0 5)) (st := []) cf_X10_run q_1479 (by omega) (ci := 10) rfl rfl (by decide) dX11_years_73 rfl rfl rfl (Nat.le_of_ble_eq_true rfl) (Or.inl rfl) (by show 0 + 0 ≤ 0; omega) (by show 0 + 0 ≤ 0; omega) (by show 0 ≤ 1; omega) (by show 0 ≤ 6; omega) h12 (s_X10_run (mR M8 v0 5) (mR M8 v0 8) (mR M8 v0 6) v1 v2 M8 _ e14) ?_
              refine g_iload_n (pc' := 77) dX11_years_76 rfl rfl ?_
              refine g_if_ne (pc' := 80) 88 dX11_years_77 rfl (by decide) (fun c15 => ?_) (fun c15 => ?_)
              · have hf := ite_f c15 hf
                refine g_iload_n (pc' := 89) dX11_years_88 rfl rfl ?_
                refine g_iconst (pc' := 90) (1 : Int32) dX11_years_89 rfl (by decide) ?_
                refine g_icmp_ne (pc' := 93) 103 dX11_years_90 rfl (by decide) (fun c16 => ?_) (fun c16 => ?_)
                · have hf := ite_f c16 hf
                  refine g_aload_n (pc' := 104) dX11_years_103 rfl rfl ?_
                  obtain ⟨h17, hf⟩ := chk_s hf
                  refine g_getR (pc' := 107) 11 5 rfl rfl (by decide) inX11 (by decide) rfl rfl q_36 dX11_years_104 rfl h17 ?_
                  obtain ⟨h18, hf⟩ := chk_s hf
                  obtain ⟨r20, M19, e20, hf⟩ := bnd_some hf
                  refine g_callVi (pc' := 110) (k' := 0) (u' := 0) (fr2 := 1) (As := []) (b := (mR M13 v0 5)) (st := []) cf_X10_entrySum q_1527 (by omega) (ci := 10) rfl rfl (by decide) dX11_years_107 rfl rfl rfl (Nat.le_of_ble_eq_true rfl) (Or.inl rfl) (by show 0 + 0 ≤ 0; omega) (by show 0 + 0 ≤ 0; omega) (by show 0 ≤ 1; omega) (by show 0 ≤ 6; omega) h18 (s_X10_entrySum (mR M13 v0 5) M13 _ e20) ?_
                  cases hf
                  exact g_ireturn dX11_years_110 rfl (Nat.le_of_ble_eq_true rfl) (Nat.le_of_ble_eq_true rfl)
                · have hf := ite_t c16 hf
                  refine g_aload_n (pc' := 94) dX11_years_93 rfl rfl ?_
                  obtain ⟨h21, hf⟩ := chk_s hf
                  refine g_getR (pc' := 97) 11 5 rfl rfl (by decide) inX11 (by decide) rfl rfl q_36 dX11_years_94 rfl h21 ?_
                  obtain ⟨h22, hf⟩ := chk_s hf
                  refine g_getI (pc' := 100) 10 1 rfl rfl (by decide) inX10 (by decide) rfl rfl q_1478 dX11_years_97 rfl h22 ?_
                  refine g_goto (pc' := 110) dX11_years_100 (by decide) ?_
                  cases hf
                  exact g_ireturn dX11_years_110 rfl (Nat.le_of_ble_eq_true rfl) (Nat.le_of_ble_eq_true rfl)
              · have hf := ite_t c15 hf
                refine g_aload_n (pc' := 81) dX11_years_80 rfl rfl ?_
                obtain ⟨h23, hf⟩ := chk_s hf
                refine g_getR (pc' := 84) 11 5 rfl rfl (by decide) inX11 (by decide) rfl rfl q_36 dX11_years_81 rfl h23 ?_
                obtain ⟨h24, hf⟩ := chk_s hf
                refine g_getI (pc' := 87) 10 0 rfl rfl (by decide) inX10 (by decide) rfl rfl q_1477 dX11_years_84 rfl h24 ?_
                cases hf
                exact g_ireturn dX11_years_87 rfl (Nat.le_of_ble_eq_true rfl) (Nat.le_of_ble_eq_true rfl)
            · have hf := ite_f c10 hf
              refine g_iconst (pc' := 58) (0 : Int32) dX11_years_57 rfl (by decide) ?_
              cases hf
              exact g_ireturn dX11_years_58 rfl (Nat.le_of_ble_eq_true rfl) (Nat.le_of_ble_eq_true rfl)
        · have hf := ite_f c4 hf
          refine g_mask [false, false, false, false] rfl ?_
          exact s_X11_years_29 M _ hf
    · have hf := ite_f c2 hf
      refine g_mask [false, false, false, false] rfl ?_
      exact s_X11_years_9 M _ hf
def f_X11_image (v0 : Nat) (M : Mem) : Option (Unit × Mem) :=
  if mK M v0 = 12 then
    if mK M (mR M v0 7) = 8 then
      bnd (f_X7_copyFrom (mR M v0 7) (mR M v0 6) M) fun _ M3 =>
      if mK M3 v0 = 12 then
        ap (sI M3 v0 13 (1 : Int32)) fun M6 =>
        some ((), M6)
      else none
    else none
  else none
theorem s_X11_image (v0 : Nat) (M : Mem) (r : (Unit × Mem)) (hf : f_X11_image v0 M = some r) : Sem mi_X11_image (3) [aR v0] M (oU r.1) r.2 := by
  unfold f_X11_image at hf
  refine sem_of (by decide) rfl rfl rfl (Nat.le_of_ble_eq_true rfl) (lv := [some (aR v0)]) rfl ?_
  refine g_aload_n (pc' := 1) dX11_image_0 rfl rfl ?_
  obtain ⟨h1, hf⟩ := chk_s hf
  refine g_getR (pc' := 4) 11 7 rfl rfl (by decide) inX11 (by decide) rfl rfl q_41 dX11_image_1 rfl h1 ?_
  refine g_aload_n (pc' := 5) dX11_image_4 rfl rfl ?_
  refine g_getR (pc' := 8) 11 6 rfl rfl (by decide) inX11 (by decide) rfl rfl q_40 dX11_image_5 rfl h1 ?_
  obtain ⟨h2, hf⟩ := chk_s hf
  obtain ⟨_, M3, e4, hf⟩ := bnd_some hf
  refine g_callVv (pc' := 11) (k' := 0) (u' := 0) (fr2 := 2) (As := [aR (mR M v0 6)]) (b := (mR M v0 7)) (st := []) cf_X7_copyFrom q_1559 (by omega) (ci := 7) rfl rfl (by decide) dX11_image_8 rfl rfl rfl (Nat.le_of_ble_eq_true rfl) (Or.inl rfl) (Nat.le_refl _) (Nat.le_refl _) (Nat.le_refl _) (Nat.le_refl _) h2 (s_X7_copyFrom (mR M v0 7) (mR M v0 6) M _ e4) ?_
  refine g_aload_n (pc' := 12) dX11_image_11 rfl rfl ?_
  refine g_iconst (pc' := 13) (1 : Int32) dX11_image_12 rfl (by decide) ?_
  obtain ⟨h5, hf⟩ := chk_s hf
  refine g_putZ (pc' := 16) 11 13 rfl rfl (by decide) inX11 tyX11_ok nmX11 (by decide) rfl rfl rfl rfl (Or.inr rfl) q_53 dX11_image_13 rfl h5 (gM fun M6 hM6 => ?_)
  have hf := ap_eq hf hM6
  cases hf
  exact g_return dX11_image_16 rfl (Nat.le_of_ble_eq_true rfl) (Nat.le_of_ble_eq_true rfl)
def f_X11_restore (v0 : Nat) (M : Mem) : Option (Int32 × Mem) :=
  if mK M v0 = 12 then
    if (mI M v0 13) = 0 then
      some ((0 : Int32), M)
    else
      if mK M (mR M v0 6) = 8 then
        bnd (f_X7_copyFrom (mR M v0 6) (mR M v0 7) M) fun _ M4 =>
        some ((1 : Int32), M4)
      else none
  else none
theorem s_X11_restore (v0 : Nat) (M : Mem) (r : (Int32 × Mem)) (hf : f_X11_restore v0 M = some r) : Sem mi_X11_restore (3) [aR v0] M (oI r.1) r.2 := by
  unfold f_X11_restore at hf
  refine sem_of (by decide) rfl rfl rfl (Nat.le_of_ble_eq_true rfl) (lv := [some (aR v0)]) rfl ?_
  refine g_aload_n (pc' := 1) dX11_restore_0 rfl rfl ?_
  obtain ⟨h1, hf⟩ := chk_s hf
  refine g_getI (pc' := 4) 11 13 rfl rfl (by decide) inX11 (by decide) rfl rfl q_53 dX11_restore_1 rfl h1 ?_
  refine g_if_ne (pc' := 7) 9 dX11_restore_4 rfl (by decide) (fun c2 => ?_) (fun c2 => ?_)
  · have hf := ite_f c2 hf
    refine g_aload_n (pc' := 10) dX11_restore_9 rfl rfl ?_
    refine g_getR (pc' := 13) 11 6 rfl rfl (by decide) inX11 (by decide) rfl rfl q_40 dX11_restore_10 rfl h1 ?_
    refine g_aload_n (pc' := 14) dX11_restore_13 rfl rfl ?_
    refine g_getR (pc' := 17) 11 7 rfl rfl (by decide) inX11 (by decide) rfl rfl q_41 dX11_restore_14 rfl h1 ?_
    obtain ⟨h3, hf⟩ := chk_s hf
    obtain ⟨_, M4, e5, hf⟩ := bnd_some hf
    refine g_callVv (pc' := 20) (k' := 0) (u' := 0) (fr2 := 2) (As := [aR (mR M v0 7)]) (b := (mR M v0 6)) (st := []) cf_X7_copyFrom q_1559 (by omega) (ci := 7) rfl rfl (by decide) dX11_restore_17 rfl rfl rfl (Nat.le_of_ble_eq_true rfl) (Or.inl rfl) (Nat.le_refl _) (Nat.le_refl _) (Nat.le_refl _) (Nat.le_refl _) h3 (s_X7_copyFrom (mR M v0 6) (mR M v0 7) M _ e5) ?_
    refine g_iconst (pc' := 21) (1 : Int32) dX11_restore_20 rfl (by decide) ?_
    cases hf
    exact g_zreturn dX11_restore_21 rfl (Or.inr rfl) (Nat.le_of_ble_eq_true rfl) (Nat.le_of_ble_eq_true rfl)
  · have hf := ite_t c2 hf
    refine g_iconst (pc' := 8) (0 : Int32) dX11_restore_7 rfl (by decide) ?_
    cases hf
    exact g_zreturn dX11_restore_8 rfl (Or.inl rfl) (Nat.le_of_ble_eq_true rfl) (Nat.le_of_ble_eq_true rfl)
set_option maxRecDepth 100000 in
set_option maxHeartbeats 4000000 in
def f_X12_init (v0 : Nat) (M : Mem) : Option (Unit × Mem) :=
  if ¬ v0 = 0 then
    if mn M + 1 < 900000 then
      if okrB M [v0, v0] = true then
        ap (mNew M 26 (3 : Int32).toNatClampNeg) fun M2 =>
        if mK M2 (mn M + 1) = 26 then
          if inB (0 : Int32) (mN M2 (mn M + 1)) = true then
            ap (sR M2 (mn M + 1) (0 : Int32).toNatClampNeg 1000010) fun M5 =>
            if mK M5 (mn M + 1) = 26 then
              if inB (1 : Int32) (mN M5 (mn M + 1)) = true then
                ap (sR M5 (mn M + 1) (1 : Int32).toNatClampNeg 1000011) fun M8 =>
                if mK M8 (mn M + 1) = 26 then
                  if inB (2 : Int32) (mN M8 (mn M + 1)) = true then
                    ap (sR M8 (mn M + 1) (2 : Int32).toNatClampNeg 1000012) fun M11 =>
                    if mK M11 v0 = 13 then
                      if okrB M11 [(mn M + 1)] = true then
                        ap (sR M11 v0 0 (mn M + 1)) fun M13 =>
                        if mn M13 + 1 < 900000 then
                          if okrB M13 [v0, v0] = true then
                            ap (mNew M13 26 (7 : Int32).toNatClampNeg) fun M16 =>
                            if mK M16 (mn M13 + 1) = 26 then
                              if inB (0 : Int32) (mN M16 (mn M13 + 1)) = true then
                                ap (sR M16 (mn M13 + 1) (0 : Int32).toNatClampNeg 1000013) fun M19 =>
                                if mK M19 (mn M13 + 1) = 26 then
                                  if inB (1 : Int32) (mN M19 (mn M13 + 1)) = true then
                                    ap (sR M19 (mn M13 + 1) (1 : Int32).toNatClampNeg 1000014) fun M22 =>
                                    if mK M22 (mn M13 + 1) = 26 then
                                      if inB (2 : Int32) (mN M22 (mn M13 + 1)) = true then
                                        ap (sR M22 (mn M13 + 1) (2 : Int32).toNatClampNeg 1000015) fun M25 =>
                                        if mK M25 (mn M13 + 1) = 26 then
                                          if inB (3 : Int32) (mN M25 (mn M13 + 1)) = true then
                                            ap (sR M25 (mn M13 + 1) (3 : Int32).toNatClampNeg 1000016) fun M28 =>
                                            if mK M28 (mn M13 + 1) = 26 then
                                              if inB (4 : Int32) (mN M28 (mn M13 + 1)) = true then
                                                ap (sR M28 (mn M13 + 1) (4 : Int32).toNatClampNeg 1000017) fun M31 =>
                                                if mK M31 (mn M13 + 1) = 26 then
                                                  if inB (5 : Int32) (mN M31 (mn M13 + 1)) = true then
                                                    ap (sR M31 (mn M13 + 1) (5 : Int32).toNatClampNeg 1000018) fun M34 =>
                                                    if mK M34 (mn M13 + 1) = 26 then
                                                      if inB (6 : Int32) (mN M34 (mn M13 + 1)) = true then
                                                        ap (sR M34 (mn M13 + 1) (6 : Int32).toNatClampNeg 1000019) fun M37 =>
                                                        if mK M37 v0 = 13 then
                                                          if okrB M37 [(mn M13 + 1)] = true then
                                                            ap (sR M37 v0 1 (mn M13 + 1)) fun M39 =>
                                                            if mn M39 + 1 < 900000 then
                                                              if okrB M39 [v0, v0] = true then
                                                                ap (mNew M39 21 (700 : Int32).toNatClampNeg) fun M42 =>
                                                                if mK M42 v0 = 13 then
                                                                  if okrB M42 [(mn M39 + 1)] = true then
                                                                    ap (sR M42 v0 3 (mn M39 + 1)) fun M44 =>
                                                                    if mn M44 + 1 < 900000 then
                                                                      if okrB M44 [v0, v0] = true then
                                                                        ap (mNew M44 21 (2 : Int32).toNatClampNeg) fun M47 =>
                                                                        if mK M47 v0 = 13 then
                                                                          if okrB M47 [(mn M44 + 1)] = true then
                                                                            ap (sR M47 v0 4 (mn M44 + 1)) fun M49 =>
                                                                            if mK M49 v0 = 13 then
                                                                              ap (sI M49 v0 14 (-1 : Int32)) fun M52 =>
                                                                              if mn M52 + 1 < 900000 then
                                                                                if okrB M52 [v0, v0] = true then
                                                                                  ap (mNew M52 21 (48 : Int32).toNatClampNeg) fun M54 =>
                                                                                  if mK M54 v0 = 13 then
                                                                                    if okrB M54 [(mn M52 + 1)] = true then
                                                                                      ap (sR M54 v0 15 (mn M52 + 1)) fun M56 =>
                                                                                      if mn M56 + 1 < 900000 then
                                                                                        if okrB M56 [v0, v0] = true then
                                                                                          ap (mNew M56 21 (48 : Int32).toNatClampNeg) fun M59 =>
                                                                                          if mK M59 v0 = 13 then
                                                                                            if okrB M59 [(mn M56 + 1)] = true then
                                                                                              ap (sR M59 v0 16 (mn M56 + 1)) fun M61 =>
                                                                                              if mn M61 + 1 < 900000 then
                                                                                                if okrB M61 [v0, v0] = true then
                                                                                                  ap (mNew M61 21 (48 : Int32).toNatClampNeg) fun M64 =>
                                                                                                  if mK M64 v0 = 13 then
                                                                                                    if okrB M64 [(mn M61 + 1)] = true then
                                                                                                      ap (sR M64 v0 17 (mn M61 + 1)) fun M66 =>
                                                                                                      if mn M66 + 1 < 900000 then
                                                                                                        if okrB M66 [v0, v0] = true then
                                                                                                          ap (mNew M66 21 (48 : Int32).toNatClampNeg) fun M69 =>
                                                                                                          if mK M69 v0 = 13 then
                                                                                                            if okrB M69 [(mn M66 + 1)] = true then
                                                                                                              ap (sR M69 v0 18 (mn M66 + 1)) fun M71 =>
                                                                                                              if mn M71 + 1 < 900000 then
                                                                                                                if okrB M71 [v0, v0] = true then
                                                                                                                  ap (mNew M71 21 (48 : Int32).toNatClampNeg) fun M74 =>
                                                                                                                  if mK M74 v0 = 13 then
                                                                                                                    if okrB M74 [(mn M71 + 1)] = true then
                                                                                                                      ap (sR M74 v0 19 (mn M71 + 1)) fun M76 =>
                                                                                                                      if mn M76 + 1 < 900000 then
                                                                                                                        if okrB M76 [v0, v0] = true then
                                                                                                                          ap (mNew M76 21 (48 : Int32).toNatClampNeg) fun M79 =>
                                                                                                                          if mK M79 v0 = 13 then
                                                                                                                            if okrB M79 [(mn M76 + 1)] = true then
                                                                                                                              ap (sR M79 v0 20 (mn M76 + 1)) fun M81 =>
                                                                                                                              if mn M81 + 1 < 900000 then
                                                                                                                                if okrB M81 [v0, v0] = true then
                                                                                                                                  ap (mNew M81 21 (48 : Int32).toNatClampNeg) fun M84 =>
                                                                                                                                  if mK M84 v0 = 13 then
                                                                                                                                    if okrB M84 [(mn M81 + 1)] = true then
                                                                                                                                      ap (sR M84 v0 21 (mn M81 + 1)) fun M86 =>
                                                                                                                                      if mn M86 + 1 < 900000 then
                                                                                                                                        if okrB M86 [v0, v0] = true then
                                                                                                                                          ap (mNew M86 21 (192 : Int32).toNatClampNeg) fun M89 =>
                                                                                                                                          if mK M89 v0 = 13 then
                                                                                                                                            if okrB M89 [(mn M86 + 1)] = true then
                                                                                                                                              ap (sR M89 v0 22 (mn M86 + 1)) fun M91 =>
                                                                                                                                              if mn M91 + 1 < 900000 then
                                                                                                                                                if okrB M91 [v0, v0] = true then
                                                                                                                                                  ap (mNew M91 21 (3 : Int32).toNatClampNeg) fun M94 =>
                                                                                                                                                  if mK M94 v0 = 13 then
                                                                                                                                                    if okrB M94 [(mn M91 + 1)] = true then
                                                                                                                                                      ap (sR M94 v0 23 (mn M91 + 1)) fun M96 =>
                                                                                                                                                      if mn M96 + 1 < 900000 then
                                                                                                                                                        if okrB M96 [v0, v0] = true then
                                                                                                                                                          ap (mNew M96 21 (3 : Int32).toNatClampNeg) fun M99 =>
                                                                                                                                                          if mK M99 v0 = 13 then
                                                                                                                                                            if okrB M99 [(mn M96 + 1)] = true then
                                                                                                                                                              ap (sR M99 v0 24 (mn M96 + 1)) fun M101 =>
                                                                                                                                                              if mn M101 + 1 < 900000 then
                                                                                                                                                                if okrB M101 [v0, v0] = true then
                                                                                                                                                                  ap (mNew M101 21 (8 : Int32).toNatClampNeg) fun M104 =>
                                                                                                                                                                  if mK M104 v0 = 13 then
                                                                                                                                                                    if okrB M104 [(mn M101 + 1)] = true then
                                                                                                                                                                      ap (sR M104 v0 25 (mn M101 + 1)) fun M106 =>
                                                                                                                                                                      if mn M106 + 1 < 900000 then
                                                                                                                                                                        if okrB M106 [v0, v0] = true then
                                                                                                                                                                          ap (mNew M106 21 (960 : Int32).toNatClampNeg) fun M109 =>
                                                                                                                                                                          if mK M109 v0 = 13 then
                                                                                                                                                                            if okrB M109 [(mn M106 + 1)] = true then
                                                                                                                                                                              ap (sR M109 v0 27 (mn M106 + 1)) fun M111 =>
                                                                                                                                                                              if mn M111 + 1 < 900000 then
                                                                                                                                                                                if okrB M111 [v0, v0] = true then
                                                                                                                                                                                  ap (mNew M111 21 (8 : Int32).toNatClampNeg) fun M114 =>
                                                                                                                                                                                  if mK M114 v0 = 13 then
                                                                                                                                                                                    if okrB M114 [(mn M111 + 1)] = true then
                                                                                                                                                                                      ap (sR M114 v0 28 (mn M111 + 1)) fun M116 =>
                                                                                                                                                                                      if mn M116 + 1 < 900000 then
                                                                                                                                                                                        if okrB M116 [v0, v0] = true then
                                                                                                                                                                                          ap (mNew M116 21 (38760 : Int32).toNatClampNeg) fun M119 =>
                                                                                                                                                                                          if mK M119 v0 = 13 then
                                                                                                                                                                                            if okrB M119 [(mn M116 + 1)] = true then
                                                                                                                                                                                              ap (sR M119 v0 29 (mn M116 + 1)) fun M121 =>
                                                                                                                                                                                              if mn M121 + 1 < 900000 then
                                                                                                                                                                                                if okrB M121 [v0, v0] = true then
                                                                                                                                                                                                  ap (mNew M121 21 (969 : Int32).toNatClampNeg) fun M124 =>
                                                                                                                                                                                                  if mK M124 v0 = 13 then
                                                                                                                                                                                                    if okrB M124 [(mn M121 + 1)] = true then
                                                                                                                                                                                                      ap (sR M124 v0 32 (mn M121 + 1)) fun M126 =>
                                                                                                                                                                                                      if mn M126 + 1 < 900000 then
                                                                                                                                                                                                        if okrB M126 [v0, v0] = true then
                                                                                                                                                                                                          ap (mNew M126 21 (969 : Int32).toNatClampNeg) fun M129 =>
                                                                                                                                                                                                          if mK M129 v0 = 13 then
                                                                                                                                                                                                            if okrB M129 [(mn M126 + 1)] = true then
                                                                                                                                                                                                              ap (sR M129 v0 33 (mn M126 + 1)) fun M131 =>
                                                                                                                                                                                                              if mn M131 + 1 < 900000 then
                                                                                                                                                                                                                if okrB M131 [v0, v0] = true then
                                                                                                                                                                                                                  ap (mNew M131 21 (8 : Int32).toNatClampNeg) fun M134 =>
                                                                                                                                                                                                                  if mK M134 v0 = 13 then
                                                                                                                                                                                                                    if okrB M134 [(mn M131 + 1)] = true then
                                                                                                                                                                                                                      ap (sR M134 v0 38 (mn M131 + 1)) fun M136 =>
                                                                                                                                                                                                                      if mn M136 + 1 < 900000 then
                                                                                                                                                                                                                        if okrB M136 [v0, v0] = true then
                                                                                                                                                                                                                          ap (mNew M136 21 (48 : Int32).toNatClampNeg) fun M139 =>
                                                                                                                                                                                                                          if mK M139 v0 = 13 then
                                                                                                                                                                                                                            if okrB M139 [(mn M136 + 1)] = true then
                                                                                                                                                                                                                              ap (sR M139 v0 39 (mn M136 + 1)) fun M141 =>
                                                                                                                                                                                                                              if mn M141 + 1 < 900000 then
                                                                                                                                                                                                                                if okrB M141 [v0, v0] = true then
                                                                                                                                                                                                                                  ap (mNew M141 21 (48 : Int32).toNatClampNeg) fun M144 =>
                                                                                                                                                                                                                                  if mK M144 v0 = 13 then
                                                                                                                                                                                                                                    if okrB M144 [(mn M141 + 1)] = true then
                                                                                                                                                                                                                                      ap (sR M144 v0 40 (mn M141 + 1)) fun M146 =>
                                                                                                                                                                                                                                      if mn M146 + 1 < 900000 then
                                                                                                                                                                                                                                        if okrB M146 [v0, v0] = true then
                                                                                                                                                                                                                                          ap (mNew M146 21 (16 : Int32).toNatClampNeg) fun M149 =>
                                                                                                                                                                                                                                          if mK M149 v0 = 13 then
                                                                                                                                                                                                                                            if okrB M149 [(mn M146 + 1)] = true then
                                                                                                                                                                                                                                              ap (sR M149 v0 44 (mn M146 + 1)) fun M151 =>
                                                                                                                                                                                                                                              if mn M151 + 1 < 900000 then
                                                                                                                                                                                                                                                if okrB M151 [v0, v0] = true then
                                                                                                                                                                                                                                                  ap (mNew M151 21 (16 : Int32).toNatClampNeg) fun M154 =>
                                                                                                                                                                                                                                                  if mK M154 v0 = 13 then
                                                                                                                                                                                                                                                    if okrB M154 [(mn M151 + 1)] = true then
                                                                                                                                                                                                                                                      ap (sR M154 v0 45 (mn M151 + 1)) fun M156 =>
                                                                                                                                                                                                                                                      if mn M156 + 1 < 900000 then
                                                                                                                                                                                                                                                        if okrB M156 [v0, v0] = true then
                                                                                                                                                                                                                                                          ap (mNew M156 21 (8 : Int32).toNatClampNeg) fun M159 =>
                                                                                                                                                                                                                                                          if mK M159 v0 = 13 then
                                                                                                                                                                                                                                                            if okrB M159 [(mn M156 + 1)] = true then
                                                                                                                                                                                                                                                              ap (sR M159 v0 46 (mn M156 + 1)) fun M161 =>
                                                                                                                                                                                                                                                              if mn M161 + 1 < 900000 then
                                                                                                                                                                                                                                                                if okrB M161 [v0, v0] = true then
                                                                                                                                                                                                                                                                  ap (mNew M161 21 (969 : Int32).toNatClampNeg) fun M164 =>
                                                                                                                                                                                                                                                                  if mK M164 v0 = 13 then
                                                                                                                                                                                                                                                                    if okrB M164 [(mn M161 + 1)] = true then
                                                                                                                                                                                                                                                                      ap (sR M164 v0 52 (mn M161 + 1)) fun M166 =>
                                                                                                                                                                                                                                                                      if mn M166 + 1 < 900000 then
                                                                                                                                                                                                                                                                        if okrB M166 [v0, v0] = true then
                                                                                                                                                                                                                                                                          ap (mNew M166 21 (38760 : Int32).toNatClampNeg) fun M169 =>
                                                                                                                                                                                                                                                                          if mK M169 v0 = 13 then
                                                                                                                                                                                                                                                                            if okrB M169 [(mn M166 + 1)] = true then
                                                                                                                                                                                                                                                                              ap (sR M169 v0 53 (mn M166 + 1)) fun M171 =>
                                                                                                                                                                                                                                                                              if mn M171 + 1 < 900000 then
                                                                                                                                                                                                                                                                                if okrB M171 [v0, v0] = true then
                                                                                                                                                                                                                                                                                  ap (mNew M171 21 (2 : Int32).toNatClampNeg) fun M174 =>
                                                                                                                                                                                                                                                                                  if mK M174 v0 = 13 then
                                                                                                                                                                                                                                                                                    if okrB M174 [(mn M171 + 1)] = true then
                                                                                                                                                                                                                                                                                      ap (sR M174 v0 54 (mn M171 + 1)) fun M176 =>
                                                                                                                                                                                                                                                                                      some ((), M176)
                                                                                                                                                                                                                                                                                    else none
                                                                                                                                                                                                                                                                                  else none
                                                                                                                                                                                                                                                                                else none
                                                                                                                                                                                                                                                                              else none
                                                                                                                                                                                                                                                                            else none
                                                                                                                                                                                                                                                                          else none
                                                                                                                                                                                                                                                                        else none
                                                                                                                                                                                                                                                                      else none
                                                                                                                                                                                                                                                                    else none
                                                                                                                                                                                                                                                                  else none
                                                                                                                                                                                                                                                                else none
                                                                                                                                                                                                                                                              else none
                                                                                                                                                                                                                                                            else none
                                                                                                                                                                                                                                                          else none
                                                                                                                                                                                                                                                        else none
                                                                                                                                                                                                                                                      else none
                                                                                                                                                                                                                                                    else none
                                                                                                                                                                                                                                                  else none
                                                                                                                                                                                                                                                else none
                                                                                                                                                                                                                                              else none
                                                                                                                                                                                                                                            else none
                                                                                                                                                                                                                                          else none
                                                                                                                                                                                                                                        else none
                                                                                                                                                                                                                                      else none
                                                                                                                                                                                                                                    else none
                                                                                                                                                                                                                                  else none
                                                                                                                                                                                                                                else none
                                                                                                                                                                                                                              else none
                                                                                                                                                                                                                            else none
                                                                                                                                                                                                                          else none
                                                                                                                                                                                                                        else none
                                                                                                                                                                                                                      else none
                                                                                                                                                                                                                    else none
                                                                                                                                                                                                                  else none
                                                                                                                                                                                                                else none
                                                                                                                                                                                                              else none
                                                                                                                                                                                                            else none
                                                                                                                                                                                                          else none
                                                                                                                                                                                                        else none
                                                                                                                                                                                                      else none
                                                                                                                                                                                                    else none
                                                                                                                                                                                                  else none
                                                                                                                                                                                                else none
                                                                                                                                                                                              else none
                                                                                                                                                                                            else none
                                                                                                                                                                                          else none
                                                                                                                                                                                        else none
                                                                                                                                                                                      else none
                                                                                                                                                                                    else none
                                                                                                                                                                                  else none
                                                                                                                                                                                else none
                                                                                                                                                                              else none
                                                                                                                                                                            else none
                                                                                                                                                                          else none
                                                                                                                                                                        else none
                                                                                                                                                                      else none
                                                                                                                                                                    else none
                                                                                                                                                                  else none
                                                                                                                                                                else none
                                                                                                                                                              else none
                                                                                                                                                            else none
                                                                                                                                                          else none
                                                                                                                                                        else none
                                                                                                                                                      else none
                                                                                                                                                    else none
                                                                                                                                                  else none
                                                                                                                                                else none
                                                                                                                                              else none
                                                                                                                                            else none
                                                                                                                                          else none
                                                                                                                                        else none
                                                                                                                                      else none
                                                                                                                                    else none
                                                                                                                                  else none
                                                                                                                                else none
                                                                                                                              else none
                                                                                                                            else none
                                                                                                                          else none
                                                                                                                        else none
                                                                                                                      else none
                                                                                                                    else none
                                                                                                                  else none
                                                                                                                else none
                                                                                                              else none
                                                                                                            else none
                                                                                                          else none
                                                                                                        else none
                                                                                                      else none
                                                                                                    else none
                                                                                                  else none
                                                                                                else none
                                                                                              else none
                                                                                            else none
                                                                                          else none
                                                                                        else none
                                                                                      else none
                                                                                    else none
                                                                                  else none
                                                                                else none
                                                                              else none
                                                                            else none
                                                                          else none
                                                                        else none
                                                                      else none
                                                                    else none
                                                                  else none
                                                                else none
                                                              else none
                                                            else none
                                                          else none
                                                        else none
                                                      else none
                                                    else none
                                                  else none
                                                else none
                                              else none
                                            else none
                                          else none
                                        else none
                                      else none
                                    else none
                                  else none
                                else none
                              else none
                            else none
                          else none
                        else none
                      else none
                    else none
                  else none
                else none
              else none
            else none
          else none
        else none
      else none
    else none
  else none
set_option maxRecDepth 100000 in
set_option maxHeartbeats 4000000 in
theorem s_X12_init (v0 : Nat) (M : Mem) (r : (Unit × Mem)) (hf : f_X12_init v0 M = some r) : Sem mi_X12_init (1) [aR v0] M (oU r.1) r.2 := by
  unfold f_X12_init at hf
  refine sem_of (by decide) rfl rfl rfl (Nat.le_of_ble_eq_true rfl) (lv := [some (aR v0)]) rfl ?_
  refine g_aload_n (pc' := 1) dX12_init_0 rfl rfl ?_
  obtain ⟨ho178, hf⟩ := chk_s hf
  refine g_obj (pc' := 4) q_120 q_11 q_12 (by omega) ho178 (Nat.le_of_ble_eq_true rfl) dX12_init_1 rfl ?_
  refine g_aload_n (pc' := 5) dX12_init_4 rfl rfl ?_
  refine g_iconst (pc' := 6) (3 : Int32) dX12_init_5 rfl (by decide) ?_
  obtain ⟨hm1, hf⟩ := chk_s hf
  obtain ⟨ha1, hf⟩ := chk_s hf
  refine g_newQ (pc' := 9) (k' := 1) (u' := 3) (t0 := 5) (fun _ => rfl) (by decide) (List.mem_of_getElem? (i := 2) rfl) (by decide) q_121 dX12_init_6 rfl (by decide) (by decide) hm1 (okrB_ok ha1 rfl) (by omega) (by show 0 + 3 ≤ 3; omega) (by show 1 ≤ 29; omega) (by show 3 ≤ 82795; omega) (gM fun M2 hM2 => ?_)
  have hf := ap_eq hf hM2
  refine g_dup (pc' := 10) dX12_init_9 rfl rfl ?_
  refine g_iconst (pc' := 11) (0 : Int32) dX12_init_10 rfl (by decide) ?_
  refine g_ldcS (pc' := 13) (k1 := 10) rfl dX12_init_11 rfl ?_
  obtain ⟨h3, hf⟩ := chk_s hf
  obtain ⟨b4, hf⟩ := chk_s hf
  refine g_aastS (pc' := 14) (k1 := 10) rfl dX12_init_13 rfl h3 (inB_in b4) (gM fun M5 hM5 => ?_)
  have hf := ap_eq hf hM5
  refine g_dup (pc' := 15) dX12_init_14 rfl rfl ?_
  refine g_iconst (pc' := 16) (1 : Int32) dX12_init_15 rfl (by decide) ?_
  refine g_ldcS (pc' := 18) (k1 := 11) rfl dX12_init_16 rfl ?_
  obtain ⟨h6, hf⟩ := chk_s hf
  obtain ⟨b7, hf⟩ := chk_s hf
  refine g_aastS (pc' := 19) (k1 := 11) rfl dX12_init_18 rfl h6 (inB_in b7) (gM fun M8 hM8 => ?_)
  have hf := ap_eq hf hM8
  refine g_dup (pc' := 20) dX12_init_19 rfl rfl ?_
  refine g_iconst (pc' := 21) (2 : Int32) dX12_init_20 rfl (by decide) ?_
  refine g_ldcS (pc' := 23) (k1 := 12) rfl dX12_init_21 rfl ?_
  obtain ⟨h9, hf⟩ := chk_s hf
  obtain ⟨b10, hf⟩ := chk_s hf
  refine g_aastS (pc' := 24) (k1 := 12) rfl dX12_init_23 rfl h9 (inB_in b10) (gM fun M11 hM11 => ?_)
  have hf := ap_eq hf hM11
  obtain ⟨h12, hf⟩ := chk_s hf
  obtain ⟨hr14, hf⟩ := chk_s hf
  refine g_putFR (pc' := 27) 12 0 rfl rfl (by decide) inX12 tyX12_ok nmX12 (by decide) rfl rfl rfl rfl rfl (Or.inr ⟨_, rfl⟩) (okrB_1 hr14) q_122 dX12_init_24 rfl h12 (gM fun M13 hM13 => ?_)
  have hf := ap_eq hf hM13
  refine g_aload_n (pc' := 28) dX12_init_27 rfl rfl ?_
  refine g_bipush (pc' := 30) (7 : Int32) dX12_init_28 rfl (by decide) ?_
  obtain ⟨hm15, hf⟩ := chk_s hf
  obtain ⟨ha15, hf⟩ := chk_s hf
  refine g_newQ (pc' := 33) (k' := 2) (u' := 10) (t0 := 5) (fun _ => rfl) (by decide) (List.mem_of_getElem? (i := 2) rfl) (by decide) q_121 dX12_init_30 rfl (by decide) (by decide) hm15 (okrB_ok ha15 rfl) (by omega) (by show 3 + 7 ≤ 10; omega) (by show 2 ≤ 29; omega) (by show 10 ≤ 82795; omega) (gM fun M16 hM16 => ?_)
  have hf := ap_eq hf hM16
  refine g_dup (pc' := 34) dX12_init_33 rfl rfl ?_
  refine g_iconst (pc' := 35) (0 : Int32) dX12_init_34 rfl (by decide) ?_
  refine g_ldcS (pc' := 37) (k1 := 13) rfl dX12_init_35 rfl ?_
  obtain ⟨h17, hf⟩ := chk_s hf
  obtain ⟨b18, hf⟩ := chk_s hf
  refine g_aastS (pc' := 38) (k1 := 13) rfl dX12_init_37 rfl h17 (inB_in b18) (gM fun M19 hM19 => ?_)
  have hf := ap_eq hf hM19
  refine g_dup (pc' := 39) dX12_init_38 rfl rfl ?_
  refine g_iconst (pc' := 40) (1 : Int32) dX12_init_39 rfl (by decide) ?_
  refine g_ldcS (pc' := 42) (k1 := 14) rfl dX12_init_40 rfl ?_
  obtain ⟨h20, hf⟩ := chk_s hf
  obtain ⟨b21, hf⟩ := chk_s hf
  refine g_aastS (pc' := 43) (k1 := 14) rfl dX12_init_42 rfl h20 (inB_in b21) (gM fun M22 hM22 => ?_)
  have hf := ap_eq hf hM22
  refine g_dup (pc' := 44) dX12_init_43 rfl rfl ?_
  refine g_iconst (pc' := 45) (2 : Int32) dX12_init_44 rfl (by decide) ?_
  refine g_ldcS (pc' := 47) (k1 := 15) rfl dX12_init_45 rfl ?_
  obtain ⟨h23, hf⟩ := chk_s hf
  obtain ⟨b24, hf⟩ := chk_s hf
  refine g_aastS (pc' := 48) (k1 := 15) rfl dX12_init_47 rfl h23 (inB_in b24) (gM fun M25 hM25 => ?_)
  have hf := ap_eq hf hM25
  refine g_dup (pc' := 49) dX12_init_48 rfl rfl ?_
  refine g_iconst (pc' := 50) (3 : Int32) dX12_init_49 rfl (by decide) ?_
  refine g_ldcS (pc' := 52) (k1 := 16) rfl dX12_init_50 rfl ?_
  obtain ⟨h26, hf⟩ := chk_s hf
  obtain ⟨b27, hf⟩ := chk_s hf
  refine g_aastS (pc' := 53) (k1 := 16) rfl dX12_init_52 rfl h26 (inB_in b27) (gM fun M28 hM28 => ?_)
  have hf := ap_eq hf hM28
  refine g_dup (pc' := 54) dX12_init_53 rfl rfl ?_
  refine g_iconst (pc' := 55) (4 : Int32) dX12_init_54 rfl (by decide) ?_
  refine g_ldcS (pc' := 57) (k1 := 17) rfl dX12_init_55 rfl ?_
  obtain ⟨h29, hf⟩ := chk_s hf
  obtain ⟨b30, hf⟩ := chk_s hf
  refine g_aastS (pc' := 58) (k1 := 17) rfl dX12_init_57 rfl h29 (inB_in b30) (gM fun M31 hM31 => ?_)
  have hf := ap_eq hf hM31
  refine g_dup (pc' := 59) dX12_init_58 rfl rfl ?_
  refine g_iconst (pc' := 60) (5 : Int32) dX12_init_59 rfl (by decide) ?_
  refine g_ldcS (pc' := 62) (k1 := 18) rfl dX12_init_60 rfl ?_
  obtain ⟨h32, hf⟩ := chk_s hf
  obtain ⟨b33, hf⟩ := chk_s hf
  refine g_aastS (pc' := 63) (k1 := 18) rfl dX12_init_62 rfl h32 (inB_in b33) (gM fun M34 hM34 => ?_)
  have hf := ap_eq hf hM34
  refine g_dup (pc' := 64) dX12_init_63 rfl rfl ?_
  refine g_bipush (pc' := 66) (6 : Int32) dX12_init_64 rfl (by decide) ?_
  refine g_ldcS (pc' := 68) (k1 := 19) rfl dX12_init_66 rfl ?_
  obtain ⟨h35, hf⟩ := chk_s hf
  obtain ⟨b36, hf⟩ := chk_s hf
  refine g_aastS (pc' := 69) (k1 := 19) rfl dX12_init_68 rfl h35 (inB_in b36) (gM fun M37 hM37 => ?_)
  have hf := ap_eq hf hM37
  obtain ⟨h38, hf⟩ := chk_s hf
  obtain ⟨hr40, hf⟩ := chk_s hf
  refine g_putFR (pc' := 72) 12 1 rfl rfl (by decide) inX12 tyX12_ok nmX12 (by decide) rfl rfl rfl rfl rfl (Or.inr ⟨_, rfl⟩) (okrB_1 hr40) q_123 dX12_init_69 rfl h38 (gM fun M39 hM39 => ?_)
  have hf := ap_eq hf hM39
  refine g_aload_n (pc' := 73) dX12_init_72 rfl rfl ?_
  refine g_sipush (pc' := 76) (700 : Int32) dX12_init_73 rfl (by decide) ?_
  obtain ⟨hm41, hf⟩ := chk_s hf
  obtain ⟨ha41, hf⟩ := chk_s hf
  refine g_newI (pc' := 78) (k' := 3) (u' := 710) (by decide) wall_aint dX12_init_76 rfl (by decide) (by decide) hm41 (okrB_ok ha41 rfl) (by omega) (by show 10 + 700 ≤ 710; omega) (by show 3 ≤ 29; omega) (by show 710 ≤ 82795; omega) (gM fun M42 hM42 => ?_)
  have hf := ap_eq hf hM42
  obtain ⟨h43, hf⟩ := chk_s hf
  obtain ⟨hr45, hf⟩ := chk_s hf
  refine g_putFR (pc' := 81) 12 3 rfl rfl (by decide) inX12 tyX12_ok nmX12 (by decide) rfl rfl rfl rfl rfl (Or.inr ⟨_, rfl⟩) (okrB_1 hr45) q_124 dX12_init_78 rfl h43 (gM fun M44 hM44 => ?_)
  have hf := ap_eq hf hM44
  refine g_aload_n (pc' := 82) dX12_init_81 rfl rfl ?_
  refine g_iconst (pc' := 83) (2 : Int32) dX12_init_82 rfl (by decide) ?_
  obtain ⟨hm46, hf⟩ := chk_s hf
  obtain ⟨ha46, hf⟩ := chk_s hf
  refine g_newI (pc' := 85) (k' := 4) (u' := 712) (by decide) wall_aint dX12_init_83 rfl (by decide) (by decide) hm46 (okrB_ok ha46 rfl) (by omega) (by show 710 + 2 ≤ 712; omega) (by show 4 ≤ 29; omega) (by show 712 ≤ 82795; omega) (gM fun M47 hM47 => ?_)
  have hf := ap_eq hf hM47
  obtain ⟨h48, hf⟩ := chk_s hf
  obtain ⟨hr50, hf⟩ := chk_s hf
  refine g_putFR (pc' := 88) 12 4 rfl rfl (by decide) inX12 tyX12_ok nmX12 (by decide) rfl rfl rfl rfl rfl (Or.inr ⟨_, rfl⟩) (okrB_1 hr50) q_125 dX12_init_85 rfl h48 (gM fun M49 hM49 => ?_)
  have hf := ap_eq hf hM49
  refine g_aload_n (pc' := 89) dX12_init_88 rfl rfl ?_
  refine g_iconst (pc' := 90) (-1 : Int32) dX12_init_89 rfl (by decide) ?_
  obtain ⟨h51, hf⟩ := chk_s hf
  refine g_putI (pc' := 93) 12 14 rfl rfl (by decide) inX12 tyX12_ok nmX12 (by decide) rfl rfl rfl rfl q_126 dX12_init_90 rfl h51 (gM fun M52 hM52 => ?_)
  have hf := ap_eq hf hM52
  refine g_aload_n (pc' := 94) dX12_init_93 rfl rfl ?_
  refine g_bipush (pc' := 96) (48 : Int32) dX12_init_94 rfl (by decide) ?_
  obtain ⟨hm53, hf⟩ := chk_s hf
  obtain ⟨ha53, hf⟩ := chk_s hf
  refine g_newI (pc' := 98) (k' := 5) (u' := 760) (by decide) wall_aint dX12_init_96 rfl (by decide) (by decide) hm53 (okrB_ok ha53 rfl) (by omega) (by show 712 + 48 ≤ 760; omega) (by show 5 ≤ 29; omega) (by show 760 ≤ 82795; omega) (gM fun M54 hM54 => ?_)
  have hf := ap_eq hf hM54
  obtain ⟨h55, hf⟩ := chk_s hf
  obtain ⟨hr57, hf⟩ := chk_s hf
  refine g_putFR (pc' := 101) 12 15 rfl rfl (by decide) inX12 tyX12_ok nmX12 (by decide) rfl rfl rfl rfl rfl (Or.inr ⟨_, rfl⟩) (okrB_1 hr57) q_127 dX12_init_98 rfl h55 (gM fun M56 hM56 => ?_)
  have hf := ap_eq hf hM56
  refine g_aload_n (pc' := 102) dX12_init_101 rfl rfl ?_
  refine g_bipush (pc' := 104) (48 : Int32) dX12_init_102 rfl (by decide) ?_
  obtain ⟨hm58, hf⟩ := chk_s hf
  obtain ⟨ha58, hf⟩ := chk_s hf
  refine g_newI (pc' := 106) (k' := 6) (u' := 808) (by decide) wall_aint dX12_init_104 rfl (by decide) (by decide) hm58 (okrB_ok ha58 rfl) (by omega) (by show 760 + 48 ≤ 808; omega) (by show 6 ≤ 29; omega) (by show 808 ≤ 82795; omega) (gM fun M59 hM59 => ?_)
  have hf := ap_eq hf hM59
  obtain ⟨h60, hf⟩ := chk_s hf
  obtain ⟨hr62, hf⟩ := chk_s hf
  refine g_putFR (pc' := 109) 12 16 rfl rfl (by decide) inX12 tyX12_ok nmX12 (by decide) rfl rfl rfl rfl rfl (Or.inr ⟨_, rfl⟩) (okrB_1 hr62) q_128 dX12_init_106 rfl h60 (gM fun M61 hM61 => ?_)
  have hf := ap_eq hf hM61
  refine g_aload_n (pc' := 110) dX12_init_109 rfl rfl ?_
  refine g_bipush (pc' := 112) (48 : Int32) dX12_init_110 rfl (by decide) ?_
  obtain ⟨hm63, hf⟩ := chk_s hf
  obtain ⟨ha63, hf⟩ := chk_s hf
  refine g_newI (pc' := 114) (k' := 7) (u' := 856) (by decide) wall_aint dX12_init_112 rfl (by decide) (by decide) hm63 (okrB_ok ha63 rfl) (by omega) (by show 808 + 48 ≤ 856; omega) (by show 7 ≤ 29; omega) (by show 856 ≤ 82795; omega) (gM fun M64 hM64 => ?_)
  have hf := ap_eq hf hM64
  obtain ⟨h65, hf⟩ := chk_s hf
  obtain ⟨hr67, hf⟩ := chk_s hf
  refine g_putFR (pc' := 117) 12 17 rfl rfl (by decide) inX12 tyX12_ok nmX12 (by decide) rfl rfl rfl rfl rfl (Or.inr ⟨_, rfl⟩) (okrB_1 hr67) q_129 dX12_init_114 rfl h65 (gM fun M66 hM66 => ?_)
  have hf := ap_eq hf hM66
  refine g_aload_n (pc' := 118) dX12_init_117 rfl rfl ?_
  refine g_bipush (pc' := 120) (48 : Int32) dX12_init_118 rfl (by decide) ?_
  obtain ⟨hm68, hf⟩ := chk_s hf
  obtain ⟨ha68, hf⟩ := chk_s hf
  refine g_newI (pc' := 122) (k' := 8) (u' := 904) (by decide) wall_aint dX12_init_120 rfl (by decide) (by decide) hm68 (okrB_ok ha68 rfl) (by omega) (by show 856 + 48 ≤ 904; omega) (by show 8 ≤ 29; omega) (by show 904 ≤ 82795; omega) (gM fun M69 hM69 => ?_)
  have hf := ap_eq hf hM69
  obtain ⟨h70, hf⟩ := chk_s hf
  obtain ⟨hr72, hf⟩ := chk_s hf
  refine g_putFR (pc' := 125) 12 18 rfl rfl (by decide) inX12 tyX12_ok nmX12 (by decide) rfl rfl rfl rfl rfl (Or.inr ⟨_, rfl⟩) (okrB_1 hr72) q_130 dX12_init_122 rfl h70 (gM fun M71 hM71 => ?_)
  have hf := ap_eq hf hM71
  refine g_aload_n (pc' := 126) dX12_init_125 rfl rfl ?_
  refine g_bipush (pc' := 128) (48 : Int32) dX12_init_126 rfl (by decide) ?_
  obtain ⟨hm73, hf⟩ := chk_s hf
  obtain ⟨ha73, hf⟩ := chk_s hf
  refine g_newI (pc' := 130) (k' := 9) (u' := 952) (by decide) wall_aint dX12_init_128 rfl (by decide) (by decide) hm73 (okrB_ok ha73 rfl) (by omega) (by show 904 + 48 ≤ 952; omega) (by show 9 ≤ 29; omega) (by show 952 ≤ 82795; omega) (gM fun M74 hM74 => ?_)
  have hf := ap_eq hf hM74
  obtain ⟨h75, hf⟩ := chk_s hf
  obtain ⟨hr77, hf⟩ := chk_s hf
  refine g_putFR (pc' := 133) 12 19 rfl rfl (by decide) inX12 tyX12_ok nmX12 (by decide) rfl rfl rfl rfl rfl (Or.inr ⟨_, rfl⟩) (okrB_1 hr77) q_131 dX12_init_130 rfl h75 (gM fun M76 hM76 => ?_)
  have hf := ap_eq hf hM76
  refine g_aload_n (pc' := 134) dX12_init_133 rfl rfl ?_
  refine g_bipush (pc' := 136) (48 : Int32) dX12_init_134 rfl (by decide) ?_
  obtain ⟨hm78, hf⟩ := chk_s hf
  obtain ⟨ha78, hf⟩ := chk_s hf
  refine g_newI (pc' := 138) (k' := 10) (u' := 1000) (by decide) wall_aint dX12_init_136 rfl (by decide) (by decide) hm78 (okrB_ok ha78 rfl) (by omega) (by show 952 + 48 ≤ 1000; omega) (by show 10 ≤ 29; omega) (by show 1000 ≤ 82795; omega) (gM fun M79 hM79 => ?_)
  have hf := ap_eq hf hM79
  obtain ⟨h80, hf⟩ := chk_s hf
  obtain ⟨hr82, hf⟩ := chk_s hf
  refine g_putFR (pc' := 141) 12 20 rfl rfl (by decide) inX12 tyX12_ok nmX12 (by decide) rfl rfl rfl rfl rfl (Or.inr ⟨_, rfl⟩) (okrB_1 hr82) q_132 dX12_init_138 rfl h80 (gM fun M81 hM81 => ?_)
  have hf := ap_eq hf hM81
  refine g_aload_n (pc' := 142) dX12_init_141 rfl rfl ?_
  refine g_bipush (pc' := 144) (48 : Int32) dX12_init_142 rfl (by decide) ?_
  obtain ⟨hm83, hf⟩ := chk_s hf
  obtain ⟨ha83, hf⟩ := chk_s hf
  refine g_newI (pc' := 146) (k' := 11) (u' := 1048) (by decide) wall_aint dX12_init_144 rfl (by decide) (by decide) hm83 (okrB_ok ha83 rfl) (by omega) (by show 1000 + 48 ≤ 1048; omega) (by show 11 ≤ 29; omega) (by show 1048 ≤ 82795; omega) (gM fun M84 hM84 => ?_)
  have hf := ap_eq hf hM84
  obtain ⟨h85, hf⟩ := chk_s hf
  obtain ⟨hr87, hf⟩ := chk_s hf
  refine g_putFR (pc' := 149) 12 21 rfl rfl (by decide) inX12 tyX12_ok nmX12 (by decide) rfl rfl rfl rfl rfl (Or.inr ⟨_, rfl⟩) (okrB_1 hr87) q_133 dX12_init_146 rfl h85 (gM fun M86 hM86 => ?_)
  have hf := ap_eq hf hM86
  refine g_aload_n (pc' := 150) dX12_init_149 rfl rfl ?_
  refine g_sipush (pc' := 153) (192 : Int32) dX12_init_150 rfl (by decide) ?_
  obtain ⟨hm88, hf⟩ := chk_s hf
  obtain ⟨ha88, hf⟩ := chk_s hf
  refine g_newI (pc' := 155) (k' := 12) (u' := 1240) (by decide) wall_aint dX12_init_153 rfl (by decide) (by decide) hm88 (okrB_ok ha88 rfl) (by omega) (by show 1048 + 192 ≤ 1240; omega) (by show 12 ≤ 29; omega) (by show 1240 ≤ 82795; omega) (gM fun M89 hM89 => ?_)
  have hf := ap_eq hf hM89
  obtain ⟨h90, hf⟩ := chk_s hf
  obtain ⟨hr92, hf⟩ := chk_s hf
  refine g_putFR (pc' := 158) 12 22 rfl rfl (by decide) inX12 tyX12_ok nmX12 (by decide) rfl rfl rfl rfl rfl (Or.inr ⟨_, rfl⟩) (okrB_1 hr92) q_134 dX12_init_155 rfl h90 (gM fun M91 hM91 => ?_)
  have hf := ap_eq hf hM91
  refine g_aload_n (pc' := 159) dX12_init_158 rfl rfl ?_
  refine g_iconst (pc' := 160) (3 : Int32) dX12_init_159 rfl (by decide) ?_
  obtain ⟨hm93, hf⟩ := chk_s hf
  obtain ⟨ha93, hf⟩ := chk_s hf
  refine g_newI (pc' := 162) (k' := 13) (u' := 1243) (by decide) wall_aint dX12_init_160 rfl (by decide) (by decide) hm93 (okrB_ok ha93 rfl) (by omega) (by show 1240 + 3 ≤ 1243; omega) (by show 13 ≤ 29; omega) (by show 1243 ≤ 82795; omega) (gM fun M94 hM94 => ?_)
  have hf := ap_eq hf hM94
  obtain ⟨h95, hf⟩ := chk_s hf
  obtain ⟨hr97, hf⟩ := chk_s hf
  refine g_putFR (pc' := 165) 12 23 rfl rfl (by decide) inX12 tyX12_ok nmX12 (by decide) rfl rfl rfl rfl rfl (Or.inr ⟨_, rfl⟩) (okrB_1 hr97) q_135 dX12_init_162 rfl h95 (gM fun M96 hM96 => ?_)
  have hf := ap_eq hf hM96
  refine g_aload_n (pc' := 166) dX12_init_165 rfl rfl ?_
  refine g_iconst (pc' := 167) (3 : Int32) dX12_init_166 rfl (by decide) ?_
  obtain ⟨hm98, hf⟩ := chk_s hf
  obtain ⟨ha98, hf⟩ := chk_s hf
  refine g_newI (pc' := 169) (k' := 14) (u' := 1246) (by decide) wall_aint dX12_init_167 rfl (by decide) (by decide) hm98 (okrB_ok ha98 rfl) (by omega) (by show 1243 + 3 ≤ 1246; omega) (by show 14 ≤ 29; omega) (by show 1246 ≤ 82795; omega) (gM fun M99 hM99 => ?_)
  have hf := ap_eq hf hM99
  obtain ⟨h100, hf⟩ := chk_s hf
  obtain ⟨hr102, hf⟩ := chk_s hf
  refine g_putFR (pc' := 172) 12 24 rfl rfl (by decide) inX12 tyX12_ok nmX12 (by decide) rfl rfl rfl rfl rfl (Or.inr ⟨_, rfl⟩) (okrB_1 hr102) q_136 dX12_init_169 rfl h100 (gM fun M101 hM101 => ?_)
  have hf := ap_eq hf hM101
  refine g_aload_n (pc' := 173) dX12_init_172 rfl rfl ?_
  refine g_bipush (pc' := 175) (8 : Int32) dX12_init_173 rfl (by decide) ?_
  obtain ⟨hm103, hf⟩ := chk_s hf
  obtain ⟨ha103, hf⟩ := chk_s hf
  refine g_newI (pc' := 177) (k' := 15) (u' := 1254) (by decide) wall_aint dX12_init_175 rfl (by decide) (by decide) hm103 (okrB_ok ha103 rfl) (by omega) (by show 1246 + 8 ≤ 1254; omega) (by show 15 ≤ 29; omega) (by show 1254 ≤ 82795; omega) (gM fun M104 hM104 => ?_)
  have hf := ap_eq hf hM104
  obtain ⟨h105, hf⟩ := chk_s hf
  obtain ⟨hr107, hf⟩ := chk_s hf
  refine g_putFR (pc' := 180) 12 25 rfl rfl (by decide) inX12 tyX12_ok nmX12 (by decide) rfl rfl rfl rfl rfl (Or.inr ⟨_, rfl⟩) (okrB_1 hr107) q_137 dX12_init_177 rfl h105 (gM fun M106 hM106 => ?_)
  have hf := ap_eq hf hM106
  refine g_aload_n (pc' := 181) dX12_init_180 rfl rfl ?_
  refine g_sipush (pc' := 184) (960 : Int32) dX12_init_181 rfl (by decide) ?_
  obtain ⟨hm108, hf⟩ := chk_s hf
  obtain ⟨ha108, hf⟩ := chk_s hf
  refine g_newI (pc' := 186) (k' := 16) (u' := 2214) (by decide) wall_aint dX12_init_184 rfl (by decide) (by decide) hm108 (okrB_ok ha108 rfl) (by omega) (by show 1254 + 960 ≤ 2214; omega) (by show 16 ≤ 29; omega) (by show 2214 ≤ 82795; omega) (gM fun M109 hM109 => ?_)
  have hf := ap_eq hf hM109
  obtain ⟨h110, hf⟩ := chk_s hf
  obtain ⟨hr112, hf⟩ := chk_s hf
  refine g_putFR (pc' := 189) 12 27 rfl rfl (by decide) inX12 tyX12_ok nmX12 (by decide) rfl rfl rfl rfl rfl (Or.inr ⟨_, rfl⟩) (okrB_1 hr112) q_138 dX12_init_186 rfl h110 (gM fun M111 hM111 => ?_)
  have hf := ap_eq hf hM111
  refine g_aload_n (pc' := 190) dX12_init_189 rfl rfl ?_
  refine g_bipush (pc' := 192) (8 : Int32) dX12_init_190 rfl (by decide) ?_
  obtain ⟨hm113, hf⟩ := chk_s hf
  obtain ⟨ha113, hf⟩ := chk_s hf
  refine g_newI (pc' := 194) (k' := 17) (u' := 2222) (by decide) wall_aint dX12_init_192 rfl (by decide) (by decide) hm113 (okrB_ok ha113 rfl) (by omega) (by show 2214 + 8 ≤ 2222; omega) (by show 17 ≤ 29; omega) (by show 2222 ≤ 82795; omega) (gM fun M114 hM114 => ?_)
  have hf := ap_eq hf hM114
  obtain ⟨h115, hf⟩ := chk_s hf
  obtain ⟨hr117, hf⟩ := chk_s hf
  refine g_putFR (pc' := 197) 12 28 rfl rfl (by decide) inX12 tyX12_ok nmX12 (by decide) rfl rfl rfl rfl rfl (Or.inr ⟨_, rfl⟩) (okrB_1 hr117) q_139 dX12_init_194 rfl h115 (gM fun M116 hM116 => ?_)
  have hf := ap_eq hf hM116
  refine g_aload_n (pc' := 198) dX12_init_197 rfl rfl ?_
  refine g_ldc (pc' := 200) (v := (38760 : Int32)) dX12_init_198 rfl q_140 ?_
  obtain ⟨hm118, hf⟩ := chk_s hf
  obtain ⟨ha118, hf⟩ := chk_s hf
  refine g_newI (pc' := 202) (k' := 18) (u' := 40982) (by decide) wall_aint dX12_init_200 rfl (by decide) (by decide) hm118 (okrB_ok ha118 rfl) (by omega) (by show 2222 + 38760 ≤ 40982; omega) (by show 18 ≤ 29; omega) (by show 40982 ≤ 82795; omega) (gM fun M119 hM119 => ?_)
  have hf := ap_eq hf hM119
  obtain ⟨h120, hf⟩ := chk_s hf
  obtain ⟨hr122, hf⟩ := chk_s hf
  refine g_putFR (pc' := 205) 12 29 rfl rfl (by decide) inX12 tyX12_ok nmX12 (by decide) rfl rfl rfl rfl rfl (Or.inr ⟨_, rfl⟩) (okrB_1 hr122) q_141 dX12_init_202 rfl h120 (gM fun M121 hM121 => ?_)
  have hf := ap_eq hf hM121
  refine g_aload_n (pc' := 206) dX12_init_205 rfl rfl ?_
  refine g_sipush (pc' := 209) (969 : Int32) dX12_init_206 rfl (by decide) ?_
  obtain ⟨hm123, hf⟩ := chk_s hf
  obtain ⟨ha123, hf⟩ := chk_s hf
  refine g_newI (pc' := 211) (k' := 19) (u' := 41951) (by decide) wall_aint dX12_init_209 rfl (by decide) (by decide) hm123 (okrB_ok ha123 rfl) (by omega) (by show 40982 + 969 ≤ 41951; omega) (by show 19 ≤ 29; omega) (by show 41951 ≤ 82795; omega) (gM fun M124 hM124 => ?_)
  have hf := ap_eq hf hM124
  obtain ⟨h125, hf⟩ := chk_s hf
  obtain ⟨hr127, hf⟩ := chk_s hf
  refine g_putFR (pc' := 214) 12 32 rfl rfl (by decide) inX12 tyX12_ok nmX12 (by decide) rfl rfl rfl rfl rfl (Or.inr ⟨_, rfl⟩) (okrB_1 hr127) q_142 dX12_init_211 rfl h125 (gM fun M126 hM126 => ?_)
  have hf := ap_eq hf hM126
  refine g_aload_n (pc' := 215) dX12_init_214 rfl rfl ?_
  refine g_sipush (pc' := 218) (969 : Int32) dX12_init_215 rfl (by decide) ?_
  obtain ⟨hm128, hf⟩ := chk_s hf
  obtain ⟨ha128, hf⟩ := chk_s hf
  refine g_newI (pc' := 220) (k' := 20) (u' := 42920) (by decide) wall_aint dX12_init_218 rfl (by decide) (by decide) hm128 (okrB_ok ha128 rfl) (by omega) (by show 41951 + 969 ≤ 42920; omega) (by show 20 ≤ 29; omega) (by show 42920 ≤ 82795; omega) (gM fun M129 hM129 => ?_)
  have hf := ap_eq hf hM129
  obtain ⟨h130, hf⟩ := chk_s hf
  obtain ⟨hr132, hf⟩ := chk_s hf
  refine g_putFR (pc' := 223) 12 33 rfl rfl (by decide) inX12 tyX12_ok nmX12 (by decide) rfl rfl rfl rfl rfl (Or.inr ⟨_, rfl⟩) (okrB_1 hr132) q_143 dX12_init_220 rfl h130 (gM fun M131 hM131 => ?_)
  have hf := ap_eq hf hM131
  refine g_aload_n (pc' := 224) dX12_init_223 rfl rfl ?_
  refine g_bipush (pc' := 226) (8 : Int32) dX12_init_224 rfl (by decide) ?_
  obtain ⟨hm133, hf⟩ := chk_s hf
  obtain ⟨ha133, hf⟩ := chk_s hf
  refine g_newI (pc' := 228) (k' := 21) (u' := 42928) (by decide) wall_aint dX12_init_226 rfl (by decide) (by decide) hm133 (okrB_ok ha133 rfl) (by omega) (by show 42920 + 8 ≤ 42928; omega) (by show 21 ≤ 29; omega) (by show 42928 ≤ 82795; omega) (gM fun M134 hM134 => ?_)
  have hf := ap_eq hf hM134
  obtain ⟨h135, hf⟩ := chk_s hf
  obtain ⟨hr137, hf⟩ := chk_s hf
  refine g_putFR (pc' := 231) 12 38 rfl rfl (by decide) inX12 tyX12_ok nmX12 (by decide) rfl rfl rfl rfl rfl (Or.inr ⟨_, rfl⟩) (okrB_1 hr137) q_144 dX12_init_228 rfl h135 (gM fun M136 hM136 => ?_)
  have hf := ap_eq hf hM136
  refine g_aload_n (pc' := 232) dX12_init_231 rfl rfl ?_
  refine g_bipush (pc' := 234) (48 : Int32) dX12_init_232 rfl (by decide) ?_
  obtain ⟨hm138, hf⟩ := chk_s hf
  obtain ⟨ha138, hf⟩ := chk_s hf
  refine g_newI (pc' := 236) (k' := 22) (u' := 42976) (by decide) wall_aint dX12_init_234 rfl (by decide) (by decide) hm138 (okrB_ok ha138 rfl) (by omega) (by show 42928 + 48 ≤ 42976; omega) (by show 22 ≤ 29; omega) (by show 42976 ≤ 82795; omega) (gM fun M139 hM139 => ?_)
  have hf := ap_eq hf hM139
  obtain ⟨h140, hf⟩ := chk_s hf
  obtain ⟨hr142, hf⟩ := chk_s hf
  refine g_putFR (pc' := 239) 12 39 rfl rfl (by decide) inX12 tyX12_ok nmX12 (by decide) rfl rfl rfl rfl rfl (Or.inr ⟨_, rfl⟩) (okrB_1 hr142) q_145 dX12_init_236 rfl h140 (gM fun M141 hM141 => ?_)
  have hf := ap_eq hf hM141
  refine g_aload_n (pc' := 240) dX12_init_239 rfl rfl ?_
  refine g_bipush (pc' := 242) (48 : Int32) dX12_init_240 rfl (by decide) ?_
  obtain ⟨hm143, hf⟩ := chk_s hf
  obtain ⟨ha143, hf⟩ := chk_s hf
  refine g_newI (pc' := 244) (k' := 23) (u' := 43024) (by decide) wall_aint dX12_init_242 rfl (by decide) (by decide) hm143 (okrB_ok ha143 rfl) (by omega) (by show 42976 + 48 ≤ 43024; omega) (by show 23 ≤ 29; omega) (by show 43024 ≤ 82795; omega) (gM fun M144 hM144 => ?_)
  have hf := ap_eq hf hM144
  obtain ⟨h145, hf⟩ := chk_s hf
  obtain ⟨hr147, hf⟩ := chk_s hf
  refine g_putFR (pc' := 247) 12 40 rfl rfl (by decide) inX12 tyX12_ok nmX12 (by decide) rfl rfl rfl rfl rfl (Or.inr ⟨_, rfl⟩) (okrB_1 hr147) q_146 dX12_init_244 rfl h145 (gM fun M146 hM146 => ?_)
  have hf := ap_eq hf hM146
  refine g_aload_n (pc' := 248) dX12_init_247 rfl rfl ?_
  refine g_bipush (pc' := 250) (16 : Int32) dX12_init_248 rfl (by decide) ?_
  obtain ⟨hm148, hf⟩ := chk_s hf
  obtain ⟨ha148, hf⟩ := chk_s hf
  refine g_newI (pc' := 252) (k' := 24) (u' := 43040) (by decide) wall_aint dX12_init_250 rfl (by decide) (by decide) hm148 (okrB_ok ha148 rfl) (by omega) (by show 43024 + 16 ≤ 43040; omega) (by show 24 ≤ 29; omega) (by show 43040 ≤ 82795; omega) (gM fun M149 hM149 => ?_)
  have hf := ap_eq hf hM149
  obtain ⟨h150, hf⟩ := chk_s hf
  obtain ⟨hr152, hf⟩ := chk_s hf
  refine g_putFR (pc' := 255) 12 44 rfl rfl (by decide) inX12 tyX12_ok nmX12 (by decide) rfl rfl rfl rfl rfl (Or.inr ⟨_, rfl⟩) (okrB_1 hr152) q_147 dX12_init_252 rfl h150 (gM fun M151 hM151 => ?_)
  have hf := ap_eq hf hM151
  refine g_aload_n (pc' := 256) dX12_init_255 rfl rfl ?_
  refine g_bipush (pc' := 258) (16 : Int32) dX12_init_256 rfl (by decide) ?_
  obtain ⟨hm153, hf⟩ := chk_s hf
  obtain ⟨ha153, hf⟩ := chk_s hf
  refine g_newI (pc' := 260) (k' := 25) (u' := 43056) (by decide) wall_aint dX12_init_258 rfl (by decide) (by decide) hm153 (okrB_ok ha153 rfl) (by omega) (by show 43040 + 16 ≤ 43056; omega) (by show 25 ≤ 29; omega) (by show 43056 ≤ 82795; omega) (gM fun M154 hM154 => ?_)
  have hf := ap_eq hf hM154
  obtain ⟨h155, hf⟩ := chk_s hf
  obtain ⟨hr157, hf⟩ := chk_s hf
  refine g_putFR (pc' := 263) 12 45 rfl rfl (by decide) inX12 tyX12_ok nmX12 (by decide) rfl rfl rfl rfl rfl (Or.inr ⟨_, rfl⟩) (okrB_1 hr157) q_148 dX12_init_260 rfl h155 (gM fun M156 hM156 => ?_)
  have hf := ap_eq hf hM156
  refine g_aload_n (pc' := 264) dX12_init_263 rfl rfl ?_
  refine g_bipush (pc' := 266) (8 : Int32) dX12_init_264 rfl (by decide) ?_
  obtain ⟨hm158, hf⟩ := chk_s hf
  obtain ⟨ha158, hf⟩ := chk_s hf
  refine g_newI (pc' := 268) (k' := 26) (u' := 43064) (by decide) wall_aint dX12_init_266 rfl (by decide) (by decide) hm158 (okrB_ok ha158 rfl) (by omega) (by show 43056 + 8 ≤ 43064; omega) (by show 26 ≤ 29; omega) (by show 43064 ≤ 82795; omega) (gM fun M159 hM159 => ?_)
  have hf := ap_eq hf hM159
  obtain ⟨h160, hf⟩ := chk_s hf
  obtain ⟨hr162, hf⟩ := chk_s hf
  refine g_putFR (pc' := 271) 12 46 rfl rfl (by decide) inX12 tyX12_ok nmX12 (by decide) rfl rfl rfl rfl rfl (Or.inr ⟨_, rfl⟩) (okrB_1 hr162) q_149 dX12_init_268 rfl h160 (gM fun M161 hM161 => ?_)
  have hf := ap_eq hf hM161
  refine g_aload_n (pc' := 272) dX12_init_271 rfl rfl ?_
  refine g_sipush (pc' := 275) (969 : Int32) dX12_init_272 rfl (by decide) ?_
  obtain ⟨hm163, hf⟩ := chk_s hf
  obtain ⟨ha163, hf⟩ := chk_s hf
  refine g_newI (pc' := 277) (k' := 27) (u' := 44033) (by decide) wall_aint dX12_init_275 rfl (by decide) (by decide) hm163 (okrB_ok ha163 rfl) (by omega) (by show 43064 + 969 ≤ 44033; omega) (by show 27 ≤ 29; omega) (by show 44033 ≤ 82795; omega) (gM fun M164 hM164 => ?_)
  have hf := ap_eq hf hM164
  obtain ⟨h165, hf⟩ := chk_s hf
  obtain ⟨hr167, hf⟩ := chk_s hf
  refine g_putFR (pc' := 280) 12 52 rfl rfl (by decide) inX12 tyX12_ok nmX12 (by decide) rfl rfl rfl rfl rfl (Or.inr ⟨_, rfl⟩) (okrB_1 hr167) q_150 dX12_init_277 rfl h165 (gM fun M166 hM166 => ?_)
  have hf := ap_eq hf hM166
  refine g_aload_n (pc' := 281) dX12_init_280 rfl rfl ?_
  refine g_ldc (pc' := 283) (v := (38760 : Int32)) dX12_init_281 rfl q_140 ?_
  obtain ⟨hm168, hf⟩ := chk_s hf
  obtain ⟨ha168, hf⟩ := chk_s hf
  refine g_newI (pc' := 285) (k' := 28) (u' := 82793) (by decide) wall_aint dX12_init_283 rfl (by decide) (by decide) hm168 (okrB_ok ha168 rfl) (by omega) (by show 44033 + 38760 ≤ 82793; omega) (by show 28 ≤ 29; omega) (by show 82793 ≤ 82795; omega) (gM fun M169 hM169 => ?_)
  have hf := ap_eq hf hM169
  obtain ⟨h170, hf⟩ := chk_s hf
  obtain ⟨hr172, hf⟩ := chk_s hf
  refine g_putFR (pc' := 288) 12 53 rfl rfl (by decide) inX12 tyX12_ok nmX12 (by decide) rfl rfl rfl rfl rfl (Or.inr ⟨_, rfl⟩) (okrB_1 hr172) q_151 dX12_init_285 rfl h170 (gM fun M171 hM171 => ?_)
  have hf := ap_eq hf hM171
  refine g_aload_n (pc' := 289) dX12_init_288 rfl rfl ?_
  refine g_iconst (pc' := 290) (2 : Int32) dX12_init_289 rfl (by decide) ?_
  obtain ⟨hm173, hf⟩ := chk_s hf
  obtain ⟨ha173, hf⟩ := chk_s hf
  refine g_newI (pc' := 292) (k' := 29) (u' := 82795) (by decide) wall_aint dX12_init_290 rfl (by decide) (by decide) hm173 (okrB_ok ha173 rfl) (by omega) (by show 82793 + 2 ≤ 82795; omega) (by show 29 ≤ 29; omega) (by show 82795 ≤ 82795; omega) (gM fun M174 hM174 => ?_)
  have hf := ap_eq hf hM174
  obtain ⟨h175, hf⟩ := chk_s hf
  obtain ⟨hr177, hf⟩ := chk_s hf
  refine g_putFR (pc' := 295) 12 54 rfl rfl (by decide) inX12 tyX12_ok nmX12 (by decide) rfl rfl rfl rfl rfl (Or.inr ⟨_, rfl⟩) (okrB_1 hr177) q_152 dX12_init_292 rfl h175 (gM fun M176 hM176 => ?_)
  have hf := ap_eq hf hM176
  cases hf
  exact g_return dX12_init_295 rfl (Nat.le_of_ble_eq_true rfl) (Nat.le_of_ble_eq_true rfl)
def f_X12_thrown (v0 : Nat) (M : Mem) : Option (Int32 × Mem) :=
  if mK M v0 = 13 then
    some (mI M v0 2, M)
  else none
theorem s_X12_thrown (v0 : Nat) (M : Mem) (r : (Int32 × Mem)) (hf : f_X12_thrown v0 M = some r) : Sem mi_X12_thrown (1) [aR v0] M (oI r.1) r.2 := by
  unfold f_X12_thrown at hf
  refine sem_of (by decide) rfl rfl rfl (Nat.le_of_ble_eq_true rfl) (lv := [some (aR v0)]) rfl ?_
  refine g_aload_n (pc' := 1) dX12_thrown_0 rfl rfl ?_
  obtain ⟨h1, hf⟩ := chk_s hf
  refine g_getI (pc' := 4) 12 2 rfl rfl (by decide) inX12 (by decide) rfl rfl q_167 dX12_thrown_1 rfl h1 ?_
  cases hf
  exact g_ireturn dX12_thrown_4 rfl (Nat.le_of_ble_eq_true rfl) (Nat.le_of_ble_eq_true rfl)
def f_X12_fail (v0 : Nat) (v1 : Int32) (M : Mem) : Option (Int32 × Mem) :=
  if mK M v0 = 13 then
    ap (sI M v0 2 v1) fun M2 =>
    some ((0 : Int32), M2)
  else none
theorem s_X12_fail (v0 : Nat) (v1 : Int32) (M : Mem) (r : (Int32 × Mem)) (hf : f_X12_fail v0 v1 M = some r) : Sem mi_X12_fail (1) [aR v0, aI v1] M (oI r.1) r.2 := by
  unfold f_X12_fail at hf
  refine sem_of (by decide) rfl rfl rfl (Nat.le_of_ble_eq_true rfl) (lv := [some (aR v0), some (aI v1)]) rfl ?_
  refine g_aload_n (pc' := 1) dX12_fail_0 rfl rfl ?_
  refine g_iload_n (pc' := 2) dX12_fail_1 rfl rfl ?_
  obtain ⟨h1, hf⟩ := chk_s hf
  refine g_putI (pc' := 5) 12 2 rfl rfl (by decide) inX12 tyX12_ok nmX12 (by decide) rfl rfl rfl rfl q_167 dX12_fail_2 rfl h1 (gM fun M2 hM2 => ?_)
  have hf := ap_eq hf hM2
  refine g_iconst (pc' := 6) (0 : Int32) dX12_fail_5 rfl (by decide) ?_
  cases hf
  exact g_ireturn dX12_fail_6 rfl (Nat.le_of_ble_eq_true rfl) (Nat.le_of_ble_eq_true rfl)
def f_X12_isIn (v0 : Int64) (v2 : Int64) (v4 : Int64) (M : Mem) : Option (Int32 × Mem) :=
  if (lg_cmp v0 v2) < 0 then
    some ((0 : Int32), M)
  else
    if 0 < (lg_cmp v0 v4) then
      some ((0 : Int32), M)
    else
      some ((1 : Int32), M)
theorem s_X12_isIn (v0 : Int64) (v2 : Int64) (v4 : Int64) (M : Mem) (r : (Int32 × Mem)) (hf : f_X12_isIn v0 v2 v4 M = some r) : Sem mi_X12_isIn (1) [aL v0, aL v2, aL v4] M (oI r.1) r.2 := by
  unfold f_X12_isIn at hf
  refine sem_of (by decide) rfl rfl rfl (Nat.le_of_ble_eq_true rfl) (lv := [some (aL v0), none, some (aL v2), none, some (aL v4), none]) rfl ?_
  refine g_lload_n (pc' := 1) dX12_isIn_0 rfl rfl ?_
  refine g_lload_n (pc' := 2) dX12_isIn_1 rfl rfl ?_
  refine g_lcmp (pc' := 3) dX12_isIn_2 rfl ?_
  refine g_if_lt (pc' := 6) 17 dX12_isIn_3 rfl (by decide) (fun c1 => ?_) (fun c1 => ?_)
  · have hf := ite_t c1 hf
    refine g_iconst (pc' := 18) (0 : Int32) dX12_isIn_17 rfl (by decide) ?_
    cases hf
    exact g_zreturn dX12_isIn_18 rfl (Or.inl rfl) (Nat.le_of_ble_eq_true rfl) (Nat.le_of_ble_eq_true rfl)
  · have hf := ite_f c1 hf
    refine g_lload_n (pc' := 7) dX12_isIn_6 rfl rfl ?_
    refine g_lload (pc' := 9) dX12_isIn_7 rfl rfl ?_
    refine g_lcmp (pc' := 10) dX12_isIn_9 rfl ?_
    refine g_if_gt (pc' := 13) 17 dX12_isIn_10 rfl (by decide) (fun c2 => ?_) (fun c2 => ?_)
    · have hf := ite_t c2 hf
      refine g_iconst (pc' := 18) (0 : Int32) dX12_isIn_17 rfl (by decide) ?_
      cases hf
      exact g_zreturn dX12_isIn_18 rfl (Or.inl rfl) (Nat.le_of_ble_eq_true rfl) (Nat.le_of_ble_eq_true rfl)
    · have hf := ite_f c2 hf
      refine g_iconst (pc' := 14) (1 : Int32) dX12_isIn_13 rfl (by decide) ?_
      refine g_goto (pc' := 18) dX12_isIn_14 (by decide) ?_
      cases hf
      exact g_zreturn dX12_isIn_18 rfl (Or.inr rfl) (Nat.le_of_ble_eq_true rfl) (Nat.le_of_ble_eq_true rfl)
def f_X12_isOf (v0 : Int32) (v1 : Int32) (M : Mem) : Option (Int32 × Mem) :=
  if ((v0 >>> (v1 &&& 31)) &&& (1 : Int32)) = (1 : Int32) then
    some ((1 : Int32), M)
  else
    some ((0 : Int32), M)
theorem s_X12_isOf (v0 : Int32) (v1 : Int32) (M : Mem) (r : (Int32 × Mem)) (hf : f_X12_isOf v0 v1 M = some r) : Sem mi_X12_isOf (1) [aI v0, aI v1] M (oI r.1) r.2 := by
  unfold f_X12_isOf at hf
  refine sem_of (by decide) rfl rfl rfl (Nat.le_of_ble_eq_true rfl) (lv := [some (aI v0), some (aI v1)]) rfl ?_
  refine g_iload_n (pc' := 1) dX12_isOf_0 rfl rfl ?_
  refine g_iload_n (pc' := 2) dX12_isOf_1 rfl rfl ?_
  refine g_ishr (pc' := 3) dX12_isOf_2 rfl ?_
  refine g_iconst (pc' := 4) (1 : Int32) dX12_isOf_3 rfl (by decide) ?_
  refine g_iand (pc' := 5) dX12_isOf_4 rfl ?_
  refine g_iconst (pc' := 6) (1 : Int32) dX12_isOf_5 rfl (by decide) ?_
  refine g_icmp_ne (pc' := 9) 13 dX12_isOf_6 rfl (by decide) (fun c1 => ?_) (fun c1 => ?_)
  · have hf := ite_f c1 hf
    refine g_iconst (pc' := 14) (0 : Int32) dX12_isOf_13 rfl (by decide) ?_
    cases hf
    exact g_zreturn dX12_isOf_14 rfl (Or.inl rfl) (Nat.le_of_ble_eq_true rfl) (Nat.le_of_ble_eq_true rfl)
  · have hf := ite_t c1 hf
    refine g_iconst (pc' := 10) (1 : Int32) dX12_isOf_9 rfl (by decide) ?_
    refine g_goto (pc' := 14) dX12_isOf_10 (by decide) ?_
    cases hf
    exact g_zreturn dX12_isOf_14 rfl (Or.inr rfl) (Nat.le_of_ble_eq_true rfl) (Nat.le_of_ble_eq_true rfl)
def f_X12_bitsOf_4 : Nat → Int32 → Int32 → Mem → Option (Int32 × Mem)
  | 0, _, _, _ => none
  | n + 1, v1, v2, M =>
    if v2 = 0 then
      some (v1, M)
    else
      f_X12_bitsOf_4 n (v1 + 1) (v2 &&& (v2 - (1 : Int32))) M
def f_X12_bitsOf (v0 : Int32) (M : Mem) : Option (Int32 × Mem) :=
  f_X12_bitsOf_4 FUEL (0 : Int32) v0 M
theorem s_X12_bitsOf_4 : ∀ (n : Nat) (v1 : Int32) (v2 : Int32) (M : Mem) (r : (Int32 × Mem)), f_X12_bitsOf_4 n v1 v2 M = some r → G mi_X12_bitsOf 1 (oI r.1) r.2 4 [none, some (aI v1), some (aI v2)] [] M 0 0 := by
  intro n
  induction n with
  | zero => intro v1 v2 M r hf; cases hf
  | succ n ih =>
    intro v1 v2 M r hf
    unfold f_X12_bitsOf_4 at hf
    refine g_iload_n (pc' := 5) dX12_bitsOf_4 rfl rfl ?_
    refine g_if_eq (pc' := 8) 20 dX12_bitsOf_5 rfl (by decide) (fun c1 => ?_) (fun c1 => ?_)
    · have hf := ite_t c1 hf
      refine g_iload_n (pc' := 21) dX12_bitsOf_20 rfl rfl ?_
      cases hf
      exact g_ireturn dX12_bitsOf_21 rfl (Nat.le_of_ble_eq_true rfl) (Nat.le_of_ble_eq_true rfl)
    · have hf := ite_f c1 hf
      refine g_iinc (pc' := 11) (lv' := [none, some (aI (v1 + 1)), some (aI v2)]) (v1 + 1) dX12_bitsOf_8 rfl rfl (by rfl) rfl (by decide) rfl ?_
      refine g_iload_n (pc' := 12) dX12_bitsOf_11 rfl rfl ?_
      refine g_iload_n (pc' := 13) dX12_bitsOf_12 rfl rfl ?_
      refine g_iconst (pc' := 14) (1 : Int32) dX12_bitsOf_13 rfl (by decide) ?_
      refine g_isub (pc' := 15) dX12_bitsOf_14 rfl ?_
      refine g_iand (pc' := 16) dX12_bitsOf_15 rfl ?_
      refine g_istore_n (pc' := 17) (lv' := [none, some (aI (v1 + 1)), some (aI (v2 &&& (v2 - (1 : Int32))))]) dX12_bitsOf_16 rfl rfl (by decide) rfl ?_
      refine g_goto (pc' := 4) dX12_bitsOf_17 (by decide) ?_
      exact ih (v1 + 1) (v2 &&& (v2 - (1 : Int32))) M _ hf
theorem s_X12_bitsOf (v0 : Int32) (M : Mem) (r : (Int32 × Mem)) (hf : f_X12_bitsOf v0 M = some r) : Sem mi_X12_bitsOf (1) [aI v0] M (oI r.1) r.2 := by
  unfold f_X12_bitsOf at hf
  refine sem_of (by decide) rfl rfl rfl (Nat.le_of_ble_eq_true rfl) (lv := [some (aI v0), none, none]) rfl ?_
  refine g_iconst (pc' := 1) (0 : Int32) dX12_bitsOf_0 rfl (by decide) ?_
  refine g_istore_n (pc' := 2) (lv' := [some (aI v0), some (aI (0 : Int32)), none]) dX12_bitsOf_1 rfl rfl (by decide) rfl ?_
  refine g_iload_n (pc' := 3) dX12_bitsOf_2 rfl rfl ?_
  refine g_istore_n (pc' := 4) (lv' := [some (aI v0), some (aI (0 : Int32)), some (aI v0)]) dX12_bitsOf_3 rfl rfl (by decide) rfl ?_
  refine g_mask [false, true, true] rfl ?_
  exact s_X12_bitsOf_4 FUEL (0 : Int32) v0 M _ hf
def f_X12_feed_76 (k23 : Nat → Int32 → Int32 → Int32 → Int32 → Int32 → Int32 → Mem → Option (Int32 × Mem)) (v0 : Nat) (v1 : Int32) (v2 : Int32) (v3 : Int32) (v4 : Int32) (v5 : Int32) (v6 : Int32) (w0 : Int32) (M : Mem) : Option (Int32 × Mem) :=
  if mK M v0 = 13 then
    if mK M (mR M v0 3) = 21 then
      if inB (mI M v0 5) (mN M (mR M v0 3)) = true then
        ap (sI M (mR M v0 3) (mI M v0 5).toNatClampNeg ((w0 >>> (((24 : Int32) - ((8 : Int32) * (v6 - v6 / (4 : Int32) * (4 : Int32)))) &&& 31)) &&& (255 : Int32))) fun M4 =>
        if mK M4 v0 = 13 then
          ap (sI M4 v0 5 ((mI M4 v0 5) + (1 : Int32))) fun M6 =>
          k23 v0 v1 v2 v3 v4 v5 (v6 + 1) M6
        else none
      else none
    else none
  else none
def f_X12_feed_23 : Nat → Nat → Int32 → Int32 → Int32 → Int32 → Int32 → Int32 → Mem → Option (Int32 × Mem)
  | 0, _, _, _, _, _, _, _, _ => none
  | n + 1, v0, v1, v2, v3, v4, v5, v6, M =>
    if (20 : Int32) ≤ v6 then
      if mK M v0 = 13 then
        some (mI M v0 5, M)
      else none
    else
      if (4 : Int32) ≤ v6 then
        if (8 : Int32) ≤ v6 then
          if (12 : Int32) ≤ v6 then
            if (16 : Int32) ≤ v6 then
              f_X12_feed_76 (f_X12_feed_23 n) v0 v1 v2 v3 v4 v5 v6 v5 M
            else
              f_X12_feed_76 (f_X12_feed_23 n) v0 v1 v2 v3 v4 v5 v6 v4 M
          else
            f_X12_feed_76 (f_X12_feed_23 n) v0 v1 v2 v3 v4 v5 v6 v3 M
        else
          f_X12_feed_76 (f_X12_feed_23 n) v0 v1 v2 v3 v4 v5 v6 v2 M
      else
        f_X12_feed_76 (f_X12_feed_23 n) v0 v1 v2 v3 v4 v5 v6 v1 M
def f_X12_feed (v0 : Nat) (v1 : Int32) (v2 : Int32) (v3 : Int32) (v4 : Int32) (v5 : Int32) (M : Mem) : Option (Int32 × Mem) :=
  if mK M v0 = 13 then
    ap (sI M v0 2 (0 : Int32)) fun M2 =>
    if mK M2 v0 = 13 then
      if ((mI M2 v0 5) + (20 : Int32)) ≤ (700 : Int32) then
        f_X12_feed_23 FUEL v0 v1 v2 v3 v4 v5 (0 : Int32) M2
      else
        some ((-1 : Int32), M2)
    else none
  else none
theorem s_X12_feed_76 (k23 : Nat → Int32 → Int32 → Int32 → Int32 → Int32 → Int32 → Mem → Option (Int32 × Mem)) (hk23 : ∀ (v0 : Nat) (v1 : Int32) (v2 : Int32) (v3 : Int32) (v4 : Int32) (v5 : Int32) (v6 : Int32) (M : Mem) (r : (Int32 × Mem)), k23 v0 v1 v2 v3 v4 v5 v6 M = some r → G mi_X12_feed 1 (oI r.1) r.2 23 [some (aR v0), some (aI v1), some (aI v2), some (aI v3), some (aI v4), some (aI v5), some (aI v6), none] [] M 0 0) (v0 : Nat) (v1 : Int32) (v2 : Int32) (v3 : Int32) (v4 : Int32) (v5 : Int32) (v6 : Int32) (w0 : Int32) (M : Mem) (r : (Int32 × Mem)) (hf : f_X12_feed_76 k23 v0 v1 v2 v3 v4 v5 v6 w0 M = some r) : G mi_X12_feed 1 (oI r.1) r.2 76 [some (aR v0), some (aI v1), some (aI v2), some (aI v3), some (aI v4), some (aI v5), some (aI v6), none] [aI w0] M 0 0 := by
  unfold f_X12_feed_76 at hf
  refine g_istore (pc' := 78) (lv' := [some (aR v0), some (aI v1), some (aI v2), some (aI v3), some (aI v4), some (aI v5), some (aI v6), some (aI w0)]) dX12_feed_76 rfl rfl (by decide) rfl ?_
  refine g_aload_n (pc' := 79) dX12_feed_78 rfl rfl ?_
  obtain ⟨h1, hf⟩ := chk_s hf
  refine g_getR (pc' := 82) 12 3 rfl rfl (by decide) inX12 (by decide) rfl rfl q_124 dX12_feed_79 rfl h1 ?_
  refine g_aload_n (pc' := 83) dX12_feed_82 rfl rfl ?_
  refine g_getI (pc' := 86) 12 5 rfl rfl (by decide) inX12 (by decide) rfl rfl q_168 dX12_feed_83 rfl h1 ?_
  refine g_iload (pc' := 88) dX12_feed_86 rfl rfl ?_
  refine g_bipush (pc' := 90) (24 : Int32) dX12_feed_88 rfl (by decide) ?_
  refine g_bipush (pc' := 92) (8 : Int32) dX12_feed_90 rfl (by decide) ?_
  refine g_iload (pc' := 94) dX12_feed_92 rfl rfl ?_
  refine g_iconst (pc' := 95) (4 : Int32) dX12_feed_94 rfl (by decide) ?_
  refine g_irem (pc' := 96) dX12_feed_95 rfl (by decide) ?_
  refine g_imul (pc' := 97) dX12_feed_96 rfl ?_
  refine g_isub (pc' := 98) dX12_feed_97 rfl ?_
  refine g_ishr (pc' := 99) dX12_feed_98 rfl ?_
  refine g_sipush (pc' := 102) (255 : Int32) dX12_feed_99 rfl (by decide) ?_
  refine g_iand (pc' := 103) dX12_feed_102 rfl ?_
  obtain ⟨h2, hf⟩ := chk_s hf
  obtain ⟨b3, hf⟩ := chk_s hf
  refine g_iast (pc' := 104) dX12_feed_103 rfl h2 (inB_in b3) (gM fun M4 hM4 => ?_)
  have hf := ap_eq hf hM4
  refine g_aload_n (pc' := 105) dX12_feed_104 rfl rfl ?_
  refine g_dup (pc' := 106) dX12_feed_105 rfl rfl ?_
  obtain ⟨h5, hf⟩ := chk_s hf
  refine g_getI (pc' := 109) 12 5 rfl rfl (by decide) inX12 (by decide) rfl rfl q_168 dX12_feed_106 rfl h5 ?_
  refine g_iconst (pc' := 110) (1 : Int32) dX12_feed_109 rfl (by decide) ?_
  refine g_iadd (pc' := 111) dX12_feed_110 rfl ?_
  refine g_putI (pc' := 114) 12 5 rfl rfl (by decide) inX12 tyX12_ok nmX12 (by decide) rfl rfl rfl rfl q_168 dX12_feed_111 rfl h5 (gM fun M6 hM6 => ?_)
  have hf := ap_eq hf hM6
  refine g_iinc (pc' := 117) (lv' := [some (aR v0), some (aI v1), some (aI v2), some (aI v3), some (aI v4), some (aI v5), some (aI (v6 + 1)), some (aI w0)]) (v6 + 1) dX12_feed_114 rfl rfl (by rfl) rfl (by decide) rfl ?_
  refine g_goto (pc' := 23) dX12_feed_117 (by decide) ?_
  refine g_mask [true, true, true, true, true, true, true, false] rfl ?_
  exact hk23 v0 v1 v2 v3 v4 v5 (v6 + 1) M6 _ hf
theorem s_X12_feed_23 : ∀ (n : Nat) (v0 : Nat) (v1 : Int32) (v2 : Int32) (v3 : Int32) (v4 : Int32) (v5 : Int32) (v6 : Int32) (M : Mem) (r : (Int32 × Mem)), f_X12_feed_23 n v0 v1 v2 v3 v4 v5 v6 M = some r → G mi_X12_feed 1 (oI r.1) r.2 23 [some (aR v0), some (aI v1), some (aI v2), some (aI v3), some (aI v4), some (aI v5), some (aI v6), none] [] M 0 0 := by
  intro n
  induction n with
  | zero => intro v0 v1 v2 v3 v4 v5 v6 M r hf; cases hf
  | succ n ih =>
    intro v0 v1 v2 v3 v4 v5 v6 M r hf
    unfold f_X12_feed_23 at hf
    refine g_iload (pc' := 25) dX12_feed_23 rfl rfl ?_
    refine g_bipush (pc' := 27) (20 : Int32) dX12_feed_25 rfl (by decide) ?_
    refine g_icmp_ge (pc' := 30) 120 dX12_feed_27 rfl (by decide) (fun c1 => ?_) (fun c1 => ?_)
    · have hf := ite_t c1 hf
      refine g_aload_n (pc' := 121) dX12_feed_120 rfl rfl ?_
      obtain ⟨h2, hf⟩ := chk_s hf
      refine g_getI (pc' := 124) 12 5 rfl rfl (by decide) inX12 (by decide) rfl rfl q_168 dX12_feed_121 rfl h2 ?_
      cases hf
      exact g_ireturn dX12_feed_124 rfl (Nat.le_of_ble_eq_true rfl) (Nat.le_of_ble_eq_true rfl)
    · have hf := ite_f c1 hf
      refine g_iload (pc' := 32) dX12_feed_30 rfl rfl ?_
      refine g_iconst (pc' := 33) (4 : Int32) dX12_feed_32 rfl (by decide) ?_
      refine g_icmp_ge (pc' := 36) 40 dX12_feed_33 rfl (by decide) (fun c3 => ?_) (fun c3 => ?_)
      · have hf := ite_t c3 hf
        refine g_iload (pc' := 42) dX12_feed_40 rfl rfl ?_
        refine g_bipush (pc' := 44) (8 : Int32) dX12_feed_42 rfl (by decide) ?_
        refine g_icmp_ge (pc' := 47) 51 dX12_feed_44 rfl (by decide) (fun c4 => ?_) (fun c4 => ?_)
        · have hf := ite_t c4 hf
          refine g_iload (pc' := 53) dX12_feed_51 rfl rfl ?_
          refine g_bipush (pc' := 55) (12 : Int32) dX12_feed_53 rfl (by decide) ?_
          refine g_icmp_ge (pc' := 58) 62 dX12_feed_55 rfl (by decide) (fun c5 => ?_) (fun c5 => ?_)
          · have hf := ite_t c5 hf
            refine g_iload (pc' := 64) dX12_feed_62 rfl rfl ?_
            refine g_bipush (pc' := 66) (16 : Int32) dX12_feed_64 rfl (by decide) ?_
            refine g_icmp_ge (pc' := 69) 74 dX12_feed_66 rfl (by decide) (fun c6 => ?_) (fun c6 => ?_)
            · have hf := ite_t c6 hf
              refine g_iload (pc' := 76) dX12_feed_74 rfl rfl ?_
              exact s_X12_feed_76 (f_X12_feed_23 n) ih v0 v1 v2 v3 v4 v5 v6 v5 M _ hf
            · have hf := ite_f c6 hf
              refine g_iload (pc' := 71) dX12_feed_69 rfl rfl ?_
              refine g_goto (pc' := 76) dX12_feed_71 (by decide) ?_
              exact s_X12_feed_76 (f_X12_feed_23 n) ih v0 v1 v2 v3 v4 v5 v6 v4 M _ hf
          · have hf := ite_f c5 hf
            refine g_iload_n (pc' := 59) dX12_feed_58 rfl rfl ?_
            refine g_goto (pc' := 76) dX12_feed_59 (by decide) ?_
            exact s_X12_feed_76 (f_X12_feed_23 n) ih v0 v1 v2 v3 v4 v5 v6 v3 M _ hf
        · have hf := ite_f c4 hf
          refine g_iload_n (pc' := 48) dX12_feed_47 rfl rfl ?_
          refine g_goto (pc' := 76) dX12_feed_48 (by decide) ?_
          exact s_X12_feed_76 (f_X12_feed_23 n) ih v0 v1 v2 v3 v4 v5 v6 v2 M _ hf
      · have hf := ite_f c3 hf
        refine g_iload_n (pc' := 37) dX12_feed_36 rfl rfl ?_
        refine g_goto (pc' := 76) dX12_feed_37 (by decide) ?_
        exact s_X12_feed_76 (f_X12_feed_23 n) ih v0 v1 v2 v3 v4 v5 v6 v1 M _ hf
theorem s_X12_feed (v0 : Nat) (v1 : Int32) (v2 : Int32) (v3 : Int32) (v4 : Int32) (v5 : Int32) (M : Mem) (r : (Int32 × Mem)) (hf : f_X12_feed v0 v1 v2 v3 v4 v5 M = some r) : Sem mi_X12_feed (1) [aR v0, aI v1, aI v2, aI v3, aI v4, aI v5] M (oI r.1) r.2 := by
  unfold f_X12_feed at hf
  refine sem_of (by decide) rfl rfl rfl (Nat.le_of_ble_eq_true rfl) (lv := [some (aR v0), some (aI v1), some (aI v2), some (aI v3), some (aI v4), some (aI v5), none, none]) rfl ?_
  refine g_aload_n (pc' := 1) dX12_feed_0 rfl rfl ?_
  refine g_iconst (pc' := 2) (0 : Int32) dX12_feed_1 rfl (by decide) ?_
  obtain ⟨h1, hf⟩ := chk_s hf
  refine g_putI (pc' := 5) 12 2 rfl rfl (by decide) inX12 tyX12_ok nmX12 (by decide) rfl rfl rfl rfl q_167 dX12_feed_2 rfl h1 (gM fun M2 hM2 => ?_)
  have hf := ap_eq hf hM2
  refine g_aload_n (pc' := 6) dX12_feed_5 rfl rfl ?_
  obtain ⟨h3, hf⟩ := chk_s hf
  refine g_getI (pc' := 9) 12 5 rfl rfl (by decide) inX12 (by decide) rfl rfl q_168 dX12_feed_6 rfl h3 ?_
  refine g_bipush (pc' := 11) (20 : Int32) dX12_feed_9 rfl (by decide) ?_
  refine g_iadd (pc' := 12) dX12_feed_11 rfl ?_
  refine g_sipush (pc' := 15) (700 : Int32) dX12_feed_12 rfl (by decide) ?_
  refine g_icmp_le (pc' := 18) 20 dX12_feed_15 rfl (by decide) (fun c4 => ?_) (fun c4 => ?_)
  · have hf := ite_t c4 hf
    refine g_iconst (pc' := 21) (0 : Int32) dX12_feed_20 rfl (by decide) ?_
    refine g_istore (pc' := 23) (lv' := [some (aR v0), some (aI v1), some (aI v2), some (aI v3), some (aI v4), some (aI v5), some (aI (0 : Int32)), none]) dX12_feed_21 rfl rfl (by decide) rfl ?_
    exact s_X12_feed_23 FUEL v0 v1 v2 v3 v4 v5 (0 : Int32) M2 _ hf
  · have hf := ite_f c4 hf
    refine g_iconst (pc' := 19) (-1 : Int32) dX12_feed_18 rfl (by decide) ?_
    cases hf
    exact g_ireturn dX12_feed_19 rfl (Nat.le_of_ble_eq_true rfl) (Nat.le_of_ble_eq_true rfl)
def f_X12_byteAt (v0 : Nat) (v1 : Int32) (M : Mem) : Option (Int32 × Mem) :=
  if mK M v0 = 13 then
    if (mI M v0 7) ≤ v1 then
      some ((-1 : Int32), M)
    else
      if mK M (mR M v0 3) = 21 then
        if inB v1 (mN M (mR M v0 3)) = true then
          some (mI M (mR M v0 3) v1.toNatClampNeg, M)
        else none
      else none
  else none
theorem s_X12_byteAt (v0 : Nat) (v1 : Int32) (M : Mem) (r : (Int32 × Mem)) (hf : f_X12_byteAt v0 v1 M = some r) : Sem mi_X12_byteAt (1) [aR v0, aI v1] M (oI r.1) r.2 := by
  unfold f_X12_byteAt at hf
  refine sem_of (by decide) rfl rfl rfl (Nat.le_of_ble_eq_true rfl) (lv := [some (aR v0), some (aI v1)]) rfl ?_
  refine g_iload_n (pc' := 1) dX12_byteAt_0 rfl rfl ?_
  refine g_aload_n (pc' := 2) dX12_byteAt_1 rfl rfl ?_
  obtain ⟨h1, hf⟩ := chk_s hf
  refine g_getI (pc' := 5) 12 7 rfl rfl (by decide) inX12 (by decide) rfl rfl q_371 dX12_byteAt_2 rfl h1 ?_
  refine g_icmp_ge (pc' := 8) 17 dX12_byteAt_5 rfl (by decide) (fun c2 => ?_) (fun c2 => ?_)
  · have hf := ite_t c2 hf
    refine g_iconst (pc' := 18) (-1 : Int32) dX12_byteAt_17 rfl (by decide) ?_
    cases hf
    exact g_ireturn dX12_byteAt_18 rfl (Nat.le_of_ble_eq_true rfl) (Nat.le_of_ble_eq_true rfl)
  · have hf := ite_f c2 hf
    refine g_aload_n (pc' := 9) dX12_byteAt_8 rfl rfl ?_
    refine g_getR (pc' := 12) 12 3 rfl rfl (by decide) inX12 (by decide) rfl rfl q_124 dX12_byteAt_9 rfl h1 ?_
    refine g_iload_n (pc' := 13) dX12_byteAt_12 rfl rfl ?_
    obtain ⟨h3, hf⟩ := chk_s hf
    obtain ⟨b4, hf⟩ := chk_s hf
    refine g_iald (pc' := 14) dX12_byteAt_13 rfl h3 (inB_in b4) ?_
    refine g_goto (pc' := 18) dX12_byteAt_14 (by decide) ?_
    cases hf
    exact g_ireturn dX12_byteAt_18 rfl (Nat.le_of_ble_eq_true rfl) (Nat.le_of_ble_eq_true rfl)
def f_X12_isLetter (v0 : Int32) (M : Mem) : Option (Int32 × Mem) :=
  if v0 < (97 : Int32) then
    some ((0 : Int32), M)
  else
    if (122 : Int32) < v0 then
      some ((0 : Int32), M)
    else
      some ((1 : Int32), M)
theorem s_X12_isLetter (v0 : Int32) (M : Mem) (r : (Int32 × Mem)) (hf : f_X12_isLetter v0 M = some r) : Sem mi_X12_isLetter (1) [aI v0] M (oI r.1) r.2 := by
  unfold f_X12_isLetter at hf
  refine sem_of (by decide) rfl rfl rfl (Nat.le_of_ble_eq_true rfl) (lv := [some (aI v0)]) rfl ?_
  refine g_iload_n (pc' := 1) dX12_isLetter_0 rfl rfl ?_
  refine g_bipush (pc' := 3) (97 : Int32) dX12_isLetter_1 rfl (by decide) ?_
  refine g_icmp_lt (pc' := 6) 16 dX12_isLetter_3 rfl (by decide) (fun c1 => ?_) (fun c1 => ?_)
  · have hf := ite_t c1 hf
    refine g_iconst (pc' := 17) (0 : Int32) dX12_isLetter_16 rfl (by decide) ?_
    cases hf
    exact g_zreturn dX12_isLetter_17 rfl (Or.inl rfl) (Nat.le_of_ble_eq_true rfl) (Nat.le_of_ble_eq_true rfl)
  · have hf := ite_f c1 hf
    refine g_iload_n (pc' := 7) dX12_isLetter_6 rfl rfl ?_
    refine g_bipush (pc' := 9) (122 : Int32) dX12_isLetter_7 rfl (by decide) ?_
    refine g_icmp_gt (pc' := 12) 16 dX12_isLetter_9 rfl (by decide) (fun c2 => ?_) (fun c2 => ?_)
    · have hf := ite_t c2 hf
      refine g_iconst (pc' := 17) (0 : Int32) dX12_isLetter_16 rfl (by decide) ?_
      cases hf
      exact g_zreturn dX12_isLetter_17 rfl (Or.inl rfl) (Nat.le_of_ble_eq_true rfl) (Nat.le_of_ble_eq_true rfl)
    · have hf := ite_f c2 hf
      refine g_iconst (pc' := 13) (1 : Int32) dX12_isLetter_12 rfl (by decide) ?_
      refine g_goto (pc' := 17) dX12_isLetter_13 (by decide) ?_
      cases hf
      exact g_zreturn dX12_isLetter_17 rfl (Or.inr rfl) (Nat.le_of_ble_eq_true rfl) (Nat.le_of_ble_eq_true rfl)
def f_X12_isDigit (v0 : Int32) (M : Mem) : Option (Int32 × Mem) :=
  if v0 < (48 : Int32) then
    some ((0 : Int32), M)
  else
    if (57 : Int32) < v0 then
      some ((0 : Int32), M)
    else
      some ((1 : Int32), M)
theorem s_X12_isDigit (v0 : Int32) (M : Mem) (r : (Int32 × Mem)) (hf : f_X12_isDigit v0 M = some r) : Sem mi_X12_isDigit (1) [aI v0] M (oI r.1) r.2 := by
  unfold f_X12_isDigit at hf
  refine sem_of (by decide) rfl rfl rfl (Nat.le_of_ble_eq_true rfl) (lv := [some (aI v0)]) rfl ?_
  refine g_iload_n (pc' := 1) dX12_isDigit_0 rfl rfl ?_
  refine g_bipush (pc' := 3) (48 : Int32) dX12_isDigit_1 rfl (by decide) ?_
  refine g_icmp_lt (pc' := 6) 16 dX12_isDigit_3 rfl (by decide) (fun c1 => ?_) (fun c1 => ?_)
  · have hf := ite_t c1 hf
    refine g_iconst (pc' := 17) (0 : Int32) dX12_isDigit_16 rfl (by decide) ?_
    cases hf
    exact g_zreturn dX12_isDigit_17 rfl (Or.inl rfl) (Nat.le_of_ble_eq_true rfl) (Nat.le_of_ble_eq_true rfl)
  · have hf := ite_f c1 hf
    refine g_iload_n (pc' := 7) dX12_isDigit_6 rfl rfl ?_
    refine g_bipush (pc' := 9) (57 : Int32) dX12_isDigit_7 rfl (by decide) ?_
    refine g_icmp_gt (pc' := 12) 16 dX12_isDigit_9 rfl (by decide) (fun c2 => ?_) (fun c2 => ?_)
    · have hf := ite_t c2 hf
      refine g_iconst (pc' := 17) (0 : Int32) dX12_isDigit_16 rfl (by decide) ?_
      cases hf
      exact g_zreturn dX12_isDigit_17 rfl (Or.inl rfl) (Nat.le_of_ble_eq_true rfl) (Nat.le_of_ble_eq_true rfl)
    · have hf := ite_f c2 hf
      refine g_iconst (pc' := 13) (1 : Int32) dX12_isDigit_12 rfl (by decide) ?_
      refine g_goto (pc' := 17) dX12_isDigit_13 (by decide) ?_
      cases hf
      exact g_zreturn dX12_isDigit_17 rfl (Or.inr rfl) (Nat.le_of_ble_eq_true rfl) (Nat.le_of_ble_eq_true rfl)
def f_X12_isMark_48  (M : Mem) : Option (Int32 × Mem) :=
  some ((1 : Int32), M)
def f_X12_isMark (v0 : Int32) (M : Mem) : Option (Int32 × Mem) :=
  if v0 = (59 : Int32) then
    f_X12_isMark_48 M
  else
    if v0 = (123 : Int32) then
      f_X12_isMark_48 M
    else
      if v0 = (125 : Int32) then
        f_X12_isMark_48 M
      else
        if v0 = (40 : Int32) then
          f_X12_isMark_48 M
        else
          if v0 = (41 : Int32) then
            f_X12_isMark_48 M
          else
            if v0 = (91 : Int32) then
              f_X12_isMark_48 M
            else
              if v0 = (93 : Int32) then
                f_X12_isMark_48 M
              else
                if v0 = (45 : Int32) then
                  f_X12_isMark_48 M
                else
                  some ((0 : Int32), M)
theorem s_X12_isMark_48  (M : Mem) (r : (Int32 × Mem)) (hf : f_X12_isMark_48  M = some r) : G mi_X12_isMark 1 (oI r.1) r.2 48 [none] [] M 0 0 := by
  unfold f_X12_isMark_48 at hf
  refine g_iconst (pc' := 49) (1 : Int32) dX12_isMark_48 rfl (by decide) ?_
  refine g_goto (pc' := 53) dX12_isMark_49 (by decide) ?_
  cases hf
  exact g_zreturn dX12_isMark_53 rfl (Or.inr rfl) (Nat.le_of_ble_eq_true rfl) (Nat.le_of_ble_eq_true rfl)
theorem s_X12_isMark (v0 : Int32) (M : Mem) (r : (Int32 × Mem)) (hf : f_X12_isMark v0 M = some r) : Sem mi_X12_isMark (1) [aI v0] M (oI r.1) r.2 := by
  unfold f_X12_isMark at hf
  refine sem_of (by decide) rfl rfl rfl (Nat.le_of_ble_eq_true rfl) (lv := [some (aI v0)]) rfl ?_
  refine g_iload_n (pc' := 1) dX12_isMark_0 rfl rfl ?_
  refine g_bipush (pc' := 3) (59 : Int32) dX12_isMark_1 rfl (by decide) ?_
  refine g_icmp_eq (pc' := 6) 48 dX12_isMark_3 rfl (by decide) (fun c1 => ?_) (fun c1 => ?_)
  · have hf := ite_t c1 hf
    refine g_mask [false] rfl ?_
    exact s_X12_isMark_48 M _ hf
  · have hf := ite_f c1 hf
    refine g_iload_n (pc' := 7) dX12_isMark_6 rfl rfl ?_
    refine g_bipush (pc' := 9) (123 : Int32) dX12_isMark_7 rfl (by decide) ?_
    refine g_icmp_eq (pc' := 12) 48 dX12_isMark_9 rfl (by decide) (fun c2 => ?_) (fun c2 => ?_)
    · have hf := ite_t c2 hf
      refine g_mask [false] rfl ?_
      exact s_X12_isMark_48 M _ hf
    · have hf := ite_f c2 hf
      refine g_iload_n (pc' := 13) dX12_isMark_12 rfl rfl ?_
      refine g_bipush (pc' := 15) (125 : Int32) dX12_isMark_13 rfl (by decide) ?_
      refine g_icmp_eq (pc' := 18) 48 dX12_isMark_15 rfl (by decide) (fun c3 => ?_) (fun c3 => ?_)
      · have hf := ite_t c3 hf
        refine g_mask [false] rfl ?_
        exact s_X12_isMark_48 M _ hf
      · have hf := ite_f c3 hf
        refine g_iload_n (pc' := 19) dX12_isMark_18 rfl rfl ?_
        refine g_bipush (pc' := 21) (40 : Int32) dX12_isMark_19 rfl (by decide) ?_
        refine g_icmp_eq (pc' := 24) 48 dX12_isMark_21 rfl (by decide) (fun c4 => ?_) (fun c4 => ?_)
        · have hf := ite_t c4 hf
          refine g_mask [false] rfl ?_
          exact s_X12_isMark_48 M _ hf
        · have hf := ite_f c4 hf
          refine g_iload_n (pc' := 25) dX12_isMark_24 rfl rfl ?_
          refine g_bipush (pc' := 27) (41 : Int32) dX12_isMark_25 rfl (by decide) ?_
          refine g_icmp_eq (pc' := 30) 48 dX12_isMark_27 rfl (by decide) (fun c5 => ?_) (fun c5 => ?_)
          · have hf := ite_t c5 hf
            refine g_mask [false] rfl ?_
            exact s_X12_isMark_48 M _ hf
          · have hf := ite_f c5 hf
            refine g_iload_n (pc' := 31) dX12_isMark_30 rfl rfl ?_
            refine g_bipush (pc' := 33) (91 : Int32) dX12_isMark_31 rfl (by decide) ?_
            refine g_icmp_eq (pc' := 36) 48 dX12_isMark_33 rfl (by decide) (fun c6 => ?_) (fun c6 => ?_)
            · have hf := ite_t c6 hf
              refine g_mask [false] rfl ?_
              exact s_X12_isMark_48 M _ hf
            · have hf := ite_f c6 hf
              refine g_iload_n (pc' := 37) dX12_isMark_36 rfl rfl ?_
              refine g_bipush (pc' := 39) (93 : Int32) dX12_isMark_37 rfl (by decide) ?_
              refine g_icmp_eq (pc' := 42) 48 dX12_isMark_39 rfl (by decide) (fun c7 => ?_) (fun c7 => ?_)
              · have hf := ite_t c7 hf
                refine g_mask [false] rfl ?_
                exact s_X12_isMark_48 M _ hf
              · have hf := ite_f c7 hf
                refine g_iload_n (pc' := 43) dX12_isMark_42 rfl rfl ?_
                refine g_bipush (pc' := 45) (45 : Int32) dX12_isMark_43 rfl (by decide) ?_
                refine g_icmp_ne (pc' := 48) 52 dX12_isMark_45 rfl (by decide) (fun c8 => ?_) (fun c8 => ?_)
                · have hf := ite_f c8 hf
                  refine g_iconst (pc' := 53) (0 : Int32) dX12_isMark_52 rfl (by decide) ?_
                  cases hf
                  exact g_zreturn dX12_isMark_53 rfl (Or.inl rfl) (Nat.le_of_ble_eq_true rfl) (Nat.le_of_ble_eq_true rfl)
                · have hf := ite_t c8 hf
                  refine g_mask [false] rfl ?_
                  exact s_X12_isMark_48 M _ hf
def f_X12_stepOn_212 (v0 : Nat) (M : Mem) : Option (Unit × Mem) :=
  if mK M v0 = 13 then
    ap (sI M v0 11 (mI M v0 6)) fun M2 =>
    some ((), M2)
  else none
def f_X12_stepOn_209 (v0 : Nat) (w0 : Nat) (w1 : Int32) (M : Mem) : Option (Unit × Mem) :=
  if mK M w0 = 13 then
    ap (sI M w0 8 w1) fun M2 =>
    f_X12_stepOn_212 v0 M2
  else none
def f_X12_stepOn_123 : Nat → Nat → Mem → Option (Unit × Mem)
  | 0, _, _ => none
  | n + 1, v0, M =>
    if mK M v0 = 13 then
      bnd (f_X12_byteAt v0 (mI M v0 6) M) fun r3 M2 =>
      bnd (f_X12_isDigit r3 M2) fun r5 M4 =>
      if r5 = 0 then
        if mK M4 v0 = 13 then
          ap (sI M4 v0 8 (2 : Int32)) fun M8 =>
          f_X12_stepOn_212 v0 M8
        else none
      else
        if mK M4 v0 = 13 then
          bnd (f_X12_byteAt v0 (mI M4 v0 6) M4) fun r11 M10 =>
          if mK M10 v0 = 13 then
            ap (sI M10 v0 9 (if ((((10 : Int32) * (mI M4 v0 9)) + r11) - (48 : Int32)) < (100000 : Int32) then ((((10 : Int32) * (mI M4 v0 9)) + r11) - (48 : Int32)) else (100000 : Int32))) fun M13 =>
            if mK M13 v0 = 13 then
              ap (sI M13 v0 6 ((mI M13 v0 6) + (1 : Int32))) fun M15 =>
              f_X12_stepOn_123 n v0 M15
            else none
          else none
        else none
    else none
def f_X12_stepOn_76 : Nat → Nat → Mem → Option (Unit × Mem)
  | 0, _, _ => none
  | n + 1, v0, M =>
    if mK M v0 = 13 then
      bnd (f_X12_byteAt v0 (mI M v0 6) M) fun r3 M2 =>
      bnd (f_X12_isLetter r3 M2) fun r5 M4 =>
      if r5 = 0 then
        if mK M4 v0 = 13 then
          ap (sI M4 v0 8 (1 : Int32)) fun M8 =>
          f_X12_stepOn_212 v0 M8
        else none
      else
        if mK M4 v0 = 13 then
          ap (sI M4 v0 6 ((mI M4 v0 6) + (1 : Int32))) fun M10 =>
          f_X12_stepOn_76 n v0 M10
        else none
    else none
def f_X12_stepOn_26 (k0 : Nat → Mem → Option (Unit × Mem)) (v0 : Nat) (M : Mem) : Option (Unit × Mem) :=
  if mK M v0 = 13 then
    ap (sI M v0 6 ((mI M v0 6) + (1 : Int32))) fun M2 =>
    k0 v0 M2
  else none
def f_X12_stepOn_0 : Nat → Nat → Mem → Option (Unit × Mem)
  | 0, _, _ => none
  | n + 1, v0, M =>
    if mK M v0 = 13 then
      bnd (f_X12_byteAt v0 (mI M v0 6) M) fun r3 M2 =>
      if r3 = (32 : Int32) then
        f_X12_stepOn_26 (f_X12_stepOn_0 n) v0 M2
      else
        if mK M2 v0 = 13 then
          bnd (f_X12_byteAt v0 (mI M2 v0 6) M2) fun r7 M6 =>
          if r7 = (10 : Int32) then
            f_X12_stepOn_26 (f_X12_stepOn_0 n) v0 M6
          else
            if mK M6 v0 = 13 then
              ap (sI M6 v0 10 (mI M6 v0 6)) fun M10 =>
              if mK M10 v0 = 13 then
                bnd (f_X12_byteAt v0 (mI M10 v0 6) M10) fun r13 M12 =>
                if r13 = (-1 : Int32) then
                  if mK M12 v0 = 13 then
                    ap (sI M12 v0 8 (0 : Int32)) fun M29 =>
                    f_X12_stepOn_212 v0 M29
                  else none
                else
                  bnd (f_X12_isLetter r13 M12) fun r16 M15 =>
                  if r16 = 0 then
                    bnd (f_X12_isDigit r13 M15) fun r19 M18 =>
                    if r19 = 0 then
                      if mK M18 v0 = 13 then
                        ap (sI M18 v0 6 ((mI M18 v0 6) + (1 : Int32))) fun M22 =>
                        bnd (f_X12_isMark r13 M22) fun r24 M23 =>
                        if r24 = 0 then
                          f_X12_stepOn_209 v0 v0 (4 : Int32) M23
                        else
                          f_X12_stepOn_209 v0 v0 (3 : Int32) M23
                      else none
                    else
                      if mK M18 v0 = 13 then
                        ap (sI M18 v0 9 (0 : Int32)) fun M27 =>
                        f_X12_stepOn_123 FUEL v0 M27
                      else none
                  else
                    f_X12_stepOn_76 FUEL v0 M15
              else none
            else none
        else none
    else none
def f_X12_stepOn (v0 : Nat) (M : Mem) : Option (Unit × Mem) :=
  f_X12_stepOn_0 FUEL v0 M
theorem s_X12_stepOn_212 (v0 : Nat) (M : Mem) (r : (Unit × Mem)) (hf : f_X12_stepOn_212 v0 M = some r) : G mi_X12_stepOn 2 (oU r.1) r.2 212 [some (aR v0), none] [] M 0 0 := by
  unfold f_X12_stepOn_212 at hf
  refine g_aload_n (pc' := 213) dX12_stepOn_212 rfl rfl ?_
  refine g_aload_n (pc' := 214) dX12_stepOn_213 rfl rfl ?_
  obtain ⟨h1, hf⟩ := chk_s hf
  refine g_getI (pc' := 217) 12 6 rfl rfl (by decide) inX12 (by decide) rfl rfl q_372 dX12_stepOn_214 rfl h1 ?_
  refine g_putI (pc' := 220) 12 11 rfl rfl (by decide) inX12 tyX12_ok nmX12 (by decide) rfl rfl rfl rfl q_390 dX12_stepOn_217 rfl h1 (gM fun M2 hM2 => ?_)
  have hf := ap_eq hf hM2
  cases hf
  exact g_return dX12_stepOn_220 rfl (Nat.le_of_ble_eq_true rfl) (Nat.le_of_ble_eq_true rfl)
theorem s_X12_stepOn_209 (v0 : Nat) (w0 : Nat) (w1 : Int32) (M : Mem) (r : (Unit × Mem)) (hf : f_X12_stepOn_209 v0 w0 w1 M = some r) : G mi_X12_stepOn 2 (oU r.1) r.2 209 [some (aR v0), none] [aI w1, aR w0] M 0 0 := by
  unfold f_X12_stepOn_209 at hf
  obtain ⟨h1, hf⟩ := chk_s hf
  refine g_putI (pc' := 212) 12 8 rfl rfl (by decide) inX12 tyX12_ok nmX12 (by decide) rfl rfl rfl rfl q_383 dX12_stepOn_209 rfl h1 (gM fun M2 hM2 => ?_)
  have hf := ap_eq hf hM2
  exact s_X12_stepOn_212 v0 M2 _ hf
theorem s_X12_stepOn_123 : ∀ (n : Nat) (v0 : Nat) (M : Mem) (r : (Unit × Mem)), f_X12_stepOn_123 n v0 M = some r → G mi_X12_stepOn 2 (oU r.1) r.2 123 [some (aR v0), none] [] M 0 0 := by
  intro n
  induction n with
  | zero => intro v0 M r hf; cases hf
  | succ n ih =>
    intro v0 M r hf
    unfold f_X12_stepOn_123 at hf
    refine g_aload_n (pc' := 124) dX12_stepOn_123 rfl rfl ?_
    refine g_aload_n (pc' := 125) dX12_stepOn_124 rfl rfl ?_
    obtain ⟨h1, hf⟩ := chk_s hf
    refine g_getI (pc' := 128) 12 6 rfl rfl (by decide) inX12 (by decide) rfl rfl q_372 dX12_stepOn_125 rfl h1 ?_
    obtain ⟨r3, M2, e3, hf⟩ := bnd_some hf
    refine g_callVi (pc' := 131) (k' := 0) (u' := 0) (fr2 := 1) (As := [aI (mI M v0 6)]) (b := v0) (st := []) cf_X12_byteAt q_391 (by omega) (ci := 12) rfl rfl (by decide) dX12_stepOn_128 rfl rfl rfl (Nat.le_of_ble_eq_true rfl) (Or.inl rfl) (Nat.le_refl _) (Nat.le_refl _) (Nat.le_refl _) (Nat.le_refl _) h1 (s_X12_byteAt v0 (mI M v0 6) M _ e3) ?_
    obtain ⟨r5, M4, e5, hf⟩ := bnd_some hf
    refine g_callSi (pc' := 134) (k' := 0) (u' := 0) (fr2 := 1) (As := [aI r3]) (st := []) cf_X12_isDigit q_398 (by omega) dX12_stepOn_131 rfl rfl rfl (Nat.le_of_ble_eq_true rfl) (Or.inl rfl) (Nat.le_refl _) (Nat.le_refl _) (Nat.le_refl _) (Nat.le_refl _) (s_X12_isDigit r3 M2 _ e5) ?_
    refine g_if_eq (pc' := 137) 178 dX12_stepOn_134 rfl (by decide) (fun c6 => ?_) (fun c6 => ?_)
    · have hf := ite_t c6 hf
      refine g_aload_n (pc' := 179) dX12_stepOn_178 rfl rfl ?_
      refine g_iconst (pc' := 180) (2 : Int32) dX12_stepOn_179 rfl (by decide) ?_
      obtain ⟨h7, hf⟩ := chk_s hf
      refine g_putI (pc' := 183) 12 8 rfl rfl (by decide) inX12 tyX12_ok nmX12 (by decide) rfl rfl rfl rfl q_383 dX12_stepOn_180 rfl h7 (gM fun M8 hM8 => ?_)
      have hf := ap_eq hf hM8
      refine g_goto (pc' := 212) dX12_stepOn_183 (by decide) ?_
      refine g_widen (k' := 0) (u' := 0) (by omega) (by omega) ?_
      exact s_X12_stepOn_212 v0 M8 _ hf
    · have hf := ite_f c6 hf
      refine g_aload_n (pc' := 138) dX12_stepOn_137 rfl rfl ?_
      refine g_ldc (pc' := 140) (v := (100000 : Int32)) dX12_stepOn_138 rfl q_385 ?_
      refine g_bipush (pc' := 142) (10 : Int32) dX12_stepOn_140 rfl (by decide) ?_
      refine g_aload_n (pc' := 143) dX12_stepOn_142 rfl rfl ?_
      obtain ⟨h9, hf⟩ := chk_s hf
      refine g_getI (pc' := 146) 12 9 rfl rfl (by decide) inX12 (by decide) rfl rfl q_384 dX12_stepOn_143 rfl h9 ?_
      refine g_imul (pc' := 147) dX12_stepOn_146 rfl ?_
      refine g_aload_n (pc' := 148) dX12_stepOn_147 rfl rfl ?_
      refine g_aload_n (pc' := 149) dX12_stepOn_148 rfl rfl ?_
      refine g_getI (pc' := 152) 12 6 rfl rfl (by decide) inX12 (by decide) rfl rfl q_372 dX12_stepOn_149 rfl h9 ?_
      obtain ⟨r11, M10, e11, hf⟩ := bnd_some hf
      refine g_callVi (pc' := 155) (k' := 0) (u' := 0) (fr2 := 1) (As := [aI (mI M4 v0 6)]) (b := v0) (st := [aI ((10 : Int32) * (mI M4 v0 9)), aI (100000 : Int32), aR v0]) cf_X12_byteAt q_391 (by omega) (ci := 12) rfl rfl (by decide) dX12_stepOn_152 rfl rfl rfl (Nat.le_of_ble_eq_true rfl) (Or.inl rfl) (Nat.le_refl _) (Nat.le_refl _) (Nat.le_refl _) (Nat.le_refl _) h9 (s_X12_byteAt v0 (mI M4 v0 6) M4 _ e11) ?_
      refine g_iadd (pc' := 156) dX12_stepOn_155 rfl ?_
      refine g_bipush (pc' := 158) (48 : Int32) dX12_stepOn_156 rfl (by decide) ?_
      refine g_isub (pc' := 159) dX12_stepOn_158 rfl ?_
      refine g_min (pc' := 162) q_386 q_387 wall_i_java_lang_Math q_389 (by omega) (Nat.le_of_ble_eq_true rfl) (Nat.le_of_ble_eq_true rfl) (Nat.le_of_ble_eq_true rfl) dX12_stepOn_159 rfl ?_
      obtain ⟨h12, hf⟩ := chk_s hf
      refine g_putI (pc' := 165) 12 9 rfl rfl (by decide) inX12 tyX12_ok nmX12 (by decide) rfl rfl rfl rfl q_384 dX12_stepOn_162 rfl h12 (gM fun M13 hM13 => ?_)
      have hf := ap_eq hf hM13
      refine g_aload_n (pc' := 166) dX12_stepOn_165 rfl rfl ?_
      refine g_dup (pc' := 167) dX12_stepOn_166 rfl rfl ?_
      obtain ⟨h14, hf⟩ := chk_s hf
      refine g_getI (pc' := 170) 12 6 rfl rfl (by decide) inX12 (by decide) rfl rfl q_372 dX12_stepOn_167 rfl h14 ?_
      refine g_iconst (pc' := 171) (1 : Int32) dX12_stepOn_170 rfl (by decide) ?_
      refine g_iadd (pc' := 172) dX12_stepOn_171 rfl ?_
      refine g_putI (pc' := 175) 12 6 rfl rfl (by decide) inX12 tyX12_ok nmX12 (by decide) rfl rfl rfl rfl q_372 dX12_stepOn_172 rfl h14 (gM fun M15 hM15 => ?_)
      have hf := ap_eq hf hM15
      refine g_goto (pc' := 123) dX12_stepOn_175 (by decide) ?_
      refine g_widen (k' := 0) (u' := 0) (by omega) (by omega) ?_
      exact ih v0 M15 _ hf
theorem s_X12_stepOn_76 : ∀ (n : Nat) (v0 : Nat) (M : Mem) (r : (Unit × Mem)), f_X12_stepOn_76 n v0 M = some r → G mi_X12_stepOn 2 (oU r.1) r.2 76 [some (aR v0), none] [] M 0 0 := by
  intro n
  induction n with
  | zero => intro v0 M r hf; cases hf
  | succ n ih =>
    intro v0 M r hf
    unfold f_X12_stepOn_76 at hf
    refine g_aload_n (pc' := 77) dX12_stepOn_76 rfl rfl ?_
    refine g_aload_n (pc' := 78) dX12_stepOn_77 rfl rfl ?_
    obtain ⟨h1, hf⟩ := chk_s hf
    refine g_getI (pc' := 81) 12 6 rfl rfl (by decide) inX12 (by decide) rfl rfl q_372 dX12_stepOn_78 rfl h1 ?_
    obtain ⟨r3, M2, e3, hf⟩ := bnd_some hf
    refine g_callVi (pc' := 84) (k' := 0) (u' := 0) (fr2 := 1) (As := [aI (mI M v0 6)]) (b := v0) (st := []) cf_X12_byteAt q_391 (by omega) (ci := 12) rfl rfl (by decide) dX12_stepOn_81 rfl rfl rfl (Nat.le_of_ble_eq_true rfl) (Or.inl rfl) (Nat.le_refl _) (Nat.le_refl _) (Nat.le_refl _) (Nat.le_refl _) h1 (s_X12_byteAt v0 (mI M v0 6) M _ e3) ?_
    obtain ⟨r5, M4, e5, hf⟩ := bnd_some hf
    refine g_callSi (pc' := 87) (k' := 0) (u' := 0) (fr2 := 1) (As := [aI r3]) (st := []) cf_X12_isLetter q_395 (by omega) dX12_stepOn_84 rfl rfl rfl (Nat.le_of_ble_eq_true rfl) (Or.inl rfl) (Nat.le_refl _) (Nat.le_refl _) (Nat.le_refl _) (Nat.le_refl _) (s_X12_isLetter r3 M2 _ e5) ?_
    refine g_if_eq (pc' := 90) 103 dX12_stepOn_87 rfl (by decide) (fun c6 => ?_) (fun c6 => ?_)
    · have hf := ite_t c6 hf
      refine g_aload_n (pc' := 104) dX12_stepOn_103 rfl rfl ?_
      refine g_iconst (pc' := 105) (1 : Int32) dX12_stepOn_104 rfl (by decide) ?_
      obtain ⟨h7, hf⟩ := chk_s hf
      refine g_putI (pc' := 108) 12 8 rfl rfl (by decide) inX12 tyX12_ok nmX12 (by decide) rfl rfl rfl rfl q_383 dX12_stepOn_105 rfl h7 (gM fun M8 hM8 => ?_)
      have hf := ap_eq hf hM8
      refine g_goto (pc' := 212) dX12_stepOn_108 (by decide) ?_
      refine g_widen (k' := 0) (u' := 0) (by omega) (by omega) ?_
      exact s_X12_stepOn_212 v0 M8 _ hf
    · have hf := ite_f c6 hf
      refine g_aload_n (pc' := 91) dX12_stepOn_90 rfl rfl ?_
      refine g_dup (pc' := 92) dX12_stepOn_91 rfl rfl ?_
      obtain ⟨h9, hf⟩ := chk_s hf
      refine g_getI (pc' := 95) 12 6 rfl rfl (by decide) inX12 (by decide) rfl rfl q_372 dX12_stepOn_92 rfl h9 ?_
      refine g_iconst (pc' := 96) (1 : Int32) dX12_stepOn_95 rfl (by decide) ?_
      refine g_iadd (pc' := 97) dX12_stepOn_96 rfl ?_
      refine g_putI (pc' := 100) 12 6 rfl rfl (by decide) inX12 tyX12_ok nmX12 (by decide) rfl rfl rfl rfl q_372 dX12_stepOn_97 rfl h9 (gM fun M10 hM10 => ?_)
      have hf := ap_eq hf hM10
      refine g_goto (pc' := 76) dX12_stepOn_100 (by decide) ?_
      refine g_widen (k' := 0) (u' := 0) (by omega) (by omega) ?_
      exact ih v0 M10 _ hf
theorem s_X12_stepOn_26 (k0 : Nat → Mem → Option (Unit × Mem)) (hk0 : ∀ (v0 : Nat) (M : Mem) (r : (Unit × Mem)), k0 v0 M = some r → G mi_X12_stepOn 2 (oU r.1) r.2 0 [some (aR v0), none] [] M 0 0) (v0 : Nat) (M : Mem) (r : (Unit × Mem)) (hf : f_X12_stepOn_26 k0 v0 M = some r) : G mi_X12_stepOn 2 (oU r.1) r.2 26 [some (aR v0), none] [] M 0 0 := by
  unfold f_X12_stepOn_26 at hf
  refine g_aload_n (pc' := 27) dX12_stepOn_26 rfl rfl ?_
  refine g_dup (pc' := 28) dX12_stepOn_27 rfl rfl ?_
  obtain ⟨h1, hf⟩ := chk_s hf
  refine g_getI (pc' := 31) 12 6 rfl rfl (by decide) inX12 (by decide) rfl rfl q_372 dX12_stepOn_28 rfl h1 ?_
  refine g_iconst (pc' := 32) (1 : Int32) dX12_stepOn_31 rfl (by decide) ?_
  refine g_iadd (pc' := 33) dX12_stepOn_32 rfl ?_
  refine g_putI (pc' := 36) 12 6 rfl rfl (by decide) inX12 tyX12_ok nmX12 (by decide) rfl rfl rfl rfl q_372 dX12_stepOn_33 rfl h1 (gM fun M2 hM2 => ?_)
  have hf := ap_eq hf hM2
  refine g_goto (pc' := 0) dX12_stepOn_36 (by decide) ?_
  exact hk0 v0 M2 _ hf
theorem s_X12_stepOn_0 : ∀ (n : Nat) (v0 : Nat) (M : Mem) (r : (Unit × Mem)), f_X12_stepOn_0 n v0 M = some r → G mi_X12_stepOn 2 (oU r.1) r.2 0 [some (aR v0), none] [] M 0 0 := by
  intro n
  induction n with
  | zero => intro v0 M r hf; cases hf
  | succ n ih =>
    intro v0 M r hf
    unfold f_X12_stepOn_0 at hf
    refine g_aload_n (pc' := 1) dX12_stepOn_0 rfl rfl ?_
    refine g_aload_n (pc' := 2) dX12_stepOn_1 rfl rfl ?_
    obtain ⟨h1, hf⟩ := chk_s hf
    refine g_getI (pc' := 5) 12 6 rfl rfl (by decide) inX12 (by decide) rfl rfl q_372 dX12_stepOn_2 rfl h1 ?_
    obtain ⟨r3, M2, e3, hf⟩ := bnd_some hf
    refine g_callVi (pc' := 8) (k' := 0) (u' := 0) (fr2 := 1) (As := [aI (mI M v0 6)]) (b := v0) (st := []) cf_X12_byteAt q_391 (by omega) (ci := 12) rfl rfl (by decide) dX12_stepOn_5 rfl rfl rfl (Nat.le_of_ble_eq_true rfl) (Or.inl rfl) (Nat.le_refl _) (Nat.le_refl _) (Nat.le_refl _) (Nat.le_refl _) h1 (s_X12_byteAt v0 (mI M v0 6) M _ e3) ?_
    refine g_bipush (pc' := 10) (32 : Int32) dX12_stepOn_8 rfl (by decide) ?_
    refine g_icmp_eq (pc' := 13) 26 dX12_stepOn_10 rfl (by decide) (fun c4 => ?_) (fun c4 => ?_)
    · have hf := ite_t c4 hf
      refine g_widen (k' := 0) (u' := 0) (by omega) (by omega) ?_
      exact s_X12_stepOn_26 (f_X12_stepOn_0 n) ih v0 M2 _ hf
    · have hf := ite_f c4 hf
      refine g_aload_n (pc' := 14) dX12_stepOn_13 rfl rfl ?_
      refine g_aload_n (pc' := 15) dX12_stepOn_14 rfl rfl ?_
      obtain ⟨h5, hf⟩ := chk_s hf
      refine g_getI (pc' := 18) 12 6 rfl rfl (by decide) inX12 (by decide) rfl rfl q_372 dX12_stepOn_15 rfl h5 ?_
      obtain ⟨r7, M6, e7, hf⟩ := bnd_some hf
      refine g_callVi (pc' := 21) (k' := 0) (u' := 0) (fr2 := 1) (As := [aI (mI M2 v0 6)]) (b := v0) (st := []) cf_X12_byteAt q_391 (by omega) (ci := 12) rfl rfl (by decide) dX12_stepOn_18 rfl rfl rfl (Nat.le_of_ble_eq_true rfl) (Or.inl rfl) (Nat.le_refl _) (Nat.le_refl _) (Nat.le_refl _) (Nat.le_refl _) h5 (s_X12_byteAt v0 (mI M2 v0 6) M2 _ e7) ?_
      refine g_bipush (pc' := 23) (10 : Int32) dX12_stepOn_21 rfl (by decide) ?_
      refine g_icmp_ne (pc' := 26) 39 dX12_stepOn_23 rfl (by decide) (fun c8 => ?_) (fun c8 => ?_)
      · have hf := ite_f c8 hf
        refine g_aload_n (pc' := 40) dX12_stepOn_39 rfl rfl ?_
        refine g_aload_n (pc' := 41) dX12_stepOn_40 rfl rfl ?_
        obtain ⟨h9, hf⟩ := chk_s hf
        refine g_getI (pc' := 44) 12 6 rfl rfl (by decide) inX12 (by decide) rfl rfl q_372 dX12_stepOn_41 rfl h9 ?_
        refine g_putI (pc' := 47) 12 10 rfl rfl (by decide) inX12 tyX12_ok nmX12 (by decide) rfl rfl rfl rfl q_382 dX12_stepOn_44 rfl h9 (gM fun M10 hM10 => ?_)
        have hf := ap_eq hf hM10
        refine g_aload_n (pc' := 48) dX12_stepOn_47 rfl rfl ?_
        refine g_aload_n (pc' := 49) dX12_stepOn_48 rfl rfl ?_
        obtain ⟨h11, hf⟩ := chk_s hf
        refine g_getI (pc' := 52) 12 6 rfl rfl (by decide) inX12 (by decide) rfl rfl q_372 dX12_stepOn_49 rfl h11 ?_
        obtain ⟨r13, M12, e13, hf⟩ := bnd_some hf
        refine g_callVi (pc' := 55) (k' := 0) (u' := 0) (fr2 := 1) (As := [aI (mI M10 v0 6)]) (b := v0) (st := []) cf_X12_byteAt q_391 (by omega) (ci := 12) rfl rfl (by decide) dX12_stepOn_52 rfl rfl rfl (Nat.le_of_ble_eq_true rfl) (Or.inl rfl) (Nat.le_refl _) (Nat.le_refl _) (Nat.le_refl _) (Nat.le_refl _) h11 (s_X12_byteAt v0 (mI M10 v0 6) M10 _ e13) ?_
        refine g_istore_n (pc' := 56) (lv' := [some (aR v0), some (aI r13)]) dX12_stepOn_55 rfl rfl (by decide) rfl ?_
        refine g_iload_n (pc' := 57) dX12_stepOn_56 rfl rfl ?_
        refine g_iconst (pc' := 58) (-1 : Int32) dX12_stepOn_57 rfl (by decide) ?_
        refine g_icmp_ne (pc' := 61) 69 dX12_stepOn_58 rfl (by decide) (fun c14 => ?_) (fun c14 => ?_)
        · have hf := ite_f c14 hf
          refine g_iload_n (pc' := 70) dX12_stepOn_69 rfl rfl ?_
          obtain ⟨r16, M15, e16, hf⟩ := bnd_some hf
          refine g_callSi (pc' := 73) (k' := 0) (u' := 0) (fr2 := 1) (As := [aI r13]) (st := []) cf_X12_isLetter q_395 (by omega) dX12_stepOn_70 rfl rfl rfl (Nat.le_of_ble_eq_true rfl) (Or.inl rfl) (Nat.le_refl _) (Nat.le_refl _) (Nat.le_refl _) (Nat.le_refl _) (s_X12_isLetter r13 M12 _ e16) ?_
          refine g_if_eq (pc' := 76) 111 dX12_stepOn_73 rfl (by decide) (fun c17 => ?_) (fun c17 => ?_)
          · have hf := ite_t c17 hf
            refine g_iload_n (pc' := 112) dX12_stepOn_111 rfl rfl ?_
            obtain ⟨r19, M18, e19, hf⟩ := bnd_some hf
            refine g_callSi (pc' := 115) (k' := 0) (u' := 0) (fr2 := 1) (As := [aI r13]) (st := []) cf_X12_isDigit q_398 (by omega) dX12_stepOn_112 rfl rfl rfl (Nat.le_of_ble_eq_true rfl) (Or.inl rfl) (Nat.le_refl _) (Nat.le_refl _) (Nat.le_refl _) (Nat.le_refl _) (s_X12_isDigit r13 M15 _ e19) ?_
            refine g_if_eq (pc' := 118) 186 dX12_stepOn_115 rfl (by decide) (fun c20 => ?_) (fun c20 => ?_)
            · have hf := ite_t c20 hf
              refine g_aload_n (pc' := 187) dX12_stepOn_186 rfl rfl ?_
              refine g_dup (pc' := 188) dX12_stepOn_187 rfl rfl ?_
              obtain ⟨h21, hf⟩ := chk_s hf
              refine g_getI (pc' := 191) 12 6 rfl rfl (by decide) inX12 (by decide) rfl rfl q_372 dX12_stepOn_188 rfl h21 ?_
              refine g_iconst (pc' := 192) (1 : Int32) dX12_stepOn_191 rfl (by decide) ?_
              refine g_iadd (pc' := 193) dX12_stepOn_192 rfl ?_
              refine g_putI (pc' := 196) 12 6 rfl rfl (by decide) inX12 tyX12_ok nmX12 (by decide) rfl rfl rfl rfl q_372 dX12_stepOn_193 rfl h21 (gM fun M22 hM22 => ?_)
              have hf := ap_eq hf hM22
              refine g_aload_n (pc' := 197) dX12_stepOn_196 rfl rfl ?_
              refine g_iload_n (pc' := 198) dX12_stepOn_197 rfl rfl ?_
              obtain ⟨r24, M23, e24, hf⟩ := bnd_some hf
              refine g_callSi (pc' := 201) (k' := 0) (u' := 0) (fr2 := 1) (As := [aI r13]) (st := [aR v0]) cf_X12_isMark q_401 (by omega) dX12_stepOn_198 rfl rfl rfl (Nat.le_of_ble_eq_true rfl) (Or.inl rfl) (Nat.le_refl _) (Nat.le_refl _) (Nat.le_refl _) (Nat.le_refl _) (s_X12_isMark r13 M22 _ e24) ?_
              refine g_if_eq (pc' := 204) 208 dX12_stepOn_201 rfl (by decide) (fun c25 => ?_) (fun c25 => ?_)
              · have hf := ite_t c25 hf
                refine g_iconst (pc' := 209) (4 : Int32) dX12_stepOn_208 rfl (by decide) ?_
                refine g_mask [true, false] rfl ?_
                refine g_widen (k' := 0) (u' := 0) (by omega) (by omega) ?_
                exact s_X12_stepOn_209 v0 v0 (4 : Int32) M23 _ hf
              · have hf := ite_f c25 hf
                refine g_iconst (pc' := 205) (3 : Int32) dX12_stepOn_204 rfl (by decide) ?_
                refine g_goto (pc' := 209) dX12_stepOn_205 (by decide) ?_
                refine g_mask [true, false] rfl ?_
                refine g_widen (k' := 0) (u' := 0) (by omega) (by omega) ?_
                exact s_X12_stepOn_209 v0 v0 (3 : Int32) M23 _ hf
            · have hf := ite_f c20 hf
              refine g_aload_n (pc' := 119) dX12_stepOn_118 rfl rfl ?_
              refine g_iconst (pc' := 120) (0 : Int32) dX12_stepOn_119 rfl (by decide) ?_
              obtain ⟨h26, hf⟩ := chk_s hf
              refine g_putI (pc' := 123) 12 9 rfl rfl (by decide) inX12 tyX12_ok nmX12 (by decide) rfl rfl rfl rfl q_384 dX12_stepOn_120 rfl h26 (gM fun M27 hM27 => ?_)
              have hf := ap_eq hf hM27
              refine g_mask [true, false] rfl ?_
              refine g_widen (k' := 0) (u' := 0) (by omega) (by omega) ?_
              exact s_X12_stepOn_123 FUEL v0 M27 _ hf
          · have hf := ite_f c17 hf
            refine g_mask [true, false] rfl ?_
            refine g_widen (k' := 0) (u' := 0) (by omega) (by omega) ?_
            exact s_X12_stepOn_76 FUEL v0 M15 _ hf
        · have hf := ite_t c14 hf
          refine g_aload_n (pc' := 62) dX12_stepOn_61 rfl rfl ?_
          refine g_iconst (pc' := 63) (0 : Int32) dX12_stepOn_62 rfl (by decide) ?_
          obtain ⟨h28, hf⟩ := chk_s hf
          refine g_putI (pc' := 66) 12 8 rfl rfl (by decide) inX12 tyX12_ok nmX12 (by decide) rfl rfl rfl rfl q_383 dX12_stepOn_63 rfl h28 (gM fun M29 hM29 => ?_)
          have hf := ap_eq hf hM29
          refine g_goto (pc' := 212) dX12_stepOn_66 (by decide) ?_
          refine g_mask [true, false] rfl ?_
          refine g_widen (k' := 0) (u' := 0) (by omega) (by omega) ?_
          exact s_X12_stepOn_212 v0 M29 _ hf
      · have hf := ite_t c8 hf
        refine g_widen (k' := 0) (u' := 0) (by omega) (by omega) ?_
        exact s_X12_stepOn_26 (f_X12_stepOn_0 n) ih v0 M6 _ hf
theorem s_X12_stepOn (v0 : Nat) (M : Mem) (r : (Unit × Mem)) (hf : f_X12_stepOn v0 M = some r) : Sem mi_X12_stepOn (2) [aR v0] M (oU r.1) r.2 := by
  unfold f_X12_stepOn at hf
  refine sem_of (by decide) rfl rfl rfl (Nat.le_of_ble_eq_true rfl) (lv := [some (aR v0), none]) rfl ?_
  exact s_X12_stepOn_0 FUEL v0 M _ hf
def f_X12_wrong (v0 : Nat) (v1 : Int32) (M : Mem) : Option (Unit × Mem) :=
  if mK M v0 = 13 then
    if (mI M v0 12) = 0 then
      ap (sI M v0 12 v1) fun M3 =>
      if mK M3 v0 = 13 then
        ap (sI M3 v0 13 (mI M3 v0 10)) fun M5 =>
        some ((), M5)
      else none
    else
      some ((), M)
  else none
theorem s_X12_wrong (v0 : Nat) (v1 : Int32) (M : Mem) (r : (Unit × Mem)) (hf : f_X12_wrong v0 v1 M = some r) : Sem mi_X12_wrong (1) [aR v0, aI v1] M (oU r.1) r.2 := by
  unfold f_X12_wrong at hf
  refine sem_of (by decide) rfl rfl rfl (Nat.le_of_ble_eq_true rfl) (lv := [some (aR v0), some (aI v1)]) rfl ?_
  refine g_aload_n (pc' := 1) dX12_wrong_0 rfl rfl ?_
  obtain ⟨h1, hf⟩ := chk_s hf
  refine g_getI (pc' := 4) 12 12 rfl rfl (by decide) inX12 (by decide) rfl rfl q_362 dX12_wrong_1 rfl h1 ?_
  refine g_if_eq (pc' := 7) 8 dX12_wrong_4 rfl (by decide) (fun c2 => ?_) (fun c2 => ?_)
  · have hf := ite_t c2 hf
    refine g_aload_n (pc' := 9) dX12_wrong_8 rfl rfl ?_
    refine g_iload_n (pc' := 10) dX12_wrong_9 rfl rfl ?_
    refine g_putI (pc' := 13) 12 12 rfl rfl (by decide) inX12 tyX12_ok nmX12 (by decide) rfl rfl rfl rfl q_362 dX12_wrong_10 rfl h1 (gM fun M3 hM3 => ?_)
    have hf := ap_eq hf hM3
    refine g_aload_n (pc' := 14) dX12_wrong_13 rfl rfl ?_
    refine g_aload_n (pc' := 15) dX12_wrong_14 rfl rfl ?_
    obtain ⟨h4, hf⟩ := chk_s hf
    refine g_getI (pc' := 18) 12 10 rfl rfl (by decide) inX12 (by decide) rfl rfl q_382 dX12_wrong_15 rfl h4 ?_
    refine g_putI (pc' := 21) 12 13 rfl rfl (by decide) inX12 tyX12_ok nmX12 (by decide) rfl rfl rfl rfl q_430 dX12_wrong_18 rfl h4 (gM fun M5 hM5 => ?_)
    have hf := ap_eq hf hM5
    cases hf
    exact g_return dX12_wrong_21 rfl (Nat.le_of_ble_eq_true rfl) (Nat.le_of_ble_eq_true rfl)
  · have hf := ite_f c2 hf
    cases hf
    exact g_return dX12_wrong_7 rfl (Nat.le_of_ble_eq_true rfl) (Nat.le_of_ble_eq_true rfl)
def f_X12_is_75 (k39 : Nat → Nat → Int32 → Int32 → Mem → Option (Int32 × Mem)) (v0 : Nat) (v1 : Nat) (v3 : Int32) (w0 : Int32) (M : Mem) : Option (Int32 × Mem) :=
  k39 v0 v1 w0 (v3 + 1) M
def f_X12_is_39 : Nat → Nat → Nat → Int32 → Int32 → Mem → Option (Int32 × Mem)
  | 0, _, _, _, _, _ => none
  | n + 1, v0, v1, v2, v3, M =>
    if v2 = 0 then
      if zB v2 = true then
      some (v2, M)
      else none
    else
      if isT v1 = true then
        if (sLen v1) ≤ v3 then
          if zB v2 = true then
          some (v2, M)
          else none
        else
          if tIn v1 v3 = true then
            if mK M v0 = 13 then
              if mK M (mR M v0 3) = 21 then
                if inB ((mI M v0 10) + v3) (mN M (mR M v0 3)) = true then
                  if (sAt v1 v3) = (mI M (mR M v0 3) ((mI M v0 10) + v3).toNatClampNeg) then
                    f_X12_is_75 (f_X12_is_39 n) v0 v1 v3 (1 : Int32) M
                  else
                    f_X12_is_75 (f_X12_is_39 n) v0 v1 v3 (0 : Int32) M
                else none
              else none
            else none
          else none
      else none
def f_X12_is_36 (v0 : Nat) (v1 : Nat) (w0 : Int32) (M : Mem) : Option (Int32 × Mem) :=
  f_X12_is_39 FUEL v0 v1 w0 (0 : Int32) M
def f_X12_is_35 (v0 : Nat) (v1 : Nat) (M : Mem) : Option (Int32 × Mem) :=
  f_X12_is_36 v0 v1 (0 : Int32) M
def f_X12_is (v0 : Nat) (v1 : Nat) (M : Mem) : Option (Int32 × Mem) :=
  if mK M v0 = 13 then
    if (mI M v0 12) = 0 then
      if (mI M v0 8) = (1 : Int32) then
        if isT v1 = true then
          if (sLen v1) = ((mI M v0 11) - (mI M v0 10)) then
            f_X12_is_36 v0 v1 (1 : Int32) M
          else
            f_X12_is_35 v0 v1 M
        else none
      else
        f_X12_is_35 v0 v1 M
    else
      f_X12_is_35 v0 v1 M
  else none
theorem s_X12_is_75 (k39 : Nat → Nat → Int32 → Int32 → Mem → Option (Int32 × Mem)) (hk39 : ∀ (v0 : Nat) (v1 : Nat) (v2 : Int32) (v3 : Int32) (M : Mem) (r : (Int32 × Mem)), k39 v0 v1 v2 v3 M = some r → G mi_X12_is 5 (oI r.1) r.2 39 [some (aR v0), some (aR v1), some (aI v2), some (aI v3)] [] M 0 0) (v0 : Nat) (v1 : Nat) (v3 : Int32) (w0 : Int32) (M : Mem) (r : (Int32 × Mem)) (hf : f_X12_is_75 k39 v0 v1 v3 w0 M = some r) : G mi_X12_is 5 (oI r.1) r.2 75 [some (aR v0), some (aR v1), none, some (aI v3)] [aI w0] M 0 0 := by
  unfold f_X12_is_75 at hf
  refine g_istore_n (pc' := 76) (lv' := [some (aR v0), some (aR v1), some (aI w0), some (aI v3)]) dX12_is_75 rfl rfl (by decide) rfl ?_
  refine g_iinc (pc' := 79) (lv' := [some (aR v0), some (aR v1), some (aI w0), some (aI (v3 + 1))]) (v3 + 1) dX12_is_76 rfl rfl (by rfl) rfl (by decide) rfl ?_
  refine g_goto (pc' := 39) dX12_is_79 (by decide) ?_
  exact hk39 v0 v1 w0 (v3 + 1) M _ hf
theorem s_X12_is_39 : ∀ (n : Nat) (v0 : Nat) (v1 : Nat) (v2 : Int32) (v3 : Int32) (M : Mem) (r : (Int32 × Mem)), f_X12_is_39 n v0 v1 v2 v3 M = some r → G mi_X12_is 5 (oI r.1) r.2 39 [some (aR v0), some (aR v1), some (aI v2), some (aI v3)] [] M 0 0 := by
  intro n
  induction n with
  | zero => intro v0 v1 v2 v3 M r hf; cases hf
  | succ n ih =>
    intro v0 v1 v2 v3 M r hf
    unfold f_X12_is_39 at hf
    refine g_iload_n (pc' := 40) dX12_is_39 rfl rfl ?_
    refine g_if_eq (pc' := 43) 82 dX12_is_40 rfl (by decide) (fun c1 => ?_) (fun c1 => ?_)
    · have hf := ite_t c1 hf
      refine g_iload_n (pc' := 83) dX12_is_82 rfl rfl ?_
      obtain ⟨hz, hf⟩ := chk_s hf
      cases hf
      exact g_zreturn dX12_is_83 rfl (zB_ok hz) (Nat.le_of_ble_eq_true rfl) (Nat.le_of_ble_eq_true rfl)
    · have hf := ite_f c1 hf
      refine g_iload_n (pc' := 44) dX12_is_43 rfl rfl ?_
      refine g_aload_n (pc' := 45) dX12_is_44 rfl rfl ?_
      obtain ⟨ht2, hf⟩ := chk_s hf
      refine g_slen (pc' := 48) q_424 (by omega) (Nat.le_of_ble_eq_true rfl) (Nat.le_of_ble_eq_true rfl) (Nat.le_of_ble_eq_true rfl) dX12_is_45 rfl ht2 ?_
      refine g_icmp_ge (pc' := 51) 82 dX12_is_48 rfl (by decide) (fun c3 => ?_) (fun c3 => ?_)
      · have hf := ite_t c3 hf
        refine g_iload_n (pc' := 83) dX12_is_82 rfl rfl ?_
        obtain ⟨hz, hf⟩ := chk_s hf
        cases hf
        exact g_zreturn dX12_is_83 rfl (zB_ok hz) (Nat.le_of_ble_eq_true rfl) (Nat.le_of_ble_eq_true rfl)
      · have hf := ite_f c3 hf
        refine g_aload_n (pc' := 52) dX12_is_51 rfl rfl ?_
        refine g_iload_n (pc' := 53) dX12_is_52 rfl rfl ?_
        obtain ⟨ht4, hf⟩ := chk_s hf
        refine g_scharAt (pc' := 56) q_425 (by omega) (Nat.le_of_ble_eq_true rfl) (Nat.le_of_ble_eq_true rfl) (Nat.le_of_ble_eq_true rfl) dX12_is_53 rfl ht4 ?_
        refine g_aload_n (pc' := 57) dX12_is_56 rfl rfl ?_
        obtain ⟨h5, hf⟩ := chk_s hf
        refine g_getR (pc' := 60) 12 3 rfl rfl (by decide) inX12 (by decide) rfl rfl q_124 dX12_is_57 rfl h5 ?_
        refine g_aload_n (pc' := 61) dX12_is_60 rfl rfl ?_
        refine g_getI (pc' := 64) 12 10 rfl rfl (by decide) inX12 (by decide) rfl rfl q_382 dX12_is_61 rfl h5 ?_
        refine g_iload_n (pc' := 65) dX12_is_64 rfl rfl ?_
        refine g_iadd (pc' := 66) dX12_is_65 rfl ?_
        obtain ⟨h6, hf⟩ := chk_s hf
        obtain ⟨b7, hf⟩ := chk_s hf
        refine g_iald (pc' := 67) dX12_is_66 rfl h6 (inB_in b7) ?_
        refine g_icmp_ne (pc' := 70) 74 dX12_is_67 rfl (by decide) (fun c8 => ?_) (fun c8 => ?_)
        · have hf := ite_f c8 hf
          refine g_iconst (pc' := 75) (0 : Int32) dX12_is_74 rfl (by decide) ?_
          refine g_mask [true, true, false, true] rfl ?_
          exact s_X12_is_75 (f_X12_is_39 n) ih v0 v1 v3 (0 : Int32) M _ hf
        · have hf := ite_t c8 hf
          refine g_iconst (pc' := 71) (1 : Int32) dX12_is_70 rfl (by decide) ?_
          refine g_goto (pc' := 75) dX12_is_71 (by decide) ?_
          refine g_mask [true, true, false, true] rfl ?_
          exact s_X12_is_75 (f_X12_is_39 n) ih v0 v1 v3 (1 : Int32) M _ hf
theorem s_X12_is_36 (v0 : Nat) (v1 : Nat) (w0 : Int32) (M : Mem) (r : (Int32 × Mem)) (hf : f_X12_is_36 v0 v1 w0 M = some r) : G mi_X12_is 5 (oI r.1) r.2 36 [some (aR v0), some (aR v1), none, none] [aI w0] M 0 0 := by
  unfold f_X12_is_36 at hf
  refine g_istore_n (pc' := 37) (lv' := [some (aR v0), some (aR v1), some (aI w0), none]) dX12_is_36 rfl rfl (by decide) rfl ?_
  refine g_iconst (pc' := 38) (0 : Int32) dX12_is_37 rfl (by decide) ?_
  refine g_istore_n (pc' := 39) (lv' := [some (aR v0), some (aR v1), some (aI w0), some (aI (0 : Int32))]) dX12_is_38 rfl rfl (by decide) rfl ?_
  exact s_X12_is_39 FUEL v0 v1 w0 (0 : Int32) M _ hf
theorem s_X12_is_35 (v0 : Nat) (v1 : Nat) (M : Mem) (r : (Int32 × Mem)) (hf : f_X12_is_35 v0 v1 M = some r) : G mi_X12_is 5 (oI r.1) r.2 35 [some (aR v0), some (aR v1), none, none] [] M 0 0 := by
  unfold f_X12_is_35 at hf
  refine g_iconst (pc' := 36) (0 : Int32) dX12_is_35 rfl (by decide) ?_
  exact s_X12_is_36 v0 v1 (0 : Int32) M _ hf
theorem s_X12_is (v0 : Nat) (v1 : Nat) (M : Mem) (r : (Int32 × Mem)) (hf : f_X12_is v0 v1 M = some r) : Sem mi_X12_is (5) [aR v0, aR v1] M (oI r.1) r.2 := by
  unfold f_X12_is at hf
  refine sem_of (by decide) rfl rfl rfl (Nat.le_of_ble_eq_true rfl) (lv := [some (aR v0), some (aR v1), none, none]) rfl ?_
  refine g_aload_n (pc' := 1) dX12_is_0 rfl rfl ?_
  obtain ⟨h1, hf⟩ := chk_s hf
  refine g_getI (pc' := 4) 12 12 rfl rfl (by decide) inX12 (by decide) rfl rfl q_362 dX12_is_1 rfl h1 ?_
  refine g_if_ne (pc' := 7) 35 dX12_is_4 rfl (by decide) (fun c2 => ?_) (fun c2 => ?_)
  · have hf := ite_f c2 hf
    exact s_X12_is_35 v0 v1 M _ hf
  · have hf := ite_t c2 hf
    refine g_aload_n (pc' := 8) dX12_is_7 rfl rfl ?_
    refine g_getI (pc' := 11) 12 8 rfl rfl (by decide) inX12 (by decide) rfl rfl q_383 dX12_is_8 rfl h1 ?_
    refine g_iconst (pc' := 12) (1 : Int32) dX12_is_11 rfl (by decide) ?_
    refine g_icmp_ne (pc' := 15) 35 dX12_is_12 rfl (by decide) (fun c3 => ?_) (fun c3 => ?_)
    · have hf := ite_f c3 hf
      exact s_X12_is_35 v0 v1 M _ hf
    · have hf := ite_t c3 hf
      refine g_aload_n (pc' := 16) dX12_is_15 rfl rfl ?_
      obtain ⟨ht4, hf⟩ := chk_s hf
      refine g_slen (pc' := 19) q_424 (by omega) (Nat.le_of_ble_eq_true rfl) (Nat.le_of_ble_eq_true rfl) (Nat.le_of_ble_eq_true rfl) dX12_is_16 rfl ht4 ?_
      refine g_aload_n (pc' := 20) dX12_is_19 rfl rfl ?_
      refine g_getI (pc' := 23) 12 11 rfl rfl (by decide) inX12 (by decide) rfl rfl q_390 dX12_is_20 rfl h1 ?_
      refine g_aload_n (pc' := 24) dX12_is_23 rfl rfl ?_
      refine g_getI (pc' := 27) 12 10 rfl rfl (by decide) inX12 (by decide) rfl rfl q_382 dX12_is_24 rfl h1 ?_
      refine g_isub (pc' := 28) dX12_is_27 rfl ?_
      refine g_icmp_ne (pc' := 31) 35 dX12_is_28 rfl (by decide) (fun c5 => ?_) (fun c5 => ?_)
      · have hf := ite_f c5 hf
        exact s_X12_is_35 v0 v1 M _ hf
      · have hf := ite_t c5 hf
        refine g_iconst (pc' := 32) (1 : Int32) dX12_is_31 rfl (by decide) ?_
        refine g_goto (pc' := 36) dX12_is_32 (by decide) ?_
        exact s_X12_is_36 v0 v1 (1 : Int32) M _ hf
def f_X12_which_2 : Nat → Nat → Nat → Int32 → Mem → Option (Int32 × Mem)
  | 0, _, _, _, _ => none
  | n + 1, v0, v1, v2, M =>
    if mK M v1 = 26 then
      if (Int32.ofNat (mN M v1)) ≤ v2 then
        some ((-1 : Int32), M)
      else
        if inB v2 (mN M v1) = true then
          if mK M v0 = 13 then
            bnd (f_X12_is v0 (mR M v1 v2.toNatClampNeg) M) fun r6 M5 =>
            if r6 = 0 then
              f_X12_which_2 n v0 v1 (v2 + 1) M5
            else
              some (v2, M5)
          else none
        else none
    else none
def f_X12_which (v0 : Nat) (v1 : Nat) (M : Mem) : Option (Int32 × Mem) :=
  f_X12_which_2 FUEL v0 v1 (0 : Int32) M
theorem s_X12_which_2 : ∀ (n : Nat) (v0 : Nat) (v1 : Nat) (v2 : Int32) (M : Mem) (r : (Int32 × Mem)), f_X12_which_2 n v0 v1 v2 M = some r → G mi_X12_which 6 (oI r.1) r.2 2 [some (aR v0), some (aR v1), some (aI v2)] [] M 0 0 := by
  intro n
  induction n with
  | zero => intro v0 v1 v2 M r hf; cases hf
  | succ n ih =>
    intro v0 v1 v2 M r hf
    unfold f_X12_which_2 at hf
    refine g_iload_n (pc' := 3) dX12_which_2 rfl rfl ?_
    refine g_aload_n (pc' := 4) dX12_which_3 rfl rfl ?_
    obtain ⟨h1, hf⟩ := chk_s hf
    refine g_alen (pc' := 5) (t0 := 5) (fun _ => rfl) (by decide) dX12_which_4 rfl h1 ?_
    refine g_icmp_ge (pc' := 8) 26 dX12_which_5 rfl (by decide) (fun c2 => ?_) (fun c2 => ?_)
    · have hf := ite_t c2 hf
      refine g_iconst (pc' := 27) (-1 : Int32) dX12_which_26 rfl (by decide) ?_
      cases hf
      exact g_ireturn dX12_which_27 rfl (Nat.le_of_ble_eq_true rfl) (Nat.le_of_ble_eq_true rfl)
    · have hf := ite_f c2 hf
      refine g_aload_n (pc' := 9) dX12_which_8 rfl rfl ?_
      refine g_aload_n (pc' := 10) dX12_which_9 rfl rfl ?_
      refine g_iload_n (pc' := 11) dX12_which_10 rfl rfl ?_
      obtain ⟨b3, hf⟩ := chk_s hf
      refine g_aald (pc' := 12) (t0 := 5) (fun _ => rfl) (by decide) dX12_which_11 rfl h1 (inB_in b3) ?_
      obtain ⟨h4, hf⟩ := chk_s hf
      obtain ⟨r6, M5, e6, hf⟩ := bnd_some hf
      refine g_callVi (pc' := 15) (k' := 0) (u' := 0) (fr2 := 5) (As := [aR (mR M v1 v2.toNatClampNeg)]) (b := v0) (st := []) cf_X12_is q_420 (by omega) (ci := 12) rfl rfl (by decide) dX12_which_12 rfl rfl rfl (Nat.le_of_ble_eq_true rfl) (Or.inl rfl) (Nat.le_refl _) (Nat.le_refl _) (Nat.le_refl _) (Nat.le_refl _) h4 (s_X12_is v0 (mR M v1 v2.toNatClampNeg) M _ e6) ?_
      refine g_if_eq (pc' := 18) 20 dX12_which_15 rfl (by decide) (fun c7 => ?_) (fun c7 => ?_)
      · have hf := ite_t c7 hf
        refine g_iinc (pc' := 23) (lv' := [some (aR v0), some (aR v1), some (aI (v2 + 1))]) (v2 + 1) dX12_which_20 rfl rfl (by rfl) rfl (by decide) rfl ?_
        refine g_goto (pc' := 2) dX12_which_23 (by decide) ?_
        refine g_widen (k' := 0) (u' := 0) (by omega) (by omega) ?_
        exact ih v0 v1 (v2 + 1) M5 _ hf
      · have hf := ite_f c7 hf
        refine g_iload_n (pc' := 19) dX12_which_18 rfl rfl ?_
        cases hf
        exact g_ireturn dX12_which_19 rfl (Nat.le_of_ble_eq_true rfl) (Nat.le_of_ble_eq_true rfl)
theorem s_X12_which (v0 : Nat) (v1 : Nat) (M : Mem) (r : (Int32 × Mem)) (hf : f_X12_which v0 v1 M = some r) : Sem mi_X12_which (6) [aR v0, aR v1] M (oI r.1) r.2 := by
  unfold f_X12_which at hf
  refine sem_of (by decide) rfl rfl rfl (Nat.le_of_ble_eq_true rfl) (lv := [some (aR v0), some (aR v1), none]) rfl ?_
  refine g_iconst (pc' := 1) (0 : Int32) dX12_which_0 rfl (by decide) ?_
  refine g_istore_n (pc' := 2) (lv' := [some (aR v0), some (aR v1), some (aI (0 : Int32))]) dX12_which_1 rfl rfl (by decide) rfl ?_
  exact s_X12_which_2 FUEL v0 v1 (0 : Int32) M _ hf
def f_X12_isMarked (v0 : Nat) (v1 : Int32) (M : Mem) : Option (Int32 × Mem) :=
  if mK M v0 = 13 then
    if (mI M v0 12) = 0 then
      if (mI M v0 8) = (3 : Int32) then
        if mK M (mR M v0 3) = 21 then
          if inB (mI M v0 10) (mN M (mR M v0 3)) = true then
            if (mI M (mR M v0 3) (mI M v0 10).toNatClampNeg) = v1 then
              some ((1 : Int32), M)
            else
              some ((0 : Int32), M)
          else none
        else none
      else
        some ((0 : Int32), M)
    else
      some ((0 : Int32), M)
  else none
theorem s_X12_isMarked (v0 : Nat) (v1 : Int32) (M : Mem) (r : (Int32 × Mem)) (hf : f_X12_isMarked v0 v1 M = some r) : Sem mi_X12_isMarked (1) [aR v0, aI v1] M (oI r.1) r.2 := by
  unfold f_X12_isMarked at hf
  refine sem_of (by decide) rfl rfl rfl (Nat.le_of_ble_eq_true rfl) (lv := [some (aR v0), some (aI v1)]) rfl ?_
  refine g_aload_n (pc' := 1) dX12_isMarked_0 rfl rfl ?_
  obtain ⟨h1, hf⟩ := chk_s hf
  refine g_getI (pc' := 4) 12 12 rfl rfl (by decide) inX12 (by decide) rfl rfl q_362 dX12_isMarked_1 rfl h1 ?_
  refine g_if_ne (pc' := 7) 32 dX12_isMarked_4 rfl (by decide) (fun c2 => ?_) (fun c2 => ?_)
  · have hf := ite_f c2 hf
    refine g_iconst (pc' := 33) (0 : Int32) dX12_isMarked_32 rfl (by decide) ?_
    cases hf
    exact g_zreturn dX12_isMarked_33 rfl (Or.inl rfl) (Nat.le_of_ble_eq_true rfl) (Nat.le_of_ble_eq_true rfl)
  · have hf := ite_t c2 hf
    refine g_aload_n (pc' := 8) dX12_isMarked_7 rfl rfl ?_
    refine g_getI (pc' := 11) 12 8 rfl rfl (by decide) inX12 (by decide) rfl rfl q_383 dX12_isMarked_8 rfl h1 ?_
    refine g_iconst (pc' := 12) (3 : Int32) dX12_isMarked_11 rfl (by decide) ?_
    refine g_icmp_ne (pc' := 15) 32 dX12_isMarked_12 rfl (by decide) (fun c3 => ?_) (fun c3 => ?_)
    · have hf := ite_f c3 hf
      refine g_iconst (pc' := 33) (0 : Int32) dX12_isMarked_32 rfl (by decide) ?_
      cases hf
      exact g_zreturn dX12_isMarked_33 rfl (Or.inl rfl) (Nat.le_of_ble_eq_true rfl) (Nat.le_of_ble_eq_true rfl)
    · have hf := ite_t c3 hf
      refine g_aload_n (pc' := 16) dX12_isMarked_15 rfl rfl ?_
      refine g_getR (pc' := 19) 12 3 rfl rfl (by decide) inX12 (by decide) rfl rfl q_124 dX12_isMarked_16 rfl h1 ?_
      refine g_aload_n (pc' := 20) dX12_isMarked_19 rfl rfl ?_
      refine g_getI (pc' := 23) 12 10 rfl rfl (by decide) inX12 (by decide) rfl rfl q_382 dX12_isMarked_20 rfl h1 ?_
      obtain ⟨h4, hf⟩ := chk_s hf
      obtain ⟨b5, hf⟩ := chk_s hf
      refine g_iald (pc' := 24) dX12_isMarked_23 rfl h4 (inB_in b5) ?_
      refine g_iload_n (pc' := 25) dX12_isMarked_24 rfl rfl ?_
      refine g_icmp_ne (pc' := 28) 32 dX12_isMarked_25 rfl (by decide) (fun c6 => ?_) (fun c6 => ?_)
      · have hf := ite_f c6 hf
        refine g_iconst (pc' := 33) (0 : Int32) dX12_isMarked_32 rfl (by decide) ?_
        cases hf
        exact g_zreturn dX12_isMarked_33 rfl (Or.inl rfl) (Nat.le_of_ble_eq_true rfl) (Nat.le_of_ble_eq_true rfl)
      · have hf := ite_t c6 hf
        refine g_iconst (pc' := 29) (1 : Int32) dX12_isMarked_28 rfl (by decide) ?_
        refine g_goto (pc' := 33) dX12_isMarked_29 (by decide) ?_
        cases hf
        exact g_zreturn dX12_isMarked_33 rfl (Or.inr rfl) (Nat.le_of_ble_eq_true rfl) (Nat.le_of_ble_eq_true rfl)
def f_X12_mark_20 (v0 : Nat) (M : Mem) : Option (Unit × Mem) :=
  if mK M v0 = 13 then
    if (mI M v0 12) = 0 then
      bnd (f_X12_stepOn v0 M) fun _ M3 =>
      some ((), M3)
    else
      some ((), M)
  else none
def f_X12_mark (v0 : Nat) (v1 : Int32) (M : Mem) : Option (Unit × Mem) :=
  if mK M v0 = 13 then
    if (mI M v0 12) = 0 then
      bnd (f_X12_isMarked v0 v1 M) fun r4 M3 =>
      if r4 = 0 then
        if mK M3 v0 = 13 then
          bnd (f_X12_wrong v0 (1 : Int32) M3) fun _ M7 =>
          f_X12_mark_20 v0 M7
        else none
      else
        f_X12_mark_20 v0 M3
    else
      f_X12_mark_20 v0 M
  else none
theorem s_X12_mark_20 (v0 : Nat) (M : Mem) (r : (Unit × Mem)) (hf : f_X12_mark_20 v0 M = some r) : G mi_X12_mark 3 (oU r.1) r.2 20 [some (aR v0), none] [] M 0 0 := by
  unfold f_X12_mark_20 at hf
  refine g_aload_n (pc' := 21) dX12_mark_20 rfl rfl ?_
  obtain ⟨h1, hf⟩ := chk_s hf
  refine g_getI (pc' := 24) 12 12 rfl rfl (by decide) inX12 (by decide) rfl rfl q_362 dX12_mark_21 rfl h1 ?_
  refine g_if_ne (pc' := 27) 31 dX12_mark_24 rfl (by decide) (fun c2 => ?_) (fun c2 => ?_)
  · have hf := ite_f c2 hf
    cases hf
    exact g_return dX12_mark_31 rfl (Nat.le_of_ble_eq_true rfl) (Nat.le_of_ble_eq_true rfl)
  · have hf := ite_t c2 hf
    refine g_aload_n (pc' := 28) dX12_mark_27 rfl rfl ?_
    obtain ⟨_, M3, e4, hf⟩ := bnd_some hf
    refine g_callVv (pc' := 31) (k' := 0) (u' := 0) (fr2 := 2) (As := []) (b := v0) (st := []) cf_X12_stepOn q_378 (by omega) (ci := 12) rfl rfl (by decide) dX12_mark_28 rfl rfl rfl (Nat.le_of_ble_eq_true rfl) (Or.inl rfl) (Nat.le_refl _) (Nat.le_refl _) (Nat.le_refl _) (Nat.le_refl _) h1 (s_X12_stepOn v0 M _ e4) ?_
    cases hf
    exact g_return dX12_mark_31 rfl (Nat.le_of_ble_eq_true rfl) (Nat.le_of_ble_eq_true rfl)
theorem s_X12_mark (v0 : Nat) (v1 : Int32) (M : Mem) (r : (Unit × Mem)) (hf : f_X12_mark v0 v1 M = some r) : Sem mi_X12_mark (3) [aR v0, aI v1] M (oU r.1) r.2 := by
  unfold f_X12_mark at hf
  refine sem_of (by decide) rfl rfl rfl (Nat.le_of_ble_eq_true rfl) (lv := [some (aR v0), some (aI v1)]) rfl ?_
  refine g_aload_n (pc' := 1) dX12_mark_0 rfl rfl ?_
  obtain ⟨h1, hf⟩ := chk_s hf
  refine g_getI (pc' := 4) 12 12 rfl rfl (by decide) inX12 (by decide) rfl rfl q_362 dX12_mark_1 rfl h1 ?_
  refine g_if_ne (pc' := 7) 20 dX12_mark_4 rfl (by decide) (fun c2 => ?_) (fun c2 => ?_)
  · have hf := ite_f c2 hf
    refine g_mask [true, false] rfl ?_
    exact s_X12_mark_20 v0 M _ hf
  · have hf := ite_t c2 hf
    refine g_aload_n (pc' := 8) dX12_mark_7 rfl rfl ?_
    refine g_iload_n (pc' := 9) dX12_mark_8 rfl rfl ?_
    obtain ⟨r4, M3, e4, hf⟩ := bnd_some hf
    refine g_callVi (pc' := 12) (k' := 0) (u' := 0) (fr2 := 1) (As := [aI v1]) (b := v0) (st := []) cf_X12_isMarked q_411 (by omega) (ci := 12) rfl rfl (by decide) dX12_mark_9 rfl rfl rfl (Nat.le_of_ble_eq_true rfl) (Or.inl rfl) (Nat.le_refl _) (Nat.le_refl _) (Nat.le_refl _) (Nat.le_refl _) h1 (s_X12_isMarked v0 v1 M _ e4) ?_
    refine g_if_ne (pc' := 15) 20 dX12_mark_12 rfl (by decide) (fun c5 => ?_) (fun c5 => ?_)
    · have hf := ite_f c5 hf
      refine g_mask [true, false] rfl ?_
      refine g_widen (k' := 0) (u' := 0) (by omega) (by omega) ?_
      exact s_X12_mark_20 v0 M3 _ hf
    · have hf := ite_t c5 hf
      refine g_aload_n (pc' := 16) dX12_mark_15 rfl rfl ?_
      refine g_iconst (pc' := 17) (1 : Int32) dX12_mark_16 rfl (by decide) ?_
      obtain ⟨h6, hf⟩ := chk_s hf
      obtain ⟨_, M7, e8, hf⟩ := bnd_some hf
      refine g_callVv (pc' := 20) (k' := 0) (u' := 0) (fr2 := 1) (As := [aI (1 : Int32)]) (b := v0) (st := []) cf_X12_wrong q_426 (by omega) (ci := 12) rfl rfl (by decide) dX12_mark_17 rfl rfl rfl (Nat.le_of_ble_eq_true rfl) (Or.inl rfl) (Nat.le_refl _) (Nat.le_refl _) (Nat.le_refl _) (Nat.le_refl _) h6 (s_X12_wrong v0 (1 : Int32) M3 _ e8) ?_
      refine g_mask [true, false] rfl ?_
      refine g_widen (k' := 0) (u' := 0) (by omega) (by omega) ?_
      exact s_X12_mark_20 v0 M7 _ hf
def f_X12_readNumber_66 (v0 : Nat) (w0 : Int32) (M : Mem) : Option (Int32 × Mem) :=
  if mK M v0 = 13 then
    if (mI M v0 12) = 0 then
      bnd (f_X12_stepOn v0 M) fun _ M3 =>
      some (w0, M3)
    else
      some (w0, M)
  else none
def f_X12_readNumber_51 (v0 : Nat) (M : Mem) : Option (Int32 × Mem) :=
  if mK M v0 = 13 then
    if (mI M v0 12) = 0 then
      f_X12_readNumber_66 v0 (mI M v0 9) M
    else
      f_X12_readNumber_66 v0 (0 : Int32) M
  else none
def f_X12_readNumber_46 (v0 : Nat) (M : Mem) : Option (Int32 × Mem) :=
  if mK M v0 = 13 then
    bnd (f_X12_wrong v0 (2 : Int32) M) fun _ M2 =>
    f_X12_readNumber_51 v0 M2
  else none
def f_X12_readNumber (v0 : Nat) (v1 : Int32) (M : Mem) : Option (Int32 × Mem) :=
  if mK M v0 = 13 then
    if (mI M v0 12) = 0 then
      if (mI M v0 8) = (2 : Int32) then
        if (3 : Int32) < ((mI M v0 11) - (mI M v0 10)) then
          f_X12_readNumber_46 v0 M
        else
          if v1 ≤ (mI M v0 9) then
            f_X12_readNumber_51 v0 M
          else
            f_X12_readNumber_46 v0 M
      else
        bnd (f_X12_wrong v0 (1 : Int32) M) fun _ M6 =>
        f_X12_readNumber_51 v0 M6
    else
      some ((0 : Int32), M)
  else none
theorem s_X12_readNumber_66 (v0 : Nat) (w0 : Int32) (M : Mem) (r : (Int32 × Mem)) (hf : f_X12_readNumber_66 v0 w0 M = some r) : G mi_X12_readNumber 3 (oI r.1) r.2 66 [some (aR v0), none, none] [aI w0] M 0 0 := by
  unfold f_X12_readNumber_66 at hf
  refine g_istore_n (pc' := 67) (lv' := [some (aR v0), none, some (aI w0)]) dX12_readNumber_66 rfl rfl (by decide) rfl ?_
  refine g_aload_n (pc' := 68) dX12_readNumber_67 rfl rfl ?_
  obtain ⟨h1, hf⟩ := chk_s hf
  refine g_getI (pc' := 71) 12 12 rfl rfl (by decide) inX12 (by decide) rfl rfl q_362 dX12_readNumber_68 rfl h1 ?_
  refine g_if_ne (pc' := 74) 78 dX12_readNumber_71 rfl (by decide) (fun c2 => ?_) (fun c2 => ?_)
  · have hf := ite_f c2 hf
    refine g_iload_n (pc' := 79) dX12_readNumber_78 rfl rfl ?_
    cases hf
    exact g_ireturn dX12_readNumber_79 rfl (Nat.le_of_ble_eq_true rfl) (Nat.le_of_ble_eq_true rfl)
  · have hf := ite_t c2 hf
    refine g_aload_n (pc' := 75) dX12_readNumber_74 rfl rfl ?_
    obtain ⟨_, M3, e4, hf⟩ := bnd_some hf
    refine g_callVv (pc' := 78) (k' := 0) (u' := 0) (fr2 := 2) (As := []) (b := v0) (st := []) cf_X12_stepOn q_378 (by omega) (ci := 12) rfl rfl (by decide) dX12_readNumber_75 rfl rfl rfl (Nat.le_of_ble_eq_true rfl) (Or.inl rfl) (Nat.le_refl _) (Nat.le_refl _) (Nat.le_refl _) (Nat.le_refl _) h1 (s_X12_stepOn v0 M _ e4) ?_
    refine g_iload_n (pc' := 79) dX12_readNumber_78 rfl rfl ?_
    cases hf
    exact g_ireturn dX12_readNumber_79 rfl (Nat.le_of_ble_eq_true rfl) (Nat.le_of_ble_eq_true rfl)
theorem s_X12_readNumber_51 (v0 : Nat) (M : Mem) (r : (Int32 × Mem)) (hf : f_X12_readNumber_51 v0 M = some r) : G mi_X12_readNumber 3 (oI r.1) r.2 51 [some (aR v0), none, none] [] M 0 0 := by
  unfold f_X12_readNumber_51 at hf
  refine g_aload_n (pc' := 52) dX12_readNumber_51 rfl rfl ?_
  obtain ⟨h1, hf⟩ := chk_s hf
  refine g_getI (pc' := 55) 12 12 rfl rfl (by decide) inX12 (by decide) rfl rfl q_362 dX12_readNumber_52 rfl h1 ?_
  refine g_if_ne (pc' := 58) 65 dX12_readNumber_55 rfl (by decide) (fun c2 => ?_) (fun c2 => ?_)
  · have hf := ite_f c2 hf
    refine g_iconst (pc' := 66) (0 : Int32) dX12_readNumber_65 rfl (by decide) ?_
    exact s_X12_readNumber_66 v0 (0 : Int32) M _ hf
  · have hf := ite_t c2 hf
    refine g_aload_n (pc' := 59) dX12_readNumber_58 rfl rfl ?_
    refine g_getI (pc' := 62) 12 9 rfl rfl (by decide) inX12 (by decide) rfl rfl q_384 dX12_readNumber_59 rfl h1 ?_
    refine g_goto (pc' := 66) dX12_readNumber_62 (by decide) ?_
    exact s_X12_readNumber_66 v0 (mI M v0 9) M _ hf
theorem s_X12_readNumber_46 (v0 : Nat) (M : Mem) (r : (Int32 × Mem)) (hf : f_X12_readNumber_46 v0 M = some r) : G mi_X12_readNumber 3 (oI r.1) r.2 46 [some (aR v0), none, none] [] M 0 0 := by
  unfold f_X12_readNumber_46 at hf
  refine g_aload_n (pc' := 47) dX12_readNumber_46 rfl rfl ?_
  refine g_iconst (pc' := 48) (2 : Int32) dX12_readNumber_47 rfl (by decide) ?_
  obtain ⟨h1, hf⟩ := chk_s hf
  obtain ⟨_, M2, e3, hf⟩ := bnd_some hf
  refine g_callVv (pc' := 51) (k' := 0) (u' := 0) (fr2 := 1) (As := [aI (2 : Int32)]) (b := v0) (st := []) cf_X12_wrong q_426 (by omega) (ci := 12) rfl rfl (by decide) dX12_readNumber_48 rfl rfl rfl (Nat.le_of_ble_eq_true rfl) (Or.inl rfl) (Nat.le_refl _) (Nat.le_refl _) (Nat.le_refl _) (Nat.le_refl _) h1 (s_X12_wrong v0 (2 : Int32) M _ e3) ?_
  refine g_widen (k' := 0) (u' := 0) (by omega) (by omega) ?_
  exact s_X12_readNumber_51 v0 M2 _ hf
theorem s_X12_readNumber (v0 : Nat) (v1 : Int32) (M : Mem) (r : (Int32 × Mem)) (hf : f_X12_readNumber v0 v1 M = some r) : Sem mi_X12_readNumber (3) [aR v0, aI v1] M (oI r.1) r.2 := by
  unfold f_X12_readNumber at hf
  refine sem_of (by decide) rfl rfl rfl (Nat.le_of_ble_eq_true rfl) (lv := [some (aR v0), some (aI v1), none]) rfl ?_
  refine g_aload_n (pc' := 1) dX12_readNumber_0 rfl rfl ?_
  obtain ⟨h1, hf⟩ := chk_s hf
  refine g_getI (pc' := 4) 12 12 rfl rfl (by decide) inX12 (by decide) rfl rfl q_362 dX12_readNumber_1 rfl h1 ?_
  refine g_if_eq (pc' := 7) 9 dX12_readNumber_4 rfl (by decide) (fun c2 => ?_) (fun c2 => ?_)
  · have hf := ite_t c2 hf
    refine g_aload_n (pc' := 10) dX12_readNumber_9 rfl rfl ?_
    refine g_getI (pc' := 13) 12 8 rfl rfl (by decide) inX12 (by decide) rfl rfl q_383 dX12_readNumber_10 rfl h1 ?_
    refine g_iconst (pc' := 14) (2 : Int32) dX12_readNumber_13 rfl (by decide) ?_
    refine g_icmp_eq (pc' := 17) 25 dX12_readNumber_14 rfl (by decide) (fun c3 => ?_) (fun c3 => ?_)
    · have hf := ite_t c3 hf
      refine g_aload_n (pc' := 26) dX12_readNumber_25 rfl rfl ?_
      refine g_getI (pc' := 29) 12 11 rfl rfl (by decide) inX12 (by decide) rfl rfl q_390 dX12_readNumber_26 rfl h1 ?_
      refine g_aload_n (pc' := 30) dX12_readNumber_29 rfl rfl ?_
      refine g_getI (pc' := 33) 12 10 rfl rfl (by decide) inX12 (by decide) rfl rfl q_382 dX12_readNumber_30 rfl h1 ?_
      refine g_isub (pc' := 34) dX12_readNumber_33 rfl ?_
      refine g_iconst (pc' := 35) (3 : Int32) dX12_readNumber_34 rfl (by decide) ?_
      refine g_icmp_gt (pc' := 38) 46 dX12_readNumber_35 rfl (by decide) (fun c4 => ?_) (fun c4 => ?_)
      · have hf := ite_t c4 hf
        refine g_mask [true, false, true] rfl ?_
        exact s_X12_readNumber_46 v0 M _ hf
      · have hf := ite_f c4 hf
        refine g_aload_n (pc' := 39) dX12_readNumber_38 rfl rfl ?_
        refine g_getI (pc' := 42) 12 9 rfl rfl (by decide) inX12 (by decide) rfl rfl q_384 dX12_readNumber_39 rfl h1 ?_
        refine g_iload_n (pc' := 43) dX12_readNumber_42 rfl rfl ?_
        refine g_icmp_ge (pc' := 46) 51 dX12_readNumber_43 rfl (by decide) (fun c5 => ?_) (fun c5 => ?_)
        · have hf := ite_t c5 hf
          refine g_mask [true, false, true] rfl ?_
          exact s_X12_readNumber_51 v0 M _ hf
        · have hf := ite_f c5 hf
          refine g_mask [true, false, true] rfl ?_
          exact s_X12_readNumber_46 v0 M _ hf
    · have hf := ite_f c3 hf
      refine g_aload_n (pc' := 18) dX12_readNumber_17 rfl rfl ?_
      refine g_iconst (pc' := 19) (1 : Int32) dX12_readNumber_18 rfl (by decide) ?_
      obtain ⟨_, M6, e7, hf⟩ := bnd_some hf
      refine g_callVv (pc' := 22) (k' := 0) (u' := 0) (fr2 := 1) (As := [aI (1 : Int32)]) (b := v0) (st := []) cf_X12_wrong q_426 (by omega) (ci := 12) rfl rfl (by decide) dX12_readNumber_19 rfl rfl rfl (Nat.le_of_ble_eq_true rfl) (Or.inl rfl) (Nat.le_refl _) (Nat.le_refl _) (Nat.le_refl _) (Nat.le_refl _) h1 (s_X12_wrong v0 (1 : Int32) M _ e7) ?_
      refine g_goto (pc' := 51) dX12_readNumber_22 (by decide) ?_
      refine g_mask [true, false, true] rfl ?_
      refine g_widen (k' := 0) (u' := 0) (by omega) (by omega) ?_
      exact s_X12_readNumber_51 v0 M6 _ hf
  · have hf := ite_f c2 hf
    refine g_iconst (pc' := 8) (0 : Int32) dX12_readNumber_7 rfl (by decide) ?_
    cases hf
    exact g_ireturn dX12_readNumber_8 rfl (Nat.le_of_ble_eq_true rfl) (Nat.le_of_ble_eq_true rfl)
