abbrev mi_X9_isDigit : MI := (yX9_isDigit, Cond.code yX9_isDigit cX9_isDigit 1 (some .boolean), cX9_isDigit, 1, (some .boolean), [], 0, 0, 0, none)
theorem cf_X9_isDigit : CFs mi_X9_isDigit 1 := ⟨⟨rfl, q_201, wall_i_LeafStripes_Text, ⟨by decide, by decide, by decide +kernel⟩, by decide⟩, q_200⟩
abbrev mi_X9_isSign : MI := (yX9_isSign, Cond.code yX9_isSign cX9_isSign 1 (some .boolean), cX9_isSign, 1, (some .boolean), [], 0, 0, 0, none)
theorem cf_X9_isSign : CFs mi_X9_isSign 1 := ⟨⟨rfl, q_204, wall_i_LeafStripes_Text, ⟨by decide, by decide, by decide +kernel⟩, by decide⟩, q_203⟩
abbrev mi_X9_advance : MI := (yX9_advance, Cond.code yX9_advance cX9_advance 3 none, cX9_advance, 3, none, [], 0, 0, 0, none)
theorem cf_X9_advance : CFv mi_X9_advance 0 := ⟨⟨rfl, q_193, wall_i_LeafStripes_Text, ⟨by decide, by decide, by decide +kernel⟩, by decide⟩, q_191, q_192⟩
abbrev mi_X9_numberFault : MI := (yX9_numberFault, Cond.code yX9_numberFault cX9_numberFault 1 (some .int), cX9_numberFault, 1, (some .int), [], 0, 0, 0, none)
theorem cf_X9_numberFault : CFv mi_X9_numberFault 0 := ⟨⟨rfl, q_610, wall_i_LeafStripes_Text, ⟨by decide, by decide, by decide +kernel⟩, by decide⟩, q_608, q_609⟩
abbrev mi_X9_number : MI := (yX9_number, Cond.code yX9_number cX9_number 3 (some .int), cX9_number, 3, (some .int), [], 0, 0, 0, none)
theorem cf_X9_number : CFv mi_X9_number 0 := ⟨⟨rfl, q_614, wall_i_LeafStripes_Text, ⟨by decide, by decide, by decide +kernel⟩, by decide⟩, q_612, q_613⟩
abbrev mi_X3_readStep : MI := (yX3_readStep, Cond.code yX3_readStep cX3_readStep 4 (some .int), cX3_readStep, 4, (some .int), [], 0, 0, 0, none)
theorem cf_X3_readStep : CFv mi_X3_readStep 1 := ⟨⟨rfl, q_768, wall_i_LeafStripes_Pipe, ⟨by decide, by decide, by decide +kernel⟩, by decide⟩, q_766, q_767⟩
abbrev mi_X3_read : MI := (yX3_read, Cond.code yX3_read cX3_read 4 (some .int), cX3_read, 4, (some .int), [], 0, 0, 0, none)
theorem cf_X3_read : CFv mi_X3_read 1 := ⟨⟨rfl, q_763, wall_i_LeafStripes_Pipe, ⟨by decide, by decide, by decide +kernel⟩, by decide⟩, q_761, q_762⟩
abbrev mi_X3_goesOn : MI := (yX3_goesOn, Cond.code yX3_goesOn cX3_goesOn 4 (some .boolean), cX3_goesOn, 4, (some .boolean), [], 0, 0, 0, none)
theorem cf_X3_goesOn : CFv mi_X3_goesOn 2 := ⟨⟨rfl, q_1370, wall_i_LeafStripes_Pipe, ⟨by decide, by decide, by decide +kernel⟩, by decide⟩, q_1368, q_1369⟩
abbrev mi_X3_changed : MI := (yX3_changed, Cond.code yX3_changed cX3_changed 4 (some .int), cX3_changed, 4, (some .int), [], 0, 0, 0, none)
theorem cf_X3_changed : CFv mi_X3_changed 2 := ⟨⟨rfl, q_1374, wall_i_LeafStripes_Pipe, ⟨by decide, by decide, by decide +kernel⟩, by decide⟩, q_1372, q_1373⟩
abbrev mi_X3_send : MI := (yX3_send, Cond.code yX3_send cX3_send 4 none, cX3_send, 4, none, [], 0, 0, 0, none)
theorem cf_X3_send : CFv mi_X3_send 1 := ⟨⟨rfl, q_1366, wall_i_LeafStripes_Pipe, ⟨by decide, by decide, by decide +kernel⟩, by decide⟩, q_1364, q_1365⟩
abbrev mi_X3_run : MI := (yX3_run, Cond.code yX3_run cX3_run 3 (some .int), cX3_run, 3, (some .int), [], 0, 0, 0, none)
theorem cf_X3_run : CFv mi_X3_run 1 := ⟨⟨rfl, q_1358, wall_i_LeafStripes_Pipe, ⟨by decide, by decide, by decide +kernel⟩, by decide⟩, q_1356, q_1357⟩
abbrev mi_X4_init : MI := (yX4_init, Cond.code yX4_init cX4_init 1 none, cX4_init, 1, none, [], 1, 8, 1, none)
theorem cf_X4_init : CFi mi_X4_init 0 := ⟨⟨rfl, q_64, wall_i_LeafStripes_RecordText, ⟨by decide, by decide, by decide +kernel⟩, by decide⟩, q_63, rfl, rfl⟩
abbrev mi_X4_canBegin : MI := (yX4_canBegin, Cond.code yX4_canBegin cX4_canBegin 2 (some .boolean), cX4_canBegin, 2, (some .boolean), [], 0, 0, 0, none)
theorem cf_X4_canBegin : CFv mi_X4_canBegin 1 := ⟨⟨rfl, q_569, wall_i_LeafStripes_RecordText, ⟨by decide, by decide, by decide +kernel⟩, by decide⟩, q_567, q_568⟩
abbrev mi_X4_fail : MI := (yX4_fail, Cond.code yX4_fail cX4_fail 2 (some .boolean), cX4_fail, 2, (some .boolean), [], 0, 0, 0, none)
theorem cf_X4_fail : CFv mi_X4_fail 1 := ⟨⟨rfl, q_581, wall_i_LeafStripes_RecordText, ⟨by decide, by decide, by decide +kernel⟩, by decide⟩, q_579, q_580⟩
abbrev mi_X4_stage : MI := (yX4_stage, Cond.code yX4_stage cX4_stage 5 none, cX4_stage, 5, none, [], 0, 0, 0, none)
theorem cf_X4_stage : CFv mi_X4_stage 4 := ⟨⟨rfl, q_601, wall_i_LeafStripes_RecordText, ⟨by decide, by decide, by decide +kernel⟩, by decide⟩, q_599, q_600⟩
abbrev mi_X4_putNone : MI := (yX4_putNone, Cond.code yX4_putNone cX4_putNone 5 none, cX4_putNone, 5, none, [], 0, 0, 0, none)
theorem cf_X4_putNone : CFv mi_X4_putNone 3 := ⟨⟨rfl, q_596, wall_i_LeafStripes_RecordText, ⟨by decide, by decide, by decide +kernel⟩, by decide⟩, q_594, q_595⟩
abbrev mi_X4_readItem : MI := (yX4_readItem, Cond.code yX4_readItem cX4_readItem 7 (some .boolean), cX4_readItem, 7, (some .boolean), [], 0, 0, 0, none)
theorem cf_X4_readItem : CFv mi_X4_readItem 4 := ⟨⟨rfl, q_606, wall_i_LeafStripes_RecordText, ⟨by decide, by decide, by decide +kernel⟩, by decide⟩, q_587, q_588⟩
abbrev mi_X4_readItems : MI := (yX4_readItems, Cond.code yX4_readItems cX4_readItems 6 (some .boolean), cX4_readItems, 6, (some .boolean), [], 0, 0, 0, none)
theorem cf_X4_readItems : CFv mi_X4_readItems 4 := ⟨⟨rfl, q_615, wall_i_LeafStripes_RecordText, ⟨by decide, by decide, by decide +kernel⟩, by decide⟩, q_590, q_591⟩
abbrev mi_X4_readField : MI := (yX4_readField, Cond.code yX4_readField cX4_readField 5 (some .boolean), cX4_readField, 5, (some .boolean), [], 0, 0, 0, none)
theorem cf_X4_readField : CFv mi_X4_readField 4 := ⟨⟨rfl, q_585, wall_i_LeafStripes_RecordText, ⟨by decide, by decide, by decide +kernel⟩, by decide⟩, q_583, q_584⟩
abbrev mi_X4_readFields : MI := (yX4_readFields, Cond.code yX4_readFields cX4_readFields 6 (some .boolean), cX4_readFields, 6, (some .boolean), [], 0, 0, 0, none)
theorem cf_X4_readFields : CFv mi_X4_readFields 4 := ⟨⟨rfl, q_575, wall_i_LeafStripes_RecordText, ⟨by decide, by decide, by decide +kernel⟩, by decide⟩, q_573, q_574⟩
def f_X9_isDigit (v0 : Int32) (M : Mem) : Option (Int32 × Mem) :=
  if v0 < (48 : Int32) then
    some ((0 : Int32), M)
  else
    if (57 : Int32) < v0 then
      some ((0 : Int32), M)
    else
      some ((1 : Int32), M)
theorem s_X9_isDigit (v0 : Int32) (M : Mem) (r : (Int32 × Mem)) (hf : f_X9_isDigit v0 M = some r) : Sem mi_X9_isDigit (1) [aI v0] M (oI r.1) r.2 := by
  unfold f_X9_isDigit at hf
  refine sem_of (by decide) rfl rfl rfl (Nat.le_of_ble_eq_true rfl) (lv := [some (aI v0)]) rfl ?_
  refine g_iload_n (pc' := 1) dX9_isDigit_0 rfl rfl ?_
  refine g_bipush (pc' := 3) (48 : Int32) dX9_isDigit_1 rfl (by decide) ?_
  refine g_icmp_lt (pc' := 6) 16 dX9_isDigit_3 rfl (by decide) (fun c1 => ?_) (fun c1 => ?_)
  · have hf := ite_t c1 hf
    refine g_iconst (pc' := 17) (0 : Int32) dX9_isDigit_16 rfl (by decide) ?_
    cases hf
    exact g_zreturn dX9_isDigit_17 rfl (Or.inl rfl) (Nat.le_of_ble_eq_true rfl) (Nat.le_of_ble_eq_true rfl)
  · have hf := ite_f c1 hf
    refine g_iload_n (pc' := 7) dX9_isDigit_6 rfl rfl ?_
    refine g_bipush (pc' := 9) (57 : Int32) dX9_isDigit_7 rfl (by decide) ?_
    refine g_icmp_gt (pc' := 12) 16 dX9_isDigit_9 rfl (by decide) (fun c2 => ?_) (fun c2 => ?_)
    · have hf := ite_t c2 hf
      refine g_iconst (pc' := 17) (0 : Int32) dX9_isDigit_16 rfl (by decide) ?_
      cases hf
      exact g_zreturn dX9_isDigit_17 rfl (Or.inl rfl) (Nat.le_of_ble_eq_true rfl) (Nat.le_of_ble_eq_true rfl)
    · have hf := ite_f c2 hf
      refine g_iconst (pc' := 13) (1 : Int32) dX9_isDigit_12 rfl (by decide) ?_
      refine g_goto (pc' := 17) dX9_isDigit_13 (by decide) ?_
      cases hf
      exact g_zreturn dX9_isDigit_17 rfl (Or.inr rfl) (Nat.le_of_ble_eq_true rfl) (Nat.le_of_ble_eq_true rfl)
def f_X9_isSign_48  (M : Mem) : Option (Int32 × Mem) :=
  some ((1 : Int32), M)
def f_X9_isSign (v0 : Int32) (M : Mem) : Option (Int32 × Mem) :=
  if v0 = (59 : Int32) then
    f_X9_isSign_48 M
  else
    if v0 = (123 : Int32) then
      f_X9_isSign_48 M
    else
      if v0 = (125 : Int32) then
        f_X9_isSign_48 M
      else
        if v0 = (40 : Int32) then
          f_X9_isSign_48 M
        else
          if v0 = (41 : Int32) then
            f_X9_isSign_48 M
          else
            if v0 = (91 : Int32) then
              f_X9_isSign_48 M
            else
              if v0 = (93 : Int32) then
                f_X9_isSign_48 M
              else
                if v0 = (45 : Int32) then
                  f_X9_isSign_48 M
                else
                  some ((0 : Int32), M)
theorem s_X9_isSign_48  (M : Mem) (r : (Int32 × Mem)) (hf : f_X9_isSign_48  M = some r) : G mi_X9_isSign 1 (oI r.1) r.2 48 [none] [] M 0 0 := by
  unfold f_X9_isSign_48 at hf
  refine g_iconst (pc' := 49) (1 : Int32) dX9_isSign_48 rfl (by decide) ?_
  refine g_goto (pc' := 53) dX9_isSign_49 (by decide) ?_
  cases hf
  exact g_zreturn dX9_isSign_53 rfl (Or.inr rfl) (Nat.le_of_ble_eq_true rfl) (Nat.le_of_ble_eq_true rfl)
theorem s_X9_isSign (v0 : Int32) (M : Mem) (r : (Int32 × Mem)) (hf : f_X9_isSign v0 M = some r) : Sem mi_X9_isSign (1) [aI v0] M (oI r.1) r.2 := by
  unfold f_X9_isSign at hf
  refine sem_of (by decide) rfl rfl rfl (Nat.le_of_ble_eq_true rfl) (lv := [some (aI v0)]) rfl ?_
  refine g_iload_n (pc' := 1) dX9_isSign_0 rfl rfl ?_
  refine g_bipush (pc' := 3) (59 : Int32) dX9_isSign_1 rfl (by decide) ?_
  refine g_icmp_eq (pc' := 6) 48 dX9_isSign_3 rfl (by decide) (fun c1 => ?_) (fun c1 => ?_)
  · have hf := ite_t c1 hf
    refine g_mask [false] rfl ?_
    exact s_X9_isSign_48 M _ hf
  · have hf := ite_f c1 hf
    refine g_iload_n (pc' := 7) dX9_isSign_6 rfl rfl ?_
    refine g_bipush (pc' := 9) (123 : Int32) dX9_isSign_7 rfl (by decide) ?_
    refine g_icmp_eq (pc' := 12) 48 dX9_isSign_9 rfl (by decide) (fun c2 => ?_) (fun c2 => ?_)
    · have hf := ite_t c2 hf
      refine g_mask [false] rfl ?_
      exact s_X9_isSign_48 M _ hf
    · have hf := ite_f c2 hf
      refine g_iload_n (pc' := 13) dX9_isSign_12 rfl rfl ?_
      refine g_bipush (pc' := 15) (125 : Int32) dX9_isSign_13 rfl (by decide) ?_
      refine g_icmp_eq (pc' := 18) 48 dX9_isSign_15 rfl (by decide) (fun c3 => ?_) (fun c3 => ?_)
      · have hf := ite_t c3 hf
        refine g_mask [false] rfl ?_
        exact s_X9_isSign_48 M _ hf
      · have hf := ite_f c3 hf
        refine g_iload_n (pc' := 19) dX9_isSign_18 rfl rfl ?_
        refine g_bipush (pc' := 21) (40 : Int32) dX9_isSign_19 rfl (by decide) ?_
        refine g_icmp_eq (pc' := 24) 48 dX9_isSign_21 rfl (by decide) (fun c4 => ?_) (fun c4 => ?_)
        · have hf := ite_t c4 hf
          refine g_mask [false] rfl ?_
          exact s_X9_isSign_48 M _ hf
        · have hf := ite_f c4 hf
          refine g_iload_n (pc' := 25) dX9_isSign_24 rfl rfl ?_
          refine g_bipush (pc' := 27) (41 : Int32) dX9_isSign_25 rfl (by decide) ?_
          refine g_icmp_eq (pc' := 30) 48 dX9_isSign_27 rfl (by decide) (fun c5 => ?_) (fun c5 => ?_)
          · have hf := ite_t c5 hf
            refine g_mask [false] rfl ?_
            exact s_X9_isSign_48 M _ hf
          · have hf := ite_f c5 hf
            refine g_iload_n (pc' := 31) dX9_isSign_30 rfl rfl ?_
            refine g_bipush (pc' := 33) (91 : Int32) dX9_isSign_31 rfl (by decide) ?_
            refine g_icmp_eq (pc' := 36) 48 dX9_isSign_33 rfl (by decide) (fun c6 => ?_) (fun c6 => ?_)
            · have hf := ite_t c6 hf
              refine g_mask [false] rfl ?_
              exact s_X9_isSign_48 M _ hf
            · have hf := ite_f c6 hf
              refine g_iload_n (pc' := 37) dX9_isSign_36 rfl rfl ?_
              refine g_bipush (pc' := 39) (93 : Int32) dX9_isSign_37 rfl (by decide) ?_
              refine g_icmp_eq (pc' := 42) 48 dX9_isSign_39 rfl (by decide) (fun c7 => ?_) (fun c7 => ?_)
              · have hf := ite_t c7 hf
                refine g_mask [false] rfl ?_
                exact s_X9_isSign_48 M _ hf
              · have hf := ite_f c7 hf
                refine g_iload_n (pc' := 43) dX9_isSign_42 rfl rfl ?_
                refine g_bipush (pc' := 45) (45 : Int32) dX9_isSign_43 rfl (by decide) ?_
                refine g_icmp_ne (pc' := 48) 52 dX9_isSign_45 rfl (by decide) (fun c8 => ?_) (fun c8 => ?_)
                · have hf := ite_f c8 hf
                  refine g_iconst (pc' := 53) (0 : Int32) dX9_isSign_52 rfl (by decide) ?_
                  cases hf
                  exact g_zreturn dX9_isSign_53 rfl (Or.inl rfl) (Nat.le_of_ble_eq_true rfl) (Nat.le_of_ble_eq_true rfl)
                · have hf := ite_t c8 hf
                  refine g_mask [false] rfl ?_
                  exact s_X9_isSign_48 M _ hf
def f_X9_advance_220 (w0 : Nat) (w1 : Int32) (M : Mem) : Option (Unit × Mem) :=
  if mK M w0 = 10 then
    ap (sI M w0 3 w1) fun M2 =>
    some ((), M2)
  else none
def f_X9_advance_204  (M : Mem) : Option (Unit × Mem) :=
  some ((), M)
def f_X9_advance_171 : Nat → Nat → Int32 → Mem → Option (Unit × Mem)
  | 0, _, _, _ => none
  | n + 1, v0, v2, M =>
    if mK M v0 = 10 then
      if (mI M v0 2) ≤ v2 then
        f_X9_advance_204 M
      else
        if mK M (mR M v0 0) = 21 then
          if inB v2 (mN M (mR M v0 0)) = true then
            bnd (f_X9_isDigit (mI M (mR M v0 0) v2.toNatClampNeg) M) fun r6 M5 =>
            if r6 = 0 then
              f_X9_advance_204 M5
            else
              if mK M5 v0 = 10 then
                ap (sI M5 v0 5 (v2 + (1 : Int32))) fun M9 =>
                f_X9_advance_171 n v0 (v2 + 1) M9
              else none
          else none
        else none
    else none
def f_X9_advance_151  (M : Mem) : Option (Unit × Mem) :=
  some ((), M)
def f_X9_advance_118 : Nat → Nat → Int32 → Mem → Option (Unit × Mem)
  | 0, _, _, _ => none
  | n + 1, v0, v2, M =>
    if mK M v0 = 10 then
      if (mI M v0 2) ≤ v2 then
        f_X9_advance_151 M
      else
        if mK M (mR M v0 0) = 21 then
          if inB v2 (mN M (mR M v0 0)) = true then
            bnd (f_X9_isLetter (mI M (mR M v0 0) v2.toNatClampNeg) M) fun r6 M5 =>
            if r6 = 0 then
              f_X9_advance_151 M5
            else
              if mK M5 v0 = 10 then
                ap (sI M5 v0 5 (v2 + (1 : Int32))) fun M9 =>
                f_X9_advance_118 n v0 (v2 + 1) M9
              else none
          else none
        else none
    else none
def f_X9_advance_56 (v0 : Nat) (M : Mem) : Option (Unit × Mem) :=
  if mK M v0 = 10 then
    ap (sI M v0 5 (mI M v0 4)) fun M2 =>
    if mK M2 v0 = 10 then
      if (mI M2 v0 4) < (mI M2 v0 2) then
        if mK M2 (mR M2 v0 0) = 21 then
          if inB (mI M2 v0 4) (mN M2 (mR M2 v0 0)) = true then
            ap (sI M2 v0 5 ((mI M2 v0 4) + (1 : Int32))) fun M7 =>
            bnd (f_X9_isLetter (mI M2 (mR M2 v0 0) (mI M2 v0 4).toNatClampNeg) M7) fun r9 M8 =>
            if r9 = 0 then
              bnd (f_X9_isDigit (mI M2 (mR M2 v0 0) (mI M2 v0 4).toNatClampNeg) M8) fun r12 M11 =>
              if r12 = 0 then
                bnd (f_X9_isSign (mI M2 (mR M2 v0 0) (mI M2 v0 4).toNatClampNeg) M11) fun r15 M14 =>
                if r15 = 0 then
                  f_X9_advance_220 v0 (3 : Int32) M14
                else
                  f_X9_advance_220 v0 (mI M2 (mR M2 v0 0) (mI M2 v0 4).toNatClampNeg) M14
              else
                if mK M11 v0 = 10 then
                  ap (sI M11 v0 3 (2 : Int32)) fun M18 =>
                  if mK M18 v0 = 10 then
                    f_X9_advance_171 FUEL v0 (mI M18 v0 5) M18
                  else none
                else none
            else
              if mK M8 v0 = 10 then
                ap (sI M8 v0 3 (1 : Int32)) fun M21 =>
                if mK M21 v0 = 10 then
                  f_X9_advance_118 FUEL v0 (mI M21 v0 5) M21
                else none
              else none
          else none
        else none
      else
        ap (sI M2 v0 3 (0 : Int32)) fun M23 =>
        some ((), M23)
    else none
  else none
def f_X9_advance_43 (k13 : Nat → Int32 → Mem → Option (Unit × Mem)) (v0 : Nat) (v1 : Int32) (M : Mem) : Option (Unit × Mem) :=
  if mK M v0 = 10 then
    ap (sI M v0 4 (v1 + (1 : Int32))) fun M2 =>
    k13 v0 (v1 + 1) M2
  else none
def f_X9_advance_13 : Nat → Nat → Int32 → Mem → Option (Unit × Mem)
  | 0, _, _, _ => none
  | n + 1, v0, v1, M =>
    if mK M v0 = 10 then
      if (mI M v0 2) ≤ v1 then
        f_X9_advance_56 v0 M
      else
        if mK M (mR M v0 0) = 21 then
          if inB v1 (mN M (mR M v0 0)) = true then
            if (mI M (mR M v0 0) v1.toNatClampNeg) = (32 : Int32) then
              f_X9_advance_43 (f_X9_advance_13 n) v0 v1 M
            else
              if (mI M (mR M v0 0) v1.toNatClampNeg) = (10 : Int32) then
                f_X9_advance_43 (f_X9_advance_13 n) v0 v1 M
              else
                f_X9_advance_56 v0 M
          else none
        else none
    else none
def f_X9_advance (v0 : Nat) (M : Mem) : Option (Unit × Mem) :=
  if mK M v0 = 10 then
    ap (sI M v0 4 (mI M v0 5)) fun M2 =>
    if mK M2 v0 = 10 then
      f_X9_advance_13 FUEL v0 (mI M2 v0 4) M2
    else none
  else none
theorem s_X9_advance_220 (w0 : Nat) (w1 : Int32) (M : Mem) (r : (Unit × Mem)) (hf : f_X9_advance_220 w0 w1 M = some r) : G mi_X9_advance 2 (oU r.1) r.2 220 [none, none, none] [aI w1, aR w0] M 0 0 := by
  unfold f_X9_advance_220 at hf
  obtain ⟨h1, hf⟩ := chk_s hf
  refine g_putI (pc' := 223) 9 3 rfl rfl (by decide) inX9 tyX9_ok nmX9 (by decide) rfl rfl rfl rfl q_195 dX9_advance_220 rfl h1 (gM fun M2 hM2 => ?_)
  have hf := ap_eq hf hM2
  cases hf
  exact g_return dX9_advance_223 rfl (Nat.le_of_ble_eq_true rfl) (Nat.le_of_ble_eq_true rfl)
theorem s_X9_advance_204  (M : Mem) (r : (Unit × Mem)) (hf : f_X9_advance_204  M = some r) : G mi_X9_advance 2 (oU r.1) r.2 204 [none, none, none] [] M 0 0 := by
  unfold f_X9_advance_204 at hf
  refine g_goto (pc' := 223) dX9_advance_204 (by decide) ?_
  cases hf
  exact g_return dX9_advance_223 rfl (Nat.le_of_ble_eq_true rfl) (Nat.le_of_ble_eq_true rfl)
theorem s_X9_advance_171 : ∀ (n : Nat) (v0 : Nat) (v2 : Int32) (M : Mem) (r : (Unit × Mem)), f_X9_advance_171 n v0 v2 M = some r → G mi_X9_advance 2 (oU r.1) r.2 171 [some (aR v0), none, some (aI v2)] [] M 0 0 := by
  intro n
  induction n with
  | zero => intro v0 v2 M r hf; cases hf
  | succ n ih =>
    intro v0 v2 M r hf
    unfold f_X9_advance_171 at hf
    refine g_iload_n (pc' := 172) dX9_advance_171 rfl rfl ?_
    refine g_aload_n (pc' := 173) dX9_advance_172 rfl rfl ?_
    obtain ⟨h1, hf⟩ := chk_s hf
    refine g_getI (pc' := 176) 9 2 rfl rfl (by decide) inX9 (by decide) rfl rfl q_188 dX9_advance_173 rfl h1 ?_
    refine g_icmp_ge (pc' := 179) 204 dX9_advance_176 rfl (by decide) (fun c2 => ?_) (fun c2 => ?_)
    · have hf := ite_t c2 hf
      refine g_mask [false, true, false] rfl ?_
      exact s_X9_advance_204 M _ hf
    · have hf := ite_f c2 hf
      refine g_aload_n (pc' := 180) dX9_advance_179 rfl rfl ?_
      refine g_getR (pc' := 183) 9 0 rfl rfl (by decide) inX9 (by decide) rfl rfl q_59 dX9_advance_180 rfl h1 ?_
      refine g_iload_n (pc' := 184) dX9_advance_183 rfl rfl ?_
      obtain ⟨h3, hf⟩ := chk_s hf
      obtain ⟨b4, hf⟩ := chk_s hf
      refine g_iald (pc' := 185) dX9_advance_184 rfl h3 (inB_in b4) ?_
      obtain ⟨r6, M5, e6, hf⟩ := bnd_some hf
      refine g_callSi (pc' := 188) (k' := 0) (u' := 0) (fr2 := 1) (As := [aI (mI M (mR M v0 0) v2.toNatClampNeg)]) (st := []) cf_X9_isDigit q_199 (by omega) dX9_advance_185 rfl rfl rfl (Nat.le_of_ble_eq_true rfl) (Or.inl rfl) (Nat.le_refl _) (Nat.le_refl _) (Nat.le_refl _) (Nat.le_refl _) (s_X9_isDigit (mI M (mR M v0 0) v2.toNatClampNeg) M _ e6) ?_
      refine g_if_eq (pc' := 191) 204 dX9_advance_188 rfl (by decide) (fun c7 => ?_) (fun c7 => ?_)
      · have hf := ite_t c7 hf
        refine g_mask [false, true, false] rfl ?_
        refine g_widen (k' := 0) (u' := 0) (by omega) (by omega) ?_
        exact s_X9_advance_204 M5 _ hf
      · have hf := ite_f c7 hf
        refine g_aload_n (pc' := 192) dX9_advance_191 rfl rfl ?_
        refine g_iload_n (pc' := 193) dX9_advance_192 rfl rfl ?_
        refine g_iconst (pc' := 194) (1 : Int32) dX9_advance_193 rfl (by decide) ?_
        refine g_iadd (pc' := 195) dX9_advance_194 rfl ?_
        obtain ⟨h8, hf⟩ := chk_s hf
        refine g_putI (pc' := 198) 9 5 rfl rfl (by decide) inX9 tyX9_ok nmX9 (by decide) rfl rfl rfl rfl q_189 dX9_advance_195 rfl h8 (gM fun M9 hM9 => ?_)
        have hf := ap_eq hf hM9
        refine g_iinc (pc' := 201) (lv' := [some (aR v0), none, some (aI (v2 + 1))]) (v2 + 1) dX9_advance_198 rfl rfl (by rfl) rfl (by decide) rfl ?_
        refine g_goto (pc' := 171) dX9_advance_201 (by decide) ?_
        refine g_widen (k' := 0) (u' := 0) (by omega) (by omega) ?_
        exact ih v0 (v2 + 1) M9 _ hf
theorem s_X9_advance_151  (M : Mem) (r : (Unit × Mem)) (hf : f_X9_advance_151  M = some r) : G mi_X9_advance 2 (oU r.1) r.2 151 [none, none, none] [] M 0 0 := by
  unfold f_X9_advance_151 at hf
  refine g_goto (pc' := 223) dX9_advance_151 (by decide) ?_
  cases hf
  exact g_return dX9_advance_223 rfl (Nat.le_of_ble_eq_true rfl) (Nat.le_of_ble_eq_true rfl)
theorem s_X9_advance_118 : ∀ (n : Nat) (v0 : Nat) (v2 : Int32) (M : Mem) (r : (Unit × Mem)), f_X9_advance_118 n v0 v2 M = some r → G mi_X9_advance 2 (oU r.1) r.2 118 [some (aR v0), none, some (aI v2)] [] M 0 0 := by
  intro n
  induction n with
  | zero => intro v0 v2 M r hf; cases hf
  | succ n ih =>
    intro v0 v2 M r hf
    unfold f_X9_advance_118 at hf
    refine g_iload_n (pc' := 119) dX9_advance_118 rfl rfl ?_
    refine g_aload_n (pc' := 120) dX9_advance_119 rfl rfl ?_
    obtain ⟨h1, hf⟩ := chk_s hf
    refine g_getI (pc' := 123) 9 2 rfl rfl (by decide) inX9 (by decide) rfl rfl q_188 dX9_advance_120 rfl h1 ?_
    refine g_icmp_ge (pc' := 126) 151 dX9_advance_123 rfl (by decide) (fun c2 => ?_) (fun c2 => ?_)
    · have hf := ite_t c2 hf
      refine g_mask [false, true, false] rfl ?_
      exact s_X9_advance_151 M _ hf
    · have hf := ite_f c2 hf
      refine g_aload_n (pc' := 127) dX9_advance_126 rfl rfl ?_
      refine g_getR (pc' := 130) 9 0 rfl rfl (by decide) inX9 (by decide) rfl rfl q_59 dX9_advance_127 rfl h1 ?_
      refine g_iload_n (pc' := 131) dX9_advance_130 rfl rfl ?_
      obtain ⟨h3, hf⟩ := chk_s hf
      obtain ⟨b4, hf⟩ := chk_s hf
      refine g_iald (pc' := 132) dX9_advance_131 rfl h3 (inB_in b4) ?_
      obtain ⟨r6, M5, e6, hf⟩ := bnd_some hf
      refine g_callSi (pc' := 135) (k' := 0) (u' := 0) (fr2 := 1) (As := [aI (mI M (mR M v0 0) v2.toNatClampNeg)]) (st := []) cf_X9_isLetter q_196 (by omega) dX9_advance_132 rfl rfl rfl (Nat.le_of_ble_eq_true rfl) (Or.inl rfl) (Nat.le_refl _) (Nat.le_refl _) (Nat.le_refl _) (Nat.le_refl _) (s_X9_isLetter (mI M (mR M v0 0) v2.toNatClampNeg) M _ e6) ?_
      refine g_if_eq (pc' := 138) 151 dX9_advance_135 rfl (by decide) (fun c7 => ?_) (fun c7 => ?_)
      · have hf := ite_t c7 hf
        refine g_mask [false, true, false] rfl ?_
        refine g_widen (k' := 0) (u' := 0) (by omega) (by omega) ?_
        exact s_X9_advance_151 M5 _ hf
      · have hf := ite_f c7 hf
        refine g_aload_n (pc' := 139) dX9_advance_138 rfl rfl ?_
        refine g_iload_n (pc' := 140) dX9_advance_139 rfl rfl ?_
        refine g_iconst (pc' := 141) (1 : Int32) dX9_advance_140 rfl (by decide) ?_
        refine g_iadd (pc' := 142) dX9_advance_141 rfl ?_
        obtain ⟨h8, hf⟩ := chk_s hf
        refine g_putI (pc' := 145) 9 5 rfl rfl (by decide) inX9 tyX9_ok nmX9 (by decide) rfl rfl rfl rfl q_189 dX9_advance_142 rfl h8 (gM fun M9 hM9 => ?_)
        have hf := ap_eq hf hM9
        refine g_iinc (pc' := 148) (lv' := [some (aR v0), none, some (aI (v2 + 1))]) (v2 + 1) dX9_advance_145 rfl rfl (by rfl) rfl (by decide) rfl ?_
        refine g_goto (pc' := 118) dX9_advance_148 (by decide) ?_
        refine g_widen (k' := 0) (u' := 0) (by omega) (by omega) ?_
        exact ih v0 (v2 + 1) M9 _ hf
theorem s_X9_advance_56 (v0 : Nat) (M : Mem) (r : (Unit × Mem)) (hf : f_X9_advance_56 v0 M = some r) : G mi_X9_advance 2 (oU r.1) r.2 56 [some (aR v0), none, none] [] M 0 0 := by
  unfold f_X9_advance_56 at hf
  refine g_aload_n (pc' := 57) dX9_advance_56 rfl rfl ?_
  refine g_aload_n (pc' := 58) dX9_advance_57 rfl rfl ?_
  obtain ⟨h1, hf⟩ := chk_s hf
  refine g_getI (pc' := 61) 9 4 rfl rfl (by decide) inX9 (by decide) rfl rfl q_194 dX9_advance_58 rfl h1 ?_
  refine g_putI (pc' := 64) 9 5 rfl rfl (by decide) inX9 tyX9_ok nmX9 (by decide) rfl rfl rfl rfl q_189 dX9_advance_61 rfl h1 (gM fun M2 hM2 => ?_)
  have hf := ap_eq hf hM2
  refine g_aload_n (pc' := 65) dX9_advance_64 rfl rfl ?_
  obtain ⟨h3, hf⟩ := chk_s hf
  refine g_getI (pc' := 68) 9 4 rfl rfl (by decide) inX9 (by decide) rfl rfl q_194 dX9_advance_65 rfl h3 ?_
  refine g_aload_n (pc' := 69) dX9_advance_68 rfl rfl ?_
  refine g_getI (pc' := 72) 9 2 rfl rfl (by decide) inX9 (by decide) rfl rfl q_188 dX9_advance_69 rfl h3 ?_
  refine g_icmp_lt (pc' := 75) 81 dX9_advance_72 rfl (by decide) (fun c4 => ?_) (fun c4 => ?_)
  · have hf := ite_t c4 hf
    refine g_aload_n (pc' := 82) dX9_advance_81 rfl rfl ?_
    refine g_getR (pc' := 85) 9 0 rfl rfl (by decide) inX9 (by decide) rfl rfl q_59 dX9_advance_82 rfl h3 ?_
    refine g_aload_n (pc' := 86) dX9_advance_85 rfl rfl ?_
    refine g_getI (pc' := 89) 9 4 rfl rfl (by decide) inX9 (by decide) rfl rfl q_194 dX9_advance_86 rfl h3 ?_
    obtain ⟨h5, hf⟩ := chk_s hf
    obtain ⟨b6, hf⟩ := chk_s hf
    refine g_iald (pc' := 90) dX9_advance_89 rfl h5 (inB_in b6) ?_
    refine g_istore_n (pc' := 91) (lv' := [some (aR v0), some (aI (mI M2 (mR M2 v0 0) (mI M2 v0 4).toNatClampNeg)), none]) dX9_advance_90 rfl rfl (by decide) rfl ?_
    refine g_aload_n (pc' := 92) dX9_advance_91 rfl rfl ?_
    refine g_aload_n (pc' := 93) dX9_advance_92 rfl rfl ?_
    refine g_getI (pc' := 96) 9 4 rfl rfl (by decide) inX9 (by decide) rfl rfl q_194 dX9_advance_93 rfl h3 ?_
    refine g_iconst (pc' := 97) (1 : Int32) dX9_advance_96 rfl (by decide) ?_
    refine g_iadd (pc' := 98) dX9_advance_97 rfl ?_
    refine g_putI (pc' := 101) 9 5 rfl rfl (by decide) inX9 tyX9_ok nmX9 (by decide) rfl rfl rfl rfl q_189 dX9_advance_98 rfl h3 (gM fun M7 hM7 => ?_)
    have hf := ap_eq hf hM7
    refine g_iload_n (pc' := 102) dX9_advance_101 rfl rfl ?_
    obtain ⟨r9, M8, e9, hf⟩ := bnd_some hf
    refine g_callSi (pc' := 105) (k' := 0) (u' := 0) (fr2 := 1) (As := [aI (mI M2 (mR M2 v0 0) (mI M2 v0 4).toNatClampNeg)]) (st := []) cf_X9_isLetter q_196 (by omega) dX9_advance_102 rfl rfl rfl (Nat.le_of_ble_eq_true rfl) (Or.inl rfl) (Nat.le_refl _) (Nat.le_refl _) (Nat.le_refl _) (Nat.le_refl _) (s_X9_isLetter (mI M2 (mR M2 v0 0) (mI M2 v0 4).toNatClampNeg) M7 _ e9) ?_
    refine g_if_eq (pc' := 108) 154 dX9_advance_105 rfl (by decide) (fun c10 => ?_) (fun c10 => ?_)
    · have hf := ite_t c10 hf
      refine g_iload_n (pc' := 155) dX9_advance_154 rfl rfl ?_
      obtain ⟨r12, M11, e12, hf⟩ := bnd_some hf
      refine g_callSi (pc' := 158) (k' := 0) (u' := 0) (fr2 := 1) (As := [aI (mI M2 (mR M2 v0 0) (mI M2 v0 4).toNatClampNeg)]) (st := []) cf_X9_isDigit q_199 (by omega) dX9_advance_155 rfl rfl rfl (Nat.le_of_ble_eq_true rfl) (Or.inl rfl) (Nat.le_refl _) (Nat.le_refl _) (Nat.le_refl _) (Nat.le_refl _) (s_X9_isDigit (mI M2 (mR M2 v0 0) (mI M2 v0 4).toNatClampNeg) M8 _ e12) ?_
      refine g_if_eq (pc' := 161) 207 dX9_advance_158 rfl (by decide) (fun c13 => ?_) (fun c13 => ?_)
      · have hf := ite_t c13 hf
        refine g_aload_n (pc' := 208) dX9_advance_207 rfl rfl ?_
        refine g_iload_n (pc' := 209) dX9_advance_208 rfl rfl ?_
        obtain ⟨r15, M14, e15, hf⟩ := bnd_some hf
        refine g_callSi (pc' := 212) (k' := 0) (u' := 0) (fr2 := 1) (As := [aI (mI M2 (mR M2 v0 0) (mI M2 v0 4).toNatClampNeg)]) (st := [aR v0]) cf_X9_isSign q_202 (by omega) dX9_advance_209 rfl rfl rfl (Nat.le_of_ble_eq_true rfl) (Or.inl rfl) (Nat.le_refl _) (Nat.le_refl _) (Nat.le_refl _) (Nat.le_refl _) (s_X9_isSign (mI M2 (mR M2 v0 0) (mI M2 v0 4).toNatClampNeg) M11 _ e15) ?_
        refine g_if_eq (pc' := 215) 219 dX9_advance_212 rfl (by decide) (fun c16 => ?_) (fun c16 => ?_)
        · have hf := ite_t c16 hf
          refine g_iconst (pc' := 220) (3 : Int32) dX9_advance_219 rfl (by decide) ?_
          refine g_mask [false, false, true] rfl ?_
          refine g_widen (k' := 0) (u' := 0) (by omega) (by omega) ?_
          exact s_X9_advance_220 v0 (3 : Int32) M14 _ hf
        · have hf := ite_f c16 hf
          refine g_iload_n (pc' := 216) dX9_advance_215 rfl rfl ?_
          refine g_goto (pc' := 220) dX9_advance_216 (by decide) ?_
          refine g_mask [false, false, true] rfl ?_
          refine g_widen (k' := 0) (u' := 0) (by omega) (by omega) ?_
          exact s_X9_advance_220 v0 (mI M2 (mR M2 v0 0) (mI M2 v0 4).toNatClampNeg) M14 _ hf
      · have hf := ite_f c13 hf
        refine g_aload_n (pc' := 162) dX9_advance_161 rfl rfl ?_
        refine g_iconst (pc' := 163) (2 : Int32) dX9_advance_162 rfl (by decide) ?_
        obtain ⟨h17, hf⟩ := chk_s hf
        refine g_putI (pc' := 166) 9 3 rfl rfl (by decide) inX9 tyX9_ok nmX9 (by decide) rfl rfl rfl rfl q_195 dX9_advance_163 rfl h17 (gM fun M18 hM18 => ?_)
        have hf := ap_eq hf hM18
        refine g_aload_n (pc' := 167) dX9_advance_166 rfl rfl ?_
        obtain ⟨h19, hf⟩ := chk_s hf
        refine g_getI (pc' := 170) 9 5 rfl rfl (by decide) inX9 (by decide) rfl rfl q_189 dX9_advance_167 rfl h19 ?_
        refine g_istore_n (pc' := 171) (lv' := [some (aR v0), some (aI (mI M2 (mR M2 v0 0) (mI M2 v0 4).toNatClampNeg)), some (aI (mI M18 v0 5))]) dX9_advance_170 rfl rfl (by decide) rfl ?_
        refine g_mask [true, false, true] rfl ?_
        refine g_widen (k' := 0) (u' := 0) (by omega) (by omega) ?_
        exact s_X9_advance_171 FUEL v0 (mI M18 v0 5) M18 _ hf
    · have hf := ite_f c10 hf
      refine g_aload_n (pc' := 109) dX9_advance_108 rfl rfl ?_
      refine g_iconst (pc' := 110) (1 : Int32) dX9_advance_109 rfl (by decide) ?_
      obtain ⟨h20, hf⟩ := chk_s hf
      refine g_putI (pc' := 113) 9 3 rfl rfl (by decide) inX9 tyX9_ok nmX9 (by decide) rfl rfl rfl rfl q_195 dX9_advance_110 rfl h20 (gM fun M21 hM21 => ?_)
      have hf := ap_eq hf hM21
      refine g_aload_n (pc' := 114) dX9_advance_113 rfl rfl ?_
      obtain ⟨h22, hf⟩ := chk_s hf
      refine g_getI (pc' := 117) 9 5 rfl rfl (by decide) inX9 (by decide) rfl rfl q_189 dX9_advance_114 rfl h22 ?_
      refine g_istore_n (pc' := 118) (lv' := [some (aR v0), some (aI (mI M2 (mR M2 v0 0) (mI M2 v0 4).toNatClampNeg)), some (aI (mI M21 v0 5))]) dX9_advance_117 rfl rfl (by decide) rfl ?_
      refine g_mask [true, false, true] rfl ?_
      refine g_widen (k' := 0) (u' := 0) (by omega) (by omega) ?_
      exact s_X9_advance_118 FUEL v0 (mI M21 v0 5) M21 _ hf
  · have hf := ite_f c4 hf
    refine g_aload_n (pc' := 76) dX9_advance_75 rfl rfl ?_
    refine g_iconst (pc' := 77) (0 : Int32) dX9_advance_76 rfl (by decide) ?_
    refine g_putI (pc' := 80) 9 3 rfl rfl (by decide) inX9 tyX9_ok nmX9 (by decide) rfl rfl rfl rfl q_195 dX9_advance_77 rfl h3 (gM fun M23 hM23 => ?_)
    have hf := ap_eq hf hM23
    cases hf
    exact g_return dX9_advance_80 rfl (Nat.le_of_ble_eq_true rfl) (Nat.le_of_ble_eq_true rfl)
theorem s_X9_advance_43 (k13 : Nat → Int32 → Mem → Option (Unit × Mem)) (hk13 : ∀ (v0 : Nat) (v1 : Int32) (M : Mem) (r : (Unit × Mem)), k13 v0 v1 M = some r → G mi_X9_advance 2 (oU r.1) r.2 13 [some (aR v0), some (aI v1), none] [] M 0 0) (v0 : Nat) (v1 : Int32) (M : Mem) (r : (Unit × Mem)) (hf : f_X9_advance_43 k13 v0 v1 M = some r) : G mi_X9_advance 2 (oU r.1) r.2 43 [some (aR v0), some (aI v1), none] [] M 0 0 := by
  unfold f_X9_advance_43 at hf
  refine g_aload_n (pc' := 44) dX9_advance_43 rfl rfl ?_
  refine g_iload_n (pc' := 45) dX9_advance_44 rfl rfl ?_
  refine g_iconst (pc' := 46) (1 : Int32) dX9_advance_45 rfl (by decide) ?_
  refine g_iadd (pc' := 47) dX9_advance_46 rfl ?_
  obtain ⟨h1, hf⟩ := chk_s hf
  refine g_putI (pc' := 50) 9 4 rfl rfl (by decide) inX9 tyX9_ok nmX9 (by decide) rfl rfl rfl rfl q_194 dX9_advance_47 rfl h1 (gM fun M2 hM2 => ?_)
  have hf := ap_eq hf hM2
  refine g_iinc (pc' := 53) (lv' := [some (aR v0), some (aI (v1 + 1)), none]) (v1 + 1) dX9_advance_50 rfl rfl (by rfl) rfl (by decide) rfl ?_
  refine g_goto (pc' := 13) dX9_advance_53 (by decide) ?_
  exact hk13 v0 (v1 + 1) M2 _ hf
theorem s_X9_advance_13 : ∀ (n : Nat) (v0 : Nat) (v1 : Int32) (M : Mem) (r : (Unit × Mem)), f_X9_advance_13 n v0 v1 M = some r → G mi_X9_advance 2 (oU r.1) r.2 13 [some (aR v0), some (aI v1), none] [] M 0 0 := by
  intro n
  induction n with
  | zero => intro v0 v1 M r hf; cases hf
  | succ n ih =>
    intro v0 v1 M r hf
    unfold f_X9_advance_13 at hf
    refine g_iload_n (pc' := 14) dX9_advance_13 rfl rfl ?_
    refine g_aload_n (pc' := 15) dX9_advance_14 rfl rfl ?_
    obtain ⟨h1, hf⟩ := chk_s hf
    refine g_getI (pc' := 18) 9 2 rfl rfl (by decide) inX9 (by decide) rfl rfl q_188 dX9_advance_15 rfl h1 ?_
    refine g_icmp_ge (pc' := 21) 56 dX9_advance_18 rfl (by decide) (fun c2 => ?_) (fun c2 => ?_)
    · have hf := ite_t c2 hf
      refine g_mask [true, false, true] rfl ?_
      exact s_X9_advance_56 v0 M _ hf
    · have hf := ite_f c2 hf
      refine g_aload_n (pc' := 22) dX9_advance_21 rfl rfl ?_
      refine g_getR (pc' := 25) 9 0 rfl rfl (by decide) inX9 (by decide) rfl rfl q_59 dX9_advance_22 rfl h1 ?_
      refine g_iload_n (pc' := 26) dX9_advance_25 rfl rfl ?_
      obtain ⟨h3, hf⟩ := chk_s hf
      obtain ⟨b4, hf⟩ := chk_s hf
      refine g_iald (pc' := 27) dX9_advance_26 rfl h3 (inB_in b4) ?_
      refine g_bipush (pc' := 29) (32 : Int32) dX9_advance_27 rfl (by decide) ?_
      refine g_icmp_eq (pc' := 32) 43 dX9_advance_29 rfl (by decide) (fun c5 => ?_) (fun c5 => ?_)
      · have hf := ite_t c5 hf
        exact s_X9_advance_43 (f_X9_advance_13 n) ih v0 v1 M _ hf
      · have hf := ite_f c5 hf
        refine g_aload_n (pc' := 33) dX9_advance_32 rfl rfl ?_
        refine g_getR (pc' := 36) 9 0 rfl rfl (by decide) inX9 (by decide) rfl rfl q_59 dX9_advance_33 rfl h1 ?_
        refine g_iload_n (pc' := 37) dX9_advance_36 rfl rfl ?_
        refine g_iald (pc' := 38) dX9_advance_37 rfl h3 (inB_in b4) ?_
        refine g_bipush (pc' := 40) (10 : Int32) dX9_advance_38 rfl (by decide) ?_
        refine g_icmp_ne (pc' := 43) 56 dX9_advance_40 rfl (by decide) (fun c6 => ?_) (fun c6 => ?_)
        · have hf := ite_f c6 hf
          refine g_mask [true, false, true] rfl ?_
          exact s_X9_advance_56 v0 M _ hf
        · have hf := ite_t c6 hf
          exact s_X9_advance_43 (f_X9_advance_13 n) ih v0 v1 M _ hf
theorem s_X9_advance (v0 : Nat) (M : Mem) (r : (Unit × Mem)) (hf : f_X9_advance v0 M = some r) : Sem mi_X9_advance (2) [aR v0] M (oU r.1) r.2 := by
  unfold f_X9_advance at hf
  refine sem_of (by decide) rfl rfl rfl (Nat.le_of_ble_eq_true rfl) (lv := [some (aR v0), none, none]) rfl ?_
  refine g_aload_n (pc' := 1) dX9_advance_0 rfl rfl ?_
  refine g_aload_n (pc' := 2) dX9_advance_1 rfl rfl ?_
  obtain ⟨h1, hf⟩ := chk_s hf
  refine g_getI (pc' := 5) 9 5 rfl rfl (by decide) inX9 (by decide) rfl rfl q_189 dX9_advance_2 rfl h1 ?_
  refine g_putI (pc' := 8) 9 4 rfl rfl (by decide) inX9 tyX9_ok nmX9 (by decide) rfl rfl rfl rfl q_194 dX9_advance_5 rfl h1 (gM fun M2 hM2 => ?_)
  have hf := ap_eq hf hM2
  refine g_aload_n (pc' := 9) dX9_advance_8 rfl rfl ?_
  obtain ⟨h3, hf⟩ := chk_s hf
  refine g_getI (pc' := 12) 9 4 rfl rfl (by decide) inX9 (by decide) rfl rfl q_194 dX9_advance_9 rfl h3 ?_
  refine g_istore_n (pc' := 13) (lv' := [some (aR v0), some (aI (mI M2 v0 4)), none]) dX9_advance_12 rfl rfl (by decide) rfl ?_
  exact s_X9_advance_13 FUEL v0 (mI M2 v0 4) M2 _ hf
def f_X9_numberFault (v0 : Nat) (M : Mem) : Option (Int32 × Mem) :=
  if mK M v0 = 10 then
    if (mI M v0 3) = (2 : Int32) then
      bnd (f_X9_width v0 M) fun r4 M3 =>
      if r4 ≤ (3 : Int32) then
        some ((0 : Int32), M3)
      else
        some ((2 : Int32), M3)
    else
      some ((1 : Int32), M)
  else none
theorem s_X9_numberFault (v0 : Nat) (M : Mem) (r : (Int32 × Mem)) (hf : f_X9_numberFault v0 M = some r) : Sem mi_X9_numberFault (2) [aR v0] M (oI r.1) r.2 := by
  unfold f_X9_numberFault at hf
  refine sem_of (by decide) rfl rfl rfl (Nat.le_of_ble_eq_true rfl) (lv := [some (aR v0)]) rfl ?_
  refine g_aload_n (pc' := 1) dX9_numberFault_0 rfl rfl ?_
  obtain ⟨h1, hf⟩ := chk_s hf
  refine g_getI (pc' := 4) 9 3 rfl rfl (by decide) inX9 (by decide) rfl rfl q_195 dX9_numberFault_1 rfl h1 ?_
  refine g_iconst (pc' := 5) (2 : Int32) dX9_numberFault_4 rfl (by decide) ?_
  refine g_icmp_eq (pc' := 8) 10 dX9_numberFault_5 rfl (by decide) (fun c2 => ?_) (fun c2 => ?_)
  · have hf := ite_t c2 hf
    refine g_aload_n (pc' := 11) dX9_numberFault_10 rfl rfl ?_
    obtain ⟨r4, M3, e4, hf⟩ := bnd_some hf
    refine g_callVi (pc' := 14) (k' := 0) (u' := 0) (fr2 := 1) (As := []) (b := v0) (st := []) cf_X9_width q_253 (by omega) (ci := 9) rfl rfl (by decide) dX9_numberFault_11 rfl rfl rfl (Nat.le_of_ble_eq_true rfl) (Or.inl rfl) (Nat.le_refl _) (Nat.le_refl _) (Nat.le_refl _) (Nat.le_refl _) h1 (s_X9_width v0 M _ e4) ?_
    refine g_iconst (pc' := 15) (3 : Int32) dX9_numberFault_14 rfl (by decide) ?_
    refine g_icmp_le (pc' := 18) 22 dX9_numberFault_15 rfl (by decide) (fun c5 => ?_) (fun c5 => ?_)
    · have hf := ite_t c5 hf
      refine g_iconst (pc' := 23) (0 : Int32) dX9_numberFault_22 rfl (by decide) ?_
      cases hf
      exact g_ireturn dX9_numberFault_23 rfl (Nat.le_of_ble_eq_true rfl) (Nat.le_of_ble_eq_true rfl)
    · have hf := ite_f c5 hf
      refine g_iconst (pc' := 19) (2 : Int32) dX9_numberFault_18 rfl (by decide) ?_
      refine g_goto (pc' := 23) dX9_numberFault_19 (by decide) ?_
      cases hf
      exact g_ireturn dX9_numberFault_23 rfl (Nat.le_of_ble_eq_true rfl) (Nat.le_of_ble_eq_true rfl)
  · have hf := ite_f c2 hf
    refine g_iconst (pc' := 9) (1 : Int32) dX9_numberFault_8 rfl (by decide) ?_
    cases hf
    exact g_ireturn dX9_numberFault_9 rfl (Nat.le_of_ble_eq_true rfl) (Nat.le_of_ble_eq_true rfl)
def f_X9_number_7 : Nat → Nat → Int32 → Int32 → Mem → Option (Int32 × Mem)
  | 0, _, _, _, _ => none
  | n + 1, v0, v1, v2, M =>
    if mK M v0 = 10 then
      if (mI M v0 5) ≤ v2 then
        some (v1, M)
      else
        if ((mI M v0 4) + (3 : Int32)) ≤ v2 then
          some (v1, M)
        else
          if mK M (mR M v0 0) = 21 then
            if inB v2 (mN M (mR M v0 0)) = true then
              f_X9_number_7 n v0 (((v1 * (10 : Int32)) + (mI M (mR M v0 0) v2.toNatClampNeg)) - (48 : Int32)) (v2 + 1) M
            else none
          else none
    else none
def f_X9_number (v0 : Nat) (M : Mem) : Option (Int32 × Mem) :=
  if mK M v0 = 10 then
    f_X9_number_7 FUEL v0 (0 : Int32) (mI M v0 4) M
  else none
theorem s_X9_number_7 : ∀ (n : Nat) (v0 : Nat) (v1 : Int32) (v2 : Int32) (M : Mem) (r : (Int32 × Mem)), f_X9_number_7 n v0 v1 v2 M = some r → G mi_X9_number 1 (oI r.1) r.2 7 [some (aR v0), some (aI v1), some (aI v2)] [] M 0 0 := by
  intro n
  induction n with
  | zero => intro v0 v1 v2 M r hf; cases hf
  | succ n ih =>
    intro v0 v1 v2 M r hf
    unfold f_X9_number_7 at hf
    refine g_iload_n (pc' := 8) dX9_number_7 rfl rfl ?_
    refine g_aload_n (pc' := 9) dX9_number_8 rfl rfl ?_
    obtain ⟨h1, hf⟩ := chk_s hf
    refine g_getI (pc' := 12) 9 5 rfl rfl (by decide) inX9 (by decide) rfl rfl q_189 dX9_number_9 rfl h1 ?_
    refine g_icmp_ge (pc' := 15) 46 dX9_number_12 rfl (by decide) (fun c2 => ?_) (fun c2 => ?_)
    · have hf := ite_t c2 hf
      refine g_iload_n (pc' := 47) dX9_number_46 rfl rfl ?_
      cases hf
      exact g_ireturn dX9_number_47 rfl (Nat.le_of_ble_eq_true rfl) (Nat.le_of_ble_eq_true rfl)
    · have hf := ite_f c2 hf
      refine g_iload_n (pc' := 16) dX9_number_15 rfl rfl ?_
      refine g_aload_n (pc' := 17) dX9_number_16 rfl rfl ?_
      refine g_getI (pc' := 20) 9 4 rfl rfl (by decide) inX9 (by decide) rfl rfl q_194 dX9_number_17 rfl h1 ?_
      refine g_iconst (pc' := 21) (3 : Int32) dX9_number_20 rfl (by decide) ?_
      refine g_iadd (pc' := 22) dX9_number_21 rfl ?_
      refine g_icmp_ge (pc' := 25) 46 dX9_number_22 rfl (by decide) (fun c3 => ?_) (fun c3 => ?_)
      · have hf := ite_t c3 hf
        refine g_iload_n (pc' := 47) dX9_number_46 rfl rfl ?_
        cases hf
        exact g_ireturn dX9_number_47 rfl (Nat.le_of_ble_eq_true rfl) (Nat.le_of_ble_eq_true rfl)
      · have hf := ite_f c3 hf
        refine g_iload_n (pc' := 26) dX9_number_25 rfl rfl ?_
        refine g_bipush (pc' := 28) (10 : Int32) dX9_number_26 rfl (by decide) ?_
        refine g_imul (pc' := 29) dX9_number_28 rfl ?_
        refine g_aload_n (pc' := 30) dX9_number_29 rfl rfl ?_
        refine g_getR (pc' := 33) 9 0 rfl rfl (by decide) inX9 (by decide) rfl rfl q_59 dX9_number_30 rfl h1 ?_
        refine g_iload_n (pc' := 34) dX9_number_33 rfl rfl ?_
        obtain ⟨h4, hf⟩ := chk_s hf
        obtain ⟨b5, hf⟩ := chk_s hf
        refine g_iald (pc' := 35) dX9_number_34 rfl h4 (inB_in b5) ?_
        refine g_iadd (pc' := 36) dX9_number_35 rfl ?_
        refine g_bipush (pc' := 38) (48 : Int32) dX9_number_36 rfl (by decide) ?_
        refine g_isub (pc' := 39) dX9_number_38 rfl ?_
        refine g_istore_n (pc' := 40) (lv' := [some (aR v0), some (aI (((v1 * (10 : Int32)) + (mI M (mR M v0 0) v2.toNatClampNeg)) - (48 : Int32))), some (aI v2)]) dX9_number_39 rfl rfl (by decide) rfl ?_
        refine g_iinc (pc' := 43) (lv' := [some (aR v0), some (aI (((v1 * (10 : Int32)) + (mI M (mR M v0 0) v2.toNatClampNeg)) - (48 : Int32))), some (aI (v2 + 1))]) (v2 + 1) dX9_number_40 rfl rfl (by rfl) rfl (by decide) rfl ?_
        refine g_goto (pc' := 7) dX9_number_43 (by decide) ?_
        exact ih v0 (((v1 * (10 : Int32)) + (mI M (mR M v0 0) v2.toNatClampNeg)) - (48 : Int32)) (v2 + 1) M _ hf
theorem s_X9_number (v0 : Nat) (M : Mem) (r : (Int32 × Mem)) (hf : f_X9_number v0 M = some r) : Sem mi_X9_number (1) [aR v0] M (oI r.1) r.2 := by
  unfold f_X9_number at hf
  refine sem_of (by decide) rfl rfl rfl (Nat.le_of_ble_eq_true rfl) (lv := [some (aR v0), none, none]) rfl ?_
  refine g_iconst (pc' := 1) (0 : Int32) dX9_number_0 rfl (by decide) ?_
  refine g_istore_n (pc' := 2) (lv' := [some (aR v0), some (aI (0 : Int32)), none]) dX9_number_1 rfl rfl (by decide) rfl ?_
  refine g_aload_n (pc' := 3) dX9_number_2 rfl rfl ?_
  obtain ⟨h1, hf⟩ := chk_s hf
  refine g_getI (pc' := 6) 9 4 rfl rfl (by decide) inX9 (by decide) rfl rfl q_194 dX9_number_3 rfl h1 ?_
  refine g_istore_n (pc' := 7) (lv' := [some (aR v0), some (aI (0 : Int32)), some (aI (mI M v0 4))]) dX9_number_6 rfl rfl (by decide) rfl ?_
  exact s_X9_number_7 FUEL v0 (0 : Int32) (mI M v0 4) M _ hf
def f_X3_readStep_52 (v0 : Nat) (v1 : Nat) (v2 : Int32) (M : Mem) : Option (Int32 × Mem) :=
  if mK M v0 = 4 then
    if mK M (mR M v0 3) = 21 then
      if inB (mI M v0 0) (mN M (mR M v0 3)) = true then
        ap (sI M (mR M v0 3) (mI M v0 0).toNatClampNeg v2) fun M4 =>
        if mK M4 v0 = 4 then
          if mK M4 v1 = 10 then
            bnd (f_X9_number v1 M4) fun r8 M7 =>
            if mK M7 (mR M4 v0 4) = 21 then
              if inB (mI M4 v0 0) (mN M7 (mR M4 v0 4)) = true then
                ap (sI M7 (mR M4 v0 4) (mI M4 v0 0).toNatClampNeg r8) fun M11 =>
                if mK M11 v0 = 4 then
                  ap (sI M11 v0 0 ((mI M11 v0 0) + (1 : Int32))) fun M13 =>
                  if mK M13 v1 = 10 then
                    bnd (f_X9_advance v1 M13) fun _ M15 =>
                    if mK M15 v1 = 10 then
                      if (mI M15 v1 3) = (59 : Int32) then
                        some ((0 : Int32), M15)
                      else
                        some ((1 : Int32), M15)
                    else none
                  else none
                else none
              else none
            else none
          else none
        else none
      else none
    else none
  else none
def f_X3_readStep (v0 : Nat) (v1 : Nat) (M : Mem) : Option (Int32 × Mem) :=
  bnd (f_X3_kindTold v1 M) fun r2 M1 =>
  if r2 = (-1 : Int32) then
    some ((1 : Int32), M1)
  else
    if mK M1 v0 = 4 then
      if (mI M1 v0 0) < (8 : Int32) then
        if mK M1 v1 = 10 then
          bnd (f_X9_advance v1 M1) fun _ M7 =>
          if mK M7 v1 = 10 then
            bnd (f_X9_numberFault v1 M7) fun r11 M10 =>
            if r11 = 0 then
              if r2 = (2 : Int32) then
                if mK M10 v1 = 10 then
                  bnd (f_X9_number v1 M10) fun r16 M15 =>
                  if r16 = 0 then
                    some ((2 : Int32), M15)
                  else
                    f_X3_readStep_52 v0 v1 r2 M15
                else none
              else
                f_X3_readStep_52 v0 v1 r2 M10
            else
              some (r11, M10)
          else none
        else none
      else
        some ((2 : Int32), M1)
    else none
theorem s_X3_readStep_52 (v0 : Nat) (v1 : Nat) (v2 : Int32) (M : Mem) (r : (Int32 × Mem)) (hf : f_X3_readStep_52 v0 v1 v2 M = some r) : G mi_X3_readStep 7 (oI r.1) r.2 52 [some (aR v0), some (aR v1), some (aI v2), none] [] M 0 0 := by
  unfold f_X3_readStep_52 at hf
  refine g_aload_n (pc' := 53) dX3_readStep_52 rfl rfl ?_
  obtain ⟨h1, hf⟩ := chk_s hf
  refine g_getR (pc' := 56) 3 3 rfl rfl (by decide) inX3 (by decide) rfl rfl q_114 dX3_readStep_53 rfl h1 ?_
  refine g_aload_n (pc' := 57) dX3_readStep_56 rfl rfl ?_
  refine g_getI (pc' := 60) 3 0 rfl rfl (by decide) inX3 (by decide) rfl rfl q_346 dX3_readStep_57 rfl h1 ?_
  refine g_iload_n (pc' := 61) dX3_readStep_60 rfl rfl ?_
  obtain ⟨h2, hf⟩ := chk_s hf
  obtain ⟨b3, hf⟩ := chk_s hf
  refine g_iast (pc' := 62) dX3_readStep_61 rfl h2 (inB_in b3) (gM fun M4 hM4 => ?_)
  have hf := ap_eq hf hM4
  refine g_aload_n (pc' := 63) dX3_readStep_62 rfl rfl ?_
  obtain ⟨h5, hf⟩ := chk_s hf
  refine g_getR (pc' := 66) 3 4 rfl rfl (by decide) inX3 (by decide) rfl rfl q_115 dX3_readStep_63 rfl h5 ?_
  refine g_aload_n (pc' := 67) dX3_readStep_66 rfl rfl ?_
  refine g_getI (pc' := 70) 3 0 rfl rfl (by decide) inX3 (by decide) rfl rfl q_346 dX3_readStep_67 rfl h5 ?_
  refine g_aload_n (pc' := 71) dX3_readStep_70 rfl rfl ?_
  obtain ⟨h6, hf⟩ := chk_s hf
  obtain ⟨r8, M7, e8, hf⟩ := bnd_some hf
  refine g_callVi (pc' := 74) (k' := 0) (u' := 0) (fr2 := 1) (As := []) (b := v1) (st := [aI (mI M4 v0 0), aR (mR M4 v0 4)]) cf_X9_number q_775 (by omega) (ci := 9) rfl rfl (by decide) dX3_readStep_71 rfl rfl rfl (Nat.le_of_ble_eq_true rfl) (Or.inl rfl) (Nat.le_refl _) (Nat.le_refl _) (Nat.le_refl _) (Nat.le_refl _) h6 (s_X9_number v1 M4 _ e8) ?_
  obtain ⟨h9, hf⟩ := chk_s hf
  obtain ⟨b10, hf⟩ := chk_s hf
  refine g_iast (pc' := 75) dX3_readStep_74 rfl h9 (inB_in b10) (gM fun M11 hM11 => ?_)
  have hf := ap_eq hf hM11
  refine g_aload_n (pc' := 76) dX3_readStep_75 rfl rfl ?_
  refine g_dup (pc' := 77) dX3_readStep_76 rfl rfl ?_
  obtain ⟨h12, hf⟩ := chk_s hf
  refine g_getI (pc' := 80) 3 0 rfl rfl (by decide) inX3 (by decide) rfl rfl q_346 dX3_readStep_77 rfl h12 ?_
  refine g_iconst (pc' := 81) (1 : Int32) dX3_readStep_80 rfl (by decide) ?_
  refine g_iadd (pc' := 82) dX3_readStep_81 rfl ?_
  refine g_putI (pc' := 85) 3 0 rfl rfl (by decide) inX3 tyX3_ok nmX3 (by decide) rfl rfl rfl rfl q_346 dX3_readStep_82 rfl h12 (gM fun M13 hM13 => ?_)
  have hf := ap_eq hf hM13
  refine g_aload_n (pc' := 86) dX3_readStep_85 rfl rfl ?_
  obtain ⟨h14, hf⟩ := chk_s hf
  obtain ⟨_, M15, e16, hf⟩ := bnd_some hf
  refine g_callVv (pc' := 89) (k' := 0) (u' := 0) (fr2 := 2) (As := []) (b := v1) (st := []) cf_X9_advance q_773 (by omega) (ci := 9) rfl rfl (by decide) dX3_readStep_86 rfl rfl rfl (Nat.le_of_ble_eq_true rfl) (Or.inl rfl) (Nat.le_refl _) (Nat.le_refl _) (Nat.le_refl _) (Nat.le_refl _) h14 (s_X9_advance v1 M13 _ e16) ?_
  refine g_aload_n (pc' := 90) dX3_readStep_89 rfl rfl ?_
  obtain ⟨h17, hf⟩ := chk_s hf
  refine g_getI (pc' := 93) 9 3 rfl rfl (by decide) inX9 (by decide) rfl rfl q_764 dX3_readStep_90 rfl h17 ?_
  refine g_bipush (pc' := 95) (59 : Int32) dX3_readStep_93 rfl (by decide) ?_
  refine g_icmp_ne (pc' := 98) 102 dX3_readStep_95 rfl (by decide) (fun c18 => ?_) (fun c18 => ?_)
  · have hf := ite_f c18 hf
    refine g_iconst (pc' := 103) (1 : Int32) dX3_readStep_102 rfl (by decide) ?_
    cases hf
    exact g_ireturn dX3_readStep_103 rfl (Nat.le_of_ble_eq_true rfl) (Nat.le_of_ble_eq_true rfl)
  · have hf := ite_t c18 hf
    refine g_iconst (pc' := 99) (0 : Int32) dX3_readStep_98 rfl (by decide) ?_
    refine g_goto (pc' := 103) dX3_readStep_99 (by decide) ?_
    cases hf
    exact g_ireturn dX3_readStep_103 rfl (Nat.le_of_ble_eq_true rfl) (Nat.le_of_ble_eq_true rfl)
theorem s_X3_readStep (v0 : Nat) (v1 : Nat) (M : Mem) (r : (Int32 × Mem)) (hf : f_X3_readStep v0 v1 M = some r) : Sem mi_X3_readStep (7) [aR v0, aR v1] M (oI r.1) r.2 := by
  unfold f_X3_readStep at hf
  refine sem_of (by decide) rfl rfl rfl (Nat.le_of_ble_eq_true rfl) (lv := [some (aR v0), some (aR v1), none, none]) rfl ?_
  refine g_aload_n (pc' := 1) dX3_readStep_0 rfl rfl ?_
  obtain ⟨r2, M1, e2, hf⟩ := bnd_some hf
  refine g_callSi (pc' := 4) (k' := 0) (u' := 0) (fr2 := 6) (As := [aR v1]) (st := []) cf_X3_kindTold q_769 (by omega) dX3_readStep_1 rfl rfl rfl (Nat.le_of_ble_eq_true rfl) (Or.inl rfl) (Nat.le_refl _) (Nat.le_refl _) (Nat.le_refl _) (Nat.le_refl _) (s_X3_kindTold v1 M _ e2) ?_
  refine g_istore_n (pc' := 5) (lv' := [some (aR v0), some (aR v1), some (aI r2), none]) dX3_readStep_4 rfl rfl (by decide) rfl ?_
  refine g_iload_n (pc' := 6) dX3_readStep_5 rfl rfl ?_
  refine g_iconst (pc' := 7) (-1 : Int32) dX3_readStep_6 rfl (by decide) ?_
  refine g_icmp_ne (pc' := 10) 12 dX3_readStep_7 rfl (by decide) (fun c3 => ?_) (fun c3 => ?_)
  · have hf := ite_f c3 hf
    refine g_aload_n (pc' := 13) dX3_readStep_12 rfl rfl ?_
    obtain ⟨h4, hf⟩ := chk_s hf
    refine g_getI (pc' := 16) 3 0 rfl rfl (by decide) inX3 (by decide) rfl rfl q_346 dX3_readStep_13 rfl h4 ?_
    refine g_bipush (pc' := 18) (8 : Int32) dX3_readStep_16 rfl (by decide) ?_
    refine g_icmp_lt (pc' := 21) 23 dX3_readStep_18 rfl (by decide) (fun c5 => ?_) (fun c5 => ?_)
    · have hf := ite_t c5 hf
      refine g_aload_n (pc' := 24) dX3_readStep_23 rfl rfl ?_
      obtain ⟨h6, hf⟩ := chk_s hf
      obtain ⟨_, M7, e8, hf⟩ := bnd_some hf
      refine g_callVv (pc' := 27) (k' := 0) (u' := 0) (fr2 := 2) (As := []) (b := v1) (st := []) cf_X9_advance q_773 (by omega) (ci := 9) rfl rfl (by decide) dX3_readStep_24 rfl rfl rfl (Nat.le_of_ble_eq_true rfl) (Or.inl rfl) (Nat.le_refl _) (Nat.le_refl _) (Nat.le_refl _) (Nat.le_refl _) h6 (s_X9_advance v1 M1 _ e8) ?_
      refine g_aload_n (pc' := 28) dX3_readStep_27 rfl rfl ?_
      obtain ⟨h9, hf⟩ := chk_s hf
      obtain ⟨r11, M10, e11, hf⟩ := bnd_some hf
      refine g_callVi (pc' := 31) (k' := 0) (u' := 0) (fr2 := 2) (As := []) (b := v1) (st := []) cf_X9_numberFault q_774 (by omega) (ci := 9) rfl rfl (by decide) dX3_readStep_28 rfl rfl rfl (Nat.le_of_ble_eq_true rfl) (Or.inl rfl) (Nat.le_refl _) (Nat.le_refl _) (Nat.le_refl _) (Nat.le_refl _) h9 (s_X9_numberFault v1 M7 _ e11) ?_
      refine g_istore_n (pc' := 32) (lv' := [some (aR v0), some (aR v1), some (aI r2), some (aI r11)]) dX3_readStep_31 rfl rfl (by decide) rfl ?_
      refine g_iload_n (pc' := 33) dX3_readStep_32 rfl rfl ?_
      refine g_if_eq (pc' := 36) 38 dX3_readStep_33 rfl (by decide) (fun c12 => ?_) (fun c12 => ?_)
      · have hf := ite_t c12 hf
        refine g_iload_n (pc' := 39) dX3_readStep_38 rfl rfl ?_
        refine g_iconst (pc' := 40) (2 : Int32) dX3_readStep_39 rfl (by decide) ?_
        refine g_icmp_ne (pc' := 43) 52 dX3_readStep_40 rfl (by decide) (fun c13 => ?_) (fun c13 => ?_)
        · have hf := ite_f c13 hf
          refine g_mask [true, true, true, false] rfl ?_
          refine g_widen (k' := 0) (u' := 0) (by omega) (by omega) ?_
          exact s_X3_readStep_52 v0 v1 r2 M10 _ hf
        · have hf := ite_t c13 hf
          refine g_aload_n (pc' := 44) dX3_readStep_43 rfl rfl ?_
          obtain ⟨h14, hf⟩ := chk_s hf
          obtain ⟨r16, M15, e16, hf⟩ := bnd_some hf
          refine g_callVi (pc' := 47) (k' := 0) (u' := 0) (fr2 := 1) (As := []) (b := v1) (st := []) cf_X9_number q_775 (by omega) (ci := 9) rfl rfl (by decide) dX3_readStep_44 rfl rfl rfl (Nat.le_of_ble_eq_true rfl) (Or.inl rfl) (Nat.le_refl _) (Nat.le_refl _) (Nat.le_refl _) (Nat.le_refl _) h14 (s_X9_number v1 M10 _ e16) ?_
          refine g_if_ne (pc' := 50) 52 dX3_readStep_47 rfl (by decide) (fun c17 => ?_) (fun c17 => ?_)
          · have hf := ite_f c17 hf
            refine g_mask [true, true, true, false] rfl ?_
            refine g_widen (k' := 0) (u' := 0) (by omega) (by omega) ?_
            exact s_X3_readStep_52 v0 v1 r2 M15 _ hf
          · have hf := ite_t c17 hf
            refine g_iconst (pc' := 51) (2 : Int32) dX3_readStep_50 rfl (by decide) ?_
            cases hf
            exact g_ireturn dX3_readStep_51 rfl (Nat.le_of_ble_eq_true rfl) (Nat.le_of_ble_eq_true rfl)
      · have hf := ite_f c12 hf
        refine g_iload_n (pc' := 37) dX3_readStep_36 rfl rfl ?_
        cases hf
        exact g_ireturn dX3_readStep_37 rfl (Nat.le_of_ble_eq_true rfl) (Nat.le_of_ble_eq_true rfl)
    · have hf := ite_f c5 hf
      refine g_iconst (pc' := 22) (2 : Int32) dX3_readStep_21 rfl (by decide) ?_
      cases hf
      exact g_ireturn dX3_readStep_22 rfl (Nat.le_of_ble_eq_true rfl) (Nat.le_of_ble_eq_true rfl)
  · have hf := ite_t c3 hf
    refine g_iconst (pc' := 11) (1 : Int32) dX3_readStep_10 rfl (by decide) ?_
    cases hf
    exact g_ireturn dX3_readStep_11 rfl (Nat.le_of_ble_eq_true rfl) (Nat.le_of_ble_eq_true rfl)
def f_X3_read_7 : Nat → Nat → Nat → Int32 → Mem → Option (Int32 × Mem)
  | 0, _, _, _, _ => none
  | n + 1, v0, v1, v2, M =>
    if (700 : Int32) < v2 then
      some ((0 : Int32), M)
    else
      if mK M v1 = 10 then
        if (mI M v1 3) = 0 then
          some ((0 : Int32), M)
        else
          if mK M v0 = 4 then
            bnd (f_X3_readStep v0 v1 M) fun r6 M5 =>
            if r6 = 0 then
              if mK M5 v1 = 10 then
                bnd (f_X9_advance v1 M5) fun _ M9 =>
                f_X3_read_7 n v0 v1 (v2 + 1) M9
              else none
            else
              some (r6, M5)
          else none
      else none
def f_X3_read (v0 : Nat) (v1 : Nat) (M : Mem) : Option (Int32 × Mem) :=
  if mK M v0 = 4 then
    ap (sI M v0 0 (0 : Int32)) fun M2 =>
    f_X3_read_7 FUEL v0 v1 (0 : Int32) M2
  else none
theorem s_X3_read_7 : ∀ (n : Nat) (v0 : Nat) (v1 : Nat) (v2 : Int32) (M : Mem) (r : (Int32 × Mem)), f_X3_read_7 n v0 v1 v2 M = some r → G mi_X3_read 8 (oI r.1) r.2 7 [some (aR v0), some (aR v1), some (aI v2), none] [] M 0 0 := by
  intro n
  induction n with
  | zero => intro v0 v1 v2 M r hf; cases hf
  | succ n ih =>
    intro v0 v1 v2 M r hf
    unfold f_X3_read_7 at hf
    refine g_iload_n (pc' := 8) dX3_read_7 rfl rfl ?_
    refine g_sipush (pc' := 11) (700 : Int32) dX3_read_8 rfl (by decide) ?_
    refine g_icmp_gt (pc' := 14) 43 dX3_read_11 rfl (by decide) (fun c1 => ?_) (fun c1 => ?_)
    · have hf := ite_t c1 hf
      refine g_iconst (pc' := 44) (0 : Int32) dX3_read_43 rfl (by decide) ?_
      cases hf
      exact g_ireturn dX3_read_44 rfl (Nat.le_of_ble_eq_true rfl) (Nat.le_of_ble_eq_true rfl)
    · have hf := ite_f c1 hf
      refine g_aload_n (pc' := 15) dX3_read_14 rfl rfl ?_
      obtain ⟨h2, hf⟩ := chk_s hf
      refine g_getI (pc' := 18) 9 3 rfl rfl (by decide) inX9 (by decide) rfl rfl q_764 dX3_read_15 rfl h2 ?_
      refine g_if_eq (pc' := 21) 43 dX3_read_18 rfl (by decide) (fun c3 => ?_) (fun c3 => ?_)
      · have hf := ite_t c3 hf
        refine g_iconst (pc' := 44) (0 : Int32) dX3_read_43 rfl (by decide) ?_
        cases hf
        exact g_ireturn dX3_read_44 rfl (Nat.le_of_ble_eq_true rfl) (Nat.le_of_ble_eq_true rfl)
      · have hf := ite_f c3 hf
        refine g_aload_n (pc' := 22) dX3_read_21 rfl rfl ?_
        refine g_aload_n (pc' := 23) dX3_read_22 rfl rfl ?_
        obtain ⟨h4, hf⟩ := chk_s hf
        obtain ⟨r6, M5, e6, hf⟩ := bnd_some hf
        refine g_callVi (pc' := 26) (k' := 0) (u' := 0) (fr2 := 7) (As := [aR v1]) (b := v0) (st := []) cf_X3_readStep q_765 (by omega) (ci := 3) rfl rfl (by decide) dX3_read_23 rfl rfl rfl (Nat.le_of_ble_eq_true rfl) (Or.inl rfl) (Nat.le_refl _) (Nat.le_refl _) (Nat.le_refl _) (Nat.le_refl _) h4 (s_X3_readStep v0 v1 M _ e6) ?_
        refine g_istore_n (pc' := 27) (lv' := [some (aR v0), some (aR v1), some (aI v2), some (aI r6)]) dX3_read_26 rfl rfl (by decide) rfl ?_
        refine g_iload_n (pc' := 28) dX3_read_27 rfl rfl ?_
        refine g_if_eq (pc' := 31) 33 dX3_read_28 rfl (by decide) (fun c7 => ?_) (fun c7 => ?_)
        · have hf := ite_t c7 hf
          refine g_aload_n (pc' := 34) dX3_read_33 rfl rfl ?_
          obtain ⟨h8, hf⟩ := chk_s hf
          obtain ⟨_, M9, e10, hf⟩ := bnd_some hf
          refine g_callVv (pc' := 37) (k' := 0) (u' := 0) (fr2 := 2) (As := []) (b := v1) (st := []) cf_X9_advance q_773 (by omega) (ci := 9) rfl rfl (by decide) dX3_read_34 rfl rfl rfl (Nat.le_of_ble_eq_true rfl) (Or.inl rfl) (Nat.le_refl _) (Nat.le_refl _) (Nat.le_refl _) (Nat.le_refl _) h8 (s_X9_advance v1 M5 _ e10) ?_
          refine g_iinc (pc' := 40) (lv' := [some (aR v0), some (aR v1), some (aI (v2 + 1)), some (aI r6)]) (v2 + 1) dX3_read_37 rfl rfl (by rfl) rfl (by decide) rfl ?_
          refine g_goto (pc' := 7) dX3_read_40 (by decide) ?_
          refine g_mask [true, true, true, false] rfl ?_
          refine g_widen (k' := 0) (u' := 0) (by omega) (by omega) ?_
          exact ih v0 v1 (v2 + 1) M9 _ hf
        · have hf := ite_f c7 hf
          refine g_iload_n (pc' := 32) dX3_read_31 rfl rfl ?_
          cases hf
          exact g_ireturn dX3_read_32 rfl (Nat.le_of_ble_eq_true rfl) (Nat.le_of_ble_eq_true rfl)
theorem s_X3_read (v0 : Nat) (v1 : Nat) (M : Mem) (r : (Int32 × Mem)) (hf : f_X3_read v0 v1 M = some r) : Sem mi_X3_read (8) [aR v0, aR v1] M (oI r.1) r.2 := by
  unfold f_X3_read at hf
  refine sem_of (by decide) rfl rfl rfl (Nat.le_of_ble_eq_true rfl) (lv := [some (aR v0), some (aR v1), none, none]) rfl ?_
  refine g_aload_n (pc' := 1) dX3_read_0 rfl rfl ?_
  refine g_iconst (pc' := 2) (0 : Int32) dX3_read_1 rfl (by decide) ?_
  obtain ⟨h1, hf⟩ := chk_s hf
  refine g_putI (pc' := 5) 3 0 rfl rfl (by decide) inX3 tyX3_ok nmX3 (by decide) rfl rfl rfl rfl q_346 dX3_read_2 rfl h1 (gM fun M2 hM2 => ?_)
  have hf := ap_eq hf hM2
  refine g_iconst (pc' := 6) (0 : Int32) dX3_read_5 rfl (by decide) ?_
  refine g_istore_n (pc' := 7) (lv' := [some (aR v0), some (aR v1), some (aI (0 : Int32)), none]) dX3_read_6 rfl rfl (by decide) rfl ?_
  exact s_X3_read_7 FUEL v0 v1 (0 : Int32) M2 _ hf
def f_X3_goesOn (v0 : Nat) (v1 : Int32) (v2 : Int32) (M : Mem) : Option (Int32 × Mem) :=
  if mK M v0 = 4 then
    if mK M (mR M v0 5) = 21 then
      if inB v1 (mN M (mR M v0 5)) = true then
        ap (sI M (mR M v0 5) v1.toNatClampNeg ((mI M (mR M v0 5) v1.toNatClampNeg) + (1 : Int32))) fun M4 =>
        if mK M4 v0 = 4 then
          if mK M4 (mR M4 v0 3) = 21 then
            if inB v1 (mN M4 (mR M4 v0 3)) = true then
              if (mI M4 (mR M4 v0 3) v1.toNatClampNeg) = (3 : Int32) then
                if mK M4 (mR M4 v0 4) = 21 then
                  if inB v1 (mN M4 (mR M4 v0 4)) = true then
                    if (mI M4 (mR M4 v0 4) v1.toNatClampNeg) ≤ v2 then
                      some ((0 : Int32), M4)
                    else
                      some ((1 : Int32), M4)
                  else none
                else none
              else
              if (mI M4 (mR M4 v0 3) v1.toNatClampNeg) = (4 : Int32) then
                if mK M4 (mR M4 v0 4) = 21 then
                  if inB v1 (mN M4 (mR M4 v0 4)) = true then
                    if v2 ≤ (mI M4 (mR M4 v0 4) v1.toNatClampNeg) then
                      some ((0 : Int32), M4)
                    else
                      some ((1 : Int32), M4)
                  else none
                else none
              else
              if (mI M4 (mR M4 v0 3) v1.toNatClampNeg) = (5 : Int32) then
                if mK M4 (mR M4 v0 4) = 21 then
                  if inB v1 (mN M4 (mR M4 v0 4)) = true then
                    if (mI M4 (mR M4 v0 4) v1.toNatClampNeg) ≤ (mI M (mR M v0 5) v1.toNatClampNeg) then
                      some ((0 : Int32), M4)
                    else
                      some ((1 : Int32), M4)
                  else none
                else none
              else
              if (mI M4 (mR M4 v0 3) v1.toNatClampNeg) = (6 : Int32) then
                if mK M4 (mR M4 v0 4) = 21 then
                  if inB v1 (mN M4 (mR M4 v0 4)) = true then
                    if ¬ ((mI M4 (mR M4 v0 4) v1.toNatClampNeg) + (1 : Int32)) = 0 then
                    if ((mI M (mR M v0 5) v1.toNatClampNeg) - (mI M (mR M v0 5) v1.toNatClampNeg) / ((mI M4 (mR M4 v0 4) v1.toNatClampNeg) + (1 : Int32)) * ((mI M4 (mR M4 v0 4) v1.toNatClampNeg) + (1 : Int32))) = 0 then
                      some ((1 : Int32), M4)
                    else
                      some ((0 : Int32), M4)
                    else none
                  else none
                else none
              else
              some ((1 : Int32), M4)
            else none
          else none
        else none
      else none
    else none
  else none
theorem s_X3_goesOn (v0 : Nat) (v1 : Int32) (v2 : Int32) (M : Mem) (r : (Int32 × Mem)) (hf : f_X3_goesOn v0 v1 v2 M = some r) : Sem mi_X3_goesOn (1) [aR v0, aI v1, aI v2] M (oI r.1) r.2 := by
  unfold f_X3_goesOn at hf
  refine sem_of (by decide) rfl rfl rfl (Nat.le_of_ble_eq_true rfl) (lv := [some (aR v0), some (aI v1), some (aI v2), none]) rfl ?_
  refine g_aload_n (pc' := 1) dX3_goesOn_0 rfl rfl ?_
  obtain ⟨h1, hf⟩ := chk_s hf
  refine g_getR (pc' := 4) 3 5 rfl rfl (by decide) inX3 (by decide) rfl rfl q_116 dX3_goesOn_1 rfl h1 ?_
  refine g_iload_n (pc' := 5) dX3_goesOn_4 rfl rfl ?_
  obtain ⟨h2, hf⟩ := chk_s hf
  obtain ⟨b3, hf⟩ := chk_s hf
  refine g_iald (pc' := 6) dX3_goesOn_5 rfl h2 (inB_in b3) ?_
  refine g_istore_n (pc' := 7) (lv' := [some (aR v0), some (aI v1), some (aI v2), some (aI (mI M (mR M v0 5) v1.toNatClampNeg))]) dX3_goesOn_6 rfl rfl (by decide) rfl ?_
  refine g_aload_n (pc' := 8) dX3_goesOn_7 rfl rfl ?_
  refine g_getR (pc' := 11) 3 5 rfl rfl (by decide) inX3 (by decide) rfl rfl q_116 dX3_goesOn_8 rfl h1 ?_
  refine g_iload_n (pc' := 12) dX3_goesOn_11 rfl rfl ?_
  refine g_dup2 (pc' := 13) dX3_goesOn_12 rfl rfl rfl ?_
  refine g_iald (pc' := 14) dX3_goesOn_13 rfl h2 (inB_in b3) ?_
  refine g_iconst (pc' := 15) (1 : Int32) dX3_goesOn_14 rfl (by decide) ?_
  refine g_iadd (pc' := 16) dX3_goesOn_15 rfl ?_
  refine g_iast (pc' := 17) dX3_goesOn_16 rfl h2 (inB_in b3) (gM fun M4 hM4 => ?_)
  have hf := ap_eq hf hM4
  refine g_aload_n (pc' := 18) dX3_goesOn_17 rfl rfl ?_
  obtain ⟨h5, hf⟩ := chk_s hf
  refine g_getR (pc' := 21) 3 3 rfl rfl (by decide) inX3 (by decide) rfl rfl q_114 dX3_goesOn_18 rfl h5 ?_
  refine g_iload_n (pc' := 22) dX3_goesOn_21 rfl rfl ?_
  obtain ⟨h6, hf⟩ := chk_s hf
  obtain ⟨b7, hf⟩ := chk_s hf
  refine g_iald (pc' := 23) dX3_goesOn_22 rfl h6 (inB_in b7) ?_
  by_cases c8 : (mI M4 (mR M4 v0 3) v1.toNatClampNeg) = (3 : Int32)
  · have hf := ite_t c8 hf
    refine g_tsw (pc' := 52) (3 : Int32) dX3_goesOn_23 c8 (by decide) (by decide) rfl (by decide) ?_
    refine g_iload_n (pc' := 53) dX3_goesOn_52 rfl rfl ?_
    refine g_aload_n (pc' := 54) dX3_goesOn_53 rfl rfl ?_
    refine g_getR (pc' := 57) 3 4 rfl rfl (by decide) inX3 (by decide) rfl rfl q_115 dX3_goesOn_54 rfl h5 ?_
    refine g_iload_n (pc' := 58) dX3_goesOn_57 rfl rfl ?_
    obtain ⟨h9, hf⟩ := chk_s hf
    obtain ⟨b10, hf⟩ := chk_s hf
    refine g_iald (pc' := 59) dX3_goesOn_58 rfl h9 (inB_in b10) ?_
    refine g_icmp_ge (pc' := 62) 66 dX3_goesOn_59 rfl (by decide) (fun c11 => ?_) (fun c11 => ?_)
    · have hf := ite_t c11 hf
      refine g_iconst (pc' := 67) (0 : Int32) dX3_goesOn_66 rfl (by decide) ?_
      cases hf
      exact g_zreturn dX3_goesOn_67 rfl (Or.inl rfl) (Nat.le_of_ble_eq_true rfl) (Nat.le_of_ble_eq_true rfl)
    · have hf := ite_f c11 hf
      refine g_iconst (pc' := 63) (1 : Int32) dX3_goesOn_62 rfl (by decide) ?_
      refine g_goto (pc' := 67) dX3_goesOn_63 (by decide) ?_
      cases hf
      exact g_zreturn dX3_goesOn_67 rfl (Or.inr rfl) (Nat.le_of_ble_eq_true rfl) (Nat.le_of_ble_eq_true rfl)
  have hf := ite_f c8 hf
  by_cases c12 : (mI M4 (mR M4 v0 3) v1.toNatClampNeg) = (4 : Int32)
  · have hf := ite_t c12 hf
    refine g_tsw (pc' := 68) (4 : Int32) dX3_goesOn_23 c12 (by decide) (by decide) rfl (by decide) ?_
    refine g_iload_n (pc' := 69) dX3_goesOn_68 rfl rfl ?_
    refine g_aload_n (pc' := 70) dX3_goesOn_69 rfl rfl ?_
    refine g_getR (pc' := 73) 3 4 rfl rfl (by decide) inX3 (by decide) rfl rfl q_115 dX3_goesOn_70 rfl h5 ?_
    refine g_iload_n (pc' := 74) dX3_goesOn_73 rfl rfl ?_
    obtain ⟨h13, hf⟩ := chk_s hf
    obtain ⟨b14, hf⟩ := chk_s hf
    refine g_iald (pc' := 75) dX3_goesOn_74 rfl h13 (inB_in b14) ?_
    refine g_icmp_le (pc' := 78) 82 dX3_goesOn_75 rfl (by decide) (fun c15 => ?_) (fun c15 => ?_)
    · have hf := ite_t c15 hf
      refine g_iconst (pc' := 83) (0 : Int32) dX3_goesOn_82 rfl (by decide) ?_
      cases hf
      exact g_zreturn dX3_goesOn_83 rfl (Or.inl rfl) (Nat.le_of_ble_eq_true rfl) (Nat.le_of_ble_eq_true rfl)
    · have hf := ite_f c15 hf
      refine g_iconst (pc' := 79) (1 : Int32) dX3_goesOn_78 rfl (by decide) ?_
      refine g_goto (pc' := 83) dX3_goesOn_79 (by decide) ?_
      cases hf
      exact g_zreturn dX3_goesOn_83 rfl (Or.inr rfl) (Nat.le_of_ble_eq_true rfl) (Nat.le_of_ble_eq_true rfl)
  have hf := ite_f c12 hf
  by_cases c16 : (mI M4 (mR M4 v0 3) v1.toNatClampNeg) = (5 : Int32)
  · have hf := ite_t c16 hf
    refine g_tsw (pc' := 84) (5 : Int32) dX3_goesOn_23 c16 (by decide) (by decide) rfl (by decide) ?_
    refine g_iload_n (pc' := 85) dX3_goesOn_84 rfl rfl ?_
    refine g_aload_n (pc' := 86) dX3_goesOn_85 rfl rfl ?_
    refine g_getR (pc' := 89) 3 4 rfl rfl (by decide) inX3 (by decide) rfl rfl q_115 dX3_goesOn_86 rfl h5 ?_
    refine g_iload_n (pc' := 90) dX3_goesOn_89 rfl rfl ?_
    obtain ⟨h17, hf⟩ := chk_s hf
    obtain ⟨b18, hf⟩ := chk_s hf
    refine g_iald (pc' := 91) dX3_goesOn_90 rfl h17 (inB_in b18) ?_
    refine g_icmp_ge (pc' := 94) 98 dX3_goesOn_91 rfl (by decide) (fun c19 => ?_) (fun c19 => ?_)
    · have hf := ite_t c19 hf
      refine g_iconst (pc' := 99) (0 : Int32) dX3_goesOn_98 rfl (by decide) ?_
      cases hf
      exact g_zreturn dX3_goesOn_99 rfl (Or.inl rfl) (Nat.le_of_ble_eq_true rfl) (Nat.le_of_ble_eq_true rfl)
    · have hf := ite_f c19 hf
      refine g_iconst (pc' := 95) (1 : Int32) dX3_goesOn_94 rfl (by decide) ?_
      refine g_goto (pc' := 99) dX3_goesOn_95 (by decide) ?_
      cases hf
      exact g_zreturn dX3_goesOn_99 rfl (Or.inr rfl) (Nat.le_of_ble_eq_true rfl) (Nat.le_of_ble_eq_true rfl)
  have hf := ite_f c16 hf
  by_cases c20 : (mI M4 (mR M4 v0 3) v1.toNatClampNeg) = (6 : Int32)
  · have hf := ite_t c20 hf
    refine g_tsw (pc' := 100) (6 : Int32) dX3_goesOn_23 c20 (by decide) (by decide) rfl (by decide) ?_
    refine g_iload_n (pc' := 101) dX3_goesOn_100 rfl rfl ?_
    refine g_aload_n (pc' := 102) dX3_goesOn_101 rfl rfl ?_
    refine g_getR (pc' := 105) 3 4 rfl rfl (by decide) inX3 (by decide) rfl rfl q_115 dX3_goesOn_102 rfl h5 ?_
    refine g_iload_n (pc' := 106) dX3_goesOn_105 rfl rfl ?_
    obtain ⟨h21, hf⟩ := chk_s hf
    obtain ⟨b22, hf⟩ := chk_s hf
    refine g_iald (pc' := 107) dX3_goesOn_106 rfl h21 (inB_in b22) ?_
    refine g_iconst (pc' := 108) (1 : Int32) dX3_goesOn_107 rfl (by decide) ?_
    refine g_iadd (pc' := 109) dX3_goesOn_108 rfl ?_
    obtain ⟨hz23, hf⟩ := chk_s hf
    refine g_irem (pc' := 110) dX3_goesOn_109 rfl hz23 ?_
    refine g_if_ne (pc' := 113) 117 dX3_goesOn_110 rfl (by decide) (fun c24 => ?_) (fun c24 => ?_)
    · have hf := ite_f c24 hf
      refine g_iconst (pc' := 118) (0 : Int32) dX3_goesOn_117 rfl (by decide) ?_
      cases hf
      exact g_zreturn dX3_goesOn_118 rfl (Or.inl rfl) (Nat.le_of_ble_eq_true rfl) (Nat.le_of_ble_eq_true rfl)
    · have hf := ite_t c24 hf
      refine g_iconst (pc' := 114) (1 : Int32) dX3_goesOn_113 rfl (by decide) ?_
      refine g_goto (pc' := 118) dX3_goesOn_114 (by decide) ?_
      cases hf
      exact g_zreturn dX3_goesOn_118 rfl (Or.inr rfl) (Nat.le_of_ble_eq_true rfl) (Nat.le_of_ble_eq_true rfl)
  have hf := ite_f c20 hf
  have nc8 := nei c8 (z := 3) (by decide)
  have nc12 := nei c12 (z := 4) (by decide)
  have nc16 := nei c16 (z := 5) (by decide)
  have nc20 := nei c20 (z := 6) (by decide)
  refine g_tableOut (pc' := 119) dX3_goesOn_23 (by omega) (by decide) ?_
  refine g_iconst (pc' := 120) (1 : Int32) dX3_goesOn_119 rfl (by decide) ?_
  cases hf
  exact g_zreturn dX3_goesOn_120 rfl (Or.inr rfl) (Nat.le_of_ble_eq_true rfl) (Nat.le_of_ble_eq_true rfl)
def f_X3_changed (v0 : Nat) (v1 : Int32) (v2 : Int32) (M : Mem) : Option (Int32 × Mem) :=
  if mK M v0 = 4 then
    if mK M (mR M v0 4) = 21 then
      if inB v1 (mN M (mR M v0 4)) = true then
        if mK M (mR M v0 3) = 21 then
          if inB v1 (mN M (mR M v0 3)) = true then
            if (mI M (mR M v0 3) v1.toNatClampNeg) = (0 : Int32) then
              some (v2 + (mI M (mR M v0 4) v1.toNatClampNeg), M)
            else
            if (mI M (mR M v0 3) v1.toNatClampNeg) = (1 : Int32) then
              some (v2 * (mI M (mR M v0 4) v1.toNatClampNeg), M)
            else
            if (mI M (mR M v0 3) v1.toNatClampNeg) = (2 : Int32) then
              if (mI M (mR M v0 4) v1.toNatClampNeg) = 0 then
                some (v2, M)
              else
                if ¬ (mI M (mR M v0 4) v1.toNatClampNeg) = 0 then
                some (v2 - v2 / (mI M (mR M v0 4) v1.toNatClampNeg) * (mI M (mR M v0 4) v1.toNatClampNeg), M)
                else none
            else
            some (v2, M)
          else none
        else none
      else none
    else none
  else none
theorem s_X3_changed (v0 : Nat) (v1 : Int32) (v2 : Int32) (M : Mem) (r : (Int32 × Mem)) (hf : f_X3_changed v0 v1 v2 M = some r) : Sem mi_X3_changed (1) [aR v0, aI v1, aI v2] M (oI r.1) r.2 := by
  unfold f_X3_changed at hf
  refine sem_of (by decide) rfl rfl rfl (Nat.le_of_ble_eq_true rfl) (lv := [some (aR v0), some (aI v1), some (aI v2), none]) rfl ?_
  refine g_aload_n (pc' := 1) dX3_changed_0 rfl rfl ?_
  obtain ⟨h1, hf⟩ := chk_s hf
  refine g_getR (pc' := 4) 3 4 rfl rfl (by decide) inX3 (by decide) rfl rfl q_115 dX3_changed_1 rfl h1 ?_
  refine g_iload_n (pc' := 5) dX3_changed_4 rfl rfl ?_
  obtain ⟨h2, hf⟩ := chk_s hf
  obtain ⟨b3, hf⟩ := chk_s hf
  refine g_iald (pc' := 6) dX3_changed_5 rfl h2 (inB_in b3) ?_
  refine g_istore_n (pc' := 7) (lv' := [some (aR v0), some (aI v1), some (aI v2), some (aI (mI M (mR M v0 4) v1.toNatClampNeg))]) dX3_changed_6 rfl rfl (by decide) rfl ?_
  refine g_aload_n (pc' := 8) dX3_changed_7 rfl rfl ?_
  refine g_getR (pc' := 11) 3 3 rfl rfl (by decide) inX3 (by decide) rfl rfl q_114 dX3_changed_8 rfl h1 ?_
  refine g_iload_n (pc' := 12) dX3_changed_11 rfl rfl ?_
  obtain ⟨h4, hf⟩ := chk_s hf
  obtain ⟨b5, hf⟩ := chk_s hf
  refine g_iald (pc' := 13) dX3_changed_12 rfl h4 (inB_in b5) ?_
  by_cases c6 : (mI M (mR M v0 3) v1.toNatClampNeg) = (0 : Int32)
  · have hf := ite_t c6 hf
    refine g_tsw (pc' := 40) (0 : Int32) dX3_changed_13 c6 (by decide) (by decide) rfl (by decide) ?_
    refine g_iload_n (pc' := 41) dX3_changed_40 rfl rfl ?_
    refine g_iload_n (pc' := 42) dX3_changed_41 rfl rfl ?_
    refine g_iadd (pc' := 43) dX3_changed_42 rfl ?_
    cases hf
    exact g_ireturn dX3_changed_43 rfl (Nat.le_of_ble_eq_true rfl) (Nat.le_of_ble_eq_true rfl)
  have hf := ite_f c6 hf
  by_cases c7 : (mI M (mR M v0 3) v1.toNatClampNeg) = (1 : Int32)
  · have hf := ite_t c7 hf
    refine g_tsw (pc' := 44) (1 : Int32) dX3_changed_13 c7 (by decide) (by decide) rfl (by decide) ?_
    refine g_iload_n (pc' := 45) dX3_changed_44 rfl rfl ?_
    refine g_iload_n (pc' := 46) dX3_changed_45 rfl rfl ?_
    refine g_imul (pc' := 47) dX3_changed_46 rfl ?_
    cases hf
    exact g_ireturn dX3_changed_47 rfl (Nat.le_of_ble_eq_true rfl) (Nat.le_of_ble_eq_true rfl)
  have hf := ite_f c7 hf
  by_cases c8 : (mI M (mR M v0 3) v1.toNatClampNeg) = (2 : Int32)
  · have hf := ite_t c8 hf
    refine g_tsw (pc' := 48) (2 : Int32) dX3_changed_13 c8 (by decide) (by decide) rfl (by decide) ?_
    refine g_iload_n (pc' := 49) dX3_changed_48 rfl rfl ?_
    refine g_if_ne (pc' := 52) 56 dX3_changed_49 rfl (by decide) (fun c9 => ?_) (fun c9 => ?_)
    · have hf := ite_f c9 hf
      refine g_iload_n (pc' := 57) dX3_changed_56 rfl rfl ?_
      refine g_iload_n (pc' := 58) dX3_changed_57 rfl rfl ?_
      obtain ⟨hz10, hf⟩ := chk_s hf
      refine g_irem (pc' := 59) dX3_changed_58 rfl hz10 ?_
      cases hf
      exact g_ireturn dX3_changed_59 rfl (Nat.le_of_ble_eq_true rfl) (Nat.le_of_ble_eq_true rfl)
    · have hf := ite_t c9 hf
      refine g_iload_n (pc' := 53) dX3_changed_52 rfl rfl ?_
      refine g_goto (pc' := 59) dX3_changed_53 (by decide) ?_
      cases hf
      exact g_ireturn dX3_changed_59 rfl (Nat.le_of_ble_eq_true rfl) (Nat.le_of_ble_eq_true rfl)
  have hf := ite_f c8 hf
  have nc6 := nei c6 (z := 0) (by decide)
  have nc7 := nei c7 (z := 1) (by decide)
  have nc8 := nei c8 (z := 2) (by decide)
  refine g_tableOut (pc' := 60) dX3_changed_13 (by omega) (by decide) ?_
  refine g_iload_n (pc' := 61) dX3_changed_60 rfl rfl ?_
  cases hf
  exact g_ireturn dX3_changed_61 rfl (Nat.le_of_ble_eq_true rfl) (Nat.le_of_ble_eq_true rfl)
def f_X3_send_4 : Nat → Nat → Int32 → Int32 → Mem → Option (Unit × Mem)
  | 0, _, _, _, _ => none
  | n + 1, v0, v2, v3, M =>
    if mK M v0 = 4 then
      if (mI M v0 0) ≤ v3 then
        if (120 : Int32) ≤ (mI M v0 2) then
          some ((), M)
        else
          if mK M (mR M v0 1) = 21 then
            if inB (mI M v0 2) (mN M (mR M v0 1)) = true then
              ap (sI M (mR M v0 1) (mI M v0 2).toNatClampNeg v2) fun M6 =>
              if mK M6 v0 = 4 then
                ap (sI M6 v0 2 ((mI M6 v0 2) + (1 : Int32))) fun M8 =>
                some ((), M8)
              else none
            else none
          else none
      else
        bnd (f_X3_goesOn v0 v3 v2 M) fun r10 M9 =>
        if r10 = 0 then
          some ((), M9)
        else
          if mK M9 v0 = 4 then
            bnd (f_X3_changed v0 v3 v2 M9) fun r14 M13 =>
            f_X3_send_4 n v0 r14 (v3 + 1) M13
          else none
    else none
def f_X3_send (v0 : Nat) (v1 : Int32) (M : Mem) : Option (Unit × Mem) :=
  f_X3_send_4 FUEL v0 v1 (0 : Int32) M
theorem s_X3_send_4 : ∀ (n : Nat) (v0 : Nat) (v2 : Int32) (v3 : Int32) (M : Mem) (r : (Unit × Mem)), f_X3_send_4 n v0 v2 v3 M = some r → G mi_X3_send 2 (oU r.1) r.2 4 [some (aR v0), none, some (aI v2), some (aI v3)] [] M 0 0 := by
  intro n
  induction n with
  | zero => intro v0 v2 v3 M r hf; cases hf
  | succ n ih =>
    intro v0 v2 v3 M r hf
    unfold f_X3_send_4 at hf
    refine g_iload_n (pc' := 5) dX3_send_4 rfl rfl ?_
    refine g_aload_n (pc' := 6) dX3_send_5 rfl rfl ?_
    obtain ⟨h1, hf⟩ := chk_s hf
    refine g_getI (pc' := 9) 3 0 rfl rfl (by decide) inX3 (by decide) rfl rfl q_346 dX3_send_6 rfl h1 ?_
    refine g_icmp_ge (pc' := 12) 35 dX3_send_9 rfl (by decide) (fun c2 => ?_) (fun c2 => ?_)
    · have hf := ite_t c2 hf
      refine g_aload_n (pc' := 36) dX3_send_35 rfl rfl ?_
      refine g_getI (pc' := 39) 3 2 rfl rfl (by decide) inX3 (by decide) rfl rfl q_1359 dX3_send_36 rfl h1 ?_
      refine g_bipush (pc' := 41) (120 : Int32) dX3_send_39 rfl (by decide) ?_
      refine g_icmp_ge (pc' := 44) 64 dX3_send_41 rfl (by decide) (fun c3 => ?_) (fun c3 => ?_)
      · have hf := ite_t c3 hf
        cases hf
        exact g_return dX3_send_64 rfl (Nat.le_of_ble_eq_true rfl) (Nat.le_of_ble_eq_true rfl)
      · have hf := ite_f c3 hf
        refine g_aload_n (pc' := 45) dX3_send_44 rfl rfl ?_
        refine g_getR (pc' := 48) 3 1 rfl rfl (by decide) inX3 (by decide) rfl rfl q_113 dX3_send_45 rfl h1 ?_
        refine g_aload_n (pc' := 49) dX3_send_48 rfl rfl ?_
        refine g_getI (pc' := 52) 3 2 rfl rfl (by decide) inX3 (by decide) rfl rfl q_1359 dX3_send_49 rfl h1 ?_
        refine g_iload_n (pc' := 53) dX3_send_52 rfl rfl ?_
        obtain ⟨h4, hf⟩ := chk_s hf
        obtain ⟨b5, hf⟩ := chk_s hf
        refine g_iast (pc' := 54) dX3_send_53 rfl h4 (inB_in b5) (gM fun M6 hM6 => ?_)
        have hf := ap_eq hf hM6
        refine g_aload_n (pc' := 55) dX3_send_54 rfl rfl ?_
        refine g_dup (pc' := 56) dX3_send_55 rfl rfl ?_
        obtain ⟨h7, hf⟩ := chk_s hf
        refine g_getI (pc' := 59) 3 2 rfl rfl (by decide) inX3 (by decide) rfl rfl q_1359 dX3_send_56 rfl h7 ?_
        refine g_iconst (pc' := 60) (1 : Int32) dX3_send_59 rfl (by decide) ?_
        refine g_iadd (pc' := 61) dX3_send_60 rfl ?_
        refine g_putI (pc' := 64) 3 2 rfl rfl (by decide) inX3 tyX3_ok nmX3 (by decide) rfl rfl rfl rfl q_1359 dX3_send_61 rfl h7 (gM fun M8 hM8 => ?_)
        have hf := ap_eq hf hM8
        cases hf
        exact g_return dX3_send_64 rfl (Nat.le_of_ble_eq_true rfl) (Nat.le_of_ble_eq_true rfl)
    · have hf := ite_f c2 hf
      refine g_aload_n (pc' := 13) dX3_send_12 rfl rfl ?_
      refine g_iload_n (pc' := 14) dX3_send_13 rfl rfl ?_
      refine g_iload_n (pc' := 15) dX3_send_14 rfl rfl ?_
      obtain ⟨r10, M9, e10, hf⟩ := bnd_some hf
      refine g_callVi (pc' := 18) (k' := 0) (u' := 0) (fr2 := 1) (As := [aI v3, aI v2]) (b := v0) (st := []) cf_X3_goesOn q_1367 (by omega) (ci := 3) rfl rfl (by decide) dX3_send_15 rfl rfl rfl (Nat.le_of_ble_eq_true rfl) (Or.inl rfl) (Nat.le_refl _) (Nat.le_refl _) (Nat.le_refl _) (Nat.le_refl _) h1 (s_X3_goesOn v0 v3 v2 M _ e10) ?_
      refine g_if_ne (pc' := 21) 22 dX3_send_18 rfl (by decide) (fun c11 => ?_) (fun c11 => ?_)
      · have hf := ite_f c11 hf
        refine g_aload_n (pc' := 23) dX3_send_22 rfl rfl ?_
        refine g_iload_n (pc' := 24) dX3_send_23 rfl rfl ?_
        refine g_iload_n (pc' := 25) dX3_send_24 rfl rfl ?_
        obtain ⟨h12, hf⟩ := chk_s hf
        obtain ⟨r14, M13, e14, hf⟩ := bnd_some hf
        refine g_callVi (pc' := 28) (k' := 0) (u' := 0) (fr2 := 1) (As := [aI v3, aI v2]) (b := v0) (st := []) cf_X3_changed q_1371 (by omega) (ci := 3) rfl rfl (by decide) dX3_send_25 rfl rfl rfl (Nat.le_of_ble_eq_true rfl) (Or.inl rfl) (Nat.le_refl _) (Nat.le_refl _) (Nat.le_refl _) (Nat.le_refl _) h12 (s_X3_changed v0 v3 v2 M9 _ e14) ?_
        refine g_istore_n (pc' := 29) (lv' := [some (aR v0), none, some (aI r14), some (aI v3)]) dX3_send_28 rfl rfl (by decide) rfl ?_
        refine g_iinc (pc' := 32) (lv' := [some (aR v0), none, some (aI r14), some (aI (v3 + 1))]) (v3 + 1) dX3_send_29 rfl rfl (by rfl) rfl (by decide) rfl ?_
        refine g_goto (pc' := 4) dX3_send_32 (by decide) ?_
        refine g_widen (k' := 0) (u' := 0) (by omega) (by omega) ?_
        exact ih v0 r14 (v3 + 1) M13 _ hf
      · have hf := ite_t c11 hf
        cases hf
        exact g_return dX3_send_21 rfl (Nat.le_of_ble_eq_true rfl) (Nat.le_of_ble_eq_true rfl)
theorem s_X3_send (v0 : Nat) (v1 : Int32) (M : Mem) (r : (Unit × Mem)) (hf : f_X3_send v0 v1 M = some r) : Sem mi_X3_send (2) [aR v0, aI v1] M (oU r.1) r.2 := by
  unfold f_X3_send at hf
  refine sem_of (by decide) rfl rfl rfl (Nat.le_of_ble_eq_true rfl) (lv := [some (aR v0), some (aI v1), none, none]) rfl ?_
  refine g_iload_n (pc' := 1) dX3_send_0 rfl rfl ?_
  refine g_istore_n (pc' := 2) (lv' := [some (aR v0), some (aI v1), some (aI v1), none]) dX3_send_1 rfl rfl (by decide) rfl ?_
  refine g_iconst (pc' := 3) (0 : Int32) dX3_send_2 rfl (by decide) ?_
  refine g_istore_n (pc' := 4) (lv' := [some (aR v0), some (aI v1), some (aI v1), some (aI (0 : Int32))]) dX3_send_3 rfl rfl (by decide) rfl ?_
  refine g_mask [true, false, true, true] rfl ?_
  exact s_X3_send_4 FUEL v0 v1 (0 : Int32) M _ hf
def f_X3_run_54 (k28 : Nat → Nat → Int32 → Mem → Option (Int32 × Mem)) (v0 : Nat) (v1 : Nat) (v2 : Int32) (M : Mem) : Option (Int32 × Mem) :=
  k28 v0 v1 (v2 + 1) M
def f_X3_run_28 : Nat → Nat → Nat → Int32 → Mem → Option (Int32 × Mem)
  | 0, _, _, _, _ => none
  | n + 1, v0, v1, v2, M =>
    if mK M v1 = 3 then
      if (mI M v1 3) ≤ v2 then
        if mK M v0 = 4 then
          some (mI M v0 2, M)
        else none
      else
        bnd (f_X2_hasValue v1 v2 M) fun r5 M4 =>
        if r5 = 0 then
          f_X3_run_54 (f_X3_run_28 n) v0 v1 v2 M4
        else
          if mK M4 v1 = 3 then
            if mK M4 (mR M4 v1 2) = 21 then
              if inB v2 (mN M4 (mR M4 v1 2)) = true then
                if mK M4 v0 = 4 then
                  bnd (f_X3_send v0 (mI M4 (mR M4 v1 2) v2.toNatClampNeg) M4) fun _ M11 =>
                  f_X3_run_54 (f_X3_run_28 n) v0 v1 v2 M11
                else none
              else none
            else none
          else none
    else none
def f_X3_run_7 : Nat → Nat → Nat → Int32 → Mem → Option (Int32 × Mem)
  | 0, _, _, _, _ => none
  | n + 1, v0, v1, v2, M =>
    if (8 : Int32) ≤ v2 then
      f_X3_run_28 FUEL v0 v1 (0 : Int32) M
    else
      if mK M v0 = 4 then
        if mK M (mR M v0 5) = 21 then
          if inB v2 (mN M (mR M v0 5)) = true then
            ap (sI M (mR M v0 5) v2.toNatClampNeg (0 : Int32)) fun M5 =>
            f_X3_run_7 n v0 v1 (v2 + 1) M5
          else none
        else none
      else none
def f_X3_run (v0 : Nat) (v1 : Nat) (M : Mem) : Option (Int32 × Mem) :=
  if mK M v0 = 4 then
    ap (sI M v0 2 (0 : Int32)) fun M2 =>
    f_X3_run_7 FUEL v0 v1 (0 : Int32) M2
  else none
theorem s_X3_run_54 (k28 : Nat → Nat → Int32 → Mem → Option (Int32 × Mem)) (hk28 : ∀ (v0 : Nat) (v1 : Nat) (v2 : Int32) (M : Mem) (r : (Int32 × Mem)), k28 v0 v1 v2 M = some r → G mi_X3_run 3 (oI r.1) r.2 28 [some (aR v0), some (aR v1), some (aI v2)] [] M 0 0) (v0 : Nat) (v1 : Nat) (v2 : Int32) (M : Mem) (r : (Int32 × Mem)) (hf : f_X3_run_54 k28 v0 v1 v2 M = some r) : G mi_X3_run 3 (oI r.1) r.2 54 [some (aR v0), some (aR v1), some (aI v2)] [] M 0 0 := by
  unfold f_X3_run_54 at hf
  refine g_iinc (pc' := 57) (lv' := [some (aR v0), some (aR v1), some (aI (v2 + 1))]) (v2 + 1) dX3_run_54 rfl rfl (by rfl) rfl (by decide) rfl ?_
  refine g_goto (pc' := 28) dX3_run_57 (by decide) ?_
  exact hk28 v0 v1 (v2 + 1) M _ hf
theorem s_X3_run_28 : ∀ (n : Nat) (v0 : Nat) (v1 : Nat) (v2 : Int32) (M : Mem) (r : (Int32 × Mem)), f_X3_run_28 n v0 v1 v2 M = some r → G mi_X3_run 3 (oI r.1) r.2 28 [some (aR v0), some (aR v1), some (aI v2)] [] M 0 0 := by
  intro n
  induction n with
  | zero => intro v0 v1 v2 M r hf; cases hf
  | succ n ih =>
    intro v0 v1 v2 M r hf
    unfold f_X3_run_28 at hf
    refine g_iload_n (pc' := 29) dX3_run_28 rfl rfl ?_
    refine g_aload_n (pc' := 30) dX3_run_29 rfl rfl ?_
    obtain ⟨h1, hf⟩ := chk_s hf
    refine g_getI (pc' := 33) 2 3 rfl rfl (by decide) inX2 (by decide) rfl rfl q_1360 dX3_run_30 rfl h1 ?_
    refine g_icmp_ge (pc' := 36) 60 dX3_run_33 rfl (by decide) (fun c2 => ?_) (fun c2 => ?_)
    · have hf := ite_t c2 hf
      refine g_aload_n (pc' := 61) dX3_run_60 rfl rfl ?_
      obtain ⟨h3, hf⟩ := chk_s hf
      refine g_getI (pc' := 64) 3 2 rfl rfl (by decide) inX3 (by decide) rfl rfl q_1359 dX3_run_61 rfl h3 ?_
      cases hf
      exact g_ireturn dX3_run_64 rfl (Nat.le_of_ble_eq_true rfl) (Nat.le_of_ble_eq_true rfl)
    · have hf := ite_f c2 hf
      refine g_aload_n (pc' := 37) dX3_run_36 rfl rfl ?_
      refine g_iload_n (pc' := 38) dX3_run_37 rfl rfl ?_
      obtain ⟨r5, M4, e5, hf⟩ := bnd_some hf
      refine g_callVi (pc' := 41) (k' := 0) (u' := 0) (fr2 := 1) (As := [aI v2]) (b := v1) (st := []) cf_X2_hasValue q_1362 (by omega) (ci := 2) rfl rfl (by decide) dX3_run_38 rfl rfl rfl (Nat.le_of_ble_eq_true rfl) (Or.inl rfl) (Nat.le_refl _) (Nat.le_refl _) (Nat.le_refl _) (Nat.le_refl _) h1 (s_X2_hasValue v1 v2 M _ e5) ?_
      refine g_if_eq (pc' := 44) 54 dX3_run_41 rfl (by decide) (fun c6 => ?_) (fun c6 => ?_)
      · have hf := ite_t c6 hf
        refine g_widen (k' := 0) (u' := 0) (by omega) (by omega) ?_
        exact s_X3_run_54 (f_X3_run_28 n) ih v0 v1 v2 M4 _ hf
      · have hf := ite_f c6 hf
        refine g_aload_n (pc' := 45) dX3_run_44 rfl rfl ?_
        refine g_aload_n (pc' := 46) dX3_run_45 rfl rfl ?_
        obtain ⟨h7, hf⟩ := chk_s hf
        refine g_getR (pc' := 49) 2 2 rfl rfl (by decide) inX2 (by decide) rfl rfl q_1361 dX3_run_46 rfl h7 ?_
        refine g_iload_n (pc' := 50) dX3_run_49 rfl rfl ?_
        obtain ⟨h8, hf⟩ := chk_s hf
        obtain ⟨b9, hf⟩ := chk_s hf
        refine g_iald (pc' := 51) dX3_run_50 rfl h8 (inB_in b9) ?_
        obtain ⟨h10, hf⟩ := chk_s hf
        obtain ⟨_, M11, e12, hf⟩ := bnd_some hf
        refine g_callVv (pc' := 54) (k' := 0) (u' := 0) (fr2 := 2) (As := [aI (mI M4 (mR M4 v1 2) v2.toNatClampNeg)]) (b := v0) (st := []) cf_X3_send q_1363 (by omega) (ci := 3) rfl rfl (by decide) dX3_run_51 rfl rfl rfl (Nat.le_of_ble_eq_true rfl) (Or.inl rfl) (Nat.le_refl _) (Nat.le_refl _) (Nat.le_refl _) (Nat.le_refl _) h10 (s_X3_send v0 (mI M4 (mR M4 v1 2) v2.toNatClampNeg) M4 _ e12) ?_
        refine g_widen (k' := 0) (u' := 0) (by omega) (by omega) ?_
        exact s_X3_run_54 (f_X3_run_28 n) ih v0 v1 v2 M11 _ hf
theorem s_X3_run_7 : ∀ (n : Nat) (v0 : Nat) (v1 : Nat) (v2 : Int32) (M : Mem) (r : (Int32 × Mem)), f_X3_run_7 n v0 v1 v2 M = some r → G mi_X3_run 3 (oI r.1) r.2 7 [some (aR v0), some (aR v1), some (aI v2)] [] M 0 0 := by
  intro n
  induction n with
  | zero => intro v0 v1 v2 M r hf; cases hf
  | succ n ih =>
    intro v0 v1 v2 M r hf
    unfold f_X3_run_7 at hf
    refine g_iload_n (pc' := 8) dX3_run_7 rfl rfl ?_
    refine g_bipush (pc' := 10) (8 : Int32) dX3_run_8 rfl (by decide) ?_
    refine g_icmp_ge (pc' := 13) 26 dX3_run_10 rfl (by decide) (fun c1 => ?_) (fun c1 => ?_)
    · have hf := ite_t c1 hf
      refine g_iconst (pc' := 27) (0 : Int32) dX3_run_26 rfl (by decide) ?_
      refine g_istore_n (pc' := 28) (lv' := [some (aR v0), some (aR v1), some (aI (0 : Int32))]) dX3_run_27 rfl rfl (by decide) rfl ?_
      exact s_X3_run_28 FUEL v0 v1 (0 : Int32) M _ hf
    · have hf := ite_f c1 hf
      refine g_aload_n (pc' := 14) dX3_run_13 rfl rfl ?_
      obtain ⟨h2, hf⟩ := chk_s hf
      refine g_getR (pc' := 17) 3 5 rfl rfl (by decide) inX3 (by decide) rfl rfl q_116 dX3_run_14 rfl h2 ?_
      refine g_iload_n (pc' := 18) dX3_run_17 rfl rfl ?_
      refine g_iconst (pc' := 19) (0 : Int32) dX3_run_18 rfl (by decide) ?_
      obtain ⟨h3, hf⟩ := chk_s hf
      obtain ⟨b4, hf⟩ := chk_s hf
      refine g_iast (pc' := 20) dX3_run_19 rfl h3 (inB_in b4) (gM fun M5 hM5 => ?_)
      have hf := ap_eq hf hM5
      refine g_iinc (pc' := 23) (lv' := [some (aR v0), some (aR v1), some (aI (v2 + 1))]) (v2 + 1) dX3_run_20 rfl rfl (by rfl) rfl (by decide) rfl ?_
      refine g_goto (pc' := 7) dX3_run_23 (by decide) ?_
      exact ih v0 v1 (v2 + 1) M5 _ hf
theorem s_X3_run (v0 : Nat) (v1 : Nat) (M : Mem) (r : (Int32 × Mem)) (hf : f_X3_run v0 v1 M = some r) : Sem mi_X3_run (3) [aR v0, aR v1] M (oI r.1) r.2 := by
  unfold f_X3_run at hf
  refine sem_of (by decide) rfl rfl rfl (Nat.le_of_ble_eq_true rfl) (lv := [some (aR v0), some (aR v1), none]) rfl ?_
  refine g_aload_n (pc' := 1) dX3_run_0 rfl rfl ?_
  refine g_iconst (pc' := 2) (0 : Int32) dX3_run_1 rfl (by decide) ?_
  obtain ⟨h1, hf⟩ := chk_s hf
  refine g_putI (pc' := 5) 3 2 rfl rfl (by decide) inX3 tyX3_ok nmX3 (by decide) rfl rfl rfl rfl q_1359 dX3_run_2 rfl h1 (gM fun M2 hM2 => ?_)
  have hf := ap_eq hf hM2
  refine g_iconst (pc' := 6) (0 : Int32) dX3_run_5 rfl (by decide) ?_
  refine g_istore_n (pc' := 7) (lv' := [some (aR v0), some (aR v1), some (aI (0 : Int32))]) dX3_run_6 rfl rfl (by decide) rfl ?_
  exact s_X3_run_7 FUEL v0 v1 (0 : Int32) M2 _ hf
def f_X4_init (v0 : Nat) (M : Mem) : Option (Unit × Mem) :=
  if ¬ v0 = 0 then
    if mn M + 1 < 900000 then
      if okrB M [v0, v0] = true then
        ap (mNew M 21 (8 : Int32).toNatClampNeg) fun M2 =>
        if mK M2 v0 = 5 then
          if okrB M2 [(mn M + 1)] = true then
            ap (sR M2 v0 0 (mn M + 1)) fun M4 =>
            some ((), M4)
          else none
        else none
      else none
    else none
  else none
theorem s_X4_init (v0 : Nat) (M : Mem) (r : (Unit × Mem)) (hf : f_X4_init v0 M = some r) : Sem mi_X4_init (1) [aR v0] M (oU r.1) r.2 := by
  unfold f_X4_init at hf
  refine sem_of (by decide) rfl rfl rfl (Nat.le_of_ble_eq_true rfl) (lv := [some (aR v0)]) rfl ?_
  refine g_aload_n (pc' := 1) dX4_init_0 rfl rfl ?_
  obtain ⟨ho6, hf⟩ := chk_s hf
  refine g_obj (pc' := 4) q_65 q_11 q_12 (by omega) ho6 (Nat.le_of_ble_eq_true rfl) dX4_init_1 rfl ?_
  refine g_aload_n (pc' := 5) dX4_init_4 rfl rfl ?_
  refine g_bipush (pc' := 7) (8 : Int32) dX4_init_5 rfl (by decide) ?_
  obtain ⟨hm1, hf⟩ := chk_s hf
  obtain ⟨ha1, hf⟩ := chk_s hf
  refine g_newI (pc' := 9) (k' := 1) (u' := 8) (by decide) wall_aint dX4_init_7 rfl (by decide) (by decide) hm1 (okrB_ok ha1 rfl) (by omega) (by show 0 + 8 ≤ 8; omega) (by show 1 ≤ 1; omega) (by show 8 ≤ 8; omega) (gM fun M2 hM2 => ?_)
  have hf := ap_eq hf hM2
  obtain ⟨h3, hf⟩ := chk_s hf
  obtain ⟨hr5, hf⟩ := chk_s hf
  refine g_putFR (pc' := 12) 4 0 rfl rfl (by decide) inX4 tyX4_ok nmX4 (by decide) rfl rfl rfl rfl rfl (Or.inr ⟨_, rfl⟩) (okrB_1 hr5) q_66 dX4_init_9 rfl h3 (gM fun M4 hM4 => ?_)
  have hf := ap_eq hf hM4
  cases hf
  exact g_return dX4_init_12 rfl (Nat.le_of_ble_eq_true rfl) (Nat.le_of_ble_eq_true rfl)
def f_X4_canBegin_84 (w0 : Int32) (w1 : Int32) (M : Mem) : Option (Int32 × Mem) :=
  if w0 = w1 then
    some ((1 : Int32), M)
  else
    some ((0 : Int32), M)
def f_X4_canBegin_58 (v0 : Nat) (v1 : Int32) (M : Mem) : Option (Int32 × Mem) :=
  if mK M v0 = 5 then
    if mK M (mR M v0 2) = 10 then
      if mK M (mR M v0 3) = 6 then
        if mK M (mR M (mR M v0 3) 4) = 21 then
          if inB v1 (mN M (mR M (mR M v0 3) 4)) = true then
            if (mI M (mR M (mR M v0 3) 4) v1.toNatClampNeg) = (-1 : Int32) then
              f_X4_canBegin_84 (mI M (mR M v0 2) 3) (40 : Int32) M
            else
              f_X4_canBegin_84 (mI M (mR M v0 2) 3) (2 : Int32) M
          else none
        else none
      else none
    else none
  else none
def f_X4_canBegin (v0 : Nat) (v1 : Int32) (M : Mem) : Option (Int32 × Mem) :=
  if mK M v0 = 5 then
    if mK M (mR M v0 3) = 6 then
      if mK M (mR M (mR M v0 3) 2) = 21 then
        if inB v1 (mN M (mR M (mR M v0 3) 2)) = true then
          if (mI M (mR M (mR M v0 3) 2) v1.toNatClampNeg) = (2 : Int32) then
            if mK M (mR M v0 2) = 10 then
              if (mI M (mR M v0 2) 3) = (91 : Int32) then
                some ((1 : Int32), M)
              else
                some ((0 : Int32), M)
            else none
          else
            if (mI M (mR M (mR M v0 3) 2) v1.toNatClampNeg) = (1 : Int32) then
              if mK M (mR M v0 2) = 10 then
                if (mI M (mR M v0 2) 3) = (45 : Int32) then
                  some ((1 : Int32), M)
                else
                  f_X4_canBegin_58 v0 v1 M
              else none
            else
              f_X4_canBegin_58 v0 v1 M
        else none
      else none
    else none
  else none
theorem s_X4_canBegin_84 (w0 : Int32) (w1 : Int32) (M : Mem) (r : (Int32 × Mem)) (hf : f_X4_canBegin_84 w0 w1 M = some r) : G mi_X4_canBegin 1 (oI r.1) r.2 84 [none, none] [aI w1, aI w0] M 0 0 := by
  unfold f_X4_canBegin_84 at hf
  refine g_icmp_ne (pc' := 87) 91 dX4_canBegin_84 rfl (by decide) (fun c1 => ?_) (fun c1 => ?_)
  · have hf := ite_f c1 hf
    refine g_iconst (pc' := 92) (0 : Int32) dX4_canBegin_91 rfl (by decide) ?_
    cases hf
    exact g_zreturn dX4_canBegin_92 rfl (Or.inl rfl) (Nat.le_of_ble_eq_true rfl) (Nat.le_of_ble_eq_true rfl)
  · have hf := ite_t c1 hf
    refine g_iconst (pc' := 88) (1 : Int32) dX4_canBegin_87 rfl (by decide) ?_
    refine g_goto (pc' := 92) dX4_canBegin_88 (by decide) ?_
    cases hf
    exact g_zreturn dX4_canBegin_92 rfl (Or.inr rfl) (Nat.le_of_ble_eq_true rfl) (Nat.le_of_ble_eq_true rfl)
theorem s_X4_canBegin_58 (v0 : Nat) (v1 : Int32) (M : Mem) (r : (Int32 × Mem)) (hf : f_X4_canBegin_58 v0 v1 M = some r) : G mi_X4_canBegin 1 (oI r.1) r.2 58 [some (aR v0), some (aI v1)] [] M 0 0 := by
  unfold f_X4_canBegin_58 at hf
  refine g_aload_n (pc' := 59) dX4_canBegin_58 rfl rfl ?_
  obtain ⟨h1, hf⟩ := chk_s hf
  refine g_getR (pc' := 62) 4 2 rfl rfl (by decide) inX4 (by decide) rfl rfl q_556 dX4_canBegin_59 rfl h1 ?_
  obtain ⟨h2, hf⟩ := chk_s hf
  refine g_getI (pc' := 65) 9 3 rfl rfl (by decide) inX9 (by decide) rfl rfl q_565 dX4_canBegin_62 rfl h2 ?_
  refine g_aload_n (pc' := 66) dX4_canBegin_65 rfl rfl ?_
  refine g_getR (pc' := 69) 4 3 rfl rfl (by decide) inX4 (by decide) rfl rfl q_557 dX4_canBegin_66 rfl h1 ?_
  obtain ⟨h3, hf⟩ := chk_s hf
  refine g_getR (pc' := 72) 5 4 rfl rfl (by decide) inX5 (by decide) rfl rfl q_571 dX4_canBegin_69 rfl h3 ?_
  refine g_iload_n (pc' := 73) dX4_canBegin_72 rfl rfl ?_
  obtain ⟨h4, hf⟩ := chk_s hf
  obtain ⟨b5, hf⟩ := chk_s hf
  refine g_iald (pc' := 74) dX4_canBegin_73 rfl h4 (inB_in b5) ?_
  refine g_iconst (pc' := 75) (-1 : Int32) dX4_canBegin_74 rfl (by decide) ?_
  refine g_icmp_ne (pc' := 78) 83 dX4_canBegin_75 rfl (by decide) (fun c6 => ?_) (fun c6 => ?_)
  · have hf := ite_f c6 hf
    refine g_iconst (pc' := 84) (2 : Int32) dX4_canBegin_83 rfl (by decide) ?_
    refine g_mask [false, false] rfl ?_
    exact s_X4_canBegin_84 (mI M (mR M v0 2) 3) (2 : Int32) M _ hf
  · have hf := ite_t c6 hf
    refine g_bipush (pc' := 80) (40 : Int32) dX4_canBegin_78 rfl (by decide) ?_
    refine g_goto (pc' := 84) dX4_canBegin_80 (by decide) ?_
    refine g_mask [false, false] rfl ?_
    exact s_X4_canBegin_84 (mI M (mR M v0 2) 3) (40 : Int32) M _ hf
theorem s_X4_canBegin (v0 : Nat) (v1 : Int32) (M : Mem) (r : (Int32 × Mem)) (hf : f_X4_canBegin v0 v1 M = some r) : Sem mi_X4_canBegin (1) [aR v0, aI v1] M (oI r.1) r.2 := by
  unfold f_X4_canBegin at hf
  refine sem_of (by decide) rfl rfl rfl (Nat.le_of_ble_eq_true rfl) (lv := [some (aR v0), some (aI v1)]) rfl ?_
  refine g_aload_n (pc' := 1) dX4_canBegin_0 rfl rfl ?_
  obtain ⟨h1, hf⟩ := chk_s hf
  refine g_getR (pc' := 4) 4 3 rfl rfl (by decide) inX4 (by decide) rfl rfl q_557 dX4_canBegin_1 rfl h1 ?_
  obtain ⟨h2, hf⟩ := chk_s hf
  refine g_getR (pc' := 7) 5 2 rfl rfl (by decide) inX5 (by decide) rfl rfl q_570 dX4_canBegin_4 rfl h2 ?_
  refine g_iload_n (pc' := 8) dX4_canBegin_7 rfl rfl ?_
  obtain ⟨h3, hf⟩ := chk_s hf
  obtain ⟨b4, hf⟩ := chk_s hf
  refine g_iald (pc' := 9) dX4_canBegin_8 rfl h3 (inB_in b4) ?_
  refine g_iconst (pc' := 10) (2 : Int32) dX4_canBegin_9 rfl (by decide) ?_
  refine g_icmp_ne (pc' := 13) 31 dX4_canBegin_10 rfl (by decide) (fun c5 => ?_) (fun c5 => ?_)
  · have hf := ite_f c5 hf
    refine g_aload_n (pc' := 32) dX4_canBegin_31 rfl rfl ?_
    refine g_getR (pc' := 35) 4 3 rfl rfl (by decide) inX4 (by decide) rfl rfl q_557 dX4_canBegin_32 rfl h1 ?_
    refine g_getR (pc' := 38) 5 2 rfl rfl (by decide) inX5 (by decide) rfl rfl q_570 dX4_canBegin_35 rfl h2 ?_
    refine g_iload_n (pc' := 39) dX4_canBegin_38 rfl rfl ?_
    refine g_iald (pc' := 40) dX4_canBegin_39 rfl h3 (inB_in b4) ?_
    refine g_iconst (pc' := 41) (1 : Int32) dX4_canBegin_40 rfl (by decide) ?_
    refine g_icmp_ne (pc' := 44) 58 dX4_canBegin_41 rfl (by decide) (fun c6 => ?_) (fun c6 => ?_)
    · have hf := ite_f c6 hf
      exact s_X4_canBegin_58 v0 v1 M _ hf
    · have hf := ite_t c6 hf
      refine g_aload_n (pc' := 45) dX4_canBegin_44 rfl rfl ?_
      refine g_getR (pc' := 48) 4 2 rfl rfl (by decide) inX4 (by decide) rfl rfl q_556 dX4_canBegin_45 rfl h1 ?_
      obtain ⟨h7, hf⟩ := chk_s hf
      refine g_getI (pc' := 51) 9 3 rfl rfl (by decide) inX9 (by decide) rfl rfl q_565 dX4_canBegin_48 rfl h7 ?_
      refine g_bipush (pc' := 53) (45 : Int32) dX4_canBegin_51 rfl (by decide) ?_
      refine g_icmp_ne (pc' := 56) 58 dX4_canBegin_53 rfl (by decide) (fun c8 => ?_) (fun c8 => ?_)
      · have hf := ite_f c8 hf
        exact s_X4_canBegin_58 v0 v1 M _ hf
      · have hf := ite_t c8 hf
        refine g_iconst (pc' := 57) (1 : Int32) dX4_canBegin_56 rfl (by decide) ?_
        cases hf
        exact g_zreturn dX4_canBegin_57 rfl (Or.inr rfl) (Nat.le_of_ble_eq_true rfl) (Nat.le_of_ble_eq_true rfl)
  · have hf := ite_t c5 hf
    refine g_aload_n (pc' := 14) dX4_canBegin_13 rfl rfl ?_
    refine g_getR (pc' := 17) 4 2 rfl rfl (by decide) inX4 (by decide) rfl rfl q_556 dX4_canBegin_14 rfl h1 ?_
    obtain ⟨h9, hf⟩ := chk_s hf
    refine g_getI (pc' := 20) 9 3 rfl rfl (by decide) inX9 (by decide) rfl rfl q_565 dX4_canBegin_17 rfl h9 ?_
    refine g_bipush (pc' := 22) (91 : Int32) dX4_canBegin_20 rfl (by decide) ?_
    refine g_icmp_ne (pc' := 25) 29 dX4_canBegin_22 rfl (by decide) (fun c10 => ?_) (fun c10 => ?_)
    · have hf := ite_f c10 hf
      refine g_iconst (pc' := 30) (0 : Int32) dX4_canBegin_29 rfl (by decide) ?_
      cases hf
      exact g_zreturn dX4_canBegin_30 rfl (Or.inl rfl) (Nat.le_of_ble_eq_true rfl) (Nat.le_of_ble_eq_true rfl)
    · have hf := ite_t c10 hf
      refine g_iconst (pc' := 26) (1 : Int32) dX4_canBegin_25 rfl (by decide) ?_
      refine g_goto (pc' := 30) dX4_canBegin_26 (by decide) ?_
      cases hf
      exact g_zreturn dX4_canBegin_30 rfl (Or.inr rfl) (Nat.le_of_ble_eq_true rfl) (Nat.le_of_ble_eq_true rfl)
def f_X4_fail (v0 : Nat) (v1 : Int32) (M : Mem) : Option (Int32 × Mem) :=
  if mK M v0 = 5 then
    ap (sI M v0 5 v1) fun M2 =>
    some ((0 : Int32), M2)
  else none
theorem s_X4_fail (v0 : Nat) (v1 : Int32) (M : Mem) (r : (Int32 × Mem)) (hf : f_X4_fail v0 v1 M = some r) : Sem mi_X4_fail (1) [aR v0, aI v1] M (oI r.1) r.2 := by
  unfold f_X4_fail at hf
  refine sem_of (by decide) rfl rfl rfl (Nat.le_of_ble_eq_true rfl) (lv := [some (aR v0), some (aI v1)]) rfl ?_
  refine g_aload_n (pc' := 1) dX4_fail_0 rfl rfl ?_
  refine g_iload_n (pc' := 2) dX4_fail_1 rfl rfl ?_
  obtain ⟨h1, hf⟩ := chk_s hf
  refine g_putI (pc' := 5) 4 5 rfl rfl (by decide) inX4 tyX4_ok nmX4 (by decide) rfl rfl rfl rfl q_559 dX4_fail_2 rfl h1 (gM fun M2 hM2 => ?_)
  have hf := ap_eq hf hM2
  refine g_iconst (pc' := 6) (0 : Int32) dX4_fail_5 rfl (by decide) ?_
  cases hf
  exact g_zreturn dX4_fail_6 rfl (Or.inl rfl) (Nat.le_of_ble_eq_true rfl) (Nat.le_of_ble_eq_true rfl)
def f_X4_stage (v0 : Nat) (v1 : Int32) (v2 : Int32) (v3 : Int32) (v4 : Int32) (M : Mem) : Option (Unit × Mem) :=
  if mK M v0 = 5 then
    if mK M (mR M v0 4) = 8 then
      if mK M (mR M (mR M v0 4) 0) = 23 then
        if inB v1 (mN M (mR M (mR M v0 4) 0)) = true then
          if mK M (mR M v0 0) = 21 then
            if inB v1 (mN M (mR M v0 0)) = true then
              if mK M (mR M (mR M (mR M v0 4) 0) v1.toNatClampNeg) = 3 then
                bnd (f_X2_put (mR M (mR M (mR M v0 4) 0) v1.toNatClampNeg) (mI M (mR M v0 0) v1.toNatClampNeg) v2 v3 v4 M) fun _ M8 =>
                if mK M8 v0 = 5 then
                  if mK M8 (mR M8 v0 0) = 21 then
                    if inB v1 (mN M8 (mR M8 v0 0)) = true then
                      ap (sI M8 (mR M8 v0 0) v1.toNatClampNeg ((mI M8 (mR M8 v0 0) v1.toNatClampNeg) + (1 : Int32))) fun M13 =>
                      some ((), M13)
                    else none
                  else none
                else none
              else none
            else none
          else none
        else none
      else none
    else none
  else none
theorem s_X4_stage (v0 : Nat) (v1 : Int32) (v2 : Int32) (v3 : Int32) (v4 : Int32) (M : Mem) (r : (Unit × Mem)) (hf : f_X4_stage v0 v1 v2 v3 v4 M = some r) : Sem mi_X4_stage (2) [aR v0, aI v1, aI v2, aI v3, aI v4] M (oU r.1) r.2 := by
  unfold f_X4_stage at hf
  refine sem_of (by decide) rfl rfl rfl (Nat.le_of_ble_eq_true rfl) (lv := [some (aR v0), some (aI v1), some (aI v2), some (aI v3), some (aI v4)]) rfl ?_
  refine g_aload_n (pc' := 1) dX4_stage_0 rfl rfl ?_
  obtain ⟨h1, hf⟩ := chk_s hf
  refine g_getR (pc' := 4) 4 4 rfl rfl (by decide) inX4 (by decide) rfl rfl q_558 dX4_stage_1 rfl h1 ?_
  obtain ⟨h2, hf⟩ := chk_s hf
  refine g_getR (pc' := 7) 7 0 rfl rfl (by decide) inX7 (by decide) rfl rfl q_563 dX4_stage_4 rfl h2 ?_
  refine g_iload_n (pc' := 8) dX4_stage_7 rfl rfl ?_
  obtain ⟨h3, hf⟩ := chk_s hf
  obtain ⟨b4, hf⟩ := chk_s hf
  refine g_aald (pc' := 9) (t0 := 2) (fun _ => rfl) (by decide) dX4_stage_8 rfl h3 (inB_in b4) ?_
  refine g_aload_n (pc' := 10) dX4_stage_9 rfl rfl ?_
  refine g_getR (pc' := 13) 4 0 rfl rfl (by decide) inX4 (by decide) rfl rfl q_66 dX4_stage_10 rfl h1 ?_
  refine g_iload_n (pc' := 14) dX4_stage_13 rfl rfl ?_
  obtain ⟨h5, hf⟩ := chk_s hf
  obtain ⟨b6, hf⟩ := chk_s hf
  refine g_iald (pc' := 15) dX4_stage_14 rfl h5 (inB_in b6) ?_
  refine g_iload_n (pc' := 16) dX4_stage_15 rfl rfl ?_
  refine g_iload_n (pc' := 17) dX4_stage_16 rfl rfl ?_
  refine g_iload (pc' := 19) dX4_stage_17 rfl rfl ?_
  obtain ⟨h7, hf⟩ := chk_s hf
  obtain ⟨_, M8, e9, hf⟩ := bnd_some hf
  refine g_callVv (pc' := 22) (k' := 0) (u' := 0) (fr2 := 1) (As := [aI (mI M (mR M v0 0) v1.toNatClampNeg), aI v2, aI v3, aI v4]) (b := (mR M (mR M (mR M v0 4) 0) v1.toNatClampNeg)) (st := []) cf_X2_put q_602 (by omega) (ci := 2) rfl rfl (by decide) dX4_stage_19 rfl rfl rfl (Nat.le_of_ble_eq_true rfl) (Or.inl rfl) (Nat.le_refl _) (Nat.le_refl _) (Nat.le_refl _) (Nat.le_refl _) h7 (s_X2_put (mR M (mR M (mR M v0 4) 0) v1.toNatClampNeg) (mI M (mR M v0 0) v1.toNatClampNeg) v2 v3 v4 M _ e9) ?_
  refine g_aload_n (pc' := 23) dX4_stage_22 rfl rfl ?_
  obtain ⟨h10, hf⟩ := chk_s hf
  refine g_getR (pc' := 26) 4 0 rfl rfl (by decide) inX4 (by decide) rfl rfl q_66 dX4_stage_23 rfl h10 ?_
  refine g_iload_n (pc' := 27) dX4_stage_26 rfl rfl ?_
  refine g_dup2 (pc' := 28) dX4_stage_27 rfl rfl rfl ?_
  obtain ⟨h11, hf⟩ := chk_s hf
  obtain ⟨b12, hf⟩ := chk_s hf
  refine g_iald (pc' := 29) dX4_stage_28 rfl h11 (inB_in b12) ?_
  refine g_iconst (pc' := 30) (1 : Int32) dX4_stage_29 rfl (by decide) ?_
  refine g_iadd (pc' := 31) dX4_stage_30 rfl ?_
  refine g_iast (pc' := 32) dX4_stage_31 rfl h11 (inB_in b12) (gM fun M13 hM13 => ?_)
  have hf := ap_eq hf hM13
  cases hf
  exact g_return dX4_stage_32 rfl (Nat.le_of_ble_eq_true rfl) (Nat.le_of_ble_eq_true rfl)
def f_X4_putNone_41 (k3 : Nat → Int32 → Int32 → Int32 → Int32 → Mem → Option (Unit × Mem)) (v0 : Nat) (v1 : Int32) (v2 : Int32) (v3 : Int32) (v4 : Int32) (M : Mem) : Option (Unit × Mem) :=
  k3 v0 v1 v2 v3 (v4 + 1) M
def f_X4_putNone_3 : Nat → Nat → Int32 → Int32 → Int32 → Int32 → Mem → Option (Unit × Mem)
  | 0, _, _, _, _, _, _ => none
  | n + 1, v0, v1, v2, v3, v4, M =>
    if mK M v0 = 5 then
      if mK M (mR M v0 3) = 6 then
        if (mI M (mR M v0 3) 1) ≤ v4 then
          some ((), M)
        else
          if mK M (mR M (mR M v0 3) 10) = 21 then
            if inB v1 (mN M (mR M (mR M v0 3) 10)) = true then
              if ((((mI M (mR M (mR M v0 3) 10) v1.toNatClampNeg).toUInt32 >>> (v4.toUInt32 &&& Int32.toUInt32 31)).toInt32) &&& (1 : Int32)) = 0 then
                f_X4_putNone_41 (f_X4_putNone_3 n) v0 v1 v2 v3 v4 M
              else
                bnd (f_X4_stage v0 v4 v2 v3 (0 : Int32) M) fun _ M7 =>
                f_X4_putNone_41 (f_X4_putNone_3 n) v0 v1 v2 v3 v4 M7
            else none
          else none
      else none
    else none
def f_X4_putNone (v0 : Nat) (v1 : Int32) (v2 : Int32) (v3 : Int32) (M : Mem) : Option (Unit × Mem) :=
  f_X4_putNone_3 FUEL v0 v1 v2 v3 (0 : Int32) M
theorem s_X4_putNone_41 (k3 : Nat → Int32 → Int32 → Int32 → Int32 → Mem → Option (Unit × Mem)) (hk3 : ∀ (v0 : Nat) (v1 : Int32) (v2 : Int32) (v3 : Int32) (v4 : Int32) (M : Mem) (r : (Unit × Mem)), k3 v0 v1 v2 v3 v4 M = some r → G mi_X4_putNone 3 (oU r.1) r.2 3 [some (aR v0), some (aI v1), some (aI v2), some (aI v3), some (aI v4)] [] M 0 0) (v0 : Nat) (v1 : Int32) (v2 : Int32) (v3 : Int32) (v4 : Int32) (M : Mem) (r : (Unit × Mem)) (hf : f_X4_putNone_41 k3 v0 v1 v2 v3 v4 M = some r) : G mi_X4_putNone 3 (oU r.1) r.2 41 [some (aR v0), some (aI v1), some (aI v2), some (aI v3), some (aI v4)] [] M 0 0 := by
  unfold f_X4_putNone_41 at hf
  refine g_iinc (pc' := 44) (lv' := [some (aR v0), some (aI v1), some (aI v2), some (aI v3), some (aI (v4 + 1))]) (v4 + 1) dX4_putNone_41 rfl rfl (by rfl) rfl (by decide) rfl ?_
  refine g_goto (pc' := 3) dX4_putNone_44 (by decide) ?_
  exact hk3 v0 v1 v2 v3 (v4 + 1) M _ hf
theorem s_X4_putNone_3 : ∀ (n : Nat) (v0 : Nat) (v1 : Int32) (v2 : Int32) (v3 : Int32) (v4 : Int32) (M : Mem) (r : (Unit × Mem)), f_X4_putNone_3 n v0 v1 v2 v3 v4 M = some r → G mi_X4_putNone 3 (oU r.1) r.2 3 [some (aR v0), some (aI v1), some (aI v2), some (aI v3), some (aI v4)] [] M 0 0 := by
  intro n
  induction n with
  | zero => intro v0 v1 v2 v3 v4 M r hf; cases hf
  | succ n ih =>
    intro v0 v1 v2 v3 v4 M r hf
    unfold f_X4_putNone_3 at hf
    refine g_iload (pc' := 5) dX4_putNone_3 rfl rfl ?_
    refine g_aload_n (pc' := 6) dX4_putNone_5 rfl rfl ?_
    obtain ⟨h1, hf⟩ := chk_s hf
    refine g_getR (pc' := 9) 4 3 rfl rfl (by decide) inX4 (by decide) rfl rfl q_557 dX4_putNone_6 rfl h1 ?_
    obtain ⟨h2, hf⟩ := chk_s hf
    refine g_getI (pc' := 12) 5 1 rfl rfl (by decide) inX5 (by decide) rfl rfl q_562 dX4_putNone_9 rfl h2 ?_
    refine g_icmp_ge (pc' := 15) 47 dX4_putNone_12 rfl (by decide) (fun c3 => ?_) (fun c3 => ?_)
    · have hf := ite_t c3 hf
      cases hf
      exact g_return dX4_putNone_47 rfl (Nat.le_of_ble_eq_true rfl) (Nat.le_of_ble_eq_true rfl)
    · have hf := ite_f c3 hf
      refine g_aload_n (pc' := 16) dX4_putNone_15 rfl rfl ?_
      refine g_getR (pc' := 19) 4 3 rfl rfl (by decide) inX4 (by decide) rfl rfl q_557 dX4_putNone_16 rfl h1 ?_
      refine g_getR (pc' := 22) 5 10 rfl rfl (by decide) inX5 (by decide) rfl rfl q_597 dX4_putNone_19 rfl h2 ?_
      refine g_iload_n (pc' := 23) dX4_putNone_22 rfl rfl ?_
      obtain ⟨h4, hf⟩ := chk_s hf
      obtain ⟨b5, hf⟩ := chk_s hf
      refine g_iald (pc' := 24) dX4_putNone_23 rfl h4 (inB_in b5) ?_
      refine g_iload (pc' := 26) dX4_putNone_24 rfl rfl ?_
      refine g_iushr (pc' := 27) dX4_putNone_26 rfl ?_
      refine g_iconst (pc' := 28) (1 : Int32) dX4_putNone_27 rfl (by decide) ?_
      refine g_iand (pc' := 29) dX4_putNone_28 rfl ?_
      refine g_if_eq (pc' := 32) 41 dX4_putNone_29 rfl (by decide) (fun c6 => ?_) (fun c6 => ?_)
      · have hf := ite_t c6 hf
        exact s_X4_putNone_41 (f_X4_putNone_3 n) ih v0 v1 v2 v3 v4 M _ hf
      · have hf := ite_f c6 hf
        refine g_aload_n (pc' := 33) dX4_putNone_32 rfl rfl ?_
        refine g_iload (pc' := 35) dX4_putNone_33 rfl rfl ?_
        refine g_iload_n (pc' := 36) dX4_putNone_35 rfl rfl ?_
        refine g_iload_n (pc' := 37) dX4_putNone_36 rfl rfl ?_
        refine g_iconst (pc' := 38) (0 : Int32) dX4_putNone_37 rfl (by decide) ?_
        obtain ⟨_, M7, e8, hf⟩ := bnd_some hf
        refine g_callVv (pc' := 41) (k' := 0) (u' := 0) (fr2 := 2) (As := [aI v4, aI v2, aI v3, aI (0 : Int32)]) (b := v0) (st := []) cf_X4_stage q_598 (by omega) (ci := 4) rfl rfl (by decide) dX4_putNone_38 rfl rfl rfl (Nat.le_of_ble_eq_true rfl) (Or.inl rfl) (Nat.le_refl _) (Nat.le_refl _) (Nat.le_refl _) (Nat.le_refl _) h1 (s_X4_stage v0 v4 v2 v3 (0 : Int32) M _ e8) ?_
        refine g_widen (k' := 0) (u' := 0) (by omega) (by omega) ?_
        exact s_X4_putNone_41 (f_X4_putNone_3 n) ih v0 v1 v2 v3 v4 M7 _ hf
theorem s_X4_putNone (v0 : Nat) (v1 : Int32) (v2 : Int32) (v3 : Int32) (M : Mem) (r : (Unit × Mem)) (hf : f_X4_putNone v0 v1 v2 v3 M = some r) : Sem mi_X4_putNone (3) [aR v0, aI v1, aI v2, aI v3] M (oU r.1) r.2 := by
  unfold f_X4_putNone at hf
  refine sem_of (by decide) rfl rfl rfl (Nat.le_of_ble_eq_true rfl) (lv := [some (aR v0), some (aI v1), some (aI v2), some (aI v3), none]) rfl ?_
  refine g_iconst (pc' := 1) (0 : Int32) dX4_putNone_0 rfl (by decide) ?_
  refine g_istore (pc' := 3) (lv' := [some (aR v0), some (aI v1), some (aI v2), some (aI v3), some (aI (0 : Int32))]) dX4_putNone_1 rfl rfl (by decide) rfl ?_
  exact s_X4_putNone_3 FUEL v0 v1 v2 v3 (0 : Int32) M _ hf
def f_X4_readItem (kF : Nat → Int32 → Int32 → Int32 → Int32 → Mem → Option (Int32 × Mem)) (v0 : Nat) (v1 : Int32) (v2 : Int32) (v3 : Int32) (v4 : Int32) (M : Mem) : Option (Int32 × Mem) :=
  if mK M v0 = 5 then
    if mK M (mR M v0 3) = 6 then
      if mK M (mR M (mR M v0 3) 4) = 21 then
        if inB v1 (mN M (mR M (mR M v0 3) 4)) = true then
          if (mI M (mR M (mR M v0 3) 4) v1.toNatClampNeg) = (-1 : Int32) then
            if mK M (mR M v0 2) = 10 then
              if (mI M (mR M v0 2) 3) = (40 : Int32) then
                bnd (f_X9_advance (mR M v0 2) M) fun _ M8 =>
                if mK M8 v0 = 5 then
                  bnd (kF v0 v1 (v2 + (1 : Int32)) v3 v4 M8) fun r12 M11 =>
                  if r12 = 0 then
                    some ((0 : Int32), M11)
                  else
                    if mK M11 v0 = 5 then
                      if mK M11 (mR M11 v0 2) = 10 then
                        if (mI M11 (mR M11 v0 2) 3) = (41 : Int32) then
                          bnd (f_X9_advance (mR M11 v0 2) M11) fun _ M17 =>
                          some ((1 : Int32), M17)
                        else
                          bnd (f_X4_fail v0 (1 : Int32) M11) fun r20 M19 =>
                          if zB r20 = true then
                          some (r20, M19)
                          else none
                      else none
                    else none
                else none
              else
                bnd (f_X4_fail v0 (1 : Int32) M) fun r22 M21 =>
                if zB r22 = true then
                some (r22, M21)
                else none
            else none
          else
            if mK M (mR M v0 2) = 10 then
              bnd (f_X9_numberFault (mR M v0 2) M) fun r25 M24 =>
              if r25 = 0 then
                if mK M24 v0 = 5 then
                  if mK M24 (mR M24 v0 2) = 10 then
                    bnd (f_X9_number (mR M24 v0 2) M24) fun r30 M29 =>
                    if mK M29 v0 = 5 then
                      bnd (f_X4_stage v0 (mI M (mR M (mR M v0 3) 4) v1.toNatClampNeg) v3 v4 r30 M29) fun _ M32 =>
                      if mK M32 v0 = 5 then
                        if mK M32 (mR M32 v0 2) = 10 then
                          bnd (f_X9_advance (mR M32 v0 2) M32) fun _ M36 =>
                          some ((1 : Int32), M36)
                        else none
                      else none
                    else none
                  else none
                else none
              else
                if mK M24 v0 = 5 then
                  bnd (f_X4_fail v0 r25 M24) fun r40 M39 =>
                  if zB r40 = true then
                  some (r40, M39)
                  else none
                else none
            else none
        else none
      else none
    else none
  else none
theorem s_X4_readItem (kF : Nat → Int32 → Int32 → Int32 → Int32 → Mem → Option (Int32 × Mem)) (F : Nat) (hF : ∀ (a0 : Nat) (a1 : Int32) (a2 : Int32) (a3 : Int32) (a4 : Int32) (M : Mem) (r : (Int32 × Mem)), kF a0 a1 a2 a3 a4 M = some r → Sem mi_X4_readFields F [aR a0, aI a1, aI a2, aI a3, aI a4] M (oI r.1) r.2) (v0 : Nat) (v1 : Int32) (v2 : Int32) (v3 : Int32) (v4 : Int32) (M : Mem) (r : (Int32 × Mem)) (hf : f_X4_readItem kF v0 v1 v2 v3 v4 M = some r) : Sem mi_X4_readItem ((F + 3)) [aR v0, aI v1, aI v2, aI v3, aI v4] M (oI r.1) r.2 := by
  unfold f_X4_readItem at hf
  refine sem_of (by decide) rfl rfl rfl (Nat.le_of_ble_eq_true rfl) (lv := [some (aR v0), some (aI v1), some (aI v2), some (aI v3), some (aI v4), none, none]) rfl ?_
  refine g_aload_n (pc' := 1) dX4_readItem_0 rfl rfl ?_
  obtain ⟨h1, hf⟩ := chk_s hf
  refine g_getR (pc' := 4) 4 3 rfl rfl (by decide) inX4 (by decide) rfl rfl q_557 dX4_readItem_1 rfl h1 ?_
  obtain ⟨h2, hf⟩ := chk_s hf
  refine g_getR (pc' := 7) 5 4 rfl rfl (by decide) inX5 (by decide) rfl rfl q_571 dX4_readItem_4 rfl h2 ?_
  refine g_iload_n (pc' := 8) dX4_readItem_7 rfl rfl ?_
  obtain ⟨h3, hf⟩ := chk_s hf
  obtain ⟨b4, hf⟩ := chk_s hf
  refine g_iald (pc' := 9) dX4_readItem_8 rfl h3 (inB_in b4) ?_
  refine g_istore (pc' := 11) (lv' := [some (aR v0), some (aI v1), some (aI v2), some (aI v3), some (aI v4), some (aI (mI M (mR M (mR M v0 3) 4) v1.toNatClampNeg)), none]) dX4_readItem_9 rfl rfl (by decide) rfl ?_
  refine g_iload (pc' := 13) dX4_readItem_11 rfl rfl ?_
  refine g_iconst (pc' := 14) (-1 : Int32) dX4_readItem_13 rfl (by decide) ?_
  refine g_icmp_eq (pc' := 17) 63 dX4_readItem_14 rfl (by decide) (fun c5 => ?_) (fun c5 => ?_)
  · have hf := ite_t c5 hf
    refine g_aload_n (pc' := 64) dX4_readItem_63 rfl rfl ?_
    refine g_getR (pc' := 67) 4 2 rfl rfl (by decide) inX4 (by decide) rfl rfl q_556 dX4_readItem_64 rfl h1 ?_
    obtain ⟨h6, hf⟩ := chk_s hf
    refine g_getI (pc' := 70) 9 3 rfl rfl (by decide) inX9 (by decide) rfl rfl q_565 dX4_readItem_67 rfl h6 ?_
    refine g_bipush (pc' := 72) (40 : Int32) dX4_readItem_70 rfl (by decide) ?_
    refine g_icmp_eq (pc' := 75) 81 dX4_readItem_72 rfl (by decide) (fun c7 => ?_) (fun c7 => ?_)
    · have hf := ite_t c7 hf
      refine g_aload_n (pc' := 82) dX4_readItem_81 rfl rfl ?_
      refine g_getR (pc' := 85) 4 2 rfl rfl (by decide) inX4 (by decide) rfl rfl q_556 dX4_readItem_82 rfl h1 ?_
      obtain ⟨_, M8, e9, hf⟩ := bnd_some hf
      refine g_callVv (pc' := 88) (k' := 0) (u' := 0) (fr2 := 2) (As := []) (b := (mR M v0 2)) (st := []) cf_X9_advance q_592 (by omega) (ci := 9) rfl rfl (by decide) dX4_readItem_85 rfl rfl rfl (Nat.le_of_ble_eq_true rfl) (Or.inl rfl) (Nat.le_refl _) (Nat.le_refl _) (Nat.le_refl _) (Nat.le_refl _) h6 (s_X9_advance (mR M v0 2) M _ e9) ?_
      refine g_aload_n (pc' := 89) dX4_readItem_88 rfl rfl ?_
      refine g_iload_n (pc' := 90) dX4_readItem_89 rfl rfl ?_
      refine g_iload_n (pc' := 91) dX4_readItem_90 rfl rfl ?_
      refine g_iconst (pc' := 92) (1 : Int32) dX4_readItem_91 rfl (by decide) ?_
      refine g_iadd (pc' := 93) dX4_readItem_92 rfl ?_
      refine g_iload_n (pc' := 94) dX4_readItem_93 rfl rfl ?_
      refine g_iload (pc' := 96) dX4_readItem_94 rfl rfl ?_
      obtain ⟨h10, hf⟩ := chk_s hf
      obtain ⟨r12, M11, e12, hf⟩ := bnd_some hf
      refine g_callVi (pc' := 99) (k' := 0) (u' := 0) (fr2 := F) (As := [aI v1, aI (v2 + (1 : Int32)), aI v3, aI v4]) (b := v0) (st := []) cf_X4_readFields q_572 (by omega) (ci := 4) rfl rfl (by decide) dX4_readItem_96 rfl rfl rfl (Nat.le_of_ble_eq_true rfl) (Or.inl rfl) (Nat.le_refl _) (Nat.le_refl _) (Nat.le_refl _) (Nat.le_refl _) h10 (hF v0 v1 (v2 + (1 : Int32)) v3 v4 M8 _ e12) ?_
      refine g_if_ne (pc' := 102) 104 dX4_readItem_99 rfl (by decide) (fun c13 => ?_) (fun c13 => ?_)
      · have hf := ite_f c13 hf
        refine g_aload_n (pc' := 105) dX4_readItem_104 rfl rfl ?_
        obtain ⟨h14, hf⟩ := chk_s hf
        refine g_getR (pc' := 108) 4 2 rfl rfl (by decide) inX4 (by decide) rfl rfl q_556 dX4_readItem_105 rfl h14 ?_
        obtain ⟨h15, hf⟩ := chk_s hf
        refine g_getI (pc' := 111) 9 3 rfl rfl (by decide) inX9 (by decide) rfl rfl q_565 dX4_readItem_108 rfl h15 ?_
        refine g_bipush (pc' := 113) (41 : Int32) dX4_readItem_111 rfl (by decide) ?_
        refine g_icmp_eq (pc' := 116) 122 dX4_readItem_113 rfl (by decide) (fun c16 => ?_) (fun c16 => ?_)
        · have hf := ite_t c16 hf
          refine g_aload_n (pc' := 123) dX4_readItem_122 rfl rfl ?_
          refine g_getR (pc' := 126) 4 2 rfl rfl (by decide) inX4 (by decide) rfl rfl q_556 dX4_readItem_123 rfl h14 ?_
          obtain ⟨_, M17, e18, hf⟩ := bnd_some hf
          refine g_callVv (pc' := 129) (k' := 0) (u' := 0) (fr2 := 2) (As := []) (b := (mR M11 v0 2)) (st := []) cf_X9_advance q_592 (by omega) (ci := 9) rfl rfl (by decide) dX4_readItem_126 rfl rfl rfl (Nat.le_of_ble_eq_true rfl) (Or.inl rfl) (Nat.le_refl _) (Nat.le_refl _) (Nat.le_refl _) (Nat.le_refl _) h15 (s_X9_advance (mR M11 v0 2) M11 _ e18) ?_
          refine g_iconst (pc' := 130) (1 : Int32) dX4_readItem_129 rfl (by decide) ?_
          cases hf
          exact g_zreturn dX4_readItem_130 rfl (Or.inr rfl) (Nat.le_of_ble_eq_true rfl) (Nat.le_of_ble_eq_true rfl)
        · have hf := ite_f c16 hf
          refine g_aload_n (pc' := 117) dX4_readItem_116 rfl rfl ?_
          refine g_iconst (pc' := 118) (1 : Int32) dX4_readItem_117 rfl (by decide) ?_
          obtain ⟨r20, M19, e20, hf⟩ := bnd_some hf
          refine g_callVi (pc' := 121) (k' := 0) (u' := 0) (fr2 := 1) (As := [aI (1 : Int32)]) (b := v0) (st := []) cf_X4_fail q_578 (by omega) (ci := 4) rfl rfl (by decide) dX4_readItem_118 rfl rfl rfl (Nat.le_of_ble_eq_true rfl) (Or.inl rfl) (Nat.le_refl _) (Nat.le_refl _) (Nat.le_refl _) (Nat.le_refl _) h14 (s_X4_fail v0 (1 : Int32) M11 _ e20) ?_
          obtain ⟨hz, hf⟩ := chk_s hf
          cases hf
          exact g_zreturn dX4_readItem_121 rfl (zB_ok hz) (Nat.le_of_ble_eq_true rfl) (Nat.le_of_ble_eq_true rfl)
      · have hf := ite_t c13 hf
        refine g_iconst (pc' := 103) (0 : Int32) dX4_readItem_102 rfl (by decide) ?_
        cases hf
        exact g_zreturn dX4_readItem_103 rfl (Or.inl rfl) (Nat.le_of_ble_eq_true rfl) (Nat.le_of_ble_eq_true rfl)
    · have hf := ite_f c7 hf
      refine g_aload_n (pc' := 76) dX4_readItem_75 rfl rfl ?_
      refine g_iconst (pc' := 77) (1 : Int32) dX4_readItem_76 rfl (by decide) ?_
      obtain ⟨r22, M21, e22, hf⟩ := bnd_some hf
      refine g_callVi (pc' := 80) (k' := 0) (u' := 0) (fr2 := 1) (As := [aI (1 : Int32)]) (b := v0) (st := []) cf_X4_fail q_578 (by omega) (ci := 4) rfl rfl (by decide) dX4_readItem_77 rfl rfl rfl (Nat.le_of_ble_eq_true rfl) (Or.inl rfl) (Nat.le_refl _) (Nat.le_refl _) (Nat.le_refl _) (Nat.le_refl _) h1 (s_X4_fail v0 (1 : Int32) M _ e22) ?_
      obtain ⟨hz, hf⟩ := chk_s hf
      cases hf
      exact g_zreturn dX4_readItem_80 rfl (zB_ok hz) (Nat.le_of_ble_eq_true rfl) (Nat.le_of_ble_eq_true rfl)
  · have hf := ite_f c5 hf
    refine g_aload_n (pc' := 18) dX4_readItem_17 rfl rfl ?_
    refine g_getR (pc' := 21) 4 2 rfl rfl (by decide) inX4 (by decide) rfl rfl q_556 dX4_readItem_18 rfl h1 ?_
    obtain ⟨h23, hf⟩ := chk_s hf
    obtain ⟨r25, M24, e25, hf⟩ := bnd_some hf
    refine g_callVi (pc' := 24) (k' := 0) (u' := 0) (fr2 := 2) (As := []) (b := (mR M v0 2)) (st := []) cf_X9_numberFault q_607 (by omega) (ci := 9) rfl rfl (by decide) dX4_readItem_21 rfl rfl rfl (Nat.le_of_ble_eq_true rfl) (Or.inl rfl) (Nat.le_refl _) (Nat.le_refl _) (Nat.le_refl _) (Nat.le_refl _) h23 (s_X9_numberFault (mR M v0 2) M _ e25) ?_
    refine g_istore (pc' := 26) (lv' := [some (aR v0), some (aI v1), some (aI v2), some (aI v3), some (aI v4), some (aI (mI M (mR M (mR M v0 3) 4) v1.toNatClampNeg)), some (aI r25)]) dX4_readItem_24 rfl rfl (by decide) rfl ?_
    refine g_iload (pc' := 28) dX4_readItem_26 rfl rfl ?_
    refine g_if_eq (pc' := 31) 38 dX4_readItem_28 rfl (by decide) (fun c26 => ?_) (fun c26 => ?_)
    · have hf := ite_t c26 hf
      refine g_aload_n (pc' := 39) dX4_readItem_38 rfl rfl ?_
      refine g_iload (pc' := 41) dX4_readItem_39 rfl rfl ?_
      refine g_iload_n (pc' := 42) dX4_readItem_41 rfl rfl ?_
      refine g_iload (pc' := 44) dX4_readItem_42 rfl rfl ?_
      refine g_aload_n (pc' := 45) dX4_readItem_44 rfl rfl ?_
      obtain ⟨h27, hf⟩ := chk_s hf
      refine g_getR (pc' := 48) 4 2 rfl rfl (by decide) inX4 (by decide) rfl rfl q_556 dX4_readItem_45 rfl h27 ?_
      obtain ⟨h28, hf⟩ := chk_s hf
      obtain ⟨r30, M29, e30, hf⟩ := bnd_some hf
      refine g_callVi (pc' := 51) (k' := 0) (u' := 0) (fr2 := 1) (As := []) (b := (mR M24 v0 2)) (st := [aI v4, aI v3, aI (mI M (mR M (mR M v0 3) 4) v1.toNatClampNeg), aR v0]) cf_X9_number q_611 (by omega) (ci := 9) rfl rfl (by decide) dX4_readItem_48 rfl rfl rfl (Nat.le_of_ble_eq_true rfl) (Or.inl rfl) (Nat.le_refl _) (Nat.le_refl _) (Nat.le_refl _) (Nat.le_refl _) h28 (s_X9_number (mR M24 v0 2) M24 _ e30) ?_
      obtain ⟨h31, hf⟩ := chk_s hf
      obtain ⟨_, M32, e33, hf⟩ := bnd_some hf
      refine g_callVv (pc' := 54) (k' := 0) (u' := 0) (fr2 := 2) (As := [aI (mI M (mR M (mR M v0 3) 4) v1.toNatClampNeg), aI v3, aI v4, aI r30]) (b := v0) (st := []) cf_X4_stage q_598 (by omega) (ci := 4) rfl rfl (by decide) dX4_readItem_51 rfl rfl rfl (Nat.le_of_ble_eq_true rfl) (Or.inl rfl) (Nat.le_refl _) (Nat.le_refl _) (Nat.le_refl _) (Nat.le_refl _) h31 (s_X4_stage v0 (mI M (mR M (mR M v0 3) 4) v1.toNatClampNeg) v3 v4 r30 M29 _ e33) ?_
      refine g_aload_n (pc' := 55) dX4_readItem_54 rfl rfl ?_
      obtain ⟨h34, hf⟩ := chk_s hf
      refine g_getR (pc' := 58) 4 2 rfl rfl (by decide) inX4 (by decide) rfl rfl q_556 dX4_readItem_55 rfl h34 ?_
      obtain ⟨h35, hf⟩ := chk_s hf
      obtain ⟨_, M36, e37, hf⟩ := bnd_some hf
      refine g_callVv (pc' := 61) (k' := 0) (u' := 0) (fr2 := 2) (As := []) (b := (mR M32 v0 2)) (st := []) cf_X9_advance q_592 (by omega) (ci := 9) rfl rfl (by decide) dX4_readItem_58 rfl rfl rfl (Nat.le_of_ble_eq_true rfl) (Or.inl rfl) (Nat.le_refl _) (Nat.le_refl _) (Nat.le_refl _) (Nat.le_refl _) h35 (s_X9_advance (mR M32 v0 2) M32 _ e37) ?_
      refine g_iconst (pc' := 62) (1 : Int32) dX4_readItem_61 rfl (by decide) ?_
      cases hf
      exact g_zreturn dX4_readItem_62 rfl (Or.inr rfl) (Nat.le_of_ble_eq_true rfl) (Nat.le_of_ble_eq_true rfl)
    · have hf := ite_f c26 hf
      refine g_aload_n (pc' := 32) dX4_readItem_31 rfl rfl ?_
      refine g_iload (pc' := 34) dX4_readItem_32 rfl rfl ?_
      obtain ⟨h38, hf⟩ := chk_s hf
      obtain ⟨r40, M39, e40, hf⟩ := bnd_some hf
      refine g_callVi (pc' := 37) (k' := 0) (u' := 0) (fr2 := 1) (As := [aI r25]) (b := v0) (st := []) cf_X4_fail q_578 (by omega) (ci := 4) rfl rfl (by decide) dX4_readItem_34 rfl rfl rfl (Nat.le_of_ble_eq_true rfl) (Or.inl rfl) (Nat.le_refl _) (Nat.le_refl _) (Nat.le_refl _) (Nat.le_refl _) h38 (s_X4_fail v0 r25 M24 _ e40) ?_
      obtain ⟨hz, hf⟩ := chk_s hf
      cases hf
      exact g_zreturn dX4_readItem_37 rfl (zB_ok hz) (Nat.le_of_ble_eq_true rfl) (Nat.le_of_ble_eq_true rfl)
def f_X4_readItems_89 (kF : Nat → Int32 → Int32 → Int32 → Int32 → Mem → Option (Int32 × Mem)) (v0 : Nat) (M : Mem) : Option (Int32 × Mem) :=
  if mK M v0 = 5 then
    if mK M (mR M v0 2) = 10 then
      bnd (f_X9_advance (mR M v0 2) M) fun _ M3 =>
      some ((1 : Int32), M3)
    else none
  else none
def f_X4_readItems_71 (kF : Nat → Int32 → Int32 → Int32 → Int32 → Mem → Option (Int32 × Mem)) (k30 : Nat → Int32 → Int32 → Int32 → Int32 → Int32 → Mem → Option (Int32 × Mem)) (v0 : Nat) (v1 : Int32) (v2 : Int32) (v3 : Int32) (v4 : Int32) (v5 : Int32) (w0 : Nat) (w1 : Int32) (w2 : Int32) (w3 : Int32) (M : Mem) : Option (Int32 × Mem) :=
  if mK M w0 = 5 then
    bnd (f_X4_readItem kF w0 w1 w2 w3 (v4 + (1 : Int32)) M) fun r3 M2 =>
    if r3 = 0 then
      some ((0 : Int32), M2)
    else
      k30 v0 v1 v2 v3 v4 (v5 + 1) M2
  else none
def f_X4_readItems_30 (kF : Nat → Int32 → Int32 → Int32 → Int32 → Mem → Option (Int32 × Mem)) : Nat → Nat → Int32 → Int32 → Int32 → Int32 → Int32 → Mem → Option (Int32 × Mem)
  | 0, _, _, _, _, _, _, _ => none
  | n + 1, v0, v1, v2, v3, v4, v5, M =>
    if (700 : Int32) < v5 then
      f_X4_readItems_89 kF v0 M
    else
      if mK M v0 = 5 then
        if mK M (mR M v0 2) = 10 then
          if (mI M (mR M v0 2) 3) = (93 : Int32) then
            f_X4_readItems_89 kF v0 M
          else
            if v5 = 0 then
              f_X4_readItems_71 kF (f_X4_readItems_30 kF n) v0 v1 v2 v3 v4 v5 v0 v1 v2 v3 M
            else
              if mK M (mR M v0 3) = 6 then
                if mK M (mR M (mR M v0 3) 6) = 21 then
                  if inB v1 (mN M (mR M (mR M v0 3) 6)) = true then
                    f_X4_readItems_71 kF (f_X4_readItems_30 kF n) v0 v1 v2 v3 v4 v5 v0 v1 v2 (mI M (mR M (mR M v0 3) 6) v1.toNatClampNeg) M
                  else none
                else none
              else none
        else none
      else none
def f_X4_readItems_27 (kF : Nat → Int32 → Int32 → Int32 → Int32 → Mem → Option (Int32 × Mem)) (v0 : Nat) (v1 : Int32) (v2 : Int32) (v3 : Int32) (v4 : Int32) (M : Mem) : Option (Int32 × Mem) :=
  f_X4_readItems_30 kF FUEL v0 v1 v2 v3 v4 (0 : Int32) M
def f_X4_readItems (kF : Nat → Int32 → Int32 → Int32 → Int32 → Mem → Option (Int32 × Mem)) (v0 : Nat) (v1 : Int32) (v2 : Int32) (v3 : Int32) (v4 : Int32) (M : Mem) : Option (Int32 × Mem) :=
  if mK M v0 = 5 then
    if mK M (mR M v0 2) = 10 then
      bnd (f_X9_advance (mR M v0 2) M) fun _ M3 =>
      if mK M3 v0 = 5 then
        if mK M3 (mR M3 v0 2) = 10 then
          if (mI M3 (mR M3 v0 2) 3) = (93 : Int32) then
            bnd (f_X4_putNone v0 v1 v3 v4 M3) fun _ M8 =>
            f_X4_readItems_27 kF v0 v1 v2 v3 v4 M8
          else
            f_X4_readItems_27 kF v0 v1 v2 v3 v4 M3
        else none
      else none
    else none
  else none
theorem s_X4_readItems_89 (kF : Nat → Int32 → Int32 → Int32 → Int32 → Mem → Option (Int32 × Mem)) (F : Nat) (hF : ∀ (a0 : Nat) (a1 : Int32) (a2 : Int32) (a3 : Int32) (a4 : Int32) (M : Mem) (r : (Int32 × Mem)), kF a0 a1 a2 a3 a4 M = some r → Sem mi_X4_readFields F [aR a0, aI a1, aI a2, aI a3, aI a4] M (oI r.1) r.2) (v0 : Nat) (M : Mem) (r : (Int32 × Mem)) (hf : f_X4_readItems_89 kF v0 M = some r) : G mi_X4_readItems (F + 4) (oI r.1) r.2 89 [some (aR v0), none, none, none, none, none] [] M 0 0 := by
  unfold f_X4_readItems_89 at hf
  refine g_aload_n (pc' := 90) dX4_readItems_89 rfl rfl ?_
  obtain ⟨h1, hf⟩ := chk_s hf
  refine g_getR (pc' := 93) 4 2 rfl rfl (by decide) inX4 (by decide) rfl rfl q_556 dX4_readItems_90 rfl h1 ?_
  obtain ⟨h2, hf⟩ := chk_s hf
  obtain ⟨_, M3, e4, hf⟩ := bnd_some hf
  refine g_callVv (pc' := 96) (k' := 0) (u' := 0) (fr2 := 2) (As := []) (b := (mR M v0 2)) (st := []) cf_X9_advance q_592 (by omega) (ci := 9) rfl rfl (by decide) dX4_readItems_93 rfl rfl rfl (Nat.le_of_ble_eq_true rfl) (Or.inl rfl) (Nat.le_refl _) (Nat.le_refl _) (Nat.le_refl _) (Nat.le_refl _) h2 (s_X9_advance (mR M v0 2) M _ e4) ?_
  refine g_iconst (pc' := 97) (1 : Int32) dX4_readItems_96 rfl (by decide) ?_
  cases hf
  exact g_zreturn dX4_readItems_97 rfl (Or.inr rfl) (Nat.le_of_ble_eq_true rfl) (Nat.le_of_ble_eq_true rfl)
theorem s_X4_readItems_71 (kF : Nat → Int32 → Int32 → Int32 → Int32 → Mem → Option (Int32 × Mem)) (k30 : Nat → Int32 → Int32 → Int32 → Int32 → Int32 → Mem → Option (Int32 × Mem)) (F : Nat) (hF : ∀ (a0 : Nat) (a1 : Int32) (a2 : Int32) (a3 : Int32) (a4 : Int32) (M : Mem) (r : (Int32 × Mem)), kF a0 a1 a2 a3 a4 M = some r → Sem mi_X4_readFields F [aR a0, aI a1, aI a2, aI a3, aI a4] M (oI r.1) r.2) (hk30 : ∀ (v0 : Nat) (v1 : Int32) (v2 : Int32) (v3 : Int32) (v4 : Int32) (v5 : Int32) (M : Mem) (r : (Int32 × Mem)), k30 v0 v1 v2 v3 v4 v5 M = some r → G mi_X4_readItems (F + 4) (oI r.1) r.2 30 [some (aR v0), some (aI v1), some (aI v2), some (aI v3), some (aI v4), some (aI v5)] [] M 0 0) (v0 : Nat) (v1 : Int32) (v2 : Int32) (v3 : Int32) (v4 : Int32) (v5 : Int32) (w0 : Nat) (w1 : Int32) (w2 : Int32) (w3 : Int32) (M : Mem) (r : (Int32 × Mem)) (hf : f_X4_readItems_71 kF k30 v0 v1 v2 v3 v4 v5 w0 w1 w2 w3 M = some r) : G mi_X4_readItems (F + 4) (oI r.1) r.2 71 [some (aR v0), some (aI v1), some (aI v2), some (aI v3), some (aI v4), some (aI v5)] [aI w3, aI w2, aI w1, aR w0] M 0 0 := by
  unfold f_X4_readItems_71 at hf
  refine g_iload (pc' := 73) dX4_readItems_71 rfl rfl ?_
  refine g_iconst (pc' := 74) (1 : Int32) dX4_readItems_73 rfl (by decide) ?_
  refine g_iadd (pc' := 75) dX4_readItems_74 rfl ?_
  obtain ⟨h1, hf⟩ := chk_s hf
  obtain ⟨r3, M2, e3, hf⟩ := bnd_some hf
  refine g_callVi (pc' := 78) (k' := 0) (u' := 0) (fr2 := F + 3) (As := [aI w1, aI w2, aI w3, aI (v4 + (1 : Int32))]) (b := w0) (st := []) cf_X4_readItem q_586 (by omega) (ci := 4) rfl rfl (by decide) dX4_readItems_75 rfl rfl rfl (Nat.le_of_ble_eq_true rfl) (Or.inl rfl) (Nat.le_refl _) (Nat.le_refl _) (Nat.le_refl _) (Nat.le_refl _) h1 (s_X4_readItem kF F hF w0 w1 w2 w3 (v4 + (1 : Int32)) M _ e3) ?_
  refine g_if_ne (pc' := 81) 83 dX4_readItems_78 rfl (by decide) (fun c4 => ?_) (fun c4 => ?_)
  · have hf := ite_f c4 hf
    refine g_iinc (pc' := 86) (lv' := [some (aR v0), some (aI v1), some (aI v2), some (aI v3), some (aI v4), some (aI (v5 + 1))]) (v5 + 1) dX4_readItems_83 rfl rfl (by rfl) rfl (by decide) rfl ?_
    refine g_goto (pc' := 30) dX4_readItems_86 (by decide) ?_
    refine g_widen (k' := 0) (u' := 0) (by omega) (by omega) ?_
    exact hk30 v0 v1 v2 v3 v4 (v5 + 1) M2 _ hf
  · have hf := ite_t c4 hf
    refine g_iconst (pc' := 82) (0 : Int32) dX4_readItems_81 rfl (by decide) ?_
    cases hf
    exact g_zreturn dX4_readItems_82 rfl (Or.inl rfl) (Nat.le_of_ble_eq_true rfl) (Nat.le_of_ble_eq_true rfl)
theorem s_X4_readItems_30 (kF : Nat → Int32 → Int32 → Int32 → Int32 → Mem → Option (Int32 × Mem)) (F : Nat) (hF : ∀ (a0 : Nat) (a1 : Int32) (a2 : Int32) (a3 : Int32) (a4 : Int32) (M : Mem) (r : (Int32 × Mem)), kF a0 a1 a2 a3 a4 M = some r → Sem mi_X4_readFields F [aR a0, aI a1, aI a2, aI a3, aI a4] M (oI r.1) r.2) : ∀ (n : Nat) (v0 : Nat) (v1 : Int32) (v2 : Int32) (v3 : Int32) (v4 : Int32) (v5 : Int32) (M : Mem) (r : (Int32 × Mem)), f_X4_readItems_30 kF n v0 v1 v2 v3 v4 v5 M = some r → G mi_X4_readItems (F + 4) (oI r.1) r.2 30 [some (aR v0), some (aI v1), some (aI v2), some (aI v3), some (aI v4), some (aI v5)] [] M 0 0 := by
  intro n
  induction n with
  | zero => intro v0 v1 v2 v3 v4 v5 M r hf; cases hf
  | succ n ih =>
    intro v0 v1 v2 v3 v4 v5 M r hf
    unfold f_X4_readItems_30 at hf
    refine g_iload (pc' := 32) dX4_readItems_30 rfl rfl ?_
    refine g_sipush (pc' := 35) (700 : Int32) dX4_readItems_32 rfl (by decide) ?_
    refine g_icmp_gt (pc' := 38) 89 dX4_readItems_35 rfl (by decide) (fun c1 => ?_) (fun c1 => ?_)
    · have hf := ite_t c1 hf
      refine g_mask [true, false, false, false, false, false] rfl ?_
      exact s_X4_readItems_89 kF F hF v0 M _ hf
    · have hf := ite_f c1 hf
      refine g_aload_n (pc' := 39) dX4_readItems_38 rfl rfl ?_
      obtain ⟨h2, hf⟩ := chk_s hf
      refine g_getR (pc' := 42) 4 2 rfl rfl (by decide) inX4 (by decide) rfl rfl q_556 dX4_readItems_39 rfl h2 ?_
      obtain ⟨h3, hf⟩ := chk_s hf
      refine g_getI (pc' := 45) 9 3 rfl rfl (by decide) inX9 (by decide) rfl rfl q_565 dX4_readItems_42 rfl h3 ?_
      refine g_bipush (pc' := 47) (93 : Int32) dX4_readItems_45 rfl (by decide) ?_
      refine g_icmp_eq (pc' := 50) 89 dX4_readItems_47 rfl (by decide) (fun c4 => ?_) (fun c4 => ?_)
      · have hf := ite_t c4 hf
        refine g_mask [true, false, false, false, false, false] rfl ?_
        exact s_X4_readItems_89 kF F hF v0 M _ hf
      · have hf := ite_f c4 hf
        refine g_aload_n (pc' := 51) dX4_readItems_50 rfl rfl ?_
        refine g_iload_n (pc' := 52) dX4_readItems_51 rfl rfl ?_
        refine g_iload_n (pc' := 53) dX4_readItems_52 rfl rfl ?_
        refine g_iload (pc' := 55) dX4_readItems_53 rfl rfl ?_
        refine g_if_ne (pc' := 58) 62 dX4_readItems_55 rfl (by decide) (fun c5 => ?_) (fun c5 => ?_)
        · have hf := ite_f c5 hf
          refine g_aload_n (pc' := 63) dX4_readItems_62 rfl rfl ?_
          refine g_getR (pc' := 66) 4 3 rfl rfl (by decide) inX4 (by decide) rfl rfl q_557 dX4_readItems_63 rfl h2 ?_
          obtain ⟨h6, hf⟩ := chk_s hf
          refine g_getR (pc' := 69) 5 6 rfl rfl (by decide) inX5 (by decide) rfl rfl q_616 dX4_readItems_66 rfl h6 ?_
          refine g_iload_n (pc' := 70) dX4_readItems_69 rfl rfl ?_
          obtain ⟨h7, hf⟩ := chk_s hf
          obtain ⟨b8, hf⟩ := chk_s hf
          refine g_iald (pc' := 71) dX4_readItems_70 rfl h7 (inB_in b8) ?_
          exact s_X4_readItems_71 kF (f_X4_readItems_30 kF n) F hF ih v0 v1 v2 v3 v4 v5 v0 v1 v2 (mI M (mR M (mR M v0 3) 6) v1.toNatClampNeg) M _ hf
        · have hf := ite_t c5 hf
          refine g_iload_n (pc' := 59) dX4_readItems_58 rfl rfl ?_
          refine g_goto (pc' := 71) dX4_readItems_59 (by decide) ?_
          exact s_X4_readItems_71 kF (f_X4_readItems_30 kF n) F hF ih v0 v1 v2 v3 v4 v5 v0 v1 v2 v3 M _ hf
theorem s_X4_readItems_27 (kF : Nat → Int32 → Int32 → Int32 → Int32 → Mem → Option (Int32 × Mem)) (F : Nat) (hF : ∀ (a0 : Nat) (a1 : Int32) (a2 : Int32) (a3 : Int32) (a4 : Int32) (M : Mem) (r : (Int32 × Mem)), kF a0 a1 a2 a3 a4 M = some r → Sem mi_X4_readFields F [aR a0, aI a1, aI a2, aI a3, aI a4] M (oI r.1) r.2) (v0 : Nat) (v1 : Int32) (v2 : Int32) (v3 : Int32) (v4 : Int32) (M : Mem) (r : (Int32 × Mem)) (hf : f_X4_readItems_27 kF v0 v1 v2 v3 v4 M = some r) : G mi_X4_readItems (F + 4) (oI r.1) r.2 27 [some (aR v0), some (aI v1), some (aI v2), some (aI v3), some (aI v4), none] [] M 0 0 := by
  unfold f_X4_readItems_27 at hf
  refine g_iconst (pc' := 28) (0 : Int32) dX4_readItems_27 rfl (by decide) ?_
  refine g_istore (pc' := 30) (lv' := [some (aR v0), some (aI v1), some (aI v2), some (aI v3), some (aI v4), some (aI (0 : Int32))]) dX4_readItems_28 rfl rfl (by decide) rfl ?_
  exact s_X4_readItems_30 kF F hF FUEL v0 v1 v2 v3 v4 (0 : Int32) M _ hf
theorem s_X4_readItems (kF : Nat → Int32 → Int32 → Int32 → Int32 → Mem → Option (Int32 × Mem)) (F : Nat) (hF : ∀ (a0 : Nat) (a1 : Int32) (a2 : Int32) (a3 : Int32) (a4 : Int32) (M : Mem) (r : (Int32 × Mem)), kF a0 a1 a2 a3 a4 M = some r → Sem mi_X4_readFields F [aR a0, aI a1, aI a2, aI a3, aI a4] M (oI r.1) r.2) (v0 : Nat) (v1 : Int32) (v2 : Int32) (v3 : Int32) (v4 : Int32) (M : Mem) (r : (Int32 × Mem)) (hf : f_X4_readItems kF v0 v1 v2 v3 v4 M = some r) : Sem mi_X4_readItems ((F + 4)) [aR v0, aI v1, aI v2, aI v3, aI v4] M (oI r.1) r.2 := by
  unfold f_X4_readItems at hf
  refine sem_of (by decide) rfl rfl rfl (Nat.le_of_ble_eq_true rfl) (lv := [some (aR v0), some (aI v1), some (aI v2), some (aI v3), some (aI v4), none]) rfl ?_
  refine g_aload_n (pc' := 1) dX4_readItems_0 rfl rfl ?_
  obtain ⟨h1, hf⟩ := chk_s hf
  refine g_getR (pc' := 4) 4 2 rfl rfl (by decide) inX4 (by decide) rfl rfl q_556 dX4_readItems_1 rfl h1 ?_
  obtain ⟨h2, hf⟩ := chk_s hf
  obtain ⟨_, M3, e4, hf⟩ := bnd_some hf
  refine g_callVv (pc' := 7) (k' := 0) (u' := 0) (fr2 := 2) (As := []) (b := (mR M v0 2)) (st := []) cf_X9_advance q_592 (by omega) (ci := 9) rfl rfl (by decide) dX4_readItems_4 rfl rfl rfl (Nat.le_of_ble_eq_true rfl) (Or.inl rfl) (Nat.le_refl _) (Nat.le_refl _) (Nat.le_refl _) (Nat.le_refl _) h2 (s_X9_advance (mR M v0 2) M _ e4) ?_
  refine g_aload_n (pc' := 8) dX4_readItems_7 rfl rfl ?_
  obtain ⟨h5, hf⟩ := chk_s hf
  refine g_getR (pc' := 11) 4 2 rfl rfl (by decide) inX4 (by decide) rfl rfl q_556 dX4_readItems_8 rfl h5 ?_
  obtain ⟨h6, hf⟩ := chk_s hf
  refine g_getI (pc' := 14) 9 3 rfl rfl (by decide) inX9 (by decide) rfl rfl q_565 dX4_readItems_11 rfl h6 ?_
  refine g_bipush (pc' := 16) (93 : Int32) dX4_readItems_14 rfl (by decide) ?_
  refine g_icmp_ne (pc' := 19) 27 dX4_readItems_16 rfl (by decide) (fun c7 => ?_) (fun c7 => ?_)
  · have hf := ite_f c7 hf
    refine g_widen (k' := 0) (u' := 0) (by omega) (by omega) ?_
    exact s_X4_readItems_27 kF F hF v0 v1 v2 v3 v4 M3 _ hf
  · have hf := ite_t c7 hf
    refine g_aload_n (pc' := 20) dX4_readItems_19 rfl rfl ?_
    refine g_iload_n (pc' := 21) dX4_readItems_20 rfl rfl ?_
    refine g_iload_n (pc' := 22) dX4_readItems_21 rfl rfl ?_
    refine g_iload (pc' := 24) dX4_readItems_22 rfl rfl ?_
    obtain ⟨_, M8, e9, hf⟩ := bnd_some hf
    refine g_callVv (pc' := 27) (k' := 0) (u' := 0) (fr2 := 3) (As := [aI v1, aI v3, aI v4]) (b := v0) (st := []) cf_X4_putNone q_593 (by omega) (ci := 4) rfl rfl (by decide) dX4_readItems_24 rfl rfl rfl (Nat.le_of_ble_eq_true rfl) (Or.inl rfl) (Nat.le_refl _) (Nat.le_refl _) (Nat.le_refl _) (Nat.le_refl _) h5 (s_X4_putNone v0 v1 v3 v4 M3 _ e9) ?_
    refine g_widen (k' := 0) (u' := 0) (by omega) (by omega) ?_
    exact s_X4_readItems_27 kF F hF v0 v1 v2 v3 v4 M8 _ hf
def f_X4_readField (kF : Nat → Int32 → Int32 → Int32 → Int32 → Mem → Option (Int32 × Mem)) (v0 : Nat) (v1 : Int32) (v2 : Int32) (v3 : Int32) (v4 : Int32) (M : Mem) : Option (Int32 × Mem) :=
  if mK M v0 = 5 then
    bnd (f_X4_canBegin v0 v1 M) fun r3 M2 =>
    if r3 = 0 then
      if mK M2 v0 = 5 then
        bnd (f_X4_fail v0 (1 : Int32) M2) fun r26 M25 =>
        if zB r26 = true then
        some (r26, M25)
        else none
      else none
    else
      if mK M2 v0 = 5 then
        if mK M2 (mR M2 v0 3) = 6 then
          if mK M2 (mR M2 (mR M2 v0 3) 2) = 21 then
            if inB v1 (mN M2 (mR M2 (mR M2 v0 3) 2)) = true then
              if (mI M2 (mR M2 (mR M2 v0 3) 2) v1.toNatClampNeg) = 0 then
                bnd (f_X4_readItem kF v0 v1 v2 v3 v4 M2) fun r23 M22 =>
                if zB r23 = true then
                some (r23, M22)
                else none
              else
                if (mI M2 (mR M2 (mR M2 v0 3) 2) v1.toNatClampNeg) = (2 : Int32) then
                  bnd (f_X4_readItems kF v0 v1 v2 v3 v4 M2) fun r21 M20 =>
                  if zB r21 = true then
                  some (r21, M20)
                  else none
                else
                  if mK M2 (mR M2 v0 2) = 10 then
                    if (mI M2 (mR M2 v0 2) 3) = (45 : Int32) then
                      bnd (f_X9_advance (mR M2 v0 2) M2) fun _ M13 =>
                      if mK M13 v0 = 5 then
                        bnd (f_X4_putNone v0 v1 v3 v4 M13) fun _ M16 =>
                        some ((1 : Int32), M16)
                      else none
                    else
                      bnd (f_X4_readItem kF v0 v1 v2 v3 (v4 + (1 : Int32)) M2) fun r19 M18 =>
                      if zB r19 = true then
                      some (r19, M18)
                      else none
                  else none
            else none
          else none
        else none
      else none
  else none
theorem s_X4_readField (kF : Nat → Int32 → Int32 → Int32 → Int32 → Mem → Option (Int32 × Mem)) (F : Nat) (hF : ∀ (a0 : Nat) (a1 : Int32) (a2 : Int32) (a3 : Int32) (a4 : Int32) (M : Mem) (r : (Int32 × Mem)), kF a0 a1 a2 a3 a4 M = some r → Sem mi_X4_readFields F [aR a0, aI a1, aI a2, aI a3, aI a4] M (oI r.1) r.2) (v0 : Nat) (v1 : Int32) (v2 : Int32) (v3 : Int32) (v4 : Int32) (M : Mem) (r : (Int32 × Mem)) (hf : f_X4_readField kF v0 v1 v2 v3 v4 M = some r) : Sem mi_X4_readField ((F + 5)) [aR v0, aI v1, aI v2, aI v3, aI v4] M (oI r.1) r.2 := by
  unfold f_X4_readField at hf
  refine sem_of (by decide) rfl rfl rfl (Nat.le_of_ble_eq_true rfl) (lv := [some (aR v0), some (aI v1), some (aI v2), some (aI v3), some (aI v4)]) rfl ?_
  refine g_aload_n (pc' := 1) dX4_readField_0 rfl rfl ?_
  refine g_iload_n (pc' := 2) dX4_readField_1 rfl rfl ?_
  obtain ⟨h1, hf⟩ := chk_s hf
  obtain ⟨r3, M2, e3, hf⟩ := bnd_some hf
  refine g_callVi (pc' := 5) (k' := 0) (u' := 0) (fr2 := 1) (As := [aI v1]) (b := v0) (st := []) cf_X4_canBegin q_566 (by omega) (ci := 4) rfl rfl (by decide) dX4_readField_2 rfl rfl rfl (Nat.le_of_ble_eq_true rfl) (Or.inl rfl) (Nat.le_refl _) (Nat.le_refl _) (Nat.le_refl _) (Nat.le_refl _) h1 (s_X4_canBegin v0 v1 M _ e3) ?_
  refine g_if_ne (pc' := 8) 14 dX4_readField_5 rfl (by decide) (fun c4 => ?_) (fun c4 => ?_)
  · have hf := ite_f c4 hf
    refine g_aload_n (pc' := 15) dX4_readField_14 rfl rfl ?_
    obtain ⟨h5, hf⟩ := chk_s hf
    refine g_getR (pc' := 18) 4 3 rfl rfl (by decide) inX4 (by decide) rfl rfl q_557 dX4_readField_15 rfl h5 ?_
    obtain ⟨h6, hf⟩ := chk_s hf
    refine g_getR (pc' := 21) 5 2 rfl rfl (by decide) inX5 (by decide) rfl rfl q_570 dX4_readField_18 rfl h6 ?_
    refine g_iload_n (pc' := 22) dX4_readField_21 rfl rfl ?_
    obtain ⟨h7, hf⟩ := chk_s hf
    obtain ⟨b8, hf⟩ := chk_s hf
    refine g_iald (pc' := 23) dX4_readField_22 rfl h7 (inB_in b8) ?_
    refine g_if_ne (pc' := 26) 36 dX4_readField_23 rfl (by decide) (fun c9 => ?_) (fun c9 => ?_)
    · have hf := ite_f c9 hf
      refine g_aload_n (pc' := 37) dX4_readField_36 rfl rfl ?_
      refine g_getR (pc' := 40) 4 3 rfl rfl (by decide) inX4 (by decide) rfl rfl q_557 dX4_readField_37 rfl h5 ?_
      refine g_getR (pc' := 43) 5 2 rfl rfl (by decide) inX5 (by decide) rfl rfl q_570 dX4_readField_40 rfl h6 ?_
      refine g_iload_n (pc' := 44) dX4_readField_43 rfl rfl ?_
      refine g_iald (pc' := 45) dX4_readField_44 rfl h7 (inB_in b8) ?_
      refine g_iconst (pc' := 46) (2 : Int32) dX4_readField_45 rfl (by decide) ?_
      refine g_icmp_ne (pc' := 49) 59 dX4_readField_46 rfl (by decide) (fun c10 => ?_) (fun c10 => ?_)
      · have hf := ite_f c10 hf
        refine g_aload_n (pc' := 60) dX4_readField_59 rfl rfl ?_
        refine g_getR (pc' := 63) 4 2 rfl rfl (by decide) inX4 (by decide) rfl rfl q_556 dX4_readField_60 rfl h5 ?_
        obtain ⟨h11, hf⟩ := chk_s hf
        refine g_getI (pc' := 66) 9 3 rfl rfl (by decide) inX9 (by decide) rfl rfl q_565 dX4_readField_63 rfl h11 ?_
        refine g_bipush (pc' := 68) (45 : Int32) dX4_readField_66 rfl (by decide) ?_
        refine g_icmp_eq (pc' := 71) 83 dX4_readField_68 rfl (by decide) (fun c12 => ?_) (fun c12 => ?_)
        · have hf := ite_t c12 hf
          refine g_aload_n (pc' := 84) dX4_readField_83 rfl rfl ?_
          refine g_getR (pc' := 87) 4 2 rfl rfl (by decide) inX4 (by decide) rfl rfl q_556 dX4_readField_84 rfl h5 ?_
          obtain ⟨_, M13, e14, hf⟩ := bnd_some hf
          refine g_callVv (pc' := 90) (k' := 0) (u' := 0) (fr2 := 2) (As := []) (b := (mR M2 v0 2)) (st := []) cf_X9_advance q_592 (by omega) (ci := 9) rfl rfl (by decide) dX4_readField_87 rfl rfl rfl (Nat.le_of_ble_eq_true rfl) (Or.inl rfl) (Nat.le_refl _) (Nat.le_refl _) (Nat.le_refl _) (Nat.le_refl _) h11 (s_X9_advance (mR M2 v0 2) M2 _ e14) ?_
          refine g_aload_n (pc' := 91) dX4_readField_90 rfl rfl ?_
          refine g_iload_n (pc' := 92) dX4_readField_91 rfl rfl ?_
          refine g_iload_n (pc' := 93) dX4_readField_92 rfl rfl ?_
          refine g_iload (pc' := 95) dX4_readField_93 rfl rfl ?_
          obtain ⟨h15, hf⟩ := chk_s hf
          obtain ⟨_, M16, e17, hf⟩ := bnd_some hf
          refine g_callVv (pc' := 98) (k' := 0) (u' := 0) (fr2 := 3) (As := [aI v1, aI v3, aI v4]) (b := v0) (st := []) cf_X4_putNone q_593 (by omega) (ci := 4) rfl rfl (by decide) dX4_readField_95 rfl rfl rfl (Nat.le_of_ble_eq_true rfl) (Or.inl rfl) (Nat.le_refl _) (Nat.le_refl _) (Nat.le_refl _) (Nat.le_refl _) h15 (s_X4_putNone v0 v1 v3 v4 M13 _ e17) ?_
          refine g_iconst (pc' := 99) (1 : Int32) dX4_readField_98 rfl (by decide) ?_
          cases hf
          exact g_zreturn dX4_readField_99 rfl (Or.inr rfl) (Nat.le_of_ble_eq_true rfl) (Nat.le_of_ble_eq_true rfl)
        · have hf := ite_f c12 hf
          refine g_aload_n (pc' := 72) dX4_readField_71 rfl rfl ?_
          refine g_iload_n (pc' := 73) dX4_readField_72 rfl rfl ?_
          refine g_iload_n (pc' := 74) dX4_readField_73 rfl rfl ?_
          refine g_iload_n (pc' := 75) dX4_readField_74 rfl rfl ?_
          refine g_iload (pc' := 77) dX4_readField_75 rfl rfl ?_
          refine g_iconst (pc' := 78) (1 : Int32) dX4_readField_77 rfl (by decide) ?_
          refine g_iadd (pc' := 79) dX4_readField_78 rfl ?_
          obtain ⟨r19, M18, e19, hf⟩ := bnd_some hf
          refine g_callVi (pc' := 82) (k' := 0) (u' := 0) (fr2 := F + 3) (As := [aI v1, aI v2, aI v3, aI (v4 + (1 : Int32))]) (b := v0) (st := []) cf_X4_readItem q_586 (by omega) (ci := 4) rfl rfl (by decide) dX4_readField_79 rfl rfl rfl (Nat.le_of_ble_eq_true rfl) (Or.inl rfl) (Nat.le_refl _) (Nat.le_refl _) (Nat.le_refl _) (Nat.le_refl _) h5 (s_X4_readItem kF F hF v0 v1 v2 v3 (v4 + (1 : Int32)) M2 _ e19) ?_
          obtain ⟨hz, hf⟩ := chk_s hf
          cases hf
          exact g_zreturn dX4_readField_82 rfl (zB_ok hz) (Nat.le_of_ble_eq_true rfl) (Nat.le_of_ble_eq_true rfl)
      · have hf := ite_t c10 hf
        refine g_aload_n (pc' := 50) dX4_readField_49 rfl rfl ?_
        refine g_iload_n (pc' := 51) dX4_readField_50 rfl rfl ?_
        refine g_iload_n (pc' := 52) dX4_readField_51 rfl rfl ?_
        refine g_iload_n (pc' := 53) dX4_readField_52 rfl rfl ?_
        refine g_iload (pc' := 55) dX4_readField_53 rfl rfl ?_
        obtain ⟨r21, M20, e21, hf⟩ := bnd_some hf
        refine g_callVi (pc' := 58) (k' := 0) (u' := 0) (fr2 := F + 4) (As := [aI v1, aI v2, aI v3, aI v4]) (b := v0) (st := []) cf_X4_readItems q_589 (by omega) (ci := 4) rfl rfl (by decide) dX4_readField_55 rfl rfl rfl (Nat.le_of_ble_eq_true rfl) (Or.inl rfl) (Nat.le_refl _) (Nat.le_refl _) (Nat.le_refl _) (Nat.le_refl _) h5 (s_X4_readItems kF F hF v0 v1 v2 v3 v4 M2 _ e21) ?_
        obtain ⟨hz, hf⟩ := chk_s hf
        cases hf
        exact g_zreturn dX4_readField_58 rfl (zB_ok hz) (Nat.le_of_ble_eq_true rfl) (Nat.le_of_ble_eq_true rfl)
    · have hf := ite_t c9 hf
      refine g_aload_n (pc' := 27) dX4_readField_26 rfl rfl ?_
      refine g_iload_n (pc' := 28) dX4_readField_27 rfl rfl ?_
      refine g_iload_n (pc' := 29) dX4_readField_28 rfl rfl ?_
      refine g_iload_n (pc' := 30) dX4_readField_29 rfl rfl ?_
      refine g_iload (pc' := 32) dX4_readField_30 rfl rfl ?_
      obtain ⟨r23, M22, e23, hf⟩ := bnd_some hf
      refine g_callVi (pc' := 35) (k' := 0) (u' := 0) (fr2 := F + 3) (As := [aI v1, aI v2, aI v3, aI v4]) (b := v0) (st := []) cf_X4_readItem q_586 (by omega) (ci := 4) rfl rfl (by decide) dX4_readField_32 rfl rfl rfl (Nat.le_of_ble_eq_true rfl) (Or.inl rfl) (Nat.le_refl _) (Nat.le_refl _) (Nat.le_refl _) (Nat.le_refl _) h5 (s_X4_readItem kF F hF v0 v1 v2 v3 v4 M2 _ e23) ?_
      obtain ⟨hz, hf⟩ := chk_s hf
      cases hf
      exact g_zreturn dX4_readField_35 rfl (zB_ok hz) (Nat.le_of_ble_eq_true rfl) (Nat.le_of_ble_eq_true rfl)
  · have hf := ite_t c4 hf
    refine g_aload_n (pc' := 9) dX4_readField_8 rfl rfl ?_
    refine g_iconst (pc' := 10) (1 : Int32) dX4_readField_9 rfl (by decide) ?_
    obtain ⟨h24, hf⟩ := chk_s hf
    obtain ⟨r26, M25, e26, hf⟩ := bnd_some hf
    refine g_callVi (pc' := 13) (k' := 0) (u' := 0) (fr2 := 1) (As := [aI (1 : Int32)]) (b := v0) (st := []) cf_X4_fail q_578 (by omega) (ci := 4) rfl rfl (by decide) dX4_readField_10 rfl rfl rfl (Nat.le_of_ble_eq_true rfl) (Or.inl rfl) (Nat.le_refl _) (Nat.le_refl _) (Nat.le_refl _) (Nat.le_refl _) h24 (s_X4_fail v0 (1 : Int32) M2 _ e26) ?_
    obtain ⟨hz, hf⟩ := chk_s hf
    cases hf
    exact g_zreturn dX4_readField_13 rfl (zB_ok hz) (Nat.le_of_ble_eq_true rfl) (Nat.le_of_ble_eq_true rfl)
def f_X4_readFields_55 (kF : Nat → Int32 → Int32 → Int32 → Int32 → Mem → Option (Int32 × Mem)) (k14 : Nat → Int32 → Int32 → Int32 → Int32 → Int32 → Mem → Option (Int32 × Mem)) (v0 : Nat) (v1 : Int32) (v2 : Int32) (v3 : Int32) (v4 : Int32) (v5 : Int32) (M : Mem) : Option (Int32 × Mem) :=
  k14 v0 v1 v2 v3 v4 (v5 + 1) M
def f_X4_readFields_14 (kF : Nat → Int32 → Int32 → Int32 → Int32 → Mem → Option (Int32 × Mem)) : Nat → Nat → Int32 → Int32 → Int32 → Int32 → Int32 → Mem → Option (Int32 × Mem)
  | 0, _, _, _, _, _, _, _ => none
  | n + 1, v0, v1, v2, v3, v4, v5, M =>
    if mK M v0 = 5 then
      if mK M (mR M v0 3) = 6 then
        if (mI M (mR M v0 3) 0) ≤ v5 then
          some ((1 : Int32), M)
        else
          if mK M (mR M (mR M v0 3) 3) = 21 then
            if inB v5 (mN M (mR M (mR M v0 3) 3)) = true then
              if (mI M (mR M (mR M v0 3) 3) v5.toNatClampNeg) = v1 then
                bnd (f_X4_readField kF v0 v5 v2 v3 v4 M) fun r8 M7 =>
                if r8 = 0 then
                  some ((0 : Int32), M7)
                else
                  f_X4_readFields_55 kF (f_X4_readFields_14 kF n) v0 v1 v2 v3 v4 v5 M7
              else
                f_X4_readFields_55 kF (f_X4_readFields_14 kF n) v0 v1 v2 v3 v4 v5 M
            else none
          else none
      else none
    else none
def f_X4_readFields_o (kF : Nat → Int32 → Int32 → Int32 → Int32 → Mem → Option (Int32 × Mem)) (v0 : Nat) (v1 : Int32) (v2 : Int32) (v3 : Int32) (v4 : Int32) (M : Mem) : Option (Int32 × Mem) :=
  if v2 ≤ (3 : Int32) then
    f_X4_readFields_14 kF FUEL v0 v1 v2 v3 v4 (0 : Int32) M
  else
    if mK M v0 = 5 then
      bnd (f_X4_fail v0 (1 : Int32) M) fun r4 M3 =>
      if zB r4 = true then
      some (r4, M3)
      else none
    else none
def f_X4_readFields : Nat → Nat → Int32 → Int32 → Int32 → Int32 → Mem → Option (Int32 × Mem)
  | 0, _, _, _, _, _, _ => none
  | n + 1, v0, v1, v2, v3, v4, M => f_X4_readFields_o (f_X4_readFields n) v0 v1 v2 v3 v4 M
theorem s_X4_readFields_55 (kF : Nat → Int32 → Int32 → Int32 → Int32 → Mem → Option (Int32 × Mem)) (k14 : Nat → Int32 → Int32 → Int32 → Int32 → Int32 → Mem → Option (Int32 × Mem)) (F : Nat) (hF : ∀ (a0 : Nat) (a1 : Int32) (a2 : Int32) (a3 : Int32) (a4 : Int32) (M : Mem) (r : (Int32 × Mem)), kF a0 a1 a2 a3 a4 M = some r → Sem mi_X4_readFields F [aR a0, aI a1, aI a2, aI a3, aI a4] M (oI r.1) r.2) (hk14 : ∀ (v0 : Nat) (v1 : Int32) (v2 : Int32) (v3 : Int32) (v4 : Int32) (v5 : Int32) (M : Mem) (r : (Int32 × Mem)), k14 v0 v1 v2 v3 v4 v5 M = some r → G mi_X4_readFields (F + 6) (oI r.1) r.2 14 [some (aR v0), some (aI v1), some (aI v2), some (aI v3), some (aI v4), some (aI v5)] [] M 0 0) (v0 : Nat) (v1 : Int32) (v2 : Int32) (v3 : Int32) (v4 : Int32) (v5 : Int32) (M : Mem) (r : (Int32 × Mem)) (hf : f_X4_readFields_55 kF k14 v0 v1 v2 v3 v4 v5 M = some r) : G mi_X4_readFields (F + 6) (oI r.1) r.2 55 [some (aR v0), some (aI v1), some (aI v2), some (aI v3), some (aI v4), some (aI v5)] [] M 0 0 := by
  unfold f_X4_readFields_55 at hf
  refine g_iinc (pc' := 58) (lv' := [some (aR v0), some (aI v1), some (aI v2), some (aI v3), some (aI v4), some (aI (v5 + 1))]) (v5 + 1) dX4_readFields_55 rfl rfl (by rfl) rfl (by decide) rfl ?_
  refine g_goto (pc' := 14) dX4_readFields_58 (by decide) ?_
  exact hk14 v0 v1 v2 v3 v4 (v5 + 1) M _ hf
theorem s_X4_readFields_14 (kF : Nat → Int32 → Int32 → Int32 → Int32 → Mem → Option (Int32 × Mem)) (F : Nat) (hF : ∀ (a0 : Nat) (a1 : Int32) (a2 : Int32) (a3 : Int32) (a4 : Int32) (M : Mem) (r : (Int32 × Mem)), kF a0 a1 a2 a3 a4 M = some r → Sem mi_X4_readFields F [aR a0, aI a1, aI a2, aI a3, aI a4] M (oI r.1) r.2) : ∀ (n : Nat) (v0 : Nat) (v1 : Int32) (v2 : Int32) (v3 : Int32) (v4 : Int32) (v5 : Int32) (M : Mem) (r : (Int32 × Mem)), f_X4_readFields_14 kF n v0 v1 v2 v3 v4 v5 M = some r → G mi_X4_readFields (F + 6) (oI r.1) r.2 14 [some (aR v0), some (aI v1), some (aI v2), some (aI v3), some (aI v4), some (aI v5)] [] M 0 0 := by
  intro n
  induction n with
  | zero => intro v0 v1 v2 v3 v4 v5 M r hf; cases hf
  | succ n ih =>
    intro v0 v1 v2 v3 v4 v5 M r hf
    unfold f_X4_readFields_14 at hf
    refine g_iload (pc' := 16) dX4_readFields_14 rfl rfl ?_
    refine g_aload_n (pc' := 17) dX4_readFields_16 rfl rfl ?_
    obtain ⟨h1, hf⟩ := chk_s hf
    refine g_getR (pc' := 20) 4 3 rfl rfl (by decide) inX4 (by decide) rfl rfl q_557 dX4_readFields_17 rfl h1 ?_
    obtain ⟨h2, hf⟩ := chk_s hf
    refine g_getI (pc' := 23) 5 0 rfl rfl (by decide) inX5 (by decide) rfl rfl q_576 dX4_readFields_20 rfl h2 ?_
    refine g_icmp_ge (pc' := 26) 61 dX4_readFields_23 rfl (by decide) (fun c3 => ?_) (fun c3 => ?_)
    · have hf := ite_t c3 hf
      refine g_iconst (pc' := 62) (1 : Int32) dX4_readFields_61 rfl (by decide) ?_
      cases hf
      exact g_zreturn dX4_readFields_62 rfl (Or.inr rfl) (Nat.le_of_ble_eq_true rfl) (Nat.le_of_ble_eq_true rfl)
    · have hf := ite_f c3 hf
      refine g_aload_n (pc' := 27) dX4_readFields_26 rfl rfl ?_
      refine g_getR (pc' := 30) 4 3 rfl rfl (by decide) inX4 (by decide) rfl rfl q_557 dX4_readFields_27 rfl h1 ?_
      refine g_getR (pc' := 33) 5 3 rfl rfl (by decide) inX5 (by decide) rfl rfl q_577 dX4_readFields_30 rfl h2 ?_
      refine g_iload (pc' := 35) dX4_readFields_33 rfl rfl ?_
      obtain ⟨h4, hf⟩ := chk_s hf
      obtain ⟨b5, hf⟩ := chk_s hf
      refine g_iald (pc' := 36) dX4_readFields_35 rfl h4 (inB_in b5) ?_
      refine g_iload_n (pc' := 37) dX4_readFields_36 rfl rfl ?_
      refine g_icmp_ne (pc' := 40) 55 dX4_readFields_37 rfl (by decide) (fun c6 => ?_) (fun c6 => ?_)
      · have hf := ite_f c6 hf
        exact s_X4_readFields_55 kF (f_X4_readFields_14 kF n) F hF ih v0 v1 v2 v3 v4 v5 M _ hf
      · have hf := ite_t c6 hf
        refine g_aload_n (pc' := 41) dX4_readFields_40 rfl rfl ?_
        refine g_iload (pc' := 43) dX4_readFields_41 rfl rfl ?_
        refine g_iload_n (pc' := 44) dX4_readFields_43 rfl rfl ?_
        refine g_iload_n (pc' := 45) dX4_readFields_44 rfl rfl ?_
        refine g_iload (pc' := 47) dX4_readFields_45 rfl rfl ?_
        obtain ⟨r8, M7, e8, hf⟩ := bnd_some hf
        refine g_callVi (pc' := 50) (k' := 0) (u' := 0) (fr2 := F + 5) (As := [aI v5, aI v2, aI v3, aI v4]) (b := v0) (st := []) cf_X4_readField q_582 (by omega) (ci := 4) rfl rfl (by decide) dX4_readFields_47 rfl rfl rfl (Nat.le_of_ble_eq_true rfl) (Or.inl rfl) (Nat.le_refl _) (Nat.le_refl _) (Nat.le_refl _) (Nat.le_refl _) h1 (s_X4_readField kF F hF v0 v5 v2 v3 v4 M _ e8) ?_
        refine g_if_ne (pc' := 53) 55 dX4_readFields_50 rfl (by decide) (fun c9 => ?_) (fun c9 => ?_)
        · have hf := ite_f c9 hf
          refine g_widen (k' := 0) (u' := 0) (by omega) (by omega) ?_
          exact s_X4_readFields_55 kF (f_X4_readFields_14 kF n) F hF ih v0 v1 v2 v3 v4 v5 M7 _ hf
        · have hf := ite_t c9 hf
          refine g_iconst (pc' := 54) (0 : Int32) dX4_readFields_53 rfl (by decide) ?_
          cases hf
          exact g_zreturn dX4_readFields_54 rfl (Or.inl rfl) (Nat.le_of_ble_eq_true rfl) (Nat.le_of_ble_eq_true rfl)
theorem s_X4_readFields_o (kF : Nat → Int32 → Int32 → Int32 → Int32 → Mem → Option (Int32 × Mem)) (F : Nat) (hF : ∀ (a0 : Nat) (a1 : Int32) (a2 : Int32) (a3 : Int32) (a4 : Int32) (M : Mem) (r : (Int32 × Mem)), kF a0 a1 a2 a3 a4 M = some r → Sem mi_X4_readFields F [aR a0, aI a1, aI a2, aI a3, aI a4] M (oI r.1) r.2) (v0 : Nat) (v1 : Int32) (v2 : Int32) (v3 : Int32) (v4 : Int32) (M : Mem) (r : (Int32 × Mem)) (hf : f_X4_readFields_o kF v0 v1 v2 v3 v4 M = some r) : Sem mi_X4_readFields ((F + 6)) [aR v0, aI v1, aI v2, aI v3, aI v4] M (oI r.1) r.2 := by
  unfold f_X4_readFields_o at hf
  refine sem_of (by decide) rfl rfl rfl (Nat.le_of_ble_eq_true rfl) (lv := [some (aR v0), some (aI v1), some (aI v2), some (aI v3), some (aI v4), none]) rfl ?_
  refine g_iload_n (pc' := 1) dX4_readFields_0 rfl rfl ?_
  refine g_iconst (pc' := 2) (3 : Int32) dX4_readFields_1 rfl (by decide) ?_
  refine g_icmp_le (pc' := 5) 11 dX4_readFields_2 rfl (by decide) (fun c1 => ?_) (fun c1 => ?_)
  · have hf := ite_t c1 hf
    refine g_iconst (pc' := 12) (0 : Int32) dX4_readFields_11 rfl (by decide) ?_
    refine g_istore (pc' := 14) (lv' := [some (aR v0), some (aI v1), some (aI v2), some (aI v3), some (aI v4), some (aI (0 : Int32))]) dX4_readFields_12 rfl rfl (by decide) rfl ?_
    exact s_X4_readFields_14 kF F hF FUEL v0 v1 v2 v3 v4 (0 : Int32) M _ hf
  · have hf := ite_f c1 hf
    refine g_aload_n (pc' := 6) dX4_readFields_5 rfl rfl ?_
    refine g_iconst (pc' := 7) (1 : Int32) dX4_readFields_6 rfl (by decide) ?_
    obtain ⟨h2, hf⟩ := chk_s hf
    obtain ⟨r4, M3, e4, hf⟩ := bnd_some hf
    refine g_callVi (pc' := 10) (k' := 0) (u' := 0) (fr2 := 1) (As := [aI (1 : Int32)]) (b := v0) (st := []) cf_X4_fail q_578 (by omega) (ci := 4) rfl rfl (by decide) dX4_readFields_7 rfl rfl rfl (Nat.le_of_ble_eq_true rfl) (Or.inl rfl) (Nat.le_refl _) (Nat.le_refl _) (Nat.le_refl _) (Nat.le_refl _) h2 (s_X4_fail v0 (1 : Int32) M _ e4) ?_
    obtain ⟨hz, hf⟩ := chk_s hf
    cases hf
    exact g_zreturn dX4_readFields_10 rfl (zB_ok hz) (Nat.le_of_ble_eq_true rfl) (Nat.le_of_ble_eq_true rfl)
theorem s_X4_readFields : ∀ (n : Nat) (v0 : Nat) (v1 : Int32) (v2 : Int32) (v3 : Int32) (v4 : Int32) (M : Mem) (r : (Int32 × Mem)), f_X4_readFields n v0 v1 v2 v3 v4 M = some r → Sem mi_X4_readFields (6 * n + 0) [aR v0, aI v1, aI v2, aI v3, aI v4] M (oI r.1) r.2 := by
  intro n
  induction n with
  | zero => intro v0 v1 v2 v3 v4 M r hf; cases hf
  | succ n ih =>
    intro v0 v1 v2 v3 v4 M r hf
    rw [show 6 * (n + 1) + 0 = 6 * n + 0 + 6 by omega]
    exact s_X4_readFields_o (f_X4_readFields n) (6 * n + 0) ih v0 v1 v2 v3 v4 M r hf
