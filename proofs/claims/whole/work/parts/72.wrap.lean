theorem s_ex_xNS {mi : MI} {fr e : Nat} {as : List AV} {M M1 : Mem} {f : Int32 → OC} (he : e = 1) (h : Sem mi fr as M (oX f (.inl e)) M1) : Sem mi fr as M (.inr xNS) M1 := by
  subst he
  exact h
theorem s_ex_xIA {mi : MI} {fr e : Nat} {as : List AV} {M M1 : Mem} {f : Int32 → OC} (he : ¬ e = 1) (h : Sem mi fr as M (oX f (.inl e)) M1) : Sem mi fr as M (.inr xIA) M1 := by
  have e1 : xN e = xIA := if_neg he
  have h2 : Sem mi fr as M (.inr (xN e)) M1 := h
  rw [e1] at h2
  exact h2
abbrev mi_L_schema : MI := (yL_schema, Cond.codeWith yL_schema cL_schema 4 (some .int) [(0, 9, 12, 13)], cL_schema, 4, (some .int), [(0, 9, 12, 13)], 1, 6, 0, none)
theorem cf_L_schema : CFw mi_L_schema 3 := ⟨rfl, q_172, wall_i_LeafStripesLaw, ⟨by decide, by decide, by decide +kernel⟩, by decide, q_170⟩
def f_L_schema (v0 : Nat) (v1 : Int32) (v2 : Nat) (M : Mem) : Option (Int32 × Mem) :=
  if mK M v0 = 12 then
    catchX (f_X11_schema v0 v1 M) (fun e M1 => if e = 1 then none else some (1, M1)) fun r M1 =>
      if mK M1 v2 = 22 then
        if inB 0 (mN M1 v2) = true then
          ap (sJ M1 v2 (0 : Int32).toNatClampNeg r.toInt64) fun M2 =>
          some (0, M2)
        else none
      else none
  else none
theorem s_L_schema (v0 : Nat) (v1 : Int32) (v2 : Nat) (M : Mem) (r : (Int32 × Mem)) (hf : f_L_schema v0 v1 v2 M = some r) : Sem mi_L_schema 10 [aR v0, aI v1, aR v2] M (oI r.1) r.2 := by
  unfold f_L_schema at hf
  refine sem_ofH (by decide) rfl rfl (Nat.le_of_ble_eq_true rfl) (lv := [some (aR v0), some (aI v1), some (aR v2), none]) rfl ?_
  obtain ⟨h1, hf⟩ := chk_s hf
  refine g_aload_n (pc' := 1) dL_schema_0 rfl rfl ?_
  refine g_iconst (pc' := 2) (0 : Int32) dL_schema_1 rfl (by decide) ?_
  refine g_aload_n (pc' := 3) dL_schema_2 rfl rfl ?_
  refine g_iload_n (pc' := 4) dL_schema_3 rfl rfl ?_
  rcases catchX_some hf with ⟨e, M1, hc, hf⟩ | ⟨r1, M1, hc, hf⟩
  · by_cases he : e = 1
    · have hf := ite_t he hf
      cases hf
    · have hf := ite_f he hf
      cases hf
      refine g_callVC (En := xIA) (fr2 := 9) (As := [aI v1]) (b := v0) (st := [aI (0 : Int32), aR v2]) (k' := 1) (u' := 6) (pc' := 13) (j := 3) (len := 1) [] (0, 9, 12, 13) [] rfl (by decide) (by decide) q_173 (List.mem_of_getElem? (i := 0) rfl) (fun z hz => by cases hz) cf_X11_schema q_174 (by omega) (ci := 11) rfl rfl (by decide) dL_schema_4 rfl rfl (Nat.le_of_ble_eq_true rfl) (Or.inl rfl) (by show 0 + 1 ≤ 1; omega) (by show 0 + 6 ≤ 6; omega) (by show 1 ≤ 1; omega) (by show 6 ≤ 6; omega) (Or.inr ⟨3, rfl, rfl, dL_schema_12⟩) (by decide) (fun z => absurd (dL_schema_12.symm.trans z) (by decide)) rfl rfl rfl (by decide) h1 (s_ex_xIA he (s_X11_schema v0 v1 M _ hc)) ?_
      refine g_iconst (pc' := 14) (1 : Int32) dL_schema_13 rfl (by decide) ?_
      exact g_ireturn dL_schema_14 rfl (by show 1 ≤ 1; omega) (by show 6 ≤ 6; omega)
  · refine g_callVi (pc' := 7) (k' := 1) (u' := 6) (fr2 := 9) (As := [aI v1]) (b := v0) (st := [aI (0 : Int32), aR v2]) cf_X11_schema q_174 (by omega) (ci := 11) rfl rfl (by decide) dL_schema_4 rfl rfl rfl (Nat.le_of_ble_eq_true rfl) (Or.inl rfl) (by show 0 + 1 ≤ 1; omega) (by show 0 + 6 ≤ 6; omega) (by show 1 ≤ 1; omega) (by show 6 ≤ 6; omega) h1 (s_X11_schema v0 v1 M _ hc) ?_
    refine g_i2l (pc' := 8) dL_schema_7 rfl ?_
    obtain ⟨h2, hf⟩ := chk_s hf
    obtain ⟨b2, hf⟩ := chk_s hf
    refine g_last (pc' := 9) dL_schema_8 rfl h2 (inB_in b2) (gM fun M2 hM2 => ?_)
    have hf := ap_eq hf hM2
    refine g_goto (pc' := 15) dL_schema_9 (by decide) ?_
    refine g_iconst (pc' := 16) (0 : Int32) dL_schema_15 rfl (by decide) ?_
    cases hf
    exact g_ireturn dL_schema_16 rfl (by show 1 ≤ 1; omega) (by show 6 ≤ 6; omega)
abbrev mi_L_add : MI := (yL_add, Cond.codeWith yL_add cL_add 4 (some .int) [(0, 9, 12, 13)], cL_add, 4, (some .int), [(0, 9, 12, 13)], 2, 11, 1, none)
theorem cf_L_add : CFw mi_L_add 3 := ⟨rfl, q_469, wall_i_LeafStripesLaw, ⟨by decide, by decide, by decide +kernel⟩, by decide, q_468⟩
def f_L_add (v0 : Nat) (v1 : Int32) (v2 : Nat) (M : Mem) : Option (Int32 × Mem) :=
  if mK M v0 = 12 then
    if okrB M [v0, v2, v2] = true then
      catchX (f_X11_add v0 v1 M) (fun e M1 => if e = 1 then none else some (1, M1)) fun r M1 =>
        if mK M1 v2 = 22 then
          if inB 0 (mN M1 v2) = true then
            ap (sJ M1 v2 (0 : Int32).toNatClampNeg r.toInt64) fun M2 =>
            some (0, M2)
          else none
        else none
    else none
  else none
theorem s_L_add (v0 : Nat) (v1 : Int32) (v2 : Nat) (M : Mem) (r : (Int32 × Mem)) (hf : f_L_add v0 v1 v2 M = some r) : Sem mi_L_add 39 [aR v0, aI v1, aR v2] M (oI r.1) r.2 := by
  unfold f_L_add at hf
  refine sem_ofH (by decide) rfl rfl (Nat.le_of_ble_eq_true rfl) (lv := [some (aR v0), some (aI v1), some (aR v2), none]) rfl ?_
  obtain ⟨h1, hf⟩ := chk_s hf
  obtain ⟨ha, hf⟩ := chk_s hf
  refine g_aload_n (pc' := 1) dL_add_0 rfl rfl ?_
  refine g_iconst (pc' := 2) (0 : Int32) dL_add_1 rfl (by decide) ?_
  refine g_aload_n (pc' := 3) dL_add_2 rfl rfl ?_
  refine g_iload_n (pc' := 4) dL_add_3 rfl rfl ?_
  rcases catchX_some hf with ⟨e, M1, hc, hf⟩ | ⟨r1, M1, hc, hf⟩
  · by_cases he : e = 1
    · have hf := ite_t he hf
      cases hf
    · have hf := ite_f he hf
      cases hf
      refine g_callVC (En := xIA) (fr2 := 38) (As := [aI v1]) (b := v0) (st := [aI (0 : Int32), aR v2]) (k' := 2) (u' := 11) (pc' := 13) (j := 3) (len := 1) [] (0, 9, 12, 13) [] rfl (by decide) (by decide) q_173 (List.mem_of_getElem? (i := 0) rfl) (fun z hz => by cases hz) cf_X11_add q_470 (by omega) (ci := 11) rfl rfl (by decide) dL_add_4 rfl rfl (Nat.le_of_ble_eq_true rfl) (Or.inr ⟨by decide, okrB_ok ha rfl⟩) (by show 0 + 2 ≤ 2; omega) (by show 0 + 11 ≤ 11; omega) (by show 2 ≤ 2; omega) (by show 11 ≤ 11; omega) (Or.inr ⟨3, rfl, rfl, dL_add_12⟩) (by decide) (fun z => absurd (dL_add_12.symm.trans z) (by decide)) rfl rfl rfl (by decide) h1 (s_ex_xIA he (s_X11_add v0 v1 M _ hc)) ?_
      refine g_iconst (pc' := 14) (1 : Int32) dL_add_13 rfl (by decide) ?_
      exact g_ireturn dL_add_14 rfl (by show 2 ≤ 2; omega) (by show 11 ≤ 11; omega)
  · refine g_callVi (pc' := 7) (k' := 2) (u' := 11) (fr2 := 38) (As := [aI v1]) (b := v0) (st := [aI (0 : Int32), aR v2]) cf_X11_add q_470 (by omega) (ci := 11) rfl rfl (by decide) dL_add_4 rfl rfl rfl (Nat.le_of_ble_eq_true rfl) (Or.inr ⟨by decide, okrB_ok ha rfl⟩) (by show 0 + 2 ≤ 2; omega) (by show 0 + 11 ≤ 11; omega) (by show 2 ≤ 2; omega) (by show 11 ≤ 11; omega) h1 (s_X11_add v0 v1 M _ hc) ?_
    refine g_i2l (pc' := 8) dL_add_7 rfl ?_
    obtain ⟨h2, hf⟩ := chk_s hf
    obtain ⟨b2, hf⟩ := chk_s hf
    refine g_last (pc' := 9) dL_add_8 rfl h2 (inB_in b2) (gM fun M2 hM2 => ?_)
    have hf := ap_eq hf hM2
    refine g_goto (pc' := 15) dL_add_9 (by decide) ?_
    refine g_iconst (pc' := 16) (0 : Int32) dL_add_15 rfl (by decide) ?_
    cases hf
    exact g_ireturn dL_add_16 rfl (by show 2 ≤ 2; omega) (by show 11 ≤ 11; omega)
abbrev mi_L_view : MI := (yL_view, Cond.codeWith yL_view cL_view 4 (some .int) [(0, 9, 12, 13)], cL_view, 4, (some .int), [(0, 9, 12, 13)], 1, 6, 0, none)
theorem cf_L_view : CFw mi_L_view 3 := ⟨rfl, q_744, wall_i_LeafStripesLaw, ⟨by decide, by decide, by decide +kernel⟩, by decide, q_743⟩
def f_L_view (v0 : Nat) (v1 : Int32) (v2 : Nat) (M : Mem) : Option (Int32 × Mem) :=
  if mK M v0 = 12 then
    catchX (f_X11_view v0 v1 M) (fun e M1 => if e = 1 then none else some (1, M1)) fun r M1 =>
      if mK M1 v2 = 22 then
        if inB 0 (mN M1 v2) = true then
          ap (sJ M1 v2 (0 : Int32).toNatClampNeg r.toInt64) fun M2 =>
          some (0, M2)
        else none
      else none
  else none
theorem s_L_view (v0 : Nat) (v1 : Int32) (v2 : Nat) (M : Mem) (r : (Int32 × Mem)) (hf : f_L_view v0 v1 v2 M = some r) : Sem mi_L_view 10 [aR v0, aI v1, aR v2] M (oI r.1) r.2 := by
  unfold f_L_view at hf
  refine sem_ofH (by decide) rfl rfl (Nat.le_of_ble_eq_true rfl) (lv := [some (aR v0), some (aI v1), some (aR v2), none]) rfl ?_
  obtain ⟨h1, hf⟩ := chk_s hf
  refine g_aload_n (pc' := 1) dL_view_0 rfl rfl ?_
  refine g_iconst (pc' := 2) (0 : Int32) dL_view_1 rfl (by decide) ?_
  refine g_aload_n (pc' := 3) dL_view_2 rfl rfl ?_
  refine g_iload_n (pc' := 4) dL_view_3 rfl rfl ?_
  rcases catchX_some hf with ⟨e, M1, hc, hf⟩ | ⟨r1, M1, hc, hf⟩
  · by_cases he : e = 1
    · have hf := ite_t he hf
      cases hf
    · have hf := ite_f he hf
      cases hf
      refine g_callVC (En := xIA) (fr2 := 9) (As := [aI v1]) (b := v0) (st := [aI (0 : Int32), aR v2]) (k' := 1) (u' := 6) (pc' := 13) (j := 3) (len := 1) [] (0, 9, 12, 13) [] rfl (by decide) (by decide) q_173 (List.mem_of_getElem? (i := 0) rfl) (fun z hz => by cases hz) cf_X11_view q_745 (by omega) (ci := 11) rfl rfl (by decide) dL_view_4 rfl rfl (Nat.le_of_ble_eq_true rfl) (Or.inl rfl) (by show 0 + 1 ≤ 1; omega) (by show 0 + 6 ≤ 6; omega) (by show 1 ≤ 1; omega) (by show 6 ≤ 6; omega) (Or.inr ⟨3, rfl, rfl, dL_view_12⟩) (by decide) (fun z => absurd (dL_view_12.symm.trans z) (by decide)) rfl rfl rfl (by decide) h1 (s_ex_xIA he (s_X11_view v0 v1 M _ hc)) ?_
      refine g_iconst (pc' := 14) (1 : Int32) dL_view_13 rfl (by decide) ?_
      exact g_ireturn dL_view_14 rfl (by show 1 ≤ 1; omega) (by show 6 ≤ 6; omega)
  · refine g_callVi (pc' := 7) (k' := 1) (u' := 6) (fr2 := 9) (As := [aI v1]) (b := v0) (st := [aI (0 : Int32), aR v2]) cf_X11_view q_745 (by omega) (ci := 11) rfl rfl (by decide) dL_view_4 rfl rfl rfl (Nat.le_of_ble_eq_true rfl) (Or.inl rfl) (by show 0 + 1 ≤ 1; omega) (by show 0 + 6 ≤ 6; omega) (by show 1 ≤ 1; omega) (by show 6 ≤ 6; omega) h1 (s_X11_view v0 v1 M _ hc) ?_
    refine g_i2l (pc' := 8) dL_view_7 rfl ?_
    obtain ⟨h2, hf⟩ := chk_s hf
    obtain ⟨b2, hf⟩ := chk_s hf
    refine g_last (pc' := 9) dL_view_8 rfl h2 (inB_in b2) (gM fun M2 hM2 => ?_)
    have hf := ap_eq hf hM2
    refine g_goto (pc' := 15) dL_view_9 (by decide) ?_
    refine g_iconst (pc' := 16) (0 : Int32) dL_view_15 rfl (by decide) ?_
    cases hf
    exact g_ireturn dL_view_16 rfl (by show 1 ≤ 1; omega) (by show 6 ≤ 6; omega)
abbrev mi_L_pipe : MI := (yL_pipe, Cond.codeWith yL_pipe cL_pipe 4 (some .int) [(0, 9, 12, 13)], cL_pipe, 4, (some .int), [(0, 9, 12, 13)], 1, 6, 0, none)
theorem cf_L_pipe : CFw mi_L_pipe 3 := ⟨rfl, q_755, wall_i_LeafStripesLaw, ⟨by decide, by decide, by decide +kernel⟩, by decide, q_754⟩
def f_L_pipe (v0 : Nat) (v1 : Int32) (v2 : Nat) (M : Mem) : Option (Int32 × Mem) :=
  if mK M v0 = 12 then
    catchX (f_X11_pipe v0 v1 M) (fun e M1 => if e = 1 then none else some (1, M1)) fun r M1 =>
      if mK M1 v2 = 22 then
        if inB 0 (mN M1 v2) = true then
          ap (sJ M1 v2 (0 : Int32).toNatClampNeg r.toInt64) fun M2 =>
          some (0, M2)
        else none
      else none
  else none
theorem s_L_pipe (v0 : Nat) (v1 : Int32) (v2 : Nat) (M : Mem) (r : (Int32 × Mem)) (hf : f_L_pipe v0 v1 v2 M = some r) : Sem mi_L_pipe 10 [aR v0, aI v1, aR v2] M (oI r.1) r.2 := by
  unfold f_L_pipe at hf
  refine sem_ofH (by decide) rfl rfl (Nat.le_of_ble_eq_true rfl) (lv := [some (aR v0), some (aI v1), some (aR v2), none]) rfl ?_
  obtain ⟨h1, hf⟩ := chk_s hf
  refine g_aload_n (pc' := 1) dL_pipe_0 rfl rfl ?_
  refine g_iconst (pc' := 2) (0 : Int32) dL_pipe_1 rfl (by decide) ?_
  refine g_aload_n (pc' := 3) dL_pipe_2 rfl rfl ?_
  refine g_iload_n (pc' := 4) dL_pipe_3 rfl rfl ?_
  rcases catchX_some hf with ⟨e, M1, hc, hf⟩ | ⟨r1, M1, hc, hf⟩
  · by_cases he : e = 1
    · have hf := ite_t he hf
      cases hf
    · have hf := ite_f he hf
      cases hf
      refine g_callVC (En := xIA) (fr2 := 9) (As := [aI v1]) (b := v0) (st := [aI (0 : Int32), aR v2]) (k' := 1) (u' := 6) (pc' := 13) (j := 3) (len := 1) [] (0, 9, 12, 13) [] rfl (by decide) (by decide) q_173 (List.mem_of_getElem? (i := 0) rfl) (fun z hz => by cases hz) cf_X11_pipe q_756 (by omega) (ci := 11) rfl rfl (by decide) dL_pipe_4 rfl rfl (Nat.le_of_ble_eq_true rfl) (Or.inl rfl) (by show 0 + 1 ≤ 1; omega) (by show 0 + 6 ≤ 6; omega) (by show 1 ≤ 1; omega) (by show 6 ≤ 6; omega) (Or.inr ⟨3, rfl, rfl, dL_pipe_12⟩) (by decide) (fun z => absurd (dL_pipe_12.symm.trans z) (by decide)) rfl rfl rfl (by decide) h1 (s_ex_xIA he (s_X11_pipe v0 v1 M _ hc)) ?_
      refine g_iconst (pc' := 14) (1 : Int32) dL_pipe_13 rfl (by decide) ?_
      exact g_ireturn dL_pipe_14 rfl (by show 1 ≤ 1; omega) (by show 6 ≤ 6; omega)
  · refine g_callVi (pc' := 7) (k' := 1) (u' := 6) (fr2 := 9) (As := [aI v1]) (b := v0) (st := [aI (0 : Int32), aR v2]) cf_X11_pipe q_756 (by omega) (ci := 11) rfl rfl (by decide) dL_pipe_4 rfl rfl rfl (Nat.le_of_ble_eq_true rfl) (Or.inl rfl) (by show 0 + 1 ≤ 1; omega) (by show 0 + 6 ≤ 6; omega) (by show 1 ≤ 1; omega) (by show 6 ≤ 6; omega) h1 (s_X11_pipe v0 v1 M _ hc) ?_
    refine g_i2l (pc' := 8) dL_pipe_7 rfl ?_
    obtain ⟨h2, hf⟩ := chk_s hf
    obtain ⟨b2, hf⟩ := chk_s hf
    refine g_last (pc' := 9) dL_pipe_8 rfl h2 (inB_in b2) (gM fun M2 hM2 => ?_)
    have hf := ap_eq hf hM2
    refine g_goto (pc' := 15) dL_pipe_9 (by decide) ?_
    refine g_iconst (pc' := 16) (0 : Int32) dL_pipe_15 rfl (by decide) ?_
    cases hf
    exact g_ireturn dL_pipe_16 rfl (by show 1 ≤ 1; omega) (by show 6 ≤ 6; omega)
abbrev mi_L_count : MI := (yL_count, Cond.codeWith yL_count cL_count 4 (some .int) [(0, 9, 12, 27)], cL_count, 4, (some .int), [(0, 9, 12, 27)], 1, 6, 0, none)
theorem cf_L_count : CFw mi_L_count 3 := ⟨rfl, q_790, wall_i_LeafStripesLaw, ⟨by decide, by decide, by decide +kernel⟩, by decide, q_789⟩
def f_L_count (v0 : Nat) (v1 : Int32) (v2 : Nat) (M : Mem) : Option (Int32 × Mem) :=
  if mK M v0 = 12 then
    catchX (f_X11_count v0 v1 M) (fun e M1 => if e = 1 then some (1, M1) else none) fun r M1 =>
      if mK M1 v2 = 22 then
        if inB 0 (mN M1 v2) = true then
          ap (sJ M1 v2 (0 : Int32).toNatClampNeg r.toInt64) fun M2 =>
          some (0, M2)
        else none
      else none
  else none
theorem s_L_count (v0 : Nat) (v1 : Int32) (v2 : Nat) (M : Mem) (r : (Int32 × Mem)) (hf : f_L_count v0 v1 v2 M = some r) : Sem mi_L_count 8 [aR v0, aI v1, aR v2] M (oI r.1) r.2 := by
  unfold f_L_count at hf
  refine sem_ofH (by decide) rfl rfl (Nat.le_of_ble_eq_true rfl) (lv := [some (aR v0), some (aI v1), some (aR v2), none]) rfl ?_
  obtain ⟨h1, hf⟩ := chk_s hf
  refine g_aload_n (pc' := 1) dL_count_0 rfl rfl ?_
  refine g_iconst (pc' := 2) (0 : Int32) dL_count_1 rfl (by decide) ?_
  refine g_aload_n (pc' := 3) dL_count_2 rfl rfl ?_
  refine g_iload_n (pc' := 4) dL_count_3 rfl rfl ?_
  rcases catchX_some hf with ⟨e, M1, hc, hf⟩ | ⟨r1, M1, hc, hf⟩
  · by_cases he : e = 1
    · have hf := ite_t he hf
      cases hf
      refine g_callVC (En := xNS) (fr2 := 7) (As := [aI v1]) (b := v0) (st := [aI (0 : Int32), aR v2]) (k' := 1) (u' := 6) (pc' := 13) (j := 3) (len := 1) [] (0, 9, 12, 27) [] rfl (by decide) (by decide) q_791 (List.mem_of_getElem? (i := 1) rfl) (fun z hz => by cases hz) cf_X11_count q_792 (by omega) (ci := 11) rfl rfl (by decide) dL_count_4 rfl rfl (Nat.le_of_ble_eq_true rfl) (Or.inl rfl) (by show 0 + 1 ≤ 1; omega) (by show 0 + 6 ≤ 6; omega) (by show 1 ≤ 1; omega) (by show 6 ≤ 6; omega) (Or.inr ⟨3, rfl, rfl, dL_count_12⟩) (by decide) (fun z => absurd (dL_count_12.symm.trans z) (by decide)) rfl rfl rfl (by decide) h1 (s_ex_xNS he (s_X11_count v0 v1 M _ hc)) ?_
      refine g_iconst (pc' := 14) (1 : Int32) dL_count_13 rfl (by decide) ?_
      exact g_ireturn dL_count_14 rfl (by show 1 ≤ 1; omega) (by show 6 ≤ 6; omega)
    · have hf := ite_f he hf
      cases hf
  · refine g_callVi (pc' := 7) (k' := 1) (u' := 6) (fr2 := 7) (As := [aI v1]) (b := v0) (st := [aI (0 : Int32), aR v2]) cf_X11_count q_792 (by omega) (ci := 11) rfl rfl (by decide) dL_count_4 rfl rfl rfl (Nat.le_of_ble_eq_true rfl) (Or.inl rfl) (by show 0 + 1 ≤ 1; omega) (by show 0 + 6 ≤ 6; omega) (by show 1 ≤ 1; omega) (by show 6 ≤ 6; omega) h1 (s_X11_count v0 v1 M _ hc) ?_
    refine g_i2l (pc' := 8) dL_count_7 rfl ?_
    obtain ⟨h2, hf⟩ := chk_s hf
    obtain ⟨b2, hf⟩ := chk_s hf
    refine g_last (pc' := 9) dL_count_8 rfl h2 (inB_in b2) (gM fun M2 hM2 => ?_)
    have hf := ap_eq hf hM2
    refine g_goto (pc' := 15) dL_count_9 (by decide) ?_
    refine g_iconst (pc' := 16) (0 : Int32) dL_count_15 rfl (by decide) ?_
    cases hf
    exact g_ireturn dL_count_16 rfl (by show 1 ≤ 1; omega) (by show 6 ≤ 6; omega)
abbrev mi_L_field : MI := (yL_field, Cond.codeWith yL_field cL_field 5 (some .int) [(0, 10, 13, 27)], cL_field, 5, (some .int), [(0, 10, 13, 27)], 2, 12, 0, none)
theorem cf_L_field : CFw mi_L_field 4 := ⟨rfl, q_910, wall_i_LeafStripesLaw, ⟨by decide, by decide, by decide +kernel⟩, by decide, q_909⟩
def f_L_field (v0 : Nat) (v1 : Int32) (v2 : Int32) (v3 : Nat) (M : Mem) : Option (Int32 × Mem) :=
  if mK M v0 = 12 then
    catchX (f_X11_field v0 v1 v2 M) (fun e M1 => if e = 1 then some (1, M1) else none) fun r M1 =>
      if mK M1 v3 = 22 then
        if inB 0 (mN M1 v3) = true then
          ap (sJ M1 v3 (0 : Int32).toNatClampNeg r.toInt64) fun M2 =>
          some (0, M2)
        else none
      else none
  else none
theorem s_L_field (v0 : Nat) (v1 : Int32) (v2 : Int32) (v3 : Nat) (M : Mem) (r : (Int32 × Mem)) (hf : f_L_field v0 v1 v2 v3 M = some r) : Sem mi_L_field 8 [aR v0, aI v1, aI v2, aR v3] M (oI r.1) r.2 := by
  unfold f_L_field at hf
  refine sem_ofH (by decide) rfl rfl (Nat.le_of_ble_eq_true rfl) (lv := [some (aR v0), some (aI v1), some (aI v2), some (aR v3), none]) rfl ?_
  obtain ⟨h1, hf⟩ := chk_s hf
  refine g_aload_n (pc' := 1) dL_field_0 rfl rfl ?_
  refine g_iconst (pc' := 2) (0 : Int32) dL_field_1 rfl (by decide) ?_
  refine g_aload_n (pc' := 3) dL_field_2 rfl rfl ?_
  refine g_iload_n (pc' := 4) dL_field_3 rfl rfl ?_
  refine g_iload_n (pc' := 5) dL_field_4 rfl rfl ?_
  rcases catchX_some hf with ⟨e, M1, hc, hf⟩ | ⟨r1, M1, hc, hf⟩
  · by_cases he : e = 1
    · have hf := ite_t he hf
      cases hf
      refine g_callVC (En := xNS) (fr2 := 7) (As := [aI v1, aI v2]) (b := v0) (st := [aI (0 : Int32), aR v3]) (k' := 2) (u' := 12) (pc' := 15) (j := 4) (len := 2) [] (0, 10, 13, 27) [] rfl (by decide) (by decide) q_791 (List.mem_of_getElem? (i := 1) rfl) (fun z hz => by cases hz) cf_X11_field q_911 (by omega) (ci := 11) rfl rfl (by decide) dL_field_5 rfl rfl (Nat.le_of_ble_eq_true rfl) (Or.inl rfl) (by show 0 + 2 ≤ 2; omega) (by show 0 + 12 ≤ 12; omega) (by show 2 ≤ 2; omega) (by show 12 ≤ 12; omega) (Or.inl dL_field_13) (by decide) (fun _ => rfl) rfl rfl rfl (by decide) h1 (s_ex_xNS he (s_X11_field v0 v1 v2 M _ hc)) ?_
      refine g_iconst (pc' := 16) (1 : Int32) dL_field_15 rfl (by decide) ?_
      exact g_ireturn dL_field_16 rfl (by show 2 ≤ 2; omega) (by show 12 ≤ 12; omega)
    · have hf := ite_f he hf
      cases hf
  · refine g_callVi (pc' := 8) (k' := 2) (u' := 12) (fr2 := 7) (As := [aI v1, aI v2]) (b := v0) (st := [aI (0 : Int32), aR v3]) cf_X11_field q_911 (by omega) (ci := 11) rfl rfl (by decide) dL_field_5 rfl rfl rfl (Nat.le_of_ble_eq_true rfl) (Or.inl rfl) (by show 0 + 2 ≤ 2; omega) (by show 0 + 12 ≤ 12; omega) (by show 2 ≤ 2; omega) (by show 12 ≤ 12; omega) h1 (s_X11_field v0 v1 v2 M _ hc) ?_
    refine g_i2l (pc' := 9) dL_field_8 rfl ?_
    obtain ⟨h2, hf⟩ := chk_s hf
    obtain ⟨b2, hf⟩ := chk_s hf
    refine g_last (pc' := 10) dL_field_9 rfl h2 (inB_in b2) (gM fun M2 hM2 => ?_)
    have hf := ap_eq hf hM2
    refine g_goto (pc' := 17) dL_field_10 (by decide) ?_
    refine g_iconst (pc' := 18) (0 : Int32) dL_field_17 rfl (by decide) ?_
    cases hf
    exact g_ireturn dL_field_18 rfl (by show 2 ≤ 2; omega) (by show 12 ≤ 12; omega)
abbrev mi_L_name : MI := (yL_name, Cond.codeWith yL_name cL_name 5 (some .int) [(0, 10, 13, 27)], cL_name, 5, (some .int), [(0, 10, 13, 27)], 2, 12, 0, none)
theorem cf_L_name : CFw mi_L_name 4 := ⟨rfl, q_937, wall_i_LeafStripesLaw, ⟨by decide, by decide, by decide +kernel⟩, by decide, q_936⟩
def f_L_name (v0 : Nat) (v1 : Int32) (v2 : Int32) (v3 : Nat) (M : Mem) : Option (Int32 × Mem) :=
  if mK M v0 = 12 then
    catchX (f_X11_name v0 v1 v2 M) (fun e M1 => if e = 1 then some (1, M1) else none) fun r M1 =>
      if mK M1 v3 = 22 then
        if inB 0 (mN M1 v3) = true then
          ap (sJ M1 v3 (0 : Int32).toNatClampNeg r.toInt64) fun M2 =>
          some (0, M2)
        else none
      else none
  else none
theorem s_L_name (v0 : Nat) (v1 : Int32) (v2 : Int32) (v3 : Nat) (M : Mem) (r : (Int32 × Mem)) (hf : f_L_name v0 v1 v2 v3 M = some r) : Sem mi_L_name 8 [aR v0, aI v1, aI v2, aR v3] M (oI r.1) r.2 := by
  unfold f_L_name at hf
  refine sem_ofH (by decide) rfl rfl (Nat.le_of_ble_eq_true rfl) (lv := [some (aR v0), some (aI v1), some (aI v2), some (aR v3), none]) rfl ?_
  obtain ⟨h1, hf⟩ := chk_s hf
  refine g_aload_n (pc' := 1) dL_name_0 rfl rfl ?_
  refine g_iconst (pc' := 2) (0 : Int32) dL_name_1 rfl (by decide) ?_
  refine g_aload_n (pc' := 3) dL_name_2 rfl rfl ?_
  refine g_iload_n (pc' := 4) dL_name_3 rfl rfl ?_
  refine g_iload_n (pc' := 5) dL_name_4 rfl rfl ?_
  rcases catchX_some hf with ⟨e, M1, hc, hf⟩ | ⟨r1, M1, hc, hf⟩
  · by_cases he : e = 1
    · have hf := ite_t he hf
      cases hf
      refine g_callVC (En := xNS) (fr2 := 7) (As := [aI v1, aI v2]) (b := v0) (st := [aI (0 : Int32), aR v3]) (k' := 2) (u' := 12) (pc' := 15) (j := 4) (len := 2) [] (0, 10, 13, 27) [] rfl (by decide) (by decide) q_791 (List.mem_of_getElem? (i := 1) rfl) (fun z hz => by cases hz) cf_X11_name q_938 (by omega) (ci := 11) rfl rfl (by decide) dL_name_5 rfl rfl (Nat.le_of_ble_eq_true rfl) (Or.inl rfl) (by show 0 + 2 ≤ 2; omega) (by show 0 + 12 ≤ 12; omega) (by show 2 ≤ 2; omega) (by show 12 ≤ 12; omega) (Or.inl dL_name_13) (by decide) (fun _ => rfl) rfl rfl rfl (by decide) h1 (s_ex_xNS he (s_X11_name v0 v1 v2 M _ hc)) ?_
      refine g_iconst (pc' := 16) (1 : Int32) dL_name_15 rfl (by decide) ?_
      exact g_ireturn dL_name_16 rfl (by show 2 ≤ 2; omega) (by show 12 ≤ 12; omega)
    · have hf := ite_f he hf
      cases hf
  · refine g_callVi (pc' := 8) (k' := 2) (u' := 12) (fr2 := 7) (As := [aI v1, aI v2]) (b := v0) (st := [aI (0 : Int32), aR v3]) cf_X11_name q_938 (by omega) (ci := 11) rfl rfl (by decide) dL_name_5 rfl rfl rfl (Nat.le_of_ble_eq_true rfl) (Or.inl rfl) (by show 0 + 2 ≤ 2; omega) (by show 0 + 12 ≤ 12; omega) (by show 2 ≤ 2; omega) (by show 12 ≤ 12; omega) h1 (s_X11_name v0 v1 v2 M _ hc) ?_
    refine g_i2l (pc' := 9) dL_name_8 rfl ?_
    obtain ⟨h2, hf⟩ := chk_s hf
    obtain ⟨b2, hf⟩ := chk_s hf
    refine g_last (pc' := 10) dL_name_9 rfl h2 (inB_in b2) (gM fun M2 hM2 => ?_)
    have hf := ap_eq hf hM2
    refine g_goto (pc' := 17) dL_name_10 (by decide) ?_
    refine g_iconst (pc' := 18) (0 : Int32) dL_name_17 rfl (by decide) ?_
    cases hf
    exact g_ireturn dL_name_18 rfl (by show 2 ≤ 2; omega) (by show 12 ≤ 12; omega)
abbrev mi_L_leaf : MI := (yL_leaf, Cond.codeWith yL_leaf cL_leaf 5 (some .int) [(0, 10, 13, 27)], cL_leaf, 5, (some .int), [(0, 10, 13, 27)], 2, 12, 0, none)
theorem cf_L_leaf : CFw mi_L_leaf 4 := ⟨rfl, q_949, wall_i_LeafStripesLaw, ⟨by decide, by decide, by decide +kernel⟩, by decide, q_948⟩
def f_L_leaf (v0 : Nat) (v1 : Int32) (v2 : Int32) (v3 : Nat) (M : Mem) : Option (Int32 × Mem) :=
  if mK M v0 = 12 then
    catchX (f_X11_leaf v0 v1 v2 M) (fun e M1 => if e = 1 then some (1, M1) else none) fun r M1 =>
      if mK M1 v3 = 22 then
        if inB 0 (mN M1 v3) = true then
          ap (sJ M1 v3 (0 : Int32).toNatClampNeg r.toInt64) fun M2 =>
          some (0, M2)
        else none
      else none
  else none
theorem s_L_leaf (v0 : Nat) (v1 : Int32) (v2 : Int32) (v3 : Nat) (M : Mem) (r : (Int32 × Mem)) (hf : f_L_leaf v0 v1 v2 v3 M = some r) : Sem mi_L_leaf 8 [aR v0, aI v1, aI v2, aR v3] M (oI r.1) r.2 := by
  unfold f_L_leaf at hf
  refine sem_ofH (by decide) rfl rfl (Nat.le_of_ble_eq_true rfl) (lv := [some (aR v0), some (aI v1), some (aI v2), some (aR v3), none]) rfl ?_
  obtain ⟨h1, hf⟩ := chk_s hf
  refine g_aload_n (pc' := 1) dL_leaf_0 rfl rfl ?_
  refine g_iconst (pc' := 2) (0 : Int32) dL_leaf_1 rfl (by decide) ?_
  refine g_aload_n (pc' := 3) dL_leaf_2 rfl rfl ?_
  refine g_iload_n (pc' := 4) dL_leaf_3 rfl rfl ?_
  refine g_iload_n (pc' := 5) dL_leaf_4 rfl rfl ?_
  rcases catchX_some hf with ⟨e, M1, hc, hf⟩ | ⟨r1, M1, hc, hf⟩
  · by_cases he : e = 1
    · have hf := ite_t he hf
      cases hf
      refine g_callVC (En := xNS) (fr2 := 7) (As := [aI v1, aI v2]) (b := v0) (st := [aI (0 : Int32), aR v3]) (k' := 2) (u' := 12) (pc' := 15) (j := 4) (len := 2) [] (0, 10, 13, 27) [] rfl (by decide) (by decide) q_791 (List.mem_of_getElem? (i := 1) rfl) (fun z hz => by cases hz) cf_X11_leaf q_950 (by omega) (ci := 11) rfl rfl (by decide) dL_leaf_5 rfl rfl (Nat.le_of_ble_eq_true rfl) (Or.inl rfl) (by show 0 + 2 ≤ 2; omega) (by show 0 + 12 ≤ 12; omega) (by show 2 ≤ 2; omega) (by show 12 ≤ 12; omega) (Or.inl dL_leaf_13) (by decide) (fun _ => rfl) rfl rfl rfl (by decide) h1 (s_ex_xNS he (s_X11_leaf v0 v1 v2 M _ hc)) ?_
      refine g_iconst (pc' := 16) (1 : Int32) dL_leaf_15 rfl (by decide) ?_
      exact g_ireturn dL_leaf_16 rfl (by show 2 ≤ 2; omega) (by show 12 ≤ 12; omega)
    · have hf := ite_f he hf
      cases hf
  · refine g_callVi (pc' := 8) (k' := 2) (u' := 12) (fr2 := 7) (As := [aI v1, aI v2]) (b := v0) (st := [aI (0 : Int32), aR v3]) cf_X11_leaf q_950 (by omega) (ci := 11) rfl rfl (by decide) dL_leaf_5 rfl rfl rfl (Nat.le_of_ble_eq_true rfl) (Or.inl rfl) (by show 0 + 2 ≤ 2; omega) (by show 0 + 12 ≤ 12; omega) (by show 2 ≤ 2; omega) (by show 12 ≤ 12; omega) h1 (s_X11_leaf v0 v1 v2 M _ hc) ?_
    refine g_i2l (pc' := 9) dL_leaf_8 rfl ?_
    obtain ⟨h2, hf⟩ := chk_s hf
    obtain ⟨b2, hf⟩ := chk_s hf
    refine g_last (pc' := 10) dL_leaf_9 rfl h2 (inB_in b2) (gM fun M2 hM2 => ?_)
    have hf := ap_eq hf hM2
    refine g_goto (pc' := 17) dL_leaf_10 (by decide) ?_
    refine g_iconst (pc' := 18) (0 : Int32) dL_leaf_17 rfl (by decide) ?_
    cases hf
    exact g_ireturn dL_leaf_18 rfl (by show 2 ≤ 2; omega) (by show 12 ≤ 12; omega)
abbrev mi_L_entry : MI := (yL_entry, Cond.codeWith yL_entry cL_entry 6 (some .int) [(0, 12, 15, 27)], cL_entry, 6, (some .int), [(0, 12, 15, 27)], 3, 18, 0, none)
theorem cf_L_entry : CFw mi_L_entry 5 := ⟨rfl, q_987, wall_i_LeafStripesLaw, ⟨by decide, by decide, by decide +kernel⟩, by decide, q_986⟩
def f_L_entry (v0 : Nat) (v1 : Int32) (v2 : Int32) (v3 : Int32) (v4 : Nat) (M : Mem) : Option (Int32 × Mem) :=
  if mK M v0 = 12 then
    catchX (f_X11_entry v0 v1 v2 v3 M) (fun e M1 => if e = 1 then some (1, M1) else none) fun r M1 =>
      if mK M1 v4 = 22 then
        if inB 0 (mN M1 v4) = true then
          ap (sJ M1 v4 (0 : Int32).toNatClampNeg r.toInt64) fun M2 =>
          some (0, M2)
        else none
      else none
  else none
theorem s_L_entry (v0 : Nat) (v1 : Int32) (v2 : Int32) (v3 : Int32) (v4 : Nat) (M : Mem) (r : (Int32 × Mem)) (hf : f_L_entry v0 v1 v2 v3 v4 M = some r) : Sem mi_L_entry 9 [aR v0, aI v1, aI v2, aI v3, aR v4] M (oI r.1) r.2 := by
  unfold f_L_entry at hf
  refine sem_ofH (by decide) rfl rfl (Nat.le_of_ble_eq_true rfl) (lv := [some (aR v0), some (aI v1), some (aI v2), some (aI v3), some (aR v4), none]) rfl ?_
  obtain ⟨h1, hf⟩ := chk_s hf
  refine g_aload (pc' := 2) dL_entry_0 rfl rfl ?_
  refine g_iconst (pc' := 3) (0 : Int32) dL_entry_2 rfl (by decide) ?_
  refine g_aload_n (pc' := 4) dL_entry_3 rfl rfl ?_
  refine g_iload_n (pc' := 5) dL_entry_4 rfl rfl ?_
  refine g_iload_n (pc' := 6) dL_entry_5 rfl rfl ?_
  refine g_iload_n (pc' := 7) dL_entry_6 rfl rfl ?_
  rcases catchX_some hf with ⟨e, M1, hc, hf⟩ | ⟨r1, M1, hc, hf⟩
  · by_cases he : e = 1
    · have hf := ite_t he hf
      cases hf
      refine g_callVC (En := xNS) (fr2 := 8) (As := [aI v1, aI v2, aI v3]) (b := v0) (st := [aI (0 : Int32), aR v4]) (k' := 3) (u' := 18) (pc' := 17) (j := 5) (len := 2) [] (0, 12, 15, 27) [] rfl (by decide) (by decide) q_791 (List.mem_of_getElem? (i := 1) rfl) (fun z hz => by cases hz) cf_X11_entry q_988 (by omega) (ci := 11) rfl rfl (by decide) dL_entry_7 rfl rfl (Nat.le_of_ble_eq_true rfl) (Or.inl rfl) (by show 0 + 3 ≤ 3; omega) (by show 0 + 18 ≤ 18; omega) (by show 3 ≤ 3; omega) (by show 18 ≤ 18; omega) (Or.inl dL_entry_15) (by decide) (fun _ => rfl) rfl rfl rfl (by decide) h1 (s_ex_xNS he (s_X11_entry v0 v1 v2 v3 M _ hc)) ?_
      refine g_iconst (pc' := 18) (1 : Int32) dL_entry_17 rfl (by decide) ?_
      exact g_ireturn dL_entry_18 rfl (by show 3 ≤ 3; omega) (by show 18 ≤ 18; omega)
    · have hf := ite_f he hf
      cases hf
  · refine g_callVi (pc' := 10) (k' := 3) (u' := 18) (fr2 := 8) (As := [aI v1, aI v2, aI v3]) (b := v0) (st := [aI (0 : Int32), aR v4]) cf_X11_entry q_988 (by omega) (ci := 11) rfl rfl (by decide) dL_entry_7 rfl rfl rfl (Nat.le_of_ble_eq_true rfl) (Or.inl rfl) (by show 0 + 3 ≤ 3; omega) (by show 0 + 18 ≤ 18; omega) (by show 3 ≤ 3; omega) (by show 18 ≤ 18; omega) h1 (s_X11_entry v0 v1 v2 v3 M _ hc) ?_
    refine g_i2l (pc' := 11) dL_entry_10 rfl ?_
    obtain ⟨h2, hf⟩ := chk_s hf
    obtain ⟨b2, hf⟩ := chk_s hf
    refine g_last (pc' := 12) dL_entry_11 rfl h2 (inB_in b2) (gM fun M2 hM2 => ?_)
    have hf := ap_eq hf hM2
    refine g_goto (pc' := 19) dL_entry_12 (by decide) ?_
    refine g_iconst (pc' := 20) (0 : Int32) dL_entry_19 rfl (by decide) ?_
    cases hf
    exact g_ireturn dL_entry_20 rfl (by show 3 ≤ 3; omega) (by show 18 ≤ 18; omega)
abbrev mi_L_skip : MI := (yL_skip, Cond.codeWith yL_skip cL_skip 6 (some .int) [(0, 12, 15, 27)], cL_skip, 6, (some .int), [(0, 12, 15, 27)], 3, 18, 0, none)
theorem cf_L_skip : CFw mi_L_skip 5 := ⟨rfl, q_1016, wall_i_LeafStripesLaw, ⟨by decide, by decide, by decide +kernel⟩, by decide, q_1015⟩
def f_L_skip (v0 : Nat) (v1 : Int32) (v2 : Int32) (v3 : Int32) (v4 : Nat) (M : Mem) : Option (Int32 × Mem) :=
  if mK M v0 = 12 then
    catchX (f_X11_skip v0 v1 v2 v3 M) (fun e M1 => if e = 1 then some (1, M1) else none) fun r M1 =>
      if mK M1 v4 = 22 then
        if inB 0 (mN M1 v4) = true then
          ap (sJ M1 v4 (0 : Int32).toNatClampNeg r.toInt64) fun M2 =>
          some (0, M2)
        else none
      else none
  else none
theorem s_L_skip (v0 : Nat) (v1 : Int32) (v2 : Int32) (v3 : Int32) (v4 : Nat) (M : Mem) (r : (Int32 × Mem)) (hf : f_L_skip v0 v1 v2 v3 v4 M = some r) : Sem mi_L_skip 8 [aR v0, aI v1, aI v2, aI v3, aR v4] M (oI r.1) r.2 := by
  unfold f_L_skip at hf
  refine sem_ofH (by decide) rfl rfl (Nat.le_of_ble_eq_true rfl) (lv := [some (aR v0), some (aI v1), some (aI v2), some (aI v3), some (aR v4), none]) rfl ?_
  obtain ⟨h1, hf⟩ := chk_s hf
  refine g_aload (pc' := 2) dL_skip_0 rfl rfl ?_
  refine g_iconst (pc' := 3) (0 : Int32) dL_skip_2 rfl (by decide) ?_
  refine g_aload_n (pc' := 4) dL_skip_3 rfl rfl ?_
  refine g_iload_n (pc' := 5) dL_skip_4 rfl rfl ?_
  refine g_iload_n (pc' := 6) dL_skip_5 rfl rfl ?_
  refine g_iload_n (pc' := 7) dL_skip_6 rfl rfl ?_
  rcases catchX_some hf with ⟨e, M1, hc, hf⟩ | ⟨r1, M1, hc, hf⟩
  · by_cases he : e = 1
    · have hf := ite_t he hf
      cases hf
      refine g_callVC (En := xNS) (fr2 := 7) (As := [aI v1, aI v2, aI v3]) (b := v0) (st := [aI (0 : Int32), aR v4]) (k' := 3) (u' := 18) (pc' := 17) (j := 5) (len := 2) [] (0, 12, 15, 27) [] rfl (by decide) (by decide) q_791 (List.mem_of_getElem? (i := 1) rfl) (fun z hz => by cases hz) cf_X11_skip q_1017 (by omega) (ci := 11) rfl rfl (by decide) dL_skip_7 rfl rfl (Nat.le_of_ble_eq_true rfl) (Or.inl rfl) (by show 0 + 3 ≤ 3; omega) (by show 0 + 18 ≤ 18; omega) (by show 3 ≤ 3; omega) (by show 18 ≤ 18; omega) (Or.inl dL_skip_15) (by decide) (fun _ => rfl) rfl rfl rfl (by decide) h1 (s_ex_xNS he (s_X11_skip v0 v1 v2 v3 M _ hc)) ?_
      refine g_iconst (pc' := 18) (1 : Int32) dL_skip_17 rfl (by decide) ?_
      exact g_ireturn dL_skip_18 rfl (by show 3 ≤ 3; omega) (by show 18 ≤ 18; omega)
    · have hf := ite_f he hf
      cases hf
  · refine g_callVi (pc' := 10) (k' := 3) (u' := 18) (fr2 := 7) (As := [aI v1, aI v2, aI v3]) (b := v0) (st := [aI (0 : Int32), aR v4]) cf_X11_skip q_1017 (by omega) (ci := 11) rfl rfl (by decide) dL_skip_7 rfl rfl rfl (Nat.le_of_ble_eq_true rfl) (Or.inl rfl) (by show 0 + 3 ≤ 3; omega) (by show 0 + 18 ≤ 18; omega) (by show 3 ≤ 3; omega) (by show 18 ≤ 18; omega) h1 (s_X11_skip v0 v1 v2 v3 M _ hc) ?_
    refine g_i2l (pc' := 11) dL_skip_10 rfl ?_
    obtain ⟨h2, hf⟩ := chk_s hf
    obtain ⟨b2, hf⟩ := chk_s hf
    refine g_last (pc' := 12) dL_skip_11 rfl h2 (inB_in b2) (gM fun M2 hM2 => ?_)
    have hf := ap_eq hf hM2
    refine g_goto (pc' := 19) dL_skip_12 (by decide) ?_
    refine g_iconst (pc' := 20) (0 : Int32) dL_skip_19 rfl (by decide) ?_
    cases hf
    exact g_ireturn dL_skip_20 rfl (by show 3 ≤ 3; omega) (by show 18 ≤ 18; omega)
abbrev mi_L_next : MI := (yL_next, Cond.codeWith yL_next cL_next 6 (some .int) [(0, 12, 15, 27), (0, 12, 19, 13)], cL_next, 6, (some .int), [(0, 12, 15, 27), (0, 12, 19, 13)], 2, 12, 0, none)
theorem cf_L_next : CFw mi_L_next 5 := ⟨rfl, q_1048, wall_i_LeafStripesLaw, ⟨by decide, by decide, by decide +kernel⟩, by decide, q_1047⟩
def f_L_next (v0 : Nat) (v1 : Int32) (v2 : Int32) (v3 : Int32) (v4 : Nat) (M : Mem) : Option (Int32 × Mem) :=
  if mK M v0 = 12 then
    catchX (f_X11_next v0 v1 v2 v3 M) (fun e M1 => if e = 1 then some (1, M1) else some (2, M1)) fun r M1 =>
      if mK M1 v4 = 22 then
        if inB 0 (mN M1 v4) = true then
          ap (sJ M1 v4 (0 : Int32).toNatClampNeg r.toInt64) fun M2 =>
          some (0, M2)
        else none
      else none
  else none
theorem s_L_next (v0 : Nat) (v1 : Int32) (v2 : Int32) (v3 : Int32) (v4 : Nat) (M : Mem) (r : (Int32 × Mem)) (hf : f_L_next v0 v1 v2 v3 v4 M = some r) : Sem mi_L_next 8 [aR v0, aI v1, aI v2, aI v3, aR v4] M (oI r.1) r.2 := by
  unfold f_L_next at hf
  refine sem_ofH (by decide) rfl rfl (Nat.le_of_ble_eq_true rfl) (lv := [some (aR v0), some (aI v1), some (aI v2), some (aI v3), some (aR v4), none]) rfl ?_
  obtain ⟨h1, hf⟩ := chk_s hf
  refine g_aload (pc' := 2) dL_next_0 rfl rfl ?_
  refine g_iconst (pc' := 3) (0 : Int32) dL_next_2 rfl (by decide) ?_
  refine g_aload_n (pc' := 4) dL_next_3 rfl rfl ?_
  refine g_iload_n (pc' := 5) dL_next_4 rfl rfl ?_
  refine g_iload_n (pc' := 6) dL_next_5 rfl rfl ?_
  refine g_iload_n (pc' := 7) dL_next_6 rfl rfl ?_
  rcases catchX_some hf with ⟨e, M1, hc, hf⟩ | ⟨r1, M1, hc, hf⟩
  · by_cases he : e = 1
    · have hf := ite_t he hf
      cases hf
      refine g_callVC (En := xNS) (fr2 := 7) (As := [aI v1, aI v2, aI v3]) (b := v0) (st := [aI (0 : Int32), aR v4]) (k' := 2) (u' := 12) (pc' := 17) (j := 5) (len := 2) [] (0, 12, 15, 27) [(0, 12, 19, 13)] rfl (by decide) (by decide) q_791 (List.mem_of_getElem? (i := 1) rfl) (fun z hz => by cases hz) cf_X11_next q_1049 (by omega) (ci := 11) rfl rfl (by decide) dL_next_7 rfl rfl (Nat.le_of_ble_eq_true rfl) (Or.inl rfl) (by show 0 + 2 ≤ 2; omega) (by show 0 + 12 ≤ 12; omega) (by show 2 ≤ 2; omega) (by show 12 ≤ 12; omega) (Or.inl dL_next_15) (by decide) (fun _ => rfl) rfl rfl rfl (by decide) h1 (s_ex_xNS he (s_X11_next v0 v1 v2 v3 M _ hc)) ?_
      refine g_iconst (pc' := 18) (1 : Int32) dL_next_17 rfl (by decide) ?_
      exact g_ireturn dL_next_18 rfl (by show 2 ≤ 2; omega) (by show 12 ≤ 12; omega)
    · have hf := ite_f he hf
      cases hf
      refine g_callVC (En := xIA) (fr2 := 7) (As := [aI v1, aI v2, aI v3]) (b := v0) (st := [aI (0 : Int32), aR v4]) (k' := 2) (u' := 12) (pc' := 21) (j := 5) (len := 2) [(0, 12, 15, 27)] (0, 12, 19, 13) [] rfl (by decide) (by decide) q_173 (List.mem_of_getElem? (i := 0) rfl) (fun z hz => by
            simp only [List.mem_cons, List.not_mem_nil, or_false] at hz
            subst hz
            exact ⟨by decide, q_791, rfl⟩) cf_X11_next q_1049 (by omega) (ci := 11) rfl rfl (by decide) dL_next_7 rfl rfl (Nat.le_of_ble_eq_true rfl) (Or.inl rfl) (by show 0 + 2 ≤ 2; omega) (by show 0 + 12 ≤ 12; omega) (by show 2 ≤ 2; omega) (by show 12 ≤ 12; omega) (Or.inl dL_next_19) (by decide) (fun _ => rfl) rfl rfl rfl (by decide) h1 (s_ex_xIA he (s_X11_next v0 v1 v2 v3 M _ hc)) ?_
      refine g_iconst (pc' := 22) (2 : Int32) dL_next_21 rfl (by decide) ?_
      exact g_ireturn dL_next_22 rfl (by show 2 ≤ 2; omega) (by show 12 ≤ 12; omega)
  · refine g_callVi (pc' := 10) (k' := 2) (u' := 12) (fr2 := 7) (As := [aI v1, aI v2, aI v3]) (b := v0) (st := [aI (0 : Int32), aR v4]) cf_X11_next q_1049 (by omega) (ci := 11) rfl rfl (by decide) dL_next_7 rfl rfl rfl (Nat.le_of_ble_eq_true rfl) (Or.inl rfl) (by show 0 + 2 ≤ 2; omega) (by show 0 + 12 ≤ 12; omega) (by show 2 ≤ 2; omega) (by show 12 ≤ 12; omega) h1 (s_X11_next v0 v1 v2 v3 M _ hc) ?_
    refine g_i2l (pc' := 11) dL_next_10 rfl ?_
    obtain ⟨h2, hf⟩ := chk_s hf
    obtain ⟨b2, hf⟩ := chk_s hf
    refine g_last (pc' := 12) dL_next_11 rfl h2 (inB_in b2) (gM fun M2 hM2 => ?_)
    have hf := ap_eq hf hM2
    refine g_goto (pc' := 23) dL_next_12 (by decide) ?_
    refine g_iconst (pc' := 24) (0 : Int32) dL_next_23 rfl (by decide) ?_
    cases hf
    exact g_ireturn dL_next_24 rfl (by show 2 ≤ 2; omega) (by show 12 ≤ 12; omega)
abbrev mi_L_length : MI := (yL_length, Cond.codeWith yL_length cL_length 5 (some .int) [(0, 10, 13, 27), (0, 10, 17, 13)], cL_length, 5, (some .int), [(0, 10, 13, 27), (0, 10, 17, 13)], 2, 12, 0, none)
theorem cf_L_length : CFw mi_L_length 4 := ⟨rfl, q_1084, wall_i_LeafStripesLaw, ⟨by decide, by decide, by decide +kernel⟩, by decide, q_1083⟩
def f_L_length (v0 : Nat) (v1 : Int32) (v2 : Int32) (v3 : Nat) (M : Mem) : Option (Int32 × Mem) :=
  if mK M v0 = 12 then
    catchX (f_X11_length v0 v1 v2 M) (fun e M1 => if e = 1 then some (1, M1) else some (2, M1)) fun r M1 =>
      if mK M1 v3 = 22 then
        if inB 0 (mN M1 v3) = true then
          ap (sJ M1 v3 (0 : Int32).toNatClampNeg r.toInt64) fun M2 =>
          some (0, M2)
        else none
      else none
  else none
theorem s_L_length (v0 : Nat) (v1 : Int32) (v2 : Int32) (v3 : Nat) (M : Mem) (r : (Int32 × Mem)) (hf : f_L_length v0 v1 v2 v3 M = some r) : Sem mi_L_length 39 [aR v0, aI v1, aI v2, aR v3] M (oI r.1) r.2 := by
  unfold f_L_length at hf
  refine sem_ofH (by decide) rfl rfl (Nat.le_of_ble_eq_true rfl) (lv := [some (aR v0), some (aI v1), some (aI v2), some (aR v3), none]) rfl ?_
  obtain ⟨h1, hf⟩ := chk_s hf
  refine g_aload_n (pc' := 1) dL_length_0 rfl rfl ?_
  refine g_iconst (pc' := 2) (0 : Int32) dL_length_1 rfl (by decide) ?_
  refine g_aload_n (pc' := 3) dL_length_2 rfl rfl ?_
  refine g_iload_n (pc' := 4) dL_length_3 rfl rfl ?_
  refine g_iload_n (pc' := 5) dL_length_4 rfl rfl ?_
  rcases catchX_some hf with ⟨e, M1, hc, hf⟩ | ⟨r1, M1, hc, hf⟩
  · by_cases he : e = 1
    · have hf := ite_t he hf
      cases hf
      refine g_callVC (En := xNS) (fr2 := 38) (As := [aI v1, aI v2]) (b := v0) (st := [aI (0 : Int32), aR v3]) (k' := 2) (u' := 12) (pc' := 15) (j := 4) (len := 2) [] (0, 10, 13, 27) [(0, 10, 17, 13)] rfl (by decide) (by decide) q_791 (List.mem_of_getElem? (i := 1) rfl) (fun z hz => by cases hz) cf_X11_length q_1085 (by omega) (ci := 11) rfl rfl (by decide) dL_length_5 rfl rfl (Nat.le_of_ble_eq_true rfl) (Or.inl rfl) (by show 0 + 2 ≤ 2; omega) (by show 0 + 12 ≤ 12; omega) (by show 2 ≤ 2; omega) (by show 12 ≤ 12; omega) (Or.inl dL_length_13) (by decide) (fun _ => rfl) rfl rfl rfl (by decide) h1 (s_ex_xNS he (s_X11_length v0 v1 v2 M _ hc)) ?_
      refine g_iconst (pc' := 16) (1 : Int32) dL_length_15 rfl (by decide) ?_
      exact g_ireturn dL_length_16 rfl (by show 2 ≤ 2; omega) (by show 12 ≤ 12; omega)
    · have hf := ite_f he hf
      cases hf
      refine g_callVC (En := xIA) (fr2 := 38) (As := [aI v1, aI v2]) (b := v0) (st := [aI (0 : Int32), aR v3]) (k' := 2) (u' := 12) (pc' := 19) (j := 4) (len := 2) [(0, 10, 13, 27)] (0, 10, 17, 13) [] rfl (by decide) (by decide) q_173 (List.mem_of_getElem? (i := 0) rfl) (fun z hz => by
            simp only [List.mem_cons, List.not_mem_nil, or_false] at hz
            subst hz
            exact ⟨by decide, q_791, rfl⟩) cf_X11_length q_1085 (by omega) (ci := 11) rfl rfl (by decide) dL_length_5 rfl rfl (Nat.le_of_ble_eq_true rfl) (Or.inl rfl) (by show 0 + 2 ≤ 2; omega) (by show 0 + 12 ≤ 12; omega) (by show 2 ≤ 2; omega) (by show 12 ≤ 12; omega) (Or.inl dL_length_17) (by decide) (fun _ => rfl) rfl rfl rfl (by decide) h1 (s_ex_xIA he (s_X11_length v0 v1 v2 M _ hc)) ?_
      refine g_iconst (pc' := 20) (2 : Int32) dL_length_19 rfl (by decide) ?_
      exact g_ireturn dL_length_20 rfl (by show 2 ≤ 2; omega) (by show 12 ≤ 12; omega)
  · refine g_callVi (pc' := 8) (k' := 2) (u' := 12) (fr2 := 38) (As := [aI v1, aI v2]) (b := v0) (st := [aI (0 : Int32), aR v3]) cf_X11_length q_1085 (by omega) (ci := 11) rfl rfl (by decide) dL_length_5 rfl rfl rfl (Nat.le_of_ble_eq_true rfl) (Or.inl rfl) (by show 0 + 2 ≤ 2; omega) (by show 0 + 12 ≤ 12; omega) (by show 2 ≤ 2; omega) (by show 12 ≤ 12; omega) h1 (s_X11_length v0 v1 v2 M _ hc) ?_
    refine g_i2l (pc' := 9) dL_length_8 rfl ?_
    obtain ⟨h2, hf⟩ := chk_s hf
    obtain ⟨b2, hf⟩ := chk_s hf
    refine g_last (pc' := 10) dL_length_9 rfl h2 (inB_in b2) (gM fun M2 hM2 => ?_)
    have hf := ap_eq hf hM2
    refine g_goto (pc' := 21) dL_length_10 (by decide) ?_
    refine g_iconst (pc' := 22) (0 : Int32) dL_length_21 rfl (by decide) ?_
    cases hf
    exact g_ireturn dL_length_22 rfl (by show 2 ≤ 2; omega) (by show 12 ≤ 12; omega)
abbrev mi_L_sign : MI := (yL_sign, Cond.codeWith yL_sign cL_sign 6 (some .int) [(0, 12, 15, 27), (0, 12, 19, 13)], cL_sign, 6, (some .int), [(0, 12, 15, 27), (0, 12, 19, 13)], 3, 18, 0, none)
theorem cf_L_sign : CFw mi_L_sign 5 := ⟨rfl, q_1205, wall_i_LeafStripesLaw, ⟨by decide, by decide, by decide +kernel⟩, by decide, q_1204⟩
def f_L_sign (v0 : Nat) (v1 : Int32) (v2 : Int32) (v3 : Int32) (v4 : Nat) (M : Mem) : Option (Int32 × Mem) :=
  if mK M v0 = 12 then
    catchX (f_X11_sign v0 v1 v2 v3 M) (fun e M1 => if e = 1 then some (1, M1) else some (2, M1)) fun r M1 =>
      if mK M1 v4 = 22 then
        if inB 0 (mN M1 v4) = true then
          ap (sJ M1 v4 (0 : Int32).toNatClampNeg r.toInt64) fun M2 =>
          some (0, M2)
        else none
      else none
  else none
theorem s_L_sign (v0 : Nat) (v1 : Int32) (v2 : Int32) (v3 : Int32) (v4 : Nat) (M : Mem) (r : (Int32 × Mem)) (hf : f_L_sign v0 v1 v2 v3 v4 M = some r) : Sem mi_L_sign 39 [aR v0, aI v1, aI v2, aI v3, aR v4] M (oI r.1) r.2 := by
  unfold f_L_sign at hf
  refine sem_ofH (by decide) rfl rfl (Nat.le_of_ble_eq_true rfl) (lv := [some (aR v0), some (aI v1), some (aI v2), some (aI v3), some (aR v4), none]) rfl ?_
  obtain ⟨h1, hf⟩ := chk_s hf
  refine g_aload (pc' := 2) dL_sign_0 rfl rfl ?_
  refine g_iconst (pc' := 3) (0 : Int32) dL_sign_2 rfl (by decide) ?_
  refine g_aload_n (pc' := 4) dL_sign_3 rfl rfl ?_
  refine g_iload_n (pc' := 5) dL_sign_4 rfl rfl ?_
  refine g_iload_n (pc' := 6) dL_sign_5 rfl rfl ?_
  refine g_iload_n (pc' := 7) dL_sign_6 rfl rfl ?_
  rcases catchX_some hf with ⟨e, M1, hc, hf⟩ | ⟨r1, M1, hc, hf⟩
  · by_cases he : e = 1
    · have hf := ite_t he hf
      cases hf
      refine g_callVC (En := xNS) (fr2 := 38) (As := [aI v1, aI v2, aI v3]) (b := v0) (st := [aI (0 : Int32), aR v4]) (k' := 3) (u' := 18) (pc' := 17) (j := 5) (len := 2) [] (0, 12, 15, 27) [(0, 12, 19, 13)] rfl (by decide) (by decide) q_791 (List.mem_of_getElem? (i := 1) rfl) (fun z hz => by cases hz) cf_X11_sign q_1206 (by omega) (ci := 11) rfl rfl (by decide) dL_sign_7 rfl rfl (Nat.le_of_ble_eq_true rfl) (Or.inl rfl) (by show 0 + 3 ≤ 3; omega) (by show 0 + 18 ≤ 18; omega) (by show 3 ≤ 3; omega) (by show 18 ≤ 18; omega) (Or.inl dL_sign_15) (by decide) (fun _ => rfl) rfl rfl rfl (by decide) h1 (s_ex_xNS he (s_X11_sign v0 v1 v2 v3 M _ hc)) ?_
      refine g_iconst (pc' := 18) (1 : Int32) dL_sign_17 rfl (by decide) ?_
      exact g_ireturn dL_sign_18 rfl (by show 3 ≤ 3; omega) (by show 18 ≤ 18; omega)
    · have hf := ite_f he hf
      cases hf
      refine g_callVC (En := xIA) (fr2 := 38) (As := [aI v1, aI v2, aI v3]) (b := v0) (st := [aI (0 : Int32), aR v4]) (k' := 3) (u' := 18) (pc' := 21) (j := 5) (len := 2) [(0, 12, 15, 27)] (0, 12, 19, 13) [] rfl (by decide) (by decide) q_173 (List.mem_of_getElem? (i := 0) rfl) (fun z hz => by
            simp only [List.mem_cons, List.not_mem_nil, or_false] at hz
            subst hz
            exact ⟨by decide, q_791, rfl⟩) cf_X11_sign q_1206 (by omega) (ci := 11) rfl rfl (by decide) dL_sign_7 rfl rfl (Nat.le_of_ble_eq_true rfl) (Or.inl rfl) (by show 0 + 3 ≤ 3; omega) (by show 0 + 18 ≤ 18; omega) (by show 3 ≤ 3; omega) (by show 18 ≤ 18; omega) (Or.inl dL_sign_19) (by decide) (fun _ => rfl) rfl rfl rfl (by decide) h1 (s_ex_xIA he (s_X11_sign v0 v1 v2 v3 M _ hc)) ?_
      refine g_iconst (pc' := 22) (2 : Int32) dL_sign_21 rfl (by decide) ?_
      exact g_ireturn dL_sign_22 rfl (by show 3 ≤ 3; omega) (by show 18 ≤ 18; omega)
  · refine g_callVi (pc' := 10) (k' := 3) (u' := 18) (fr2 := 38) (As := [aI v1, aI v2, aI v3]) (b := v0) (st := [aI (0 : Int32), aR v4]) cf_X11_sign q_1206 (by omega) (ci := 11) rfl rfl (by decide) dL_sign_7 rfl rfl rfl (Nat.le_of_ble_eq_true rfl) (Or.inl rfl) (by show 0 + 3 ≤ 3; omega) (by show 0 + 18 ≤ 18; omega) (by show 3 ≤ 3; omega) (by show 18 ≤ 18; omega) h1 (s_X11_sign v0 v1 v2 v3 M _ hc) ?_
    refine g_i2l (pc' := 11) dL_sign_10 rfl ?_
    obtain ⟨h2, hf⟩ := chk_s hf
    obtain ⟨b2, hf⟩ := chk_s hf
    refine g_last (pc' := 12) dL_sign_11 rfl h2 (inB_in b2) (gM fun M2 hM2 => ?_)
    have hf := ap_eq hf hM2
    refine g_goto (pc' := 23) dL_sign_12 (by decide) ?_
    refine g_iconst (pc' := 24) (0 : Int32) dL_sign_23 rfl (by decide) ?_
    cases hf
    exact g_ireturn dL_sign_24 rfl (by show 3 ≤ 3; omega) (by show 18 ≤ 18; omega)
abbrev mi_L_reads : MI := (yL_reads, Cond.codeWith yL_reads cL_reads 5 (some .int) [(0, 10, 13, 27), (0, 10, 17, 13)], cL_reads, 5, (some .int), [(0, 10, 13, 27), (0, 10, 17, 13)], 2, 12, 0, none)
theorem cf_L_reads : CFw mi_L_reads 4 := ⟨rfl, q_1217, wall_i_LeafStripesLaw, ⟨by decide, by decide, by decide +kernel⟩, by decide, q_1216⟩
def f_L_reads (v0 : Nat) (v1 : Int32) (v2 : Int32) (v3 : Nat) (M : Mem) : Option (Int32 × Mem) :=
  if mK M v0 = 12 then
    catchX (f_X11_reads v0 v1 v2 M) (fun e M1 => if e = 1 then some (1, M1) else some (2, M1)) fun r M1 =>
      if mK M1 v3 = 22 then
        if inB 0 (mN M1 v3) = true then
          ap (sJ M1 v3 (0 : Int32).toNatClampNeg r.toInt64) fun M2 =>
          some (0, M2)
        else none
      else none
  else none
theorem s_L_reads (v0 : Nat) (v1 : Int32) (v2 : Int32) (v3 : Nat) (M : Mem) (r : (Int32 × Mem)) (hf : f_L_reads v0 v1 v2 v3 M = some r) : Sem mi_L_reads 8 [aR v0, aI v1, aI v2, aR v3] M (oI r.1) r.2 := by
  unfold f_L_reads at hf
  refine sem_ofH (by decide) rfl rfl (Nat.le_of_ble_eq_true rfl) (lv := [some (aR v0), some (aI v1), some (aI v2), some (aR v3), none]) rfl ?_
  obtain ⟨h1, hf⟩ := chk_s hf
  refine g_aload_n (pc' := 1) dL_reads_0 rfl rfl ?_
  refine g_iconst (pc' := 2) (0 : Int32) dL_reads_1 rfl (by decide) ?_
  refine g_aload_n (pc' := 3) dL_reads_2 rfl rfl ?_
  refine g_iload_n (pc' := 4) dL_reads_3 rfl rfl ?_
  refine g_iload_n (pc' := 5) dL_reads_4 rfl rfl ?_
  rcases catchX_some hf with ⟨e, M1, hc, hf⟩ | ⟨r1, M1, hc, hf⟩
  · by_cases he : e = 1
    · have hf := ite_t he hf
      cases hf
      refine g_callVC (En := xNS) (fr2 := 7) (As := [aI v1, aI v2]) (b := v0) (st := [aI (0 : Int32), aR v3]) (k' := 2) (u' := 12) (pc' := 15) (j := 4) (len := 2) [] (0, 10, 13, 27) [(0, 10, 17, 13)] rfl (by decide) (by decide) q_791 (List.mem_of_getElem? (i := 1) rfl) (fun z hz => by cases hz) cf_X11_reads q_1218 (by omega) (ci := 11) rfl rfl (by decide) dL_reads_5 rfl rfl (Nat.le_of_ble_eq_true rfl) (Or.inl rfl) (by show 0 + 2 ≤ 2; omega) (by show 0 + 12 ≤ 12; omega) (by show 2 ≤ 2; omega) (by show 12 ≤ 12; omega) (Or.inl dL_reads_13) (by decide) (fun _ => rfl) rfl rfl rfl (by decide) h1 (s_ex_xNS he (s_X11_reads v0 v1 v2 M _ hc)) ?_
      refine g_iconst (pc' := 16) (1 : Int32) dL_reads_15 rfl (by decide) ?_
      exact g_ireturn dL_reads_16 rfl (by show 2 ≤ 2; omega) (by show 12 ≤ 12; omega)
    · have hf := ite_f he hf
      cases hf
      refine g_callVC (En := xIA) (fr2 := 7) (As := [aI v1, aI v2]) (b := v0) (st := [aI (0 : Int32), aR v3]) (k' := 2) (u' := 12) (pc' := 19) (j := 4) (len := 2) [(0, 10, 13, 27)] (0, 10, 17, 13) [] rfl (by decide) (by decide) q_173 (List.mem_of_getElem? (i := 0) rfl) (fun z hz => by
            simp only [List.mem_cons, List.not_mem_nil, or_false] at hz
            subst hz
            exact ⟨by decide, q_791, rfl⟩) cf_X11_reads q_1218 (by omega) (ci := 11) rfl rfl (by decide) dL_reads_5 rfl rfl (Nat.le_of_ble_eq_true rfl) (Or.inl rfl) (by show 0 + 2 ≤ 2; omega) (by show 0 + 12 ≤ 12; omega) (by show 2 ≤ 2; omega) (by show 12 ≤ 12; omega) (Or.inl dL_reads_17) (by decide) (fun _ => rfl) rfl rfl rfl (by decide) h1 (s_ex_xIA he (s_X11_reads v0 v1 v2 M _ hc)) ?_
      refine g_iconst (pc' := 20) (2 : Int32) dL_reads_19 rfl (by decide) ?_
      exact g_ireturn dL_reads_20 rfl (by show 2 ≤ 2; omega) (by show 12 ≤ 12; omega)
  · refine g_callVi (pc' := 8) (k' := 2) (u' := 12) (fr2 := 7) (As := [aI v1, aI v2]) (b := v0) (st := [aI (0 : Int32), aR v3]) cf_X11_reads q_1218 (by omega) (ci := 11) rfl rfl (by decide) dL_reads_5 rfl rfl rfl (Nat.le_of_ble_eq_true rfl) (Or.inl rfl) (by show 0 + 2 ≤ 2; omega) (by show 0 + 12 ≤ 12; omega) (by show 2 ≤ 2; omega) (by show 12 ≤ 12; omega) h1 (s_X11_reads v0 v1 v2 M _ hc) ?_
    refine g_i2l (pc' := 9) dL_reads_8 rfl ?_
    obtain ⟨h2, hf⟩ := chk_s hf
    obtain ⟨b2, hf⟩ := chk_s hf
    refine g_last (pc' := 10) dL_reads_9 rfl h2 (inB_in b2) (gM fun M2 hM2 => ?_)
    have hf := ap_eq hf hM2
    refine g_goto (pc' := 21) dL_reads_10 (by decide) ?_
    refine g_iconst (pc' := 22) (0 : Int32) dL_reads_21 rfl (by decide) ?_
    cases hf
    exact g_ireturn dL_reads_22 rfl (by show 2 ≤ 2; omega) (by show 12 ≤ 12; omega)
abbrev mi_L_seen : MI := (yL_seen, Cond.codeWith yL_seen cL_seen 4 (some .int) [(0, 9, 12, 27)], cL_seen, 4, (some .int), [(0, 9, 12, 27)], 1, 6, 0, none)
theorem cf_L_seen : CFw mi_L_seen 3 := ⟨rfl, q_1237, wall_i_LeafStripesLaw, ⟨by decide, by decide, by decide +kernel⟩, by decide, q_1236⟩
def f_L_seen (v0 : Nat) (v1 : Int32) (v2 : Nat) (M : Mem) : Option (Int32 × Mem) :=
  if mK M v0 = 12 then
    catchX (f_X11_seen v0 v1 M) (fun e M1 => if e = 1 then some (1, M1) else none) fun r M1 =>
      if mK M1 v2 = 22 then
        if inB 0 (mN M1 v2) = true then
          ap (sJ M1 v2 (0 : Int32).toNatClampNeg r.toInt64) fun M2 =>
          some (0, M2)
        else none
      else none
  else none
theorem s_L_seen (v0 : Nat) (v1 : Int32) (v2 : Nat) (M : Mem) (r : (Int32 × Mem)) (hf : f_L_seen v0 v1 v2 M = some r) : Sem mi_L_seen 39 [aR v0, aI v1, aR v2] M (oI r.1) r.2 := by
  unfold f_L_seen at hf
  refine sem_ofH (by decide) rfl rfl (Nat.le_of_ble_eq_true rfl) (lv := [some (aR v0), some (aI v1), some (aR v2), none]) rfl ?_
  obtain ⟨h1, hf⟩ := chk_s hf
  refine g_aload_n (pc' := 1) dL_seen_0 rfl rfl ?_
  refine g_iconst (pc' := 2) (0 : Int32) dL_seen_1 rfl (by decide) ?_
  refine g_aload_n (pc' := 3) dL_seen_2 rfl rfl ?_
  refine g_iload_n (pc' := 4) dL_seen_3 rfl rfl ?_
  rcases catchX_some hf with ⟨e, M1, hc, hf⟩ | ⟨r1, M1, hc, hf⟩
  · by_cases he : e = 1
    · have hf := ite_t he hf
      cases hf
      refine g_callVC (En := xNS) (fr2 := 38) (As := [aI v1]) (b := v0) (st := [aI (0 : Int32), aR v2]) (k' := 1) (u' := 6) (pc' := 13) (j := 3) (len := 1) [] (0, 9, 12, 27) [] rfl (by decide) (by decide) q_791 (List.mem_of_getElem? (i := 1) rfl) (fun z hz => by cases hz) cf_X11_seen q_1238 (by omega) (ci := 11) rfl rfl (by decide) dL_seen_4 rfl rfl (Nat.le_of_ble_eq_true rfl) (Or.inl rfl) (by show 0 + 1 ≤ 1; omega) (by show 0 + 6 ≤ 6; omega) (by show 1 ≤ 1; omega) (by show 6 ≤ 6; omega) (Or.inr ⟨3, rfl, rfl, dL_seen_12⟩) (by decide) (fun z => absurd (dL_seen_12.symm.trans z) (by decide)) rfl rfl rfl (by decide) h1 (s_ex_xNS he (s_X11_seen v0 v1 M _ hc)) ?_
      refine g_iconst (pc' := 14) (1 : Int32) dL_seen_13 rfl (by decide) ?_
      exact g_ireturn dL_seen_14 rfl (by show 1 ≤ 1; omega) (by show 6 ≤ 6; omega)
    · have hf := ite_f he hf
      cases hf
  · refine g_callVi (pc' := 7) (k' := 1) (u' := 6) (fr2 := 38) (As := [aI v1]) (b := v0) (st := [aI (0 : Int32), aR v2]) cf_X11_seen q_1238 (by omega) (ci := 11) rfl rfl (by decide) dL_seen_4 rfl rfl rfl (Nat.le_of_ble_eq_true rfl) (Or.inl rfl) (by show 0 + 1 ≤ 1; omega) (by show 0 + 6 ≤ 6; omega) (by show 1 ≤ 1; omega) (by show 6 ≤ 6; omega) h1 (s_X11_seen v0 v1 M _ hc) ?_
    refine g_i2l (pc' := 8) dL_seen_7 rfl ?_
    obtain ⟨h2, hf⟩ := chk_s hf
    obtain ⟨b2, hf⟩ := chk_s hf
    refine g_last (pc' := 9) dL_seen_8 rfl h2 (inB_in b2) (gM fun M2 hM2 => ?_)
    have hf := ap_eq hf hM2
    refine g_goto (pc' := 15) dL_seen_9 (by decide) ?_
    refine g_iconst (pc' := 16) (0 : Int32) dL_seen_15 rfl (by decide) ?_
    cases hf
    exact g_ireturn dL_seen_16 rfl (by show 1 ≤ 1; omega) (by show 6 ≤ 6; omega)
abbrev mi_L_seenSign : MI := (yL_seenSign, Cond.codeWith yL_seenSign cL_seenSign 5 (some .int) [(0, 10, 13, 27)], cL_seenSign, 5, (some .int), [(0, 10, 13, 27)], 2, 12, 0, none)
theorem cf_L_seenSign : CFw mi_L_seenSign 4 := ⟨rfl, q_1252, wall_i_LeafStripesLaw, ⟨by decide, by decide, by decide +kernel⟩, by decide, q_1251⟩
def f_L_seenSign (v0 : Nat) (v1 : Int32) (v2 : Int32) (v3 : Nat) (M : Mem) : Option (Int32 × Mem) :=
  if mK M v0 = 12 then
    catchX (f_X11_seenSign v0 v1 v2 M) (fun e M1 => if e = 1 then some (1, M1) else none) fun r M1 =>
      if mK M1 v3 = 22 then
        if inB 0 (mN M1 v3) = true then
          ap (sJ M1 v3 (0 : Int32).toNatClampNeg r.toInt64) fun M2 =>
          some (0, M2)
        else none
      else none
  else none
theorem s_L_seenSign (v0 : Nat) (v1 : Int32) (v2 : Int32) (v3 : Nat) (M : Mem) (r : (Int32 × Mem)) (hf : f_L_seenSign v0 v1 v2 v3 M = some r) : Sem mi_L_seenSign 39 [aR v0, aI v1, aI v2, aR v3] M (oI r.1) r.2 := by
  unfold f_L_seenSign at hf
  refine sem_ofH (by decide) rfl rfl (Nat.le_of_ble_eq_true rfl) (lv := [some (aR v0), some (aI v1), some (aI v2), some (aR v3), none]) rfl ?_
  obtain ⟨h1, hf⟩ := chk_s hf
  refine g_aload_n (pc' := 1) dL_seenSign_0 rfl rfl ?_
  refine g_iconst (pc' := 2) (0 : Int32) dL_seenSign_1 rfl (by decide) ?_
  refine g_aload_n (pc' := 3) dL_seenSign_2 rfl rfl ?_
  refine g_iload_n (pc' := 4) dL_seenSign_3 rfl rfl ?_
  refine g_iload_n (pc' := 5) dL_seenSign_4 rfl rfl ?_
  rcases catchX_some hf with ⟨e, M1, hc, hf⟩ | ⟨r1, M1, hc, hf⟩
  · by_cases he : e = 1
    · have hf := ite_t he hf
      cases hf
      refine g_callVC (En := xNS) (fr2 := 38) (As := [aI v1, aI v2]) (b := v0) (st := [aI (0 : Int32), aR v3]) (k' := 2) (u' := 12) (pc' := 15) (j := 4) (len := 2) [] (0, 10, 13, 27) [] rfl (by decide) (by decide) q_791 (List.mem_of_getElem? (i := 1) rfl) (fun z hz => by cases hz) cf_X11_seenSign q_1253 (by omega) (ci := 11) rfl rfl (by decide) dL_seenSign_5 rfl rfl (Nat.le_of_ble_eq_true rfl) (Or.inl rfl) (by show 0 + 2 ≤ 2; omega) (by show 0 + 12 ≤ 12; omega) (by show 2 ≤ 2; omega) (by show 12 ≤ 12; omega) (Or.inl dL_seenSign_13) (by decide) (fun _ => rfl) rfl rfl rfl (by decide) h1 (s_ex_xNS he (s_X11_seenSign v0 v1 v2 M _ hc)) ?_
      refine g_iconst (pc' := 16) (1 : Int32) dL_seenSign_15 rfl (by decide) ?_
      exact g_ireturn dL_seenSign_16 rfl (by show 2 ≤ 2; omega) (by show 12 ≤ 12; omega)
    · have hf := ite_f he hf
      cases hf
  · refine g_callVi (pc' := 8) (k' := 2) (u' := 12) (fr2 := 38) (As := [aI v1, aI v2]) (b := v0) (st := [aI (0 : Int32), aR v3]) cf_X11_seenSign q_1253 (by omega) (ci := 11) rfl rfl (by decide) dL_seenSign_5 rfl rfl rfl (Nat.le_of_ble_eq_true rfl) (Or.inl rfl) (by show 0 + 2 ≤ 2; omega) (by show 0 + 12 ≤ 12; omega) (by show 2 ≤ 2; omega) (by show 12 ≤ 12; omega) h1 (s_X11_seenSign v0 v1 v2 M _ hc) ?_
    refine g_i2l (pc' := 9) dL_seenSign_8 rfl ?_
    obtain ⟨h2, hf⟩ := chk_s hf
    obtain ⟨b2, hf⟩ := chk_s hf
    refine g_last (pc' := 10) dL_seenSign_9 rfl h2 (inB_in b2) (gM fun M2 hM2 => ?_)
    have hf := ap_eq hf hM2
    refine g_goto (pc' := 17) dL_seenSign_10 (by decide) ?_
    refine g_iconst (pc' := 18) (0 : Int32) dL_seenSign_17 rfl (by decide) ?_
    cases hf
    exact g_ireturn dL_seenSign_18 rfl (by show 2 ≤ 2; omega) (by show 12 ≤ 12; omega)
abbrev mi_L_fold : MI := (yL_fold, Cond.codeWith yL_fold cL_fold 5 (some .int) [(0, 10, 13, 27)], cL_fold, 5, (some .int), [(0, 10, 13, 27)], 2, 12, 0, none)
theorem cf_L_fold : CFw mi_L_fold 4 := ⟨rfl, q_1263, wall_i_LeafStripesLaw, ⟨by decide, by decide, by decide +kernel⟩, by decide, q_1262⟩
def f_L_fold (v0 : Nat) (v1 : Int32) (v2 : Int32) (v3 : Nat) (M : Mem) : Option (Int32 × Mem) :=
  if mK M v0 = 12 then
    catchX (f_X11_fold v0 v1 v2 M) (fun e M1 => if e = 1 then some (1, M1) else none) fun r M1 =>
      if mK M1 v3 = 22 then
        if inB 0 (mN M1 v3) = true then
          ap (sJ M1 v3 (0 : Int32).toNatClampNeg r.toInt64) fun M2 =>
          some (0, M2)
        else none
      else none
  else none
theorem s_L_fold (v0 : Nat) (v1 : Int32) (v2 : Int32) (v3 : Nat) (M : Mem) (r : (Int32 × Mem)) (hf : f_L_fold v0 v1 v2 v3 M = some r) : Sem mi_L_fold 8 [aR v0, aI v1, aI v2, aR v3] M (oI r.1) r.2 := by
  unfold f_L_fold at hf
  refine sem_ofH (by decide) rfl rfl (Nat.le_of_ble_eq_true rfl) (lv := [some (aR v0), some (aI v1), some (aI v2), some (aR v3), none]) rfl ?_
  obtain ⟨h1, hf⟩ := chk_s hf
  refine g_aload_n (pc' := 1) dL_fold_0 rfl rfl ?_
  refine g_iconst (pc' := 2) (0 : Int32) dL_fold_1 rfl (by decide) ?_
  refine g_aload_n (pc' := 3) dL_fold_2 rfl rfl ?_
  refine g_iload_n (pc' := 4) dL_fold_3 rfl rfl ?_
  refine g_iload_n (pc' := 5) dL_fold_4 rfl rfl ?_
  rcases catchX_some hf with ⟨e, M1, hc, hf⟩ | ⟨r1, M1, hc, hf⟩
  · by_cases he : e = 1
    · have hf := ite_t he hf
      cases hf
      refine g_callVC (En := xNS) (fr2 := 7) (As := [aI v1, aI v2]) (b := v0) (st := [aI (0 : Int32), aR v3]) (k' := 2) (u' := 12) (pc' := 15) (j := 4) (len := 2) [] (0, 10, 13, 27) [] rfl (by decide) (by decide) q_791 (List.mem_of_getElem? (i := 1) rfl) (fun z hz => by cases hz) cf_X11_fold q_1264 (by omega) (ci := 11) rfl rfl (by decide) dL_fold_5 rfl rfl (Nat.le_of_ble_eq_true rfl) (Or.inl rfl) (by show 0 + 2 ≤ 2; omega) (by show 0 + 12 ≤ 12; omega) (by show 2 ≤ 2; omega) (by show 12 ≤ 12; omega) (Or.inl dL_fold_13) (by decide) (fun _ => rfl) rfl rfl rfl (by decide) h1 (s_ex_xNS he (s_X11_fold v0 v1 v2 M _ hc)) ?_
      refine g_iconst (pc' := 16) (1 : Int32) dL_fold_15 rfl (by decide) ?_
      exact g_ireturn dL_fold_16 rfl (by show 2 ≤ 2; omega) (by show 12 ≤ 12; omega)
    · have hf := ite_f he hf
      cases hf
  · refine g_callVi (pc' := 8) (k' := 2) (u' := 12) (fr2 := 7) (As := [aI v1, aI v2]) (b := v0) (st := [aI (0 : Int32), aR v3]) cf_X11_fold q_1264 (by omega) (ci := 11) rfl rfl (by decide) dL_fold_5 rfl rfl rfl (Nat.le_of_ble_eq_true rfl) (Or.inl rfl) (by show 0 + 2 ≤ 2; omega) (by show 0 + 12 ≤ 12; omega) (by show 2 ≤ 2; omega) (by show 12 ≤ 12; omega) h1 (s_X11_fold v0 v1 v2 M _ hc) ?_
    refine g_i2l (pc' := 9) dL_fold_8 rfl ?_
    obtain ⟨h2, hf⟩ := chk_s hf
    obtain ⟨b2, hf⟩ := chk_s hf
    refine g_last (pc' := 10) dL_fold_9 rfl h2 (inB_in b2) (gM fun M2 hM2 => ?_)
    have hf := ap_eq hf hM2
    refine g_goto (pc' := 17) dL_fold_10 (by decide) ?_
    refine g_iconst (pc' := 18) (0 : Int32) dL_fold_17 rfl (by decide) ?_
    cases hf
    exact g_ireturn dL_fold_18 rfl (by show 2 ≤ 2; omega) (by show 12 ≤ 12; omega)
abbrev mi_L_picked : MI := (yL_picked, Cond.codeWith yL_picked cL_picked 6 (some .int) [(0, 12, 15, 27)], cL_picked, 6, (some .int), [(0, 12, 15, 27)], 2, 12, 0, none)
theorem cf_L_picked : CFw mi_L_picked 5 := ⟨rfl, q_1316, wall_i_LeafStripesLaw, ⟨by decide, by decide, by decide +kernel⟩, by decide, q_1315⟩
def f_L_picked (v0 : Nat) (v1 : Int32) (v2 : Int32) (v3 : Int32) (v4 : Nat) (M : Mem) : Option (Int32 × Mem) :=
  if mK M v0 = 12 then
    catchX (f_X11_picked v0 v1 v2 v3 M) (fun e M1 => if e = 1 then some (1, M1) else none) fun r M1 =>
      if mK M1 v4 = 22 then
        if inB 0 (mN M1 v4) = true then
          ap (sJ M1 v4 (0 : Int32).toNatClampNeg r.toInt64) fun M2 =>
          some (0, M2)
        else none
      else none
  else none
theorem s_L_picked (v0 : Nat) (v1 : Int32) (v2 : Int32) (v3 : Int32) (v4 : Nat) (M : Mem) (r : (Int32 × Mem)) (hf : f_L_picked v0 v1 v2 v3 v4 M = some r) : Sem mi_L_picked 8 [aR v0, aI v1, aI v2, aI v3, aR v4] M (oI r.1) r.2 := by
  unfold f_L_picked at hf
  refine sem_ofH (by decide) rfl rfl (Nat.le_of_ble_eq_true rfl) (lv := [some (aR v0), some (aI v1), some (aI v2), some (aI v3), some (aR v4), none]) rfl ?_
  obtain ⟨h1, hf⟩ := chk_s hf
  refine g_aload (pc' := 2) dL_picked_0 rfl rfl ?_
  refine g_iconst (pc' := 3) (0 : Int32) dL_picked_2 rfl (by decide) ?_
  refine g_aload_n (pc' := 4) dL_picked_3 rfl rfl ?_
  refine g_iload_n (pc' := 5) dL_picked_4 rfl rfl ?_
  refine g_iload_n (pc' := 6) dL_picked_5 rfl rfl ?_
  refine g_iload_n (pc' := 7) dL_picked_6 rfl rfl ?_
  rcases catchX_some hf with ⟨e, M1, hc, hf⟩ | ⟨r1, M1, hc, hf⟩
  · by_cases he : e = 1
    · have hf := ite_t he hf
      cases hf
      refine g_callVC (En := xNS) (fr2 := 7) (As := [aI v1, aI v2, aI v3]) (b := v0) (st := [aI (0 : Int32), aR v4]) (k' := 2) (u' := 12) (pc' := 17) (j := 5) (len := 2) [] (0, 12, 15, 27) [] rfl (by decide) (by decide) q_791 (List.mem_of_getElem? (i := 1) rfl) (fun z hz => by cases hz) cf_X11_picked q_1317 (by omega) (ci := 11) rfl rfl (by decide) dL_picked_7 rfl rfl (Nat.le_of_ble_eq_true rfl) (Or.inl rfl) (by show 0 + 2 ≤ 2; omega) (by show 0 + 12 ≤ 12; omega) (by show 2 ≤ 2; omega) (by show 12 ≤ 12; omega) (Or.inl dL_picked_15) (by decide) (fun _ => rfl) rfl rfl rfl (by decide) h1 (s_ex_xNS he (s_X11_picked v0 v1 v2 v3 M _ hc)) ?_
      refine g_iconst (pc' := 18) (1 : Int32) dL_picked_17 rfl (by decide) ?_
      exact g_ireturn dL_picked_18 rfl (by show 2 ≤ 2; omega) (by show 12 ≤ 12; omega)
    · have hf := ite_f he hf
      cases hf
  · refine g_callVi (pc' := 10) (k' := 2) (u' := 12) (fr2 := 7) (As := [aI v1, aI v2, aI v3]) (b := v0) (st := [aI (0 : Int32), aR v4]) cf_X11_picked q_1317 (by omega) (ci := 11) rfl rfl (by decide) dL_picked_7 rfl rfl rfl (Nat.le_of_ble_eq_true rfl) (Or.inl rfl) (by show 0 + 2 ≤ 2; omega) (by show 0 + 12 ≤ 12; omega) (by show 2 ≤ 2; omega) (by show 12 ≤ 12; omega) h1 (s_X11_picked v0 v1 v2 v3 M _ hc) ?_
    refine g_i2l (pc' := 11) dL_picked_10 rfl ?_
    obtain ⟨h2, hf⟩ := chk_s hf
    obtain ⟨b2, hf⟩ := chk_s hf
    refine g_last (pc' := 12) dL_picked_11 rfl h2 (inB_in b2) (gM fun M2 hM2 => ?_)
    have hf := ap_eq hf hM2
    refine g_goto (pc' := 19) dL_picked_12 (by decide) ?_
    refine g_iconst (pc' := 20) (0 : Int32) dL_picked_19 rfl (by decide) ?_
    cases hf
    exact g_ireturn dL_picked_20 rfl (by show 2 ≤ 2; omega) (by show 12 ≤ 12; omega)
abbrev mi_L_pages : MI := (yL_pages, Cond.codeWith yL_pages cL_pages 5 (some .int) [(0, 10, 13, 27), (0, 10, 17, 13)], cL_pages, 5, (some .int), [(0, 10, 13, 27), (0, 10, 17, 13)], 2, 12, 0, none)
theorem cf_L_pages : CFw mi_L_pages 4 := ⟨rfl, q_1332, wall_i_LeafStripesLaw, ⟨by decide, by decide, by decide +kernel⟩, by decide, q_1331⟩
def f_L_pages (v0 : Nat) (v1 : Int32) (v2 : Int32) (v3 : Nat) (M : Mem) : Option (Int32 × Mem) :=
  if mK M v0 = 12 then
    catchX (f_X11_pages v0 v1 v2 M) (fun e M1 => if e = 1 then some (1, M1) else some (2, M1)) fun r M1 =>
      if mK M1 v3 = 22 then
        if inB 0 (mN M1 v3) = true then
          ap (sJ M1 v3 (0 : Int32).toNatClampNeg r.toInt64) fun M2 =>
          some (0, M2)
        else none
      else none
  else none
theorem s_L_pages (v0 : Nat) (v1 : Int32) (v2 : Int32) (v3 : Nat) (M : Mem) (r : (Int32 × Mem)) (hf : f_L_pages v0 v1 v2 v3 M = some r) : Sem mi_L_pages 8 [aR v0, aI v1, aI v2, aR v3] M (oI r.1) r.2 := by
  unfold f_L_pages at hf
  refine sem_ofH (by decide) rfl rfl (Nat.le_of_ble_eq_true rfl) (lv := [some (aR v0), some (aI v1), some (aI v2), some (aR v3), none]) rfl ?_
  obtain ⟨h1, hf⟩ := chk_s hf
  refine g_aload_n (pc' := 1) dL_pages_0 rfl rfl ?_
  refine g_iconst (pc' := 2) (0 : Int32) dL_pages_1 rfl (by decide) ?_
  refine g_aload_n (pc' := 3) dL_pages_2 rfl rfl ?_
  refine g_iload_n (pc' := 4) dL_pages_3 rfl rfl ?_
  refine g_iload_n (pc' := 5) dL_pages_4 rfl rfl ?_
  rcases catchX_some hf with ⟨e, M1, hc, hf⟩ | ⟨r1, M1, hc, hf⟩
  · by_cases he : e = 1
    · have hf := ite_t he hf
      cases hf
      refine g_callVC (En := xNS) (fr2 := 7) (As := [aI v1, aI v2]) (b := v0) (st := [aI (0 : Int32), aR v3]) (k' := 2) (u' := 12) (pc' := 15) (j := 4) (len := 2) [] (0, 10, 13, 27) [(0, 10, 17, 13)] rfl (by decide) (by decide) q_791 (List.mem_of_getElem? (i := 1) rfl) (fun z hz => by cases hz) cf_X11_pages q_1333 (by omega) (ci := 11) rfl rfl (by decide) dL_pages_5 rfl rfl (Nat.le_of_ble_eq_true rfl) (Or.inl rfl) (by show 0 + 2 ≤ 2; omega) (by show 0 + 12 ≤ 12; omega) (by show 2 ≤ 2; omega) (by show 12 ≤ 12; omega) (Or.inl dL_pages_13) (by decide) (fun _ => rfl) rfl rfl rfl (by decide) h1 (s_ex_xNS he (s_X11_pages v0 v1 v2 M _ hc)) ?_
      refine g_iconst (pc' := 16) (1 : Int32) dL_pages_15 rfl (by decide) ?_
      exact g_ireturn dL_pages_16 rfl (by show 2 ≤ 2; omega) (by show 12 ≤ 12; omega)
    · have hf := ite_f he hf
      cases hf
      refine g_callVC (En := xIA) (fr2 := 7) (As := [aI v1, aI v2]) (b := v0) (st := [aI (0 : Int32), aR v3]) (k' := 2) (u' := 12) (pc' := 19) (j := 4) (len := 2) [(0, 10, 13, 27)] (0, 10, 17, 13) [] rfl (by decide) (by decide) q_173 (List.mem_of_getElem? (i := 0) rfl) (fun z hz => by
            simp only [List.mem_cons, List.not_mem_nil, or_false] at hz
            subst hz
            exact ⟨by decide, q_791, rfl⟩) cf_X11_pages q_1333 (by omega) (ci := 11) rfl rfl (by decide) dL_pages_5 rfl rfl (Nat.le_of_ble_eq_true rfl) (Or.inl rfl) (by show 0 + 2 ≤ 2; omega) (by show 0 + 12 ≤ 12; omega) (by show 2 ≤ 2; omega) (by show 12 ≤ 12; omega) (Or.inl dL_pages_17) (by decide) (fun _ => rfl) rfl rfl rfl (by decide) h1 (s_ex_xIA he (s_X11_pages v0 v1 v2 M _ hc)) ?_
      refine g_iconst (pc' := 20) (2 : Int32) dL_pages_19 rfl (by decide) ?_
      exact g_ireturn dL_pages_20 rfl (by show 2 ≤ 2; omega) (by show 12 ≤ 12; omega)
  · refine g_callVi (pc' := 8) (k' := 2) (u' := 12) (fr2 := 7) (As := [aI v1, aI v2]) (b := v0) (st := [aI (0 : Int32), aR v3]) cf_X11_pages q_1333 (by omega) (ci := 11) rfl rfl (by decide) dL_pages_5 rfl rfl rfl (Nat.le_of_ble_eq_true rfl) (Or.inl rfl) (by show 0 + 2 ≤ 2; omega) (by show 0 + 12 ≤ 12; omega) (by show 2 ≤ 2; omega) (by show 12 ≤ 12; omega) h1 (s_X11_pages v0 v1 v2 M _ hc) ?_
    refine g_i2l (pc' := 9) dL_pages_8 rfl ?_
    obtain ⟨h2, hf⟩ := chk_s hf
    obtain ⟨b2, hf⟩ := chk_s hf
    refine g_last (pc' := 10) dL_pages_9 rfl h2 (inB_in b2) (gM fun M2 hM2 => ?_)
    have hf := ap_eq hf hM2
    refine g_goto (pc' := 21) dL_pages_10 (by decide) ?_
    refine g_iconst (pc' := 22) (0 : Int32) dL_pages_21 rfl (by decide) ?_
    cases hf
    exact g_ireturn dL_pages_22 rfl (by show 2 ≤ 2; omega) (by show 12 ≤ 12; omega)
abbrev mi_L_piped : MI := (yL_piped, Cond.codeWith yL_piped cL_piped 5 (some .int) [(0, 10, 13, 27)], cL_piped, 5, (some .int), [(0, 10, 13, 27)], 2, 12, 0, none)
theorem cf_L_piped : CFw mi_L_piped 4 := ⟨rfl, q_1349, wall_i_LeafStripesLaw, ⟨by decide, by decide, by decide +kernel⟩, by decide, q_1348⟩
def f_L_piped (v0 : Nat) (v1 : Int32) (v2 : Int32) (v3 : Nat) (M : Mem) : Option (Int32 × Mem) :=
  if mK M v0 = 12 then
    catchX (f_X11_piped v0 v1 v2 M) (fun e M1 => if e = 1 then some (1, M1) else none) fun r M1 =>
      if mK M1 v3 = 22 then
        if inB 0 (mN M1 v3) = true then
          ap (sJ M1 v3 (0 : Int32).toNatClampNeg r.toInt64) fun M2 =>
          some (0, M2)
        else none
      else none
  else none
theorem s_L_piped (v0 : Nat) (v1 : Int32) (v2 : Int32) (v3 : Nat) (M : Mem) (r : (Int32 × Mem)) (hf : f_L_piped v0 v1 v2 v3 M = some r) : Sem mi_L_piped 8 [aR v0, aI v1, aI v2, aR v3] M (oI r.1) r.2 := by
  unfold f_L_piped at hf
  refine sem_ofH (by decide) rfl rfl (Nat.le_of_ble_eq_true rfl) (lv := [some (aR v0), some (aI v1), some (aI v2), some (aR v3), none]) rfl ?_
  obtain ⟨h1, hf⟩ := chk_s hf
  refine g_aload_n (pc' := 1) dL_piped_0 rfl rfl ?_
  refine g_iconst (pc' := 2) (0 : Int32) dL_piped_1 rfl (by decide) ?_
  refine g_aload_n (pc' := 3) dL_piped_2 rfl rfl ?_
  refine g_iload_n (pc' := 4) dL_piped_3 rfl rfl ?_
  refine g_iload_n (pc' := 5) dL_piped_4 rfl rfl ?_
  rcases catchX_some hf with ⟨e, M1, hc, hf⟩ | ⟨r1, M1, hc, hf⟩
  · by_cases he : e = 1
    · have hf := ite_t he hf
      cases hf
      refine g_callVC (En := xNS) (fr2 := 7) (As := [aI v1, aI v2]) (b := v0) (st := [aI (0 : Int32), aR v3]) (k' := 2) (u' := 12) (pc' := 15) (j := 4) (len := 2) [] (0, 10, 13, 27) [] rfl (by decide) (by decide) q_791 (List.mem_of_getElem? (i := 1) rfl) (fun z hz => by cases hz) cf_X11_piped q_1350 (by omega) (ci := 11) rfl rfl (by decide) dL_piped_5 rfl rfl (Nat.le_of_ble_eq_true rfl) (Or.inl rfl) (by show 0 + 2 ≤ 2; omega) (by show 0 + 12 ≤ 12; omega) (by show 2 ≤ 2; omega) (by show 12 ≤ 12; omega) (Or.inl dL_piped_13) (by decide) (fun _ => rfl) rfl rfl rfl (by decide) h1 (s_ex_xNS he (s_X11_piped v0 v1 v2 M _ hc)) ?_
      refine g_iconst (pc' := 16) (1 : Int32) dL_piped_15 rfl (by decide) ?_
      exact g_ireturn dL_piped_16 rfl (by show 2 ≤ 2; omega) (by show 12 ≤ 12; omega)
    · have hf := ite_f he hf
      cases hf
  · refine g_callVi (pc' := 8) (k' := 2) (u' := 12) (fr2 := 7) (As := [aI v1, aI v2]) (b := v0) (st := [aI (0 : Int32), aR v3]) cf_X11_piped q_1350 (by omega) (ci := 11) rfl rfl (by decide) dL_piped_5 rfl rfl rfl (Nat.le_of_ble_eq_true rfl) (Or.inl rfl) (by show 0 + 2 ≤ 2; omega) (by show 0 + 12 ≤ 12; omega) (by show 2 ≤ 2; omega) (by show 12 ≤ 12; omega) h1 (s_X11_piped v0 v1 v2 M _ hc) ?_
    refine g_i2l (pc' := 9) dL_piped_8 rfl ?_
    obtain ⟨h2, hf⟩ := chk_s hf
    obtain ⟨b2, hf⟩ := chk_s hf
    refine g_last (pc' := 10) dL_piped_9 rfl h2 (inB_in b2) (gM fun M2 hM2 => ?_)
    have hf := ap_eq hf hM2
    refine g_goto (pc' := 17) dL_piped_10 (by decide) ?_
    refine g_iconst (pc' := 18) (0 : Int32) dL_piped_17 rfl (by decide) ?_
    cases hf
    exact g_ireturn dL_piped_18 rfl (by show 2 ≤ 2; omega) (by show 12 ≤ 12; omega)
abbrev mi_L_set : MI := (yL_set, Cond.codeWith yL_set cL_set 6 (some .int) [(0, 12, 15, 27)], cL_set, 6, (some .int), [(0, 12, 15, 27)], 3, 17, 1, none)
theorem cf_L_set : CFw mi_L_set 5 := ⟨rfl, q_1418, wall_i_LeafStripesLaw, ⟨by decide, by decide, by decide +kernel⟩, by decide, q_1417⟩
def f_L_set (v0 : Nat) (v1 : Int32) (v2 : Int32) (v3 : Int32) (v4 : Nat) (M : Mem) : Option (Int32 × Mem) :=
  if mK M v0 = 12 then
    if okrB M [v0, v4, v4] = true then
      catchX (f_X11_set v0 v1 v2 v3 M) (fun e M1 => if e = 1 then some (1, M1) else none) fun r M1 =>
        if mK M1 v4 = 22 then
          if inB 0 (mN M1 v4) = true then
            ap (sJ M1 v4 (0 : Int32).toNatClampNeg r.toInt64) fun M2 =>
            some (0, M2)
          else none
        else none
    else none
  else none
theorem s_L_set (v0 : Nat) (v1 : Int32) (v2 : Int32) (v3 : Int32) (v4 : Nat) (M : Mem) (r : (Int32 × Mem)) (hf : f_L_set v0 v1 v2 v3 v4 M = some r) : Sem mi_L_set 9 [aR v0, aI v1, aI v2, aI v3, aR v4] M (oI r.1) r.2 := by
  unfold f_L_set at hf
  refine sem_ofH (by decide) rfl rfl (Nat.le_of_ble_eq_true rfl) (lv := [some (aR v0), some (aI v1), some (aI v2), some (aI v3), some (aR v4), none]) rfl ?_
  obtain ⟨h1, hf⟩ := chk_s hf
  obtain ⟨ha, hf⟩ := chk_s hf
  refine g_aload (pc' := 2) dL_set_0 rfl rfl ?_
  refine g_iconst (pc' := 3) (0 : Int32) dL_set_2 rfl (by decide) ?_
  refine g_aload_n (pc' := 4) dL_set_3 rfl rfl ?_
  refine g_iload_n (pc' := 5) dL_set_4 rfl rfl ?_
  refine g_iload_n (pc' := 6) dL_set_5 rfl rfl ?_
  refine g_iload_n (pc' := 7) dL_set_6 rfl rfl ?_
  rcases catchX_some hf with ⟨e, M1, hc, hf⟩ | ⟨r1, M1, hc, hf⟩
  · by_cases he : e = 1
    · have hf := ite_t he hf
      cases hf
      refine g_callVC (En := xNS) (fr2 := 8) (As := [aI v1, aI v2, aI v3]) (b := v0) (st := [aI (0 : Int32), aR v4]) (k' := 3) (u' := 17) (pc' := 17) (j := 5) (len := 2) [] (0, 12, 15, 27) [] rfl (by decide) (by decide) q_791 (List.mem_of_getElem? (i := 1) rfl) (fun z hz => by cases hz) cf_X11_set q_1419 (by omega) (ci := 11) rfl rfl (by decide) dL_set_7 rfl rfl (Nat.le_of_ble_eq_true rfl) (Or.inr ⟨by decide, okrB_ok ha rfl⟩) (by show 0 + 3 ≤ 3; omega) (by show 0 + 17 ≤ 17; omega) (by show 3 ≤ 3; omega) (by show 17 ≤ 17; omega) (Or.inl dL_set_15) (by decide) (fun _ => rfl) rfl rfl rfl (by decide) h1 (s_ex_xNS he (s_X11_set v0 v1 v2 v3 M _ hc)) ?_
      refine g_iconst (pc' := 18) (1 : Int32) dL_set_17 rfl (by decide) ?_
      exact g_ireturn dL_set_18 rfl (by show 3 ≤ 3; omega) (by show 17 ≤ 17; omega)
    · have hf := ite_f he hf
      cases hf
  · refine g_callVi (pc' := 10) (k' := 3) (u' := 17) (fr2 := 8) (As := [aI v1, aI v2, aI v3]) (b := v0) (st := [aI (0 : Int32), aR v4]) cf_X11_set q_1419 (by omega) (ci := 11) rfl rfl (by decide) dL_set_7 rfl rfl rfl (Nat.le_of_ble_eq_true rfl) (Or.inr ⟨by decide, okrB_ok ha rfl⟩) (by show 0 + 3 ≤ 3; omega) (by show 0 + 17 ≤ 17; omega) (by show 3 ≤ 3; omega) (by show 17 ≤ 17; omega) h1 (s_X11_set v0 v1 v2 v3 M _ hc) ?_
    refine g_i2l (pc' := 11) dL_set_10 rfl ?_
    obtain ⟨h2, hf⟩ := chk_s hf
    obtain ⟨b2, hf⟩ := chk_s hf
    refine g_last (pc' := 12) dL_set_11 rfl h2 (inB_in b2) (gM fun M2 hM2 => ?_)
    have hf := ap_eq hf hM2
    refine g_goto (pc' := 19) dL_set_12 (by decide) ?_
    refine g_iconst (pc' := 20) (0 : Int32) dL_set_19 rfl (by decide) ?_
    cases hf
    exact g_ireturn dL_set_20 rfl (by show 3 ≤ 3; omega) (by show 17 ≤ 17; omega)
abbrev mi_L_damage : MI := (yL_damage, Cond.codeWith yL_damage cL_damage 7 (some .int) [(0, 14, 17, 27)], cL_damage, 7, (some .int), [(0, 14, 17, 27)], 3, 18, 1, none)
theorem cf_L_damage : CFw mi_L_damage 6 := ⟨rfl, q_1430, wall_i_LeafStripesLaw, ⟨by decide, by decide, by decide +kernel⟩, by decide, q_1429⟩
def f_L_damage (v0 : Nat) (v1 : Int32) (v2 : Int32) (v3 : Int32) (v4 : Int32) (v5 : Nat) (M : Mem) : Option (Int32 × Mem) :=
  if mK M v0 = 12 then
    if okrB M [v0, v5, v5] = true then
      catchX (f_X11_damage v0 v1 v2 v3 v4 M) (fun e M1 => if e = 1 then some (1, M1) else none) fun r M1 =>
        if mK M1 v5 = 22 then
          if inB 0 (mN M1 v5) = true then
            ap (sJ M1 v5 (0 : Int32).toNatClampNeg r.toInt64) fun M2 =>
            some (0, M2)
          else none
        else none
    else none
  else none
theorem s_L_damage (v0 : Nat) (v1 : Int32) (v2 : Int32) (v3 : Int32) (v4 : Int32) (v5 : Nat) (M : Mem) (r : (Int32 × Mem)) (hf : f_L_damage v0 v1 v2 v3 v4 v5 M = some r) : Sem mi_L_damage 9 [aR v0, aI v1, aI v2, aI v3, aI v4, aR v5] M (oI r.1) r.2 := by
  unfold f_L_damage at hf
  refine sem_ofH (by decide) rfl rfl (Nat.le_of_ble_eq_true rfl) (lv := [some (aR v0), some (aI v1), some (aI v2), some (aI v3), some (aI v4), some (aR v5), none]) rfl ?_
  obtain ⟨h1, hf⟩ := chk_s hf
  obtain ⟨ha, hf⟩ := chk_s hf
  refine g_aload (pc' := 2) dL_damage_0 rfl rfl ?_
  refine g_iconst (pc' := 3) (0 : Int32) dL_damage_2 rfl (by decide) ?_
  refine g_aload_n (pc' := 4) dL_damage_3 rfl rfl ?_
  refine g_iload_n (pc' := 5) dL_damage_4 rfl rfl ?_
  refine g_iload_n (pc' := 6) dL_damage_5 rfl rfl ?_
  refine g_iload_n (pc' := 7) dL_damage_6 rfl rfl ?_
  refine g_iload (pc' := 9) dL_damage_7 rfl rfl ?_
  rcases catchX_some hf with ⟨e, M1, hc, hf⟩ | ⟨r1, M1, hc, hf⟩
  · by_cases he : e = 1
    · have hf := ite_t he hf
      cases hf
      refine g_callVC (En := xNS) (fr2 := 8) (As := [aI v1, aI v2, aI v3, aI v4]) (b := v0) (st := [aI (0 : Int32), aR v5]) (k' := 3) (u' := 18) (pc' := 19) (j := 6) (len := 2) [] (0, 14, 17, 27) [] rfl (by decide) (by decide) q_791 (List.mem_of_getElem? (i := 1) rfl) (fun z hz => by cases hz) cf_X11_damage q_1431 (by omega) (ci := 11) rfl rfl (by decide) dL_damage_9 rfl rfl (Nat.le_of_ble_eq_true rfl) (Or.inr ⟨by decide, okrB_ok ha rfl⟩) (by show 0 + 3 ≤ 3; omega) (by show 0 + 18 ≤ 18; omega) (by show 3 ≤ 3; omega) (by show 18 ≤ 18; omega) (Or.inl dL_damage_17) (by decide) (fun _ => rfl) rfl rfl rfl (by decide) h1 (s_ex_xNS he (s_X11_damage v0 v1 v2 v3 v4 M _ hc)) ?_
      refine g_iconst (pc' := 20) (1 : Int32) dL_damage_19 rfl (by decide) ?_
      exact g_ireturn dL_damage_20 rfl (by show 3 ≤ 3; omega) (by show 18 ≤ 18; omega)
    · have hf := ite_f he hf
      cases hf
  · refine g_callVi (pc' := 12) (k' := 3) (u' := 18) (fr2 := 8) (As := [aI v1, aI v2, aI v3, aI v4]) (b := v0) (st := [aI (0 : Int32), aR v5]) cf_X11_damage q_1431 (by omega) (ci := 11) rfl rfl (by decide) dL_damage_9 rfl rfl rfl (Nat.le_of_ble_eq_true rfl) (Or.inr ⟨by decide, okrB_ok ha rfl⟩) (by show 0 + 3 ≤ 3; omega) (by show 0 + 18 ≤ 18; omega) (by show 3 ≤ 3; omega) (by show 18 ≤ 18; omega) h1 (s_X11_damage v0 v1 v2 v3 v4 M _ hc) ?_
    refine g_i2l (pc' := 13) dL_damage_12 rfl ?_
    obtain ⟨h2, hf⟩ := chk_s hf
    obtain ⟨b2, hf⟩ := chk_s hf
    refine g_last (pc' := 14) dL_damage_13 rfl h2 (inB_in b2) (gM fun M2 hM2 => ?_)
    have hf := ap_eq hf hM2
    refine g_goto (pc' := 21) dL_damage_14 (by decide) ?_
    refine g_iconst (pc' := 22) (0 : Int32) dL_damage_21 rfl (by decide) ?_
    cases hf
    exact g_ireturn dL_damage_22 rfl (by show 3 ≤ 3; omega) (by show 18 ≤ 18; omega)
abbrev mi_L_years : MI := (yL_years, Cond.codeWith yL_years cL_years 6 (some .int) [(0, 12, 15, 27), (0, 12, 19, 13)], cL_years, 6, (some .int), [(0, 12, 15, 27), (0, 12, 19, 13)], 1, 6, 0, none)
theorem cf_L_years : CFw mi_L_years 5 := ⟨rfl, q_1472, wall_i_LeafStripesLaw, ⟨by decide, by decide, by decide +kernel⟩, by decide, q_1471⟩
def f_L_years (v0 : Nat) (v1 : Int32) (v2 : Int32) (v3 : Int32) (v4 : Nat) (M : Mem) : Option (Int32 × Mem) :=
  if mK M v0 = 12 then
    catchX (f_X11_years v0 v1 v2 v3 M) (fun e M1 => if e = 1 then some (1, M1) else some (2, M1)) fun r M1 =>
      if mK M1 v4 = 22 then
        if inB 0 (mN M1 v4) = true then
          ap (sJ M1 v4 (0 : Int32).toNatClampNeg r.toInt64) fun M2 =>
          some (0, M2)
        else none
      else none
  else none
theorem s_L_years (v0 : Nat) (v1 : Int32) (v2 : Int32) (v3 : Int32) (v4 : Nat) (M : Mem) (r : (Int32 × Mem)) (hf : f_L_years v0 v1 v2 v3 v4 M = some r) : Sem mi_L_years 28 [aR v0, aI v1, aI v2, aI v3, aR v4] M (oI r.1) r.2 := by
  unfold f_L_years at hf
  refine sem_ofH (by decide) rfl rfl (Nat.le_of_ble_eq_true rfl) (lv := [some (aR v0), some (aI v1), some (aI v2), some (aI v3), some (aR v4), none]) rfl ?_
  obtain ⟨h1, hf⟩ := chk_s hf
  refine g_aload (pc' := 2) dL_years_0 rfl rfl ?_
  refine g_iconst (pc' := 3) (0 : Int32) dL_years_2 rfl (by decide) ?_
  refine g_aload_n (pc' := 4) dL_years_3 rfl rfl ?_
  refine g_iload_n (pc' := 5) dL_years_4 rfl rfl ?_
  refine g_iload_n (pc' := 6) dL_years_5 rfl rfl ?_
  refine g_iload_n (pc' := 7) dL_years_6 rfl rfl ?_
  rcases catchX_some hf with ⟨e, M1, hc, hf⟩ | ⟨r1, M1, hc, hf⟩
  · by_cases he : e = 1
    · have hf := ite_t he hf
      cases hf
      refine g_callVC (En := xNS) (fr2 := 27) (As := [aI v1, aI v2, aI v3]) (b := v0) (st := [aI (0 : Int32), aR v4]) (k' := 1) (u' := 6) (pc' := 17) (j := 5) (len := 2) [] (0, 12, 15, 27) [(0, 12, 19, 13)] rfl (by decide) (by decide) q_791 (List.mem_of_getElem? (i := 1) rfl) (fun z hz => by cases hz) cf_X11_years q_1473 (by omega) (ci := 11) rfl rfl (by decide) dL_years_7 rfl rfl (Nat.le_of_ble_eq_true rfl) (Or.inl rfl) (by show 0 + 1 ≤ 1; omega) (by show 0 + 6 ≤ 6; omega) (by show 1 ≤ 1; omega) (by show 6 ≤ 6; omega) (Or.inl dL_years_15) (by decide) (fun _ => rfl) rfl rfl rfl (by decide) h1 (s_ex_xNS he (s_X11_years v0 v1 v2 v3 M _ hc)) ?_
      refine g_iconst (pc' := 18) (1 : Int32) dL_years_17 rfl (by decide) ?_
      exact g_ireturn dL_years_18 rfl (by show 1 ≤ 1; omega) (by show 6 ≤ 6; omega)
    · have hf := ite_f he hf
      cases hf
      refine g_callVC (En := xIA) (fr2 := 27) (As := [aI v1, aI v2, aI v3]) (b := v0) (st := [aI (0 : Int32), aR v4]) (k' := 1) (u' := 6) (pc' := 21) (j := 5) (len := 2) [(0, 12, 15, 27)] (0, 12, 19, 13) [] rfl (by decide) (by decide) q_173 (List.mem_of_getElem? (i := 0) rfl) (fun z hz => by
            simp only [List.mem_cons, List.not_mem_nil, or_false] at hz
            subst hz
            exact ⟨by decide, q_791, rfl⟩) cf_X11_years q_1473 (by omega) (ci := 11) rfl rfl (by decide) dL_years_7 rfl rfl (Nat.le_of_ble_eq_true rfl) (Or.inl rfl) (by show 0 + 1 ≤ 1; omega) (by show 0 + 6 ≤ 6; omega) (by show 1 ≤ 1; omega) (by show 6 ≤ 6; omega) (Or.inl dL_years_19) (by decide) (fun _ => rfl) rfl rfl rfl (by decide) h1 (s_ex_xIA he (s_X11_years v0 v1 v2 v3 M _ hc)) ?_
      refine g_iconst (pc' := 22) (2 : Int32) dL_years_21 rfl (by decide) ?_
      exact g_ireturn dL_years_22 rfl (by show 1 ≤ 1; omega) (by show 6 ≤ 6; omega)
  · refine g_callVi (pc' := 10) (k' := 1) (u' := 6) (fr2 := 27) (As := [aI v1, aI v2, aI v3]) (b := v0) (st := [aI (0 : Int32), aR v4]) cf_X11_years q_1473 (by omega) (ci := 11) rfl rfl (by decide) dL_years_7 rfl rfl rfl (Nat.le_of_ble_eq_true rfl) (Or.inl rfl) (by show 0 + 1 ≤ 1; omega) (by show 0 + 6 ≤ 6; omega) (by show 1 ≤ 1; omega) (by show 6 ≤ 6; omega) h1 (s_X11_years v0 v1 v2 v3 M _ hc) ?_
    refine g_i2l (pc' := 11) dL_years_10 rfl ?_
    obtain ⟨h2, hf⟩ := chk_s hf
    obtain ⟨b2, hf⟩ := chk_s hf
    refine g_last (pc' := 12) dL_years_11 rfl h2 (inB_in b2) (gM fun M2 hM2 => ?_)
    have hf := ap_eq hf hM2
    refine g_goto (pc' := 23) dL_years_12 (by decide) ?_
    refine g_iconst (pc' := 24) (0 : Int32) dL_years_23 rfl (by decide) ?_
    cases hf
    exact g_ireturn dL_years_24 rfl (by show 1 ≤ 1; omega) (by show 6 ≤ 6; omega)
