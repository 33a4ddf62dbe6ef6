abbrev mi_X12_takeFields : MI := (yX12_takeFields, Cond.code yX12_takeFields cX12_takeFields 5 none, cX12_takeFields, 5, none, [], 0, 0, 0, none)
theorem cf_X12_takeFields : CFv mi_X12_takeFields 1 := ⟨⟨rfl, q_462, wall_i_LeafStripesModel, ⟨by decide, by decide, by decide +kernel⟩, by decide⟩, q_460, q_461⟩
abbrev mi_X12_schema : MI := (yX12_schema, Cond.code yX12_schema cX12_schema 3 (some .int), cX12_schema, 3, (some .int), [], 0, 0, 0, none)
theorem cf_X12_schema : CFv mi_X12_schema 1 := ⟨⟨rfl, q_361, wall_i_LeafStripesModel, ⟨by decide, by decide, by decide +kernel⟩, by decide⟩, q_359, q_360⟩
abbrev mi_X12_view : MI := (yX12_view, Cond.code yX12_view cX12_view 2 (some .int), cX12_view, 2, (some .int), [], 0, 0, 0, none)
theorem cf_X12_view : CFv mi_X12_view 1 := ⟨⟨rfl, q_752, wall_i_LeafStripesModel, ⟨by decide, by decide, by decide +kernel⟩, by decide⟩, q_750, q_751⟩
abbrev mi_X12_fault : MI := (yX12_fault, Cond.code yX12_fault cX12_fault 1 (some .int), cX12_fault, 1, (some .int), [], 0, 0, 0, none)
theorem cf_X12_fault : CFv mi_X12_fault 0 := ⟨⟨rfl, q_787, wall_i_LeafStripesModel, ⟨by decide, by decide, by decide +kernel⟩, by decide⟩, q_785, q_786⟩
abbrev mi_X12_repAt : MI := (yX12_repAt, Cond.code yX12_repAt cX12_repAt 3 (some .int), cX12_repAt, 3, (some .int), [], 0, 0, 0, none)
theorem cf_X12_repAt : CFv mi_X12_repAt 2 := ⟨⟨rfl, q_659, wall_i_LeafStripesModel, ⟨by decide, by decide, by decide +kernel⟩, by decide⟩, q_657, q_658⟩
abbrev mi_X12_defAt : MI := (yX12_defAt, Cond.code yX12_defAt cX12_defAt 3 (some .int), cX12_defAt, 3, (some .int), [], 0, 0, 0, none)
theorem cf_X12_defAt : CFv mi_X12_defAt 2 := ⟨⟨rfl, q_663, wall_i_LeafStripesModel, ⟨by decide, by decide, by decide +kernel⟩, by decide⟩, q_661, q_662⟩
abbrev mi_X12_valueAt : MI := (yX12_valueAt, Cond.code yX12_valueAt cX12_valueAt 3 (some .int), cX12_valueAt, 3, (some .int), [], 0, 0, 0, none)
theorem cf_X12_valueAt : CFv mi_X12_valueAt 2 := ⟨⟨rfl, q_899, wall_i_LeafStripesModel, ⟨by decide, by decide, by decide +kernel⟩, by decide⟩, q_897, q_898⟩
abbrev mi_X12_hasValue : MI := (yX12_hasValue, Cond.code yX12_hasValue cX12_hasValue 3 (some .boolean), cX12_hasValue, 3, (some .boolean), [], 0, 0, 0, none)
theorem cf_X12_hasValue : CFv mi_X12_hasValue 2 := ⟨⟨rfl, q_1013, wall_i_LeafStripesModel, ⟨by decide, by decide, by decide +kernel⟩, by decide⟩, q_1011, q_1012⟩
abbrev mi_X12_put : MI := (yX12_put, Cond.code yX12_put cX12_put 6 none, cX12_put, 6, none, [], 0, 0, 0, none)
theorem cf_X12_put : CFv mi_X12_put 5 := ⟨⟨rfl, q_720, wall_i_LeafStripesModel, ⟨by decide, by decide, by decide +kernel⟩, by decide⟩, q_718, q_719⟩
abbrev mi_X12_append : MI := (yX12_append, Cond.code yX12_append cX12_append 5 none, cX12_append, 5, none, [], 0, 0, 0, none)
theorem cf_X12_append : CFv mi_X12_append 4 := ⟨⟨rfl, q_716, wall_i_LeafStripesModel, ⟨by decide, by decide, by decide +kernel⟩, by decide⟩, q_714, q_715⟩
abbrev mi_X12_pack : MI := (yX12_pack, Cond.code yX12_pack cX12_pack 4 none, cX12_pack, 4, none, [], 0, 0, 0, none)
theorem cf_X12_pack : CFv mi_X12_pack 2 := ⟨⟨rfl, q_697, wall_i_LeafStripesModel, ⟨by decide, by decide, by decide +kernel⟩, by decide⟩, q_695, q_696⟩
abbrev mi_X12_unpack : MI := (yX12_unpack, Cond.code yX12_unpack cX12_unpack 4 none, cX12_unpack, 4, none, [], 0, 0, 0, none)
theorem cf_X12_unpack : CFv mi_X12_unpack 2 := ⟨⟨rfl, q_737, wall_i_LeafStripesModel, ⟨by decide, by decide, by decide +kernel⟩, by decide⟩, q_735, q_736⟩
abbrev mi_X12_isInside : MI := (yX12_isInside, Cond.code yX12_isInside cX12_isInside 4 (some .boolean), cX12_isInside, 4, (some .boolean), [], 0, 0, 0, none)
theorem cf_X12_isInside : CFv mi_X12_isInside 2 := ⟨⟨rfl, q_689, wall_i_LeafStripesModel, ⟨by decide, by decide, by decide +kernel⟩, by decide⟩, q_687, q_688⟩
abbrev mi_X12_lackIn : MI := (yX12_lackIn, Cond.code yX12_lackIn cX12_lackIn 5 none, cX12_lackIn, 5, none, [], 0, 0, 0, none)
theorem cf_X12_lackIn : CFv mi_X12_lackIn 3 := ⟨⟨rfl, q_712, wall_i_LeafStripesModel, ⟨by decide, by decide, by decide +kernel⟩, by decide⟩, q_710, q_711⟩
abbrev mi_X12_isTooMuch : MI := (yX12_isTooMuch, Cond.code yX12_isTooMuch cX12_isTooMuch 3 (some .boolean), cX12_isTooMuch, 3, (some .boolean), [], 0, 0, 0, none)
theorem cf_X12_isTooMuch : CFv mi_X12_isTooMuch 0 := ⟨⟨rfl, q_733, wall_i_LeafStripesModel, ⟨by decide, by decide, by decide +kernel⟩, by decide⟩, q_731, q_732⟩
abbrev mi_X12_readItem : MI := (yX12_readItem, Cond.code yX12_readItem cX12_readItem 5 none, cX12_readItem, 5, none, [], 0, 0, 0, none)
theorem cf_X12_readItem : CFv mi_X12_readItem 3 := ⟨⟨rfl, q_724, wall_i_LeafStripesModel, ⟨by decide, by decide, by decide +kernel⟩, by decide⟩, q_722, q_723⟩
abbrev mi_X12_readMany : MI := (yX12_readMany, Cond.code yX12_readMany cX12_readMany 5 none, cX12_readMany, 5, none, [], 0, 0, 0, none)
theorem cf_X12_readMany : CFv mi_X12_readMany 3 := ⟨⟨rfl, q_729, wall_i_LeafStripesModel, ⟨by decide, by decide, by decide +kernel⟩, by decide⟩, q_707, q_708⟩
abbrev mi_X12_readValues : MI := (yX12_readValues, Cond.code yX12_readValues cX12_readValues 5 none, cX12_readValues, 5, none, [], 0, 0, 0, none)
theorem cf_X12_readValues : CFv mi_X12_readValues 3 := ⟨⟨rfl, q_705, wall_i_LeafStripesModel, ⟨by decide, by decide, by decide +kernel⟩, by decide⟩, q_703, q_704⟩
abbrev mi_X12_oftenAround : MI := (yX12_oftenAround, Cond.code yX12_oftenAround cX12_oftenAround 4 (some .int), cX12_oftenAround, 4, (some .int), [], 0, 0, 0, none)
theorem cf_X12_oftenAround : CFv mi_X12_oftenAround 2 := ⟨⟨rfl, q_667, wall_i_LeafStripesModel, ⟨by decide, by decide, by decide +kernel⟩, by decide⟩, q_665, q_666⟩
set_option maxRecDepth 100000 in
set_option maxHeartbeats 4000000 in
def f_X12_takeFields_171 (k31 : Nat → Int32 → Int32 → Int32 → Mem → Option (Unit × Mem)) : Nat → Nat → Int32 → Int32 → Int32 → Int32 → Mem → Option (Unit × Mem)
  | 0, _, _, _, _, _, _ => none
  | n + 1, v0, v1, v2, v3, v4, M =>
    if (4 : Int32) ≤ v4 then
      k31 v0 v1 v2 (v3 + 1) M
    else
      if mK M v0 = 13 then
        if mK M (mR M v0 22) = 21 then
          if inB (((4 : Int32) * ((32 : Int32) + v3)) + v4) (mN M (mR M v0 22)) = true then
            if inB (((4 : Int32) * (v2 + v3)) + v4) (mN M (mR M v0 22)) = true then
              ap (sI M (mR M v0 22) (((4 : Int32) * (v2 + v3)) + v4).toNatClampNeg (mI M (mR M v0 22) (((4 : Int32) * ((32 : Int32) + v3)) + v4).toNatClampNeg)) fun M6 =>
              f_X12_takeFields_171 k31 n v0 v1 v2 v3 (v4 + 1) M6
            else none
          else none
        else none
      else none
set_option maxRecDepth 100000 in
set_option maxHeartbeats 4000000 in
def f_X12_takeFields_167 (k31 : Nat → Int32 → Int32 → Int32 → Mem → Option (Unit × Mem)) (v0 : Nat) (v1 : Int32) (v2 : Int32) (v3 : Int32) (w0 : Nat) (w1 : Int32) (w2 : Int32) (M : Mem) : Option (Unit × Mem) :=
  if mK M w0 = 21 then
    if inB w1 (mN M w0) = true then
      ap (sI M w0 w1.toNatClampNeg w2) fun M3 =>
      f_X12_takeFields_171 k31 FUEL v0 v1 v2 v3 (0 : Int32) M3
    else none
  else none
set_option maxRecDepth 100000 in
set_option maxHeartbeats 4000000 in
def f_X12_takeFields_31 : Nat → Nat → Int32 → Int32 → Int32 → Mem → Option (Unit × Mem)
  | 0, _, _, _, _, _ => none
  | n + 1, v0, v1, v2, v3, M =>
    if mK M v0 = 13 then
      if mK M (mR M v0 23) = 21 then
        if inB (2 : Int32) (mN M (mR M v0 23)) = true then
          if (mI M (mR M v0 23) (2 : Int32).toNatClampNeg) ≤ v3 then
            some ((), M)
          else
            if mK M (mR M v0 15) = 21 then
              if inB ((32 : Int32) + v3) (mN M (mR M v0 15)) = true then
                if inB (v2 + v3) (mN M (mR M v0 15)) = true then
                  ap (sI M (mR M v0 15) (v2 + v3).toNatClampNeg (mI M (mR M v0 15) ((32 : Int32) + v3).toNatClampNeg)) fun M8 =>
                  if mK M8 v0 = 13 then
                    if mK M8 (mR M8 v0 16) = 21 then
                      if inB ((32 : Int32) + v3) (mN M8 (mR M8 v0 16)) = true then
                        if inB (v2 + v3) (mN M8 (mR M8 v0 16)) = true then
                          ap (sI M8 (mR M8 v0 16) (v2 + v3).toNatClampNeg (mI M8 (mR M8 v0 16) ((32 : Int32) + v3).toNatClampNeg)) fun M13 =>
                          if mK M13 v0 = 13 then
                            if mK M13 (mR M13 v0 17) = 21 then
                              if inB ((32 : Int32) + v3) (mN M13 (mR M13 v0 17)) = true then
                                if inB (v2 + v3) (mN M13 (mR M13 v0 17)) = true then
                                  ap (sI M13 (mR M13 v0 17) (v2 + v3).toNatClampNeg (mI M13 (mR M13 v0 17) ((32 : Int32) + v3).toNatClampNeg)) fun M18 =>
                                  if mK M18 v0 = 13 then
                                    if mK M18 (mR M18 v0 18) = 21 then
                                      if inB ((32 : Int32) + v3) (mN M18 (mR M18 v0 18)) = true then
                                        if inB (v2 + v3) (mN M18 (mR M18 v0 18)) = true then
                                          ap (sI M18 (mR M18 v0 18) (v2 + v3).toNatClampNeg (mI M18 (mR M18 v0 18) ((32 : Int32) + v3).toNatClampNeg)) fun M23 =>
                                          if mK M23 v0 = 13 then
                                            if mK M23 (mR M23 v0 19) = 21 then
                                              if inB ((32 : Int32) + v3) (mN M23 (mR M23 v0 19)) = true then
                                                if inB (v2 + v3) (mN M23 (mR M23 v0 19)) = true then
                                                  ap (sI M23 (mR M23 v0 19) (v2 + v3).toNatClampNeg (mI M23 (mR M23 v0 19) ((32 : Int32) + v3).toNatClampNeg)) fun M28 =>
                                                  if mK M28 v0 = 13 then
                                                    if mK M28 (mR M28 v0 20) = 21 then
                                                      if inB ((32 : Int32) + v3) (mN M28 (mR M28 v0 20)) = true then
                                                        if inB (v2 + v3) (mN M28 (mR M28 v0 20)) = true then
                                                          ap (sI M28 (mR M28 v0 20) (v2 + v3).toNatClampNeg (mI M28 (mR M28 v0 20) ((32 : Int32) + v3).toNatClampNeg)) fun M33 =>
                                                          if mK M33 v0 = 13 then
                                                            if v1 = 0 then
                                                              f_X12_takeFields_167 (f_X12_takeFields_31 n) v0 v1 v2 v3 (mR M33 v0 21) (v2 + v3) v3 M33
                                                            else
                                                              if mK M33 (mR M33 v0 21) = 21 then
                                                                if inB ((32 : Int32) + v3) (mN M33 (mR M33 v0 21)) = true then
                                                                  f_X12_takeFields_167 (f_X12_takeFields_31 n) v0 v1 v2 v3 (mR M33 v0 21) (v2 + v3) (mI M33 (mR M33 v0 21) ((32 : Int32) + v3).toNatClampNeg) M33
                                                                else none
                                                              else none
                                                          else none
                                                        else none
                                                      else none
                                                    else none
                                                  else none
                                                else none
                                              else none
                                            else none
                                          else none
                                        else none
                                      else none
                                    else none
                                  else none
                                else none
                              else none
                            else none
                          else none
                        else none
                      else none
                    else none
                  else none
                else none
              else none
            else none
        else none
      else none
    else none
set_option maxRecDepth 100000 in
set_option maxHeartbeats 4000000 in
def f_X12_takeFields (v0 : Nat) (v1 : Int32) (M : Mem) : Option (Unit × Mem) :=
  if mK M v0 = 13 then
    if mK M (mR M v0 23) = 21 then
      if inB (2 : Int32) (mN M (mR M v0 23)) = true then
        if inB v1 (mN M (mR M v0 23)) = true then
          ap (sI M (mR M v0 23) v1.toNatClampNeg (mI M (mR M v0 23) (2 : Int32).toNatClampNeg)) fun M5 =>
          if mK M5 v0 = 13 then
            if mK M5 (mR M5 v0 24) = 21 then
              if inB (2 : Int32) (mN M5 (mR M5 v0 24)) = true then
                if inB v1 (mN M5 (mR M5 v0 24)) = true then
                  ap (sI M5 (mR M5 v0 24) v1.toNatClampNeg (mI M5 (mR M5 v0 24) (2 : Int32).toNatClampNeg)) fun M10 =>
                  f_X12_takeFields_31 FUEL v0 v1 (v1 * (16 : Int32)) (0 : Int32) M10
                else none
              else none
            else none
          else none
        else none
      else none
    else none
  else none
set_option maxRecDepth 100000 in
set_option maxHeartbeats 4000000 in
theorem s_X12_takeFields_171 (k31 : Nat → Int32 → Int32 → Int32 → Mem → Option (Unit × Mem)) (hk31 : ∀ (v0 : Nat) (v1 : Int32) (v2 : Int32) (v3 : Int32) (M : Mem) (r : (Unit × Mem)), k31 v0 v1 v2 v3 M = some r → G mi_X12_takeFields 1 (oU r.1) r.2 31 [some (aR v0), some (aI v1), some (aI v2), some (aI v3), none] [] M 0 0) : ∀ (n : Nat) (v0 : Nat) (v1 : Int32) (v2 : Int32) (v3 : Int32) (v4 : Int32) (M : Mem) (r : (Unit × Mem)), f_X12_takeFields_171 k31 n v0 v1 v2 v3 v4 M = some r → G mi_X12_takeFields 1 (oU r.1) r.2 171 [some (aR v0), some (aI v1), some (aI v2), some (aI v3), some (aI v4)] [] M 0 0 := by
  intro n
  induction n with
  | zero => intro v0 v1 v2 v3 v4 M r hf; cases hf
  | succ n ih =>
    intro v0 v1 v2 v3 v4 M r hf
    unfold f_X12_takeFields_171 at hf
    refine g_iload (pc' := 173) dX12_takeFields_171 rfl rfl ?_
    refine g_iconst (pc' := 174) (4 : Int32) dX12_takeFields_173 rfl (by decide) ?_
    refine g_icmp_ge (pc' := 177) 210 dX12_takeFields_174 rfl (by decide) (fun c1 => ?_) (fun c1 => ?_)
    · have hf := ite_t c1 hf
      refine g_iinc (pc' := 213) (lv' := [some (aR v0), some (aI v1), some (aI v2), some (aI (v3 + 1)), some (aI v4)]) (v3 + 1) dX12_takeFields_210 rfl rfl (by rfl) rfl (by decide) rfl ?_
      refine g_goto (pc' := 31) dX12_takeFields_213 (by decide) ?_
      refine g_mask [true, true, true, true, false] rfl ?_
      exact hk31 v0 v1 v2 (v3 + 1) M _ hf
    · have hf := ite_f c1 hf
      refine g_aload_n (pc' := 178) dX12_takeFields_177 rfl rfl ?_
      obtain ⟨h2, hf⟩ := chk_s hf
      refine g_getR (pc' := 181) 12 22 rfl rfl (by decide) inX12 (by decide) rfl rfl q_134 dX12_takeFields_178 rfl h2 ?_
      refine g_iconst (pc' := 182) (4 : Int32) dX12_takeFields_181 rfl (by decide) ?_
      refine g_iload_n (pc' := 183) dX12_takeFields_182 rfl rfl ?_
      refine g_iload_n (pc' := 184) dX12_takeFields_183 rfl rfl ?_
      refine g_iadd (pc' := 185) dX12_takeFields_184 rfl ?_
      refine g_imul (pc' := 186) dX12_takeFields_185 rfl ?_
      refine g_iload (pc' := 188) dX12_takeFields_186 rfl rfl ?_
      refine g_iadd (pc' := 189) dX12_takeFields_188 rfl ?_
      refine g_aload_n (pc' := 190) dX12_takeFields_189 rfl rfl ?_
      refine g_getR (pc' := 193) 12 22 rfl rfl (by decide) inX12 (by decide) rfl rfl q_134 dX12_takeFields_190 rfl h2 ?_
      refine g_iconst (pc' := 194) (4 : Int32) dX12_takeFields_193 rfl (by decide) ?_
      refine g_bipush (pc' := 196) (32 : Int32) dX12_takeFields_194 rfl (by decide) ?_
      refine g_iload_n (pc' := 197) dX12_takeFields_196 rfl rfl ?_
      refine g_iadd (pc' := 198) dX12_takeFields_197 rfl ?_
      refine g_imul (pc' := 199) dX12_takeFields_198 rfl ?_
      refine g_iload (pc' := 201) dX12_takeFields_199 rfl rfl ?_
      refine g_iadd (pc' := 202) dX12_takeFields_201 rfl ?_
      obtain ⟨h3, hf⟩ := chk_s hf
      obtain ⟨b4, hf⟩ := chk_s hf
      refine g_iald (pc' := 203) dX12_takeFields_202 rfl h3 (inB_in b4) ?_
      obtain ⟨b5, hf⟩ := chk_s hf
      refine g_iast (pc' := 204) dX12_takeFields_203 rfl h3 (inB_in b5) (gM fun M6 hM6 => ?_)
      have hf := ap_eq hf hM6
      refine g_iinc (pc' := 207) (lv' := [some (aR v0), some (aI v1), some (aI v2), some (aI v3), some (aI (v4 + 1))]) (v4 + 1) dX12_takeFields_204 rfl rfl (by rfl) rfl (by decide) rfl ?_
      refine g_goto (pc' := 171) dX12_takeFields_207 (by decide) ?_
      exact ih v0 v1 v2 v3 (v4 + 1) M6 _ hf
set_option maxRecDepth 100000 in
set_option maxHeartbeats 4000000 in
theorem s_X12_takeFields_167 (k31 : Nat → Int32 → Int32 → Int32 → Mem → Option (Unit × Mem)) (hk31 : ∀ (v0 : Nat) (v1 : Int32) (v2 : Int32) (v3 : Int32) (M : Mem) (r : (Unit × Mem)), k31 v0 v1 v2 v3 M = some r → G mi_X12_takeFields 1 (oU r.1) r.2 31 [some (aR v0), some (aI v1), some (aI v2), some (aI v3), none] [] M 0 0) (v0 : Nat) (v1 : Int32) (v2 : Int32) (v3 : Int32) (w0 : Nat) (w1 : Int32) (w2 : Int32) (M : Mem) (r : (Unit × Mem)) (hf : f_X12_takeFields_167 k31 v0 v1 v2 v3 w0 w1 w2 M = some r) : G mi_X12_takeFields 1 (oU r.1) r.2 167 [some (aR v0), some (aI v1), some (aI v2), some (aI v3), none] [aI w2, aI w1, aR w0] M 0 0 := by
  unfold f_X12_takeFields_167 at hf
  obtain ⟨h1, hf⟩ := chk_s hf
  obtain ⟨b2, hf⟩ := chk_s hf
  refine g_iast (pc' := 168) dX12_takeFields_167 rfl h1 (inB_in b2) (gM fun M3 hM3 => ?_)
  have hf := ap_eq hf hM3
  refine g_iconst (pc' := 169) (0 : Int32) dX12_takeFields_168 rfl (by decide) ?_
  refine g_istore (pc' := 171) (lv' := [some (aR v0), some (aI v1), some (aI v2), some (aI v3), some (aI (0 : Int32))]) dX12_takeFields_169 rfl rfl (by decide) rfl ?_
  exact s_X12_takeFields_171 k31 hk31 FUEL v0 v1 v2 v3 (0 : Int32) M3 _ hf
set_option maxRecDepth 100000 in
set_option maxHeartbeats 4000000 in
theorem s_X12_takeFields_31 : ∀ (n : Nat) (v0 : Nat) (v1 : Int32) (v2 : Int32) (v3 : Int32) (M : Mem) (r : (Unit × Mem)), f_X12_takeFields_31 n v0 v1 v2 v3 M = some r → G mi_X12_takeFields 1 (oU r.1) r.2 31 [some (aR v0), some (aI v1), some (aI v2), some (aI v3), none] [] M 0 0 := by
  intro n
  induction n with
  | zero => intro v0 v1 v2 v3 M r hf; cases hf
  | succ n ih =>
    intro v0 v1 v2 v3 M r hf
    unfold f_X12_takeFields_31 at hf
    refine g_iload_n (pc' := 32) dX12_takeFields_31 rfl rfl ?_
    refine g_aload_n (pc' := 33) dX12_takeFields_32 rfl rfl ?_
    obtain ⟨h1, hf⟩ := chk_s hf
    refine g_getR (pc' := 36) 12 23 rfl rfl (by decide) inX12 (by decide) rfl rfl q_135 dX12_takeFields_33 rfl h1 ?_
    refine g_iconst (pc' := 37) (2 : Int32) dX12_takeFields_36 rfl (by decide) ?_
    obtain ⟨h2, hf⟩ := chk_s hf
    obtain ⟨b3, hf⟩ := chk_s hf
    refine g_iald (pc' := 38) dX12_takeFields_37 rfl h2 (inB_in b3) ?_
    refine g_icmp_ge (pc' := 41) 216 dX12_takeFields_38 rfl (by decide) (fun c4 => ?_) (fun c4 => ?_)
    · have hf := ite_t c4 hf
      cases hf
      exact g_return dX12_takeFields_216 rfl (Nat.le_of_ble_eq_true rfl) (Nat.le_of_ble_eq_true rfl)
    · have hf := ite_f c4 hf
      refine g_aload_n (pc' := 42) dX12_takeFields_41 rfl rfl ?_
      refine g_getR (pc' := 45) 12 15 rfl rfl (by decide) inX12 (by decide) rfl rfl q_127 dX12_takeFields_42 rfl h1 ?_
      refine g_iload_n (pc' := 46) dX12_takeFields_45 rfl rfl ?_
      refine g_iload_n (pc' := 47) dX12_takeFields_46 rfl rfl ?_
      refine g_iadd (pc' := 48) dX12_takeFields_47 rfl ?_
      refine g_aload_n (pc' := 49) dX12_takeFields_48 rfl rfl ?_
      refine g_getR (pc' := 52) 12 15 rfl rfl (by decide) inX12 (by decide) rfl rfl q_127 dX12_takeFields_49 rfl h1 ?_
      refine g_bipush (pc' := 54) (32 : Int32) dX12_takeFields_52 rfl (by decide) ?_
      refine g_iload_n (pc' := 55) dX12_takeFields_54 rfl rfl ?_
      refine g_iadd (pc' := 56) dX12_takeFields_55 rfl ?_
      obtain ⟨h5, hf⟩ := chk_s hf
      obtain ⟨b6, hf⟩ := chk_s hf
      refine g_iald (pc' := 57) dX12_takeFields_56 rfl h5 (inB_in b6) ?_
      obtain ⟨b7, hf⟩ := chk_s hf
      refine g_iast (pc' := 58) dX12_takeFields_57 rfl h5 (inB_in b7) (gM fun M8 hM8 => ?_)
      have hf := ap_eq hf hM8
      refine g_aload_n (pc' := 59) dX12_takeFields_58 rfl rfl ?_
      obtain ⟨h9, hf⟩ := chk_s hf
      refine g_getR (pc' := 62) 12 16 rfl rfl (by decide) inX12 (by decide) rfl rfl q_128 dX12_takeFields_59 rfl h9 ?_
      refine g_iload_n (pc' := 63) dX12_takeFields_62 rfl rfl ?_
      refine g_iload_n (pc' := 64) dX12_takeFields_63 rfl rfl ?_
      refine g_iadd (pc' := 65) dX12_takeFields_64 rfl ?_
      refine g_aload_n (pc' := 66) dX12_takeFields_65 rfl rfl ?_
      refine g_getR (pc' := 69) 12 16 rfl rfl (by decide) inX12 (by decide) rfl rfl q_128 dX12_takeFields_66 rfl h9 ?_
      refine g_bipush (pc' := 71) (32 : Int32) dX12_takeFields_69 rfl (by decide) ?_
      refine g_iload_n (pc' := 72) dX12_takeFields_71 rfl rfl ?_
      refine g_iadd (pc' := 73) dX12_takeFields_72 rfl ?_
      obtain ⟨h10, hf⟩ := chk_s hf
      obtain ⟨b11, hf⟩ := chk_s hf
      refine g_iald (pc' := 74) dX12_takeFields_73 rfl h10 (inB_in b11) ?_
      obtain ⟨b12, hf⟩ := chk_s hf
      refine g_iast (pc' := 75) dX12_takeFields_74 rfl h10 (inB_in b12) (gM fun M13 hM13 => ?_)
      have hf := ap_eq hf hM13
      refine g_aload_n (pc' := 76) dX12_takeFields_75 rfl rfl ?_
      obtain ⟨h14, hf⟩ := chk_s hf
      refine g_getR (pc' := 79) 12 17 rfl rfl (by decide) inX12 (by decide) rfl rfl q_129 dX12_takeFields_76 rfl h14 ?_
      refine g_iload_n (pc' := 80) dX12_takeFields_79 rfl rfl ?_
      refine g_iload_n (pc' := 81) dX12_takeFields_80 rfl rfl ?_
      refine g_iadd (pc' := 82) dX12_takeFields_81 rfl ?_
      refine g_aload_n (pc' := 83) dX12_takeFields_82 rfl rfl ?_
      refine g_getR (pc' := 86) 12 17 rfl rfl (by decide) inX12 (by decide) rfl rfl q_129 dX12_takeFields_83 rfl h14 ?_
      refine g_bipush (pc' := 88) (32 : Int32) dX12_takeFields_86 rfl (by decide) ?_
      refine g_iload_n (pc' := 89) dX12_takeFields_88 rfl rfl ?_
      refine g_iadd (pc' := 90) dX12_takeFields_89 rfl ?_
      obtain ⟨h15, hf⟩ := chk_s hf
      obtain ⟨b16, hf⟩ := chk_s hf
      refine g_iald (pc' := 91) dX12_takeFields_90 rfl h15 (inB_in b16) ?_
      obtain ⟨b17, hf⟩ := chk_s hf
      refine g_iast (pc' := 92) dX12_takeFields_91 rfl h15 (inB_in b17) (gM fun M18 hM18 => ?_)
      have hf := ap_eq hf hM18
      refine g_aload_n (pc' := 93) dX12_takeFields_92 rfl rfl ?_
      obtain ⟨h19, hf⟩ := chk_s hf
      refine g_getR (pc' := 96) 12 18 rfl rfl (by decide) inX12 (by decide) rfl rfl q_130 dX12_takeFields_93 rfl h19 ?_
      refine g_iload_n (pc' := 97) dX12_takeFields_96 rfl rfl ?_
      refine g_iload_n (pc' := 98) dX12_takeFields_97 rfl rfl ?_
      refine g_iadd (pc' := 99) dX12_takeFields_98 rfl ?_
      refine g_aload_n (pc' := 100) dX12_takeFields_99 rfl rfl ?_
      refine g_getR (pc' := 103) 12 18 rfl rfl (by decide) inX12 (by decide) rfl rfl q_130 dX12_takeFields_100 rfl h19 ?_
      refine g_bipush (pc' := 105) (32 : Int32) dX12_takeFields_103 rfl (by decide) ?_
      refine g_iload_n (pc' := 106) dX12_takeFields_105 rfl rfl ?_
      refine g_iadd (pc' := 107) dX12_takeFields_106 rfl ?_
      obtain ⟨h20, hf⟩ := chk_s hf
      obtain ⟨b21, hf⟩ := chk_s hf
      refine g_iald (pc' := 108) dX12_takeFields_107 rfl h20 (inB_in b21) ?_
      obtain ⟨b22, hf⟩ := chk_s hf
      refine g_iast (pc' := 109) dX12_takeFields_108 rfl h20 (inB_in b22) (gM fun M23 hM23 => ?_)
      have hf := ap_eq hf hM23
      refine g_aload_n (pc' := 110) dX12_takeFields_109 rfl rfl ?_
      obtain ⟨h24, hf⟩ := chk_s hf
      refine g_getR (pc' := 113) 12 19 rfl rfl (by decide) inX12 (by decide) rfl rfl q_131 dX12_takeFields_110 rfl h24 ?_
      refine g_iload_n (pc' := 114) dX12_takeFields_113 rfl rfl ?_
      refine g_iload_n (pc' := 115) dX12_takeFields_114 rfl rfl ?_
      refine g_iadd (pc' := 116) dX12_takeFields_115 rfl ?_
      refine g_aload_n (pc' := 117) dX12_takeFields_116 rfl rfl ?_
      refine g_getR (pc' := 120) 12 19 rfl rfl (by decide) inX12 (by decide) rfl rfl q_131 dX12_takeFields_117 rfl h24 ?_
      refine g_bipush (pc' := 122) (32 : Int32) dX12_takeFields_120 rfl (by decide) ?_
      refine g_iload_n (pc' := 123) dX12_takeFields_122 rfl rfl ?_
      refine g_iadd (pc' := 124) dX12_takeFields_123 rfl ?_
      obtain ⟨h25, hf⟩ := chk_s hf
      obtain ⟨b26, hf⟩ := chk_s hf
      refine g_iald (pc' := 125) dX12_takeFields_124 rfl h25 (inB_in b26) ?_
      obtain ⟨b27, hf⟩ := chk_s hf
      refine g_iast (pc' := 126) dX12_takeFields_125 rfl h25 (inB_in b27) (gM fun M28 hM28 => ?_)
      have hf := ap_eq hf hM28
      refine g_aload_n (pc' := 127) dX12_takeFields_126 rfl rfl ?_
      obtain ⟨h29, hf⟩ := chk_s hf
      refine g_getR (pc' := 130) 12 20 rfl rfl (by decide) inX12 (by decide) rfl rfl q_132 dX12_takeFields_127 rfl h29 ?_
      refine g_iload_n (pc' := 131) dX12_takeFields_130 rfl rfl ?_
      refine g_iload_n (pc' := 132) dX12_takeFields_131 rfl rfl ?_
      refine g_iadd (pc' := 133) dX12_takeFields_132 rfl ?_
      refine g_aload_n (pc' := 134) dX12_takeFields_133 rfl rfl ?_
      refine g_getR (pc' := 137) 12 20 rfl rfl (by decide) inX12 (by decide) rfl rfl q_132 dX12_takeFields_134 rfl h29 ?_
      refine g_bipush (pc' := 139) (32 : Int32) dX12_takeFields_137 rfl (by decide) ?_
      refine g_iload_n (pc' := 140) dX12_takeFields_139 rfl rfl ?_
      refine g_iadd (pc' := 141) dX12_takeFields_140 rfl ?_
      obtain ⟨h30, hf⟩ := chk_s hf
      obtain ⟨b31, hf⟩ := chk_s hf
      refine g_iald (pc' := 142) dX12_takeFields_141 rfl h30 (inB_in b31) ?_
      obtain ⟨b32, hf⟩ := chk_s hf
      refine g_iast (pc' := 143) dX12_takeFields_142 rfl h30 (inB_in b32) (gM fun M33 hM33 => ?_)
      have hf := ap_eq hf hM33
      refine g_aload_n (pc' := 144) dX12_takeFields_143 rfl rfl ?_
      obtain ⟨h34, hf⟩ := chk_s hf
      refine g_getR (pc' := 147) 12 21 rfl rfl (by decide) inX12 (by decide) rfl rfl q_133 dX12_takeFields_144 rfl h34 ?_
      refine g_iload_n (pc' := 148) dX12_takeFields_147 rfl rfl ?_
      refine g_iload_n (pc' := 149) dX12_takeFields_148 rfl rfl ?_
      refine g_iadd (pc' := 150) dX12_takeFields_149 rfl ?_
      refine g_iload_n (pc' := 151) dX12_takeFields_150 rfl rfl ?_
      refine g_if_ne (pc' := 154) 158 dX12_takeFields_151 rfl (by decide) (fun c35 => ?_) (fun c35 => ?_)
      · have hf := ite_f c35 hf
        refine g_aload_n (pc' := 159) dX12_takeFields_158 rfl rfl ?_
        refine g_getR (pc' := 162) 12 21 rfl rfl (by decide) inX12 (by decide) rfl rfl q_133 dX12_takeFields_159 rfl h34 ?_
        refine g_bipush (pc' := 164) (32 : Int32) dX12_takeFields_162 rfl (by decide) ?_
        refine g_iload_n (pc' := 165) dX12_takeFields_164 rfl rfl ?_
        refine g_iadd (pc' := 166) dX12_takeFields_165 rfl ?_
        obtain ⟨h36, hf⟩ := chk_s hf
        obtain ⟨b37, hf⟩ := chk_s hf
        refine g_iald (pc' := 167) dX12_takeFields_166 rfl h36 (inB_in b37) ?_
        exact s_X12_takeFields_167 (f_X12_takeFields_31 n) ih v0 v1 v2 v3 (mR M33 v0 21) (v2 + v3) (mI M33 (mR M33 v0 21) ((32 : Int32) + v3).toNatClampNeg) M33 _ hf
      · have hf := ite_t c35 hf
        refine g_iload_n (pc' := 155) dX12_takeFields_154 rfl rfl ?_
        refine g_goto (pc' := 167) dX12_takeFields_155 (by decide) ?_
        exact s_X12_takeFields_167 (f_X12_takeFields_31 n) ih v0 v1 v2 v3 (mR M33 v0 21) (v2 + v3) v3 M33 _ hf
set_option maxRecDepth 100000 in
set_option maxHeartbeats 4000000 in
theorem s_X12_takeFields (v0 : Nat) (v1 : Int32) (M : Mem) (r : (Unit × Mem)) (hf : f_X12_takeFields v0 v1 M = some r) : Sem mi_X12_takeFields (1) [aR v0, aI v1] M (oU r.1) r.2 := by
  unfold f_X12_takeFields at hf
  refine sem_of (by decide) rfl rfl rfl (Nat.le_of_ble_eq_true rfl) (lv := [some (aR v0), some (aI v1), none, none, none]) rfl ?_
  refine g_iload_n (pc' := 1) dX12_takeFields_0 rfl rfl ?_
  refine g_bipush (pc' := 3) (16 : Int32) dX12_takeFields_1 rfl (by decide) ?_
  refine g_imul (pc' := 4) dX12_takeFields_3 rfl ?_
  refine g_istore_n (pc' := 5) (lv' := [some (aR v0), some (aI v1), some (aI (v1 * (16 : Int32))), none, none]) dX12_takeFields_4 rfl rfl (by decide) rfl ?_
  refine g_aload_n (pc' := 6) dX12_takeFields_5 rfl rfl ?_
  obtain ⟨h1, hf⟩ := chk_s hf
  refine g_getR (pc' := 9) 12 23 rfl rfl (by decide) inX12 (by decide) rfl rfl q_135 dX12_takeFields_6 rfl h1 ?_
  refine g_iload_n (pc' := 10) dX12_takeFields_9 rfl rfl ?_
  refine g_aload_n (pc' := 11) dX12_takeFields_10 rfl rfl ?_
  refine g_getR (pc' := 14) 12 23 rfl rfl (by decide) inX12 (by decide) rfl rfl q_135 dX12_takeFields_11 rfl h1 ?_
  refine g_iconst (pc' := 15) (2 : Int32) dX12_takeFields_14 rfl (by decide) ?_
  obtain ⟨h2, hf⟩ := chk_s hf
  obtain ⟨b3, hf⟩ := chk_s hf
  refine g_iald (pc' := 16) dX12_takeFields_15 rfl h2 (inB_in b3) ?_
  obtain ⟨b4, hf⟩ := chk_s hf
  refine g_iast (pc' := 17) dX12_takeFields_16 rfl h2 (inB_in b4) (gM fun M5 hM5 => ?_)
  have hf := ap_eq hf hM5
  refine g_aload_n (pc' := 18) dX12_takeFields_17 rfl rfl ?_
  obtain ⟨h6, hf⟩ := chk_s hf
  refine g_getR (pc' := 21) 12 24 rfl rfl (by decide) inX12 (by decide) rfl rfl q_136 dX12_takeFields_18 rfl h6 ?_
  refine g_iload_n (pc' := 22) dX12_takeFields_21 rfl rfl ?_
  refine g_aload_n (pc' := 23) dX12_takeFields_22 rfl rfl ?_
  refine g_getR (pc' := 26) 12 24 rfl rfl (by decide) inX12 (by decide) rfl rfl q_136 dX12_takeFields_23 rfl h6 ?_
  refine g_iconst (pc' := 27) (2 : Int32) dX12_takeFields_26 rfl (by decide) ?_
  obtain ⟨h7, hf⟩ := chk_s hf
  obtain ⟨b8, hf⟩ := chk_s hf
  refine g_iald (pc' := 28) dX12_takeFields_27 rfl h7 (inB_in b8) ?_
  obtain ⟨b9, hf⟩ := chk_s hf
  refine g_iast (pc' := 29) dX12_takeFields_28 rfl h7 (inB_in b9) (gM fun M10 hM10 => ?_)
  have hf := ap_eq hf hM10
  refine g_iconst (pc' := 30) (0 : Int32) dX12_takeFields_29 rfl (by decide) ?_
  refine g_istore_n (pc' := 31) (lv' := [some (aR v0), some (aI v1), some (aI (v1 * (16 : Int32))), some (aI (0 : Int32)), none]) dX12_takeFields_30 rfl rfl (by decide) rfl ?_
  exact s_X12_takeFields_31 FUEL v0 v1 (v1 * (16 : Int32)) (0 : Int32) M10 _ hf
def f_X12_schema_91 : Nat → Nat → Int32 → Mem → Option (Int32 × Mem)
  | 0, _, _, _ => none
  | n + 1, v0, v2, M =>
    if (8 : Int32) ≤ v2 then
      if mK M v0 = 13 then
        ap (sI M v0 31 (0 : Int32)) fun M3 =>
        if mK M3 v0 = 13 then
          ap (sI M3 v0 50 (0 : Int32)) fun M5 =>
          some ((0 : Int32), M5)
        else none
      else none
    else
      if mK M v0 = 13 then
        if mK M (mR M v0 28) = 21 then
          if inB v2 (mN M (mR M v0 28)) = true then
            ap (sI M (mR M v0 28) v2.toNatClampNeg (0 : Int32)) fun M9 =>
            f_X12_schema_91 n v0 (v2 + 1) M9
          else none
        else none
      else none
def f_X12_schema_66 (k34 : Nat → Int32 → Mem → Option (Int32 × Mem)) (v0 : Nat) (v2 : Int32) (M : Mem) : Option (Int32 × Mem) :=
  k34 v0 (v2 + 1) M
def f_X12_schema_34 : Nat → Nat → Int32 → Mem → Option (Int32 × Mem)
  | 0, _, _, _ => none
  | n + 1, v0, v2, M =>
    if mK M v0 = 13 then
      if mK M (mR M v0 23) = 21 then
        if inB (0 : Int32) (mN M (mR M v0 23)) = true then
          if (mI M (mR M v0 23) (0 : Int32).toNatClampNeg) ≤ v2 then
            if inB (1 : Int32) (mN M (mR M v0 23)) = true then
              ap (sI M (mR M v0 23) (1 : Int32).toNatClampNeg (0 : Int32)) fun M6 =>
              if mK M6 v0 = 13 then
                ap (sI M6 v0 47 (0 : Int32)) fun M8 =>
                if mK M8 v0 = 13 then
                  ap (sI M8 v0 30 (0 : Int32)) fun M10 =>
                  f_X12_schema_91 FUEL v0 (0 : Int32) M10
                else none
              else none
            else none
          else
            if mK M (mR M v0 17) = 21 then
              if inB v2 (mN M (mR M v0 17)) = true then
                if (mI M (mR M v0 17) v2.toNatClampNeg) = (-1 : Int32) then
                  f_X12_schema_66 (f_X12_schema_34 n) v0 v2 M
                else
                  if mK M (mR M v0 25) = 21 then
                    if inB (mI M (mR M v0 17) v2.toNatClampNeg) (mN M (mR M v0 25)) = true then
                      ap (sI M (mR M v0 25) (mI M (mR M v0 17) v2.toNatClampNeg).toNatClampNeg v2) fun M16 =>
                      f_X12_schema_66 (f_X12_schema_34 n) v0 v2 M16
                    else none
                  else none
              else none
            else none
        else none
      else none
    else none
def f_X12_schema (v0 : Nat) (v1 : Int32) (M : Mem) : Option (Int32 × Mem) :=
  if mK M v0 = 13 then
    bnd (f_X12_begin v0 v1 M) fun r3 M2 =>
    if r3 = 0 then
      some ((0 : Int32), M2)
    else
      if mK M2 v0 = 13 then
        bnd (f_X12_readSchema v0 (0 : Int32) M2) fun _ M6 =>
        if mK M6 v0 = 13 then
          bnd (f_X12_ended v0 M6) fun r10 M9 =>
          if r10 = 0 then
            if mK M9 v0 = 13 then
              bnd (f_X12_takeFields v0 (0 : Int32) M9) fun _ M13 =>
              f_X12_schema_34 FUEL v0 (0 : Int32) M13
            else none
          else
            if mK M9 v0 = 13 then
              some (mI M9 v0 12, M9)
            else none
        else none
      else none
  else none
theorem s_X12_schema_91 : ∀ (n : Nat) (v0 : Nat) (v2 : Int32) (M : Mem) (r : (Int32 × Mem)), f_X12_schema_91 n v0 v2 M = some r → G mi_X12_schema 50 (oI r.1) r.2 91 [some (aR v0), none, some (aI v2)] [] M 0 0 := by
  intro n
  induction n with
  | zero => intro v0 v2 M r hf; cases hf
  | succ n ih =>
    intro v0 v2 M r hf
    unfold f_X12_schema_91 at hf
    refine g_iload_n (pc' := 92) dX12_schema_91 rfl rfl ?_
    refine g_bipush (pc' := 94) (8 : Int32) dX12_schema_92 rfl (by decide) ?_
    refine g_icmp_ge (pc' := 97) 110 dX12_schema_94 rfl (by decide) (fun c1 => ?_) (fun c1 => ?_)
    · have hf := ite_t c1 hf
      refine g_aload_n (pc' := 111) dX12_schema_110 rfl rfl ?_
      refine g_iconst (pc' := 112) (0 : Int32) dX12_schema_111 rfl (by decide) ?_
      obtain ⟨h2, hf⟩ := chk_s hf
      refine g_putI (pc' := 115) 12 31 rfl rfl (by decide) inX12 tyX12_ok nmX12 (by decide) rfl rfl rfl rfl q_365 dX12_schema_112 rfl h2 (gM fun M3 hM3 => ?_)
      have hf := ap_eq hf hM3
      refine g_aload_n (pc' := 116) dX12_schema_115 rfl rfl ?_
      refine g_iconst (pc' := 117) (0 : Int32) dX12_schema_116 rfl (by decide) ?_
      obtain ⟨h4, hf⟩ := chk_s hf
      refine g_putZ (pc' := 120) 12 50 rfl rfl (by decide) inX12 tyX12_ok nmX12 (by decide) rfl rfl rfl rfl (Or.inl rfl) q_366 dX12_schema_117 rfl h4 (gM fun M5 hM5 => ?_)
      have hf := ap_eq hf hM5
      refine g_iconst (pc' := 121) (0 : Int32) dX12_schema_120 rfl (by decide) ?_
      cases hf
      exact g_ireturn dX12_schema_121 rfl (Nat.le_of_ble_eq_true rfl) (Nat.le_of_ble_eq_true rfl)
    · have hf := ite_f c1 hf
      refine g_aload_n (pc' := 98) dX12_schema_97 rfl rfl ?_
      obtain ⟨h6, hf⟩ := chk_s hf
      refine g_getR (pc' := 101) 12 28 rfl rfl (by decide) inX12 (by decide) rfl rfl q_139 dX12_schema_98 rfl h6 ?_
      refine g_iload_n (pc' := 102) dX12_schema_101 rfl rfl ?_
      refine g_iconst (pc' := 103) (0 : Int32) dX12_schema_102 rfl (by decide) ?_
      obtain ⟨h7, hf⟩ := chk_s hf
      obtain ⟨b8, hf⟩ := chk_s hf
      refine g_iast (pc' := 104) dX12_schema_103 rfl h7 (inB_in b8) (gM fun M9 hM9 => ?_)
      have hf := ap_eq hf hM9
      refine g_iinc (pc' := 107) (lv' := [some (aR v0), none, some (aI (v2 + 1))]) (v2 + 1) dX12_schema_104 rfl rfl (by rfl) rfl (by decide) rfl ?_
      refine g_goto (pc' := 91) dX12_schema_107 (by decide) ?_
      exact ih v0 (v2 + 1) M9 _ hf
theorem s_X12_schema_66 (k34 : Nat → Int32 → Mem → Option (Int32 × Mem)) (hk34 : ∀ (v0 : Nat) (v2 : Int32) (M : Mem) (r : (Int32 × Mem)), k34 v0 v2 M = some r → G mi_X12_schema 50 (oI r.1) r.2 34 [some (aR v0), none, some (aI v2)] [] M 0 0) (v0 : Nat) (v2 : Int32) (M : Mem) (r : (Int32 × Mem)) (hf : f_X12_schema_66 k34 v0 v2 M = some r) : G mi_X12_schema 50 (oI r.1) r.2 66 [some (aR v0), none, some (aI v2)] [] M 0 0 := by
  unfold f_X12_schema_66 at hf
  refine g_iinc (pc' := 69) (lv' := [some (aR v0), none, some (aI (v2 + 1))]) (v2 + 1) dX12_schema_66 rfl rfl (by rfl) rfl (by decide) rfl ?_
  refine g_goto (pc' := 34) dX12_schema_69 (by decide) ?_
  exact hk34 v0 (v2 + 1) M _ hf
theorem s_X12_schema_34 : ∀ (n : Nat) (v0 : Nat) (v2 : Int32) (M : Mem) (r : (Int32 × Mem)), f_X12_schema_34 n v0 v2 M = some r → G mi_X12_schema 50 (oI r.1) r.2 34 [some (aR v0), none, some (aI v2)] [] M 0 0 := by
  intro n
  induction n with
  | zero => intro v0 v2 M r hf; cases hf
  | succ n ih =>
    intro v0 v2 M r hf
    unfold f_X12_schema_34 at hf
    refine g_iload_n (pc' := 35) dX12_schema_34 rfl rfl ?_
    refine g_aload_n (pc' := 36) dX12_schema_35 rfl rfl ?_
    obtain ⟨h1, hf⟩ := chk_s hf
    refine g_getR (pc' := 39) 12 23 rfl rfl (by decide) inX12 (by decide) rfl rfl q_135 dX12_schema_36 rfl h1 ?_
    refine g_iconst (pc' := 40) (0 : Int32) dX12_schema_39 rfl (by decide) ?_
    obtain ⟨h2, hf⟩ := chk_s hf
    obtain ⟨b3, hf⟩ := chk_s hf
    refine g_iald (pc' := 41) dX12_schema_40 rfl h2 (inB_in b3) ?_
    refine g_icmp_ge (pc' := 44) 72 dX12_schema_41 rfl (by decide) (fun c4 => ?_) (fun c4 => ?_)
    · have hf := ite_t c4 hf
      refine g_aload_n (pc' := 73) dX12_schema_72 rfl rfl ?_
      refine g_getR (pc' := 76) 12 23 rfl rfl (by decide) inX12 (by decide) rfl rfl q_135 dX12_schema_73 rfl h1 ?_
      refine g_iconst (pc' := 77) (1 : Int32) dX12_schema_76 rfl (by decide) ?_
      refine g_iconst (pc' := 78) (0 : Int32) dX12_schema_77 rfl (by decide) ?_
      obtain ⟨b5, hf⟩ := chk_s hf
      refine g_iast (pc' := 79) dX12_schema_78 rfl h2 (inB_in b5) (gM fun M6 hM6 => ?_)
      have hf := ap_eq hf hM6
      refine g_aload_n (pc' := 80) dX12_schema_79 rfl rfl ?_
      refine g_iconst (pc' := 81) (0 : Int32) dX12_schema_80 rfl (by decide) ?_
      obtain ⟨h7, hf⟩ := chk_s hf
      refine g_putI (pc' := 84) 12 47 rfl rfl (by decide) inX12 tyX12_ok nmX12 (by decide) rfl rfl rfl rfl q_363 dX12_schema_81 rfl h7 (gM fun M8 hM8 => ?_)
      have hf := ap_eq hf hM8
      refine g_aload_n (pc' := 85) dX12_schema_84 rfl rfl ?_
      refine g_iconst (pc' := 86) (0 : Int32) dX12_schema_85 rfl (by decide) ?_
      obtain ⟨h9, hf⟩ := chk_s hf
      refine g_putI (pc' := 89) 12 30 rfl rfl (by decide) inX12 tyX12_ok nmX12 (by decide) rfl rfl rfl rfl q_364 dX12_schema_86 rfl h9 (gM fun M10 hM10 => ?_)
      have hf := ap_eq hf hM10
      refine g_iconst (pc' := 90) (0 : Int32) dX12_schema_89 rfl (by decide) ?_
      refine g_istore_n (pc' := 91) (lv' := [some (aR v0), none, some (aI (0 : Int32))]) dX12_schema_90 rfl rfl (by decide) rfl ?_
      exact s_X12_schema_91 FUEL v0 (0 : Int32) M10 _ hf
    · have hf := ite_f c4 hf
      refine g_aload_n (pc' := 45) dX12_schema_44 rfl rfl ?_
      refine g_getR (pc' := 48) 12 17 rfl rfl (by decide) inX12 (by decide) rfl rfl q_129 dX12_schema_45 rfl h1 ?_
      refine g_iload_n (pc' := 49) dX12_schema_48 rfl rfl ?_
      obtain ⟨h11, hf⟩ := chk_s hf
      obtain ⟨b12, hf⟩ := chk_s hf
      refine g_iald (pc' := 50) dX12_schema_49 rfl h11 (inB_in b12) ?_
      refine g_iconst (pc' := 51) (-1 : Int32) dX12_schema_50 rfl (by decide) ?_
      refine g_icmp_eq (pc' := 54) 66 dX12_schema_51 rfl (by decide) (fun c13 => ?_) (fun c13 => ?_)
      · have hf := ite_t c13 hf
        exact s_X12_schema_66 (f_X12_schema_34 n) ih v0 v2 M _ hf
      · have hf := ite_f c13 hf
        refine g_aload_n (pc' := 55) dX12_schema_54 rfl rfl ?_
        refine g_getR (pc' := 58) 12 25 rfl rfl (by decide) inX12 (by decide) rfl rfl q_137 dX12_schema_55 rfl h1 ?_
        refine g_aload_n (pc' := 59) dX12_schema_58 rfl rfl ?_
        refine g_getR (pc' := 62) 12 17 rfl rfl (by decide) inX12 (by decide) rfl rfl q_129 dX12_schema_59 rfl h1 ?_
        refine g_iload_n (pc' := 63) dX12_schema_62 rfl rfl ?_
        refine g_iald (pc' := 64) dX12_schema_63 rfl h11 (inB_in b12) ?_
        refine g_iload_n (pc' := 65) dX12_schema_64 rfl rfl ?_
        obtain ⟨h14, hf⟩ := chk_s hf
        obtain ⟨b15, hf⟩ := chk_s hf
        refine g_iast (pc' := 66) dX12_schema_65 rfl h14 (inB_in b15) (gM fun M16 hM16 => ?_)
        have hf := ap_eq hf hM16
        exact s_X12_schema_66 (f_X12_schema_34 n) ih v0 v2 M16 _ hf
theorem s_X12_schema (v0 : Nat) (v1 : Int32) (M : Mem) (r : (Int32 × Mem)) (hf : f_X12_schema v0 v1 M = some r) : Sem mi_X12_schema (50) [aR v0, aI v1] M (oI r.1) r.2 := by
  unfold f_X12_schema at hf
  refine sem_of (by decide) rfl rfl rfl (Nat.le_of_ble_eq_true rfl) (lv := [some (aR v0), some (aI v1), none]) rfl ?_
  refine g_aload_n (pc' := 1) dX12_schema_0 rfl rfl ?_
  refine g_iload_n (pc' := 2) dX12_schema_1 rfl rfl ?_
  obtain ⟨h1, hf⟩ := chk_s hf
  obtain ⟨r3, M2, e3, hf⟩ := bnd_some hf
  refine g_callVi (pc' := 5) (k' := 0) (u' := 0) (fr2 := 1) (As := [aI v1]) (b := v0) (st := []) cf_X12_begin q_367 (by omega) (ci := 12) rfl rfl (by decide) dX12_schema_2 rfl rfl rfl (Nat.le_of_ble_eq_true rfl) (Or.inl rfl) (Nat.le_refl _) (Nat.le_refl _) (Nat.le_refl _) (Nat.le_refl _) h1 (s_X12_begin v0 v1 M _ e3) ?_
  refine g_if_ne (pc' := 8) 10 dX12_schema_5 rfl (by decide) (fun c4 => ?_) (fun c4 => ?_)
  · have hf := ite_f c4 hf
    refine g_aload_n (pc' := 11) dX12_schema_10 rfl rfl ?_
    refine g_iconst (pc' := 12) (0 : Int32) dX12_schema_11 rfl (by decide) ?_
    obtain ⟨h5, hf⟩ := chk_s hf
    obtain ⟨_, M6, e7, hf⟩ := bnd_some hf
    refine g_callVv (pc' := 15) (k' := 0) (u' := 0) (fr2 := 49) (As := [aI (0 : Int32)]) (b := v0) (st := []) cf_X12_readSchema q_373 (by omega) (ci := 12) rfl rfl (by decide) dX12_schema_12 rfl rfl rfl (Nat.le_of_ble_eq_true rfl) (Or.inl rfl) (Nat.le_refl _) (Nat.le_refl _) (Nat.le_refl _) (Nat.le_refl _) h5 (s_X12_readSchema v0 (0 : Int32) M2 _ e7) ?_
    refine g_aload_n (pc' := 16) dX12_schema_15 rfl rfl ?_
    obtain ⟨h8, hf⟩ := chk_s hf
    obtain ⟨r10, M9, e10, hf⟩ := bnd_some hf
    refine g_callVi (pc' := 19) (k' := 0) (u' := 0) (fr2 := 1) (As := []) (b := v0) (st := []) cf_X12_ended q_455 (by omega) (ci := 12) rfl rfl (by decide) dX12_schema_16 rfl rfl rfl (Nat.le_of_ble_eq_true rfl) (Or.inl rfl) (Nat.le_refl _) (Nat.le_refl _) (Nat.le_refl _) (Nat.le_refl _) h8 (s_X12_ended v0 M6 _ e10) ?_
    refine g_if_eq (pc' := 22) 27 dX12_schema_19 rfl (by decide) (fun c11 => ?_) (fun c11 => ?_)
    · have hf := ite_t c11 hf
      refine g_aload_n (pc' := 28) dX12_schema_27 rfl rfl ?_
      refine g_iconst (pc' := 29) (0 : Int32) dX12_schema_28 rfl (by decide) ?_
      obtain ⟨h12, hf⟩ := chk_s hf
      obtain ⟨_, M13, e14, hf⟩ := bnd_some hf
      refine g_callVv (pc' := 32) (k' := 0) (u' := 0) (fr2 := 1) (As := [aI (0 : Int32)]) (b := v0) (st := []) cf_X12_takeFields q_459 (by omega) (ci := 12) rfl rfl (by decide) dX12_schema_29 rfl rfl rfl (Nat.le_of_ble_eq_true rfl) (Or.inl rfl) (Nat.le_refl _) (Nat.le_refl _) (Nat.le_refl _) (Nat.le_refl _) h12 (s_X12_takeFields v0 (0 : Int32) M9 _ e14) ?_
      refine g_iconst (pc' := 33) (0 : Int32) dX12_schema_32 rfl (by decide) ?_
      refine g_istore_n (pc' := 34) (lv' := [some (aR v0), some (aI v1), some (aI (0 : Int32))]) dX12_schema_33 rfl rfl (by decide) rfl ?_
      refine g_mask [true, false, true] rfl ?_
      refine g_widen (k' := 0) (u' := 0) (by omega) (by omega) ?_
      exact s_X12_schema_34 FUEL v0 (0 : Int32) M13 _ hf
    · have hf := ite_f c11 hf
      refine g_aload_n (pc' := 23) dX12_schema_22 rfl rfl ?_
      obtain ⟨h15, hf⟩ := chk_s hf
      refine g_getI (pc' := 26) 12 12 rfl rfl (by decide) inX12 (by decide) rfl rfl q_362 dX12_schema_23 rfl h15 ?_
      cases hf
      exact g_ireturn dX12_schema_26 rfl (Nat.le_of_ble_eq_true rfl) (Nat.le_of_ble_eq_true rfl)
  · have hf := ite_t c4 hf
    refine g_iconst (pc' := 9) (0 : Int32) dX12_schema_8 rfl (by decide) ?_
    cases hf
    exact g_ireturn dX12_schema_9 rfl (Nat.le_of_ble_eq_true rfl) (Nat.le_of_ble_eq_true rfl)
def f_X12_view_27 (v0 : Nat) (M : Mem) : Option (Int32 × Mem) :=
  if mK M v0 = 13 then
    some (mI M v0 12, M)
  else none
def f_X12_view (v0 : Nat) (v1 : Int32) (M : Mem) : Option (Int32 × Mem) :=
  if mK M v0 = 13 then
    bnd (f_X12_begin v0 v1 M) fun r3 M2 =>
    if r3 = 0 then
      some ((0 : Int32), M2)
    else
      if mK M2 v0 = 13 then
        bnd (f_X12_readSchema v0 (1 : Int32) M2) fun _ M6 =>
        if mK M6 v0 = 13 then
          bnd (f_X12_ended v0 M6) fun r10 M9 =>
          if r10 = 0 then
            if mK M9 v0 = 13 then
              bnd (f_X12_takeFields v0 (1 : Int32) M9) fun _ M13 =>
              f_X12_view_27 v0 M13
            else none
          else
            f_X12_view_27 v0 M9
        else none
      else none
  else none
theorem s_X12_view_27 (v0 : Nat) (M : Mem) (r : (Int32 × Mem)) (hf : f_X12_view_27 v0 M = some r) : G mi_X12_view 50 (oI r.1) r.2 27 [some (aR v0), none] [] M 0 0 := by
  unfold f_X12_view_27 at hf
  refine g_aload_n (pc' := 28) dX12_view_27 rfl rfl ?_
  obtain ⟨h1, hf⟩ := chk_s hf
  refine g_getI (pc' := 31) 12 12 rfl rfl (by decide) inX12 (by decide) rfl rfl q_362 dX12_view_28 rfl h1 ?_
  cases hf
  exact g_ireturn dX12_view_31 rfl (Nat.le_of_ble_eq_true rfl) (Nat.le_of_ble_eq_true rfl)
theorem s_X12_view (v0 : Nat) (v1 : Int32) (M : Mem) (r : (Int32 × Mem)) (hf : f_X12_view v0 v1 M = some r) : Sem mi_X12_view (50) [aR v0, aI v1] M (oI r.1) r.2 := by
  unfold f_X12_view at hf
  refine sem_of (by decide) rfl rfl rfl (Nat.le_of_ble_eq_true rfl) (lv := [some (aR v0), some (aI v1)]) rfl ?_
  refine g_aload_n (pc' := 1) dX12_view_0 rfl rfl ?_
  refine g_iload_n (pc' := 2) dX12_view_1 rfl rfl ?_
  obtain ⟨h1, hf⟩ := chk_s hf
  obtain ⟨r3, M2, e3, hf⟩ := bnd_some hf
  refine g_callVi (pc' := 5) (k' := 0) (u' := 0) (fr2 := 1) (As := [aI v1]) (b := v0) (st := []) cf_X12_begin q_367 (by omega) (ci := 12) rfl rfl (by decide) dX12_view_2 rfl rfl rfl (Nat.le_of_ble_eq_true rfl) (Or.inl rfl) (Nat.le_refl _) (Nat.le_refl _) (Nat.le_refl _) (Nat.le_refl _) h1 (s_X12_begin v0 v1 M _ e3) ?_
  refine g_if_ne (pc' := 8) 10 dX12_view_5 rfl (by decide) (fun c4 => ?_) (fun c4 => ?_)
  · have hf := ite_f c4 hf
    refine g_aload_n (pc' := 11) dX12_view_10 rfl rfl ?_
    refine g_iconst (pc' := 12) (1 : Int32) dX12_view_11 rfl (by decide) ?_
    obtain ⟨h5, hf⟩ := chk_s hf
    obtain ⟨_, M6, e7, hf⟩ := bnd_some hf
    refine g_callVv (pc' := 15) (k' := 0) (u' := 0) (fr2 := 49) (As := [aI (1 : Int32)]) (b := v0) (st := []) cf_X12_readSchema q_373 (by omega) (ci := 12) rfl rfl (by decide) dX12_view_12 rfl rfl rfl (Nat.le_of_ble_eq_true rfl) (Or.inl rfl) (Nat.le_refl _) (Nat.le_refl _) (Nat.le_refl _) (Nat.le_refl _) h5 (s_X12_readSchema v0 (1 : Int32) M2 _ e7) ?_
    refine g_aload_n (pc' := 16) dX12_view_15 rfl rfl ?_
    obtain ⟨h8, hf⟩ := chk_s hf
    obtain ⟨r10, M9, e10, hf⟩ := bnd_some hf
    refine g_callVi (pc' := 19) (k' := 0) (u' := 0) (fr2 := 1) (As := []) (b := v0) (st := []) cf_X12_ended q_455 (by omega) (ci := 12) rfl rfl (by decide) dX12_view_16 rfl rfl rfl (Nat.le_of_ble_eq_true rfl) (Or.inl rfl) (Nat.le_refl _) (Nat.le_refl _) (Nat.le_refl _) (Nat.le_refl _) h8 (s_X12_ended v0 M6 _ e10) ?_
    refine g_if_ne (pc' := 22) 27 dX12_view_19 rfl (by decide) (fun c11 => ?_) (fun c11 => ?_)
    · have hf := ite_f c11 hf
      refine g_mask [true, false] rfl ?_
      refine g_widen (k' := 0) (u' := 0) (by omega) (by omega) ?_
      exact s_X12_view_27 v0 M9 _ hf
    · have hf := ite_t c11 hf
      refine g_aload_n (pc' := 23) dX12_view_22 rfl rfl ?_
      refine g_iconst (pc' := 24) (1 : Int32) dX12_view_23 rfl (by decide) ?_
      obtain ⟨h12, hf⟩ := chk_s hf
      obtain ⟨_, M13, e14, hf⟩ := bnd_some hf
      refine g_callVv (pc' := 27) (k' := 0) (u' := 0) (fr2 := 1) (As := [aI (1 : Int32)]) (b := v0) (st := []) cf_X12_takeFields q_459 (by omega) (ci := 12) rfl rfl (by decide) dX12_view_24 rfl rfl rfl (Nat.le_of_ble_eq_true rfl) (Or.inl rfl) (Nat.le_refl _) (Nat.le_refl _) (Nat.le_refl _) (Nat.le_refl _) h12 (s_X12_takeFields v0 (1 : Int32) M9 _ e14) ?_
      refine g_mask [true, false] rfl ?_
      refine g_widen (k' := 0) (u' := 0) (by omega) (by omega) ?_
      exact s_X12_view_27 v0 M13 _ hf
  · have hf := ite_t c4 hf
    refine g_iconst (pc' := 9) (0 : Int32) dX12_view_8 rfl (by decide) ?_
    cases hf
    exact g_ireturn dX12_view_9 rfl (Nat.le_of_ble_eq_true rfl) (Nat.le_of_ble_eq_true rfl)
def f_X12_fault (v0 : Nat) (M : Mem) : Option (Int32 × Mem) :=
  if mK M v0 = 13 then
    ap (sI M v0 2 (0 : Int32)) fun M2 =>
    if mK M2 v0 = 13 then
      some (mI M2 v0 14, M2)
    else none
  else none
theorem s_X12_fault (v0 : Nat) (M : Mem) (r : (Int32 × Mem)) (hf : f_X12_fault v0 M = some r) : Sem mi_X12_fault (1) [aR v0] M (oI r.1) r.2 := by
  unfold f_X12_fault at hf
  refine sem_of (by decide) rfl rfl rfl (Nat.le_of_ble_eq_true rfl) (lv := [some (aR v0)]) rfl ?_
  refine g_aload_n (pc' := 1) dX12_fault_0 rfl rfl ?_
  refine g_iconst (pc' := 2) (0 : Int32) dX12_fault_1 rfl (by decide) ?_
  obtain ⟨h1, hf⟩ := chk_s hf
  refine g_putI (pc' := 5) 12 2 rfl rfl (by decide) inX12 tyX12_ok nmX12 (by decide) rfl rfl rfl rfl q_167 dX12_fault_2 rfl h1 (gM fun M2 hM2 => ?_)
  have hf := ap_eq hf hM2
  refine g_aload_n (pc' := 6) dX12_fault_5 rfl rfl ?_
  obtain ⟨h3, hf⟩ := chk_s hf
  refine g_getI (pc' := 9) 12 14 rfl rfl (by decide) inX12 (by decide) rfl rfl q_126 dX12_fault_6 rfl h3 ?_
  cases hf
  exact g_ireturn dX12_fault_9 rfl (Nat.le_of_ble_eq_true rfl) (Nat.le_of_ble_eq_true rfl)
def f_X12_repAt (v0 : Nat) (v1 : Int32) (v2 : Int32) (M : Mem) : Option (Int32 × Mem) :=
  if mK M v0 = 13 then
    if mK M (mR M v0 27) = 21 then
      if inB (((120 : Int32) * v1) + v2) (mN M (mR M v0 27)) = true then
        some ((mI M (mR M v0 27) (((120 : Int32) * v1) + v2).toNatClampNeg) / (10000 : Int32), M)
      else none
    else none
  else none
theorem s_X12_repAt (v0 : Nat) (v1 : Int32) (v2 : Int32) (M : Mem) (r : (Int32 × Mem)) (hf : f_X12_repAt v0 v1 v2 M = some r) : Sem mi_X12_repAt (1) [aR v0, aI v1, aI v2] M (oI r.1) r.2 := by
  unfold f_X12_repAt at hf
  refine sem_of (by decide) rfl rfl rfl (Nat.le_of_ble_eq_true rfl) (lv := [some (aR v0), some (aI v1), some (aI v2)]) rfl ?_
  refine g_aload_n (pc' := 1) dX12_repAt_0 rfl rfl ?_
  obtain ⟨h1, hf⟩ := chk_s hf
  refine g_getR (pc' := 4) 12 27 rfl rfl (by decide) inX12 (by decide) rfl rfl q_138 dX12_repAt_1 rfl h1 ?_
  refine g_bipush (pc' := 6) (120 : Int32) dX12_repAt_4 rfl (by decide) ?_
  refine g_iload_n (pc' := 7) dX12_repAt_6 rfl rfl ?_
  refine g_imul (pc' := 8) dX12_repAt_7 rfl ?_
  refine g_iload_n (pc' := 9) dX12_repAt_8 rfl rfl ?_
  refine g_iadd (pc' := 10) dX12_repAt_9 rfl ?_
  obtain ⟨h2, hf⟩ := chk_s hf
  obtain ⟨b3, hf⟩ := chk_s hf
  refine g_iald (pc' := 11) dX12_repAt_10 rfl h2 (inB_in b3) ?_
  refine g_sipush (pc' := 14) (10000 : Int32) dX12_repAt_11 rfl (by decide) ?_
  refine g_idiv (pc' := 15) dX12_repAt_14 rfl (by decide) ?_
  cases hf
  exact g_ireturn dX12_repAt_15 rfl (Nat.le_of_ble_eq_true rfl) (Nat.le_of_ble_eq_true rfl)
def f_X12_defAt (v0 : Nat) (v1 : Int32) (v2 : Int32) (M : Mem) : Option (Int32 × Mem) :=
  if mK M v0 = 13 then
    if mK M (mR M v0 27) = 21 then
      if inB (((120 : Int32) * v1) + v2) (mN M (mR M v0 27)) = true then
        some (((mI M (mR M v0 27) (((120 : Int32) * v1) + v2).toNatClampNeg) / (1000 : Int32)) - ((mI M (mR M v0 27) (((120 : Int32) * v1) + v2).toNatClampNeg) / (1000 : Int32)) / (10 : Int32) * (10 : Int32), M)
      else none
    else none
  else none
theorem s_X12_defAt (v0 : Nat) (v1 : Int32) (v2 : Int32) (M : Mem) (r : (Int32 × Mem)) (hf : f_X12_defAt v0 v1 v2 M = some r) : Sem mi_X12_defAt (1) [aR v0, aI v1, aI v2] M (oI r.1) r.2 := by
  unfold f_X12_defAt at hf
  refine sem_of (by decide) rfl rfl rfl (Nat.le_of_ble_eq_true rfl) (lv := [some (aR v0), some (aI v1), some (aI v2)]) rfl ?_
  refine g_aload_n (pc' := 1) dX12_defAt_0 rfl rfl ?_
  obtain ⟨h1, hf⟩ := chk_s hf
  refine g_getR (pc' := 4) 12 27 rfl rfl (by decide) inX12 (by decide) rfl rfl q_138 dX12_defAt_1 rfl h1 ?_
  refine g_bipush (pc' := 6) (120 : Int32) dX12_defAt_4 rfl (by decide) ?_
  refine g_iload_n (pc' := 7) dX12_defAt_6 rfl rfl ?_
  refine g_imul (pc' := 8) dX12_defAt_7 rfl ?_
  refine g_iload_n (pc' := 9) dX12_defAt_8 rfl rfl ?_
  refine g_iadd (pc' := 10) dX12_defAt_9 rfl ?_
  obtain ⟨h2, hf⟩ := chk_s hf
  obtain ⟨b3, hf⟩ := chk_s hf
  refine g_iald (pc' := 11) dX12_defAt_10 rfl h2 (inB_in b3) ?_
  refine g_sipush (pc' := 14) (1000 : Int32) dX12_defAt_11 rfl (by decide) ?_
  refine g_idiv (pc' := 15) dX12_defAt_14 rfl (by decide) ?_
  refine g_bipush (pc' := 17) (10 : Int32) dX12_defAt_15 rfl (by decide) ?_
  refine g_irem (pc' := 18) dX12_defAt_17 rfl (by decide) ?_
  cases hf
  exact g_ireturn dX12_defAt_18 rfl (Nat.le_of_ble_eq_true rfl) (Nat.le_of_ble_eq_true rfl)
def f_X12_valueAt (v0 : Nat) (v1 : Int32) (v2 : Int32) (M : Mem) : Option (Int32 × Mem) :=
  if mK M v0 = 13 then
    if mK M (mR M v0 27) = 21 then
      if inB (((120 : Int32) * v1) + v2) (mN M (mR M v0 27)) = true then
        some ((mI M (mR M v0 27) (((120 : Int32) * v1) + v2).toNatClampNeg) - (mI M (mR M v0 27) (((120 : Int32) * v1) + v2).toNatClampNeg) / (1000 : Int32) * (1000 : Int32), M)
      else none
    else none
  else none
theorem s_X12_valueAt (v0 : Nat) (v1 : Int32) (v2 : Int32) (M : Mem) (r : (Int32 × Mem)) (hf : f_X12_valueAt v0 v1 v2 M = some r) : Sem mi_X12_valueAt (1) [aR v0, aI v1, aI v2] M (oI r.1) r.2 := by
  unfold f_X12_valueAt at hf
  refine sem_of (by decide) rfl rfl rfl (Nat.le_of_ble_eq_true rfl) (lv := [some (aR v0), some (aI v1), some (aI v2)]) rfl ?_
  refine g_aload_n (pc' := 1) dX12_valueAt_0 rfl rfl ?_
  obtain ⟨h1, hf⟩ := chk_s hf
  refine g_getR (pc' := 4) 12 27 rfl rfl (by decide) inX12 (by decide) rfl rfl q_138 dX12_valueAt_1 rfl h1 ?_
  refine g_bipush (pc' := 6) (120 : Int32) dX12_valueAt_4 rfl (by decide) ?_
  refine g_iload_n (pc' := 7) dX12_valueAt_6 rfl rfl ?_
  refine g_imul (pc' := 8) dX12_valueAt_7 rfl ?_
  refine g_iload_n (pc' := 9) dX12_valueAt_8 rfl rfl ?_
  refine g_iadd (pc' := 10) dX12_valueAt_9 rfl ?_
  obtain ⟨h2, hf⟩ := chk_s hf
  obtain ⟨b3, hf⟩ := chk_s hf
  refine g_iald (pc' := 11) dX12_valueAt_10 rfl h2 (inB_in b3) ?_
  refine g_sipush (pc' := 14) (1000 : Int32) dX12_valueAt_11 rfl (by decide) ?_
  refine g_irem (pc' := 15) dX12_valueAt_14 rfl (by decide) ?_
  cases hf
  exact g_ireturn dX12_valueAt_15 rfl (Nat.le_of_ble_eq_true rfl) (Nat.le_of_ble_eq_true rfl)
def f_X12_hasValue (v0 : Nat) (v1 : Int32) (v2 : Int32) (M : Mem) : Option (Int32 × Mem) :=
  if mK M v0 = 13 then
    bnd (f_X12_defAt v0 v1 v2 M) fun r3 M2 =>
    if mK M2 v0 = 13 then
      if mK M2 (mR M2 v0 25) = 21 then
        if inB v1 (mN M2 (mR M2 v0 25)) = true then
          if mK M2 (mR M2 v0 18) = 21 then
            if inB (mI M2 (mR M2 v0 25) v1.toNatClampNeg) (mN M2 (mR M2 v0 18)) = true then
              if r3 = (mI M2 (mR M2 v0 18) (mI M2 (mR M2 v0 25) v1.toNatClampNeg).toNatClampNeg) then
                some ((1 : Int32), M2)
              else
                some ((0 : Int32), M2)
            else none
          else none
        else none
      else none
    else none
  else none
theorem s_X12_hasValue (v0 : Nat) (v1 : Int32) (v2 : Int32) (M : Mem) (r : (Int32 × Mem)) (hf : f_X12_hasValue v0 v1 v2 M = some r) : Sem mi_X12_hasValue (2) [aR v0, aI v1, aI v2] M (oI r.1) r.2 := by
  unfold f_X12_hasValue at hf
  refine sem_of (by decide) rfl rfl rfl (Nat.le_of_ble_eq_true rfl) (lv := [some (aR v0), some (aI v1), some (aI v2)]) rfl ?_
  refine g_aload_n (pc' := 1) dX12_hasValue_0 rfl rfl ?_
  refine g_iload_n (pc' := 2) dX12_hasValue_1 rfl rfl ?_
  refine g_iload_n (pc' := 3) dX12_hasValue_2 rfl rfl ?_
  obtain ⟨h1, hf⟩ := chk_s hf
  obtain ⟨r3, M2, e3, hf⟩ := bnd_some hf
  refine g_callVi (pc' := 6) (k' := 0) (u' := 0) (fr2 := 1) (As := [aI v1, aI v2]) (b := v0) (st := []) cf_X12_defAt q_660 (by omega) (ci := 12) rfl rfl (by decide) dX12_hasValue_3 rfl rfl rfl (Nat.le_of_ble_eq_true rfl) (Or.inl rfl) (Nat.le_refl _) (Nat.le_refl _) (Nat.le_refl _) (Nat.le_refl _) h1 (s_X12_defAt v0 v1 v2 M _ e3) ?_
  refine g_aload_n (pc' := 7) dX12_hasValue_6 rfl rfl ?_
  obtain ⟨h4, hf⟩ := chk_s hf
  refine g_getR (pc' := 10) 12 18 rfl rfl (by decide) inX12 (by decide) rfl rfl q_130 dX12_hasValue_7 rfl h4 ?_
  refine g_aload_n (pc' := 11) dX12_hasValue_10 rfl rfl ?_
  refine g_getR (pc' := 14) 12 25 rfl rfl (by decide) inX12 (by decide) rfl rfl q_137 dX12_hasValue_11 rfl h4 ?_
  refine g_iload_n (pc' := 15) dX12_hasValue_14 rfl rfl ?_
  obtain ⟨h5, hf⟩ := chk_s hf
  obtain ⟨b6, hf⟩ := chk_s hf
  refine g_iald (pc' := 16) dX12_hasValue_15 rfl h5 (inB_in b6) ?_
  obtain ⟨h7, hf⟩ := chk_s hf
  obtain ⟨b8, hf⟩ := chk_s hf
  refine g_iald (pc' := 17) dX12_hasValue_16 rfl h7 (inB_in b8) ?_
  refine g_icmp_ne (pc' := 20) 24 dX12_hasValue_17 rfl (by decide) (fun c9 => ?_) (fun c9 => ?_)
  · have hf := ite_f c9 hf
    refine g_iconst (pc' := 25) (0 : Int32) dX12_hasValue_24 rfl (by decide) ?_
    cases hf
    exact g_zreturn dX12_hasValue_25 rfl (Or.inl rfl) (Nat.le_of_ble_eq_true rfl) (Nat.le_of_ble_eq_true rfl)
  · have hf := ite_t c9 hf
    refine g_iconst (pc' := 21) (1 : Int32) dX12_hasValue_20 rfl (by decide) ?_
    refine g_goto (pc' := 25) dX12_hasValue_21 (by decide) ?_
    cases hf
    exact g_zreturn dX12_hasValue_25 rfl (Or.inr rfl) (Nat.le_of_ble_eq_true rfl) (Nat.le_of_ble_eq_true rfl)
def f_X12_put (v0 : Nat) (v1 : Int32) (v2 : Int32) (v3 : Int32) (v4 : Int32) (v5 : Int32) (M : Mem) : Option (Unit × Mem) :=
  if mK M v0 = 13 then
    if mK M (mR M v0 27) = 21 then
      if inB (((120 : Int32) * v1) + v2) (mN M (mR M v0 27)) = true then
        ap (sI M (mR M v0 27) (((120 : Int32) * v1) + v2).toNatClampNeg ((((10000 : Int32) * v3) + ((1000 : Int32) * v4)) + v5)) fun M4 =>
        some ((), M4)
      else none
    else none
  else none
theorem s_X12_put (v0 : Nat) (v1 : Int32) (v2 : Int32) (v3 : Int32) (v4 : Int32) (v5 : Int32) (M : Mem) (r : (Unit × Mem)) (hf : f_X12_put v0 v1 v2 v3 v4 v5 M = some r) : Sem mi_X12_put (1) [aR v0, aI v1, aI v2, aI v3, aI v4, aI v5] M (oU r.1) r.2 := by
  unfold f_X12_put at hf
  refine sem_of (by decide) rfl rfl rfl (Nat.le_of_ble_eq_true rfl) (lv := [some (aR v0), some (aI v1), some (aI v2), some (aI v3), some (aI v4), some (aI v5)]) rfl ?_
  refine g_aload_n (pc' := 1) dX12_put_0 rfl rfl ?_
  obtain ⟨h1, hf⟩ := chk_s hf
  refine g_getR (pc' := 4) 12 27 rfl rfl (by decide) inX12 (by decide) rfl rfl q_138 dX12_put_1 rfl h1 ?_
  refine g_bipush (pc' := 6) (120 : Int32) dX12_put_4 rfl (by decide) ?_
  refine g_iload_n (pc' := 7) dX12_put_6 rfl rfl ?_
  refine g_imul (pc' := 8) dX12_put_7 rfl ?_
  refine g_iload_n (pc' := 9) dX12_put_8 rfl rfl ?_
  refine g_iadd (pc' := 10) dX12_put_9 rfl ?_
  refine g_sipush (pc' := 13) (10000 : Int32) dX12_put_10 rfl (by decide) ?_
  refine g_iload_n (pc' := 14) dX12_put_13 rfl rfl ?_
  refine g_imul (pc' := 15) dX12_put_14 rfl ?_
  refine g_sipush (pc' := 18) (1000 : Int32) dX12_put_15 rfl (by decide) ?_
  refine g_iload (pc' := 20) dX12_put_18 rfl rfl ?_
  refine g_imul (pc' := 21) dX12_put_20 rfl ?_
  refine g_iadd (pc' := 22) dX12_put_21 rfl ?_
  refine g_iload (pc' := 24) dX12_put_22 rfl rfl ?_
  refine g_iadd (pc' := 25) dX12_put_24 rfl ?_
  obtain ⟨h2, hf⟩ := chk_s hf
  obtain ⟨b3, hf⟩ := chk_s hf
  refine g_iast (pc' := 26) dX12_put_25 rfl h2 (inB_in b3) (gM fun M4 hM4 => ?_)
  have hf := ap_eq hf hM4
  cases hf
  exact g_return dX12_put_26 rfl (Nat.le_of_ble_eq_true rfl) (Nat.le_of_ble_eq_true rfl)
def f_X12_append_26 (v0 : Nat) (v1 : Int32) (M : Mem) : Option (Unit × Mem) :=
  if mK M v0 = 13 then
    if mK M (mR M v0 28) = 21 then
      if inB v1 (mN M (mR M v0 28)) = true then
        ap (sI M (mR M v0 28) v1.toNatClampNeg ((mI M (mR M v0 28) v1.toNatClampNeg) + (1 : Int32))) fun M4 =>
        some ((), M4)
      else none
    else none
  else none
def f_X12_append (v0 : Nat) (v1 : Int32) (v2 : Int32) (v3 : Int32) (v4 : Int32) (M : Mem) : Option (Unit × Mem) :=
  if mK M v0 = 13 then
    if mK M (mR M v0 28) = 21 then
      if inB v1 (mN M (mR M v0 28)) = true then
        if (120 : Int32) ≤ (mI M (mR M v0 28) v1.toNatClampNeg) then
          f_X12_append_26 v0 v1 M
        else
          bnd (f_X12_put v0 v1 (mI M (mR M v0 28) v1.toNatClampNeg) v2 v3 v4 M) fun _ M5 =>
          f_X12_append_26 v0 v1 M5
      else none
    else none
  else none
theorem s_X12_append_26 (v0 : Nat) (v1 : Int32) (M : Mem) (r : (Unit × Mem)) (hf : f_X12_append_26 v0 v1 M = some r) : G mi_X12_append 2 (oU r.1) r.2 26 [some (aR v0), some (aI v1), none, none, none] [] M 0 0 := by
  unfold f_X12_append_26 at hf
  refine g_aload_n (pc' := 27) dX12_append_26 rfl rfl ?_
  obtain ⟨h1, hf⟩ := chk_s hf
  refine g_getR (pc' := 30) 12 28 rfl rfl (by decide) inX12 (by decide) rfl rfl q_139 dX12_append_27 rfl h1 ?_
  refine g_iload_n (pc' := 31) dX12_append_30 rfl rfl ?_
  refine g_dup2 (pc' := 32) dX12_append_31 rfl rfl rfl ?_
  obtain ⟨h2, hf⟩ := chk_s hf
  obtain ⟨b3, hf⟩ := chk_s hf
  refine g_iald (pc' := 33) dX12_append_32 rfl h2 (inB_in b3) ?_
  refine g_iconst (pc' := 34) (1 : Int32) dX12_append_33 rfl (by decide) ?_
  refine g_iadd (pc' := 35) dX12_append_34 rfl ?_
  refine g_iast (pc' := 36) dX12_append_35 rfl h2 (inB_in b3) (gM fun M4 hM4 => ?_)
  have hf := ap_eq hf hM4
  cases hf
  exact g_return dX12_append_36 rfl (Nat.le_of_ble_eq_true rfl) (Nat.le_of_ble_eq_true rfl)
theorem s_X12_append (v0 : Nat) (v1 : Int32) (v2 : Int32) (v3 : Int32) (v4 : Int32) (M : Mem) (r : (Unit × Mem)) (hf : f_X12_append v0 v1 v2 v3 v4 M = some r) : Sem mi_X12_append (2) [aR v0, aI v1, aI v2, aI v3, aI v4] M (oU r.1) r.2 := by
  unfold f_X12_append at hf
  refine sem_of (by decide) rfl rfl rfl (Nat.le_of_ble_eq_true rfl) (lv := [some (aR v0), some (aI v1), some (aI v2), some (aI v3), some (aI v4)]) rfl ?_
  refine g_aload_n (pc' := 1) dX12_append_0 rfl rfl ?_
  obtain ⟨h1, hf⟩ := chk_s hf
  refine g_getR (pc' := 4) 12 28 rfl rfl (by decide) inX12 (by decide) rfl rfl q_139 dX12_append_1 rfl h1 ?_
  refine g_iload_n (pc' := 5) dX12_append_4 rfl rfl ?_
  obtain ⟨h2, hf⟩ := chk_s hf
  obtain ⟨b3, hf⟩ := chk_s hf
  refine g_iald (pc' := 6) dX12_append_5 rfl h2 (inB_in b3) ?_
  refine g_bipush (pc' := 8) (120 : Int32) dX12_append_6 rfl (by decide) ?_
  refine g_icmp_ge (pc' := 11) 26 dX12_append_8 rfl (by decide) (fun c4 => ?_) (fun c4 => ?_)
  · have hf := ite_t c4 hf
    refine g_mask [true, true, false, false, false] rfl ?_
    exact s_X12_append_26 v0 v1 M _ hf
  · have hf := ite_f c4 hf
    refine g_aload_n (pc' := 12) dX12_append_11 rfl rfl ?_
    refine g_iload_n (pc' := 13) dX12_append_12 rfl rfl ?_
    refine g_aload_n (pc' := 14) dX12_append_13 rfl rfl ?_
    refine g_getR (pc' := 17) 12 28 rfl rfl (by decide) inX12 (by decide) rfl rfl q_139 dX12_append_14 rfl h1 ?_
    refine g_iload_n (pc' := 18) dX12_append_17 rfl rfl ?_
    refine g_iald (pc' := 19) dX12_append_18 rfl h2 (inB_in b3) ?_
    refine g_iload_n (pc' := 20) dX12_append_19 rfl rfl ?_
    refine g_iload_n (pc' := 21) dX12_append_20 rfl rfl ?_
    refine g_iload (pc' := 23) dX12_append_21 rfl rfl ?_
    obtain ⟨_, M5, e6, hf⟩ := bnd_some hf
    refine g_callVv (pc' := 26) (k' := 0) (u' := 0) (fr2 := 1) (As := [aI v1, aI (mI M (mR M v0 28) v1.toNatClampNeg), aI v2, aI v3, aI v4]) (b := v0) (st := []) cf_X12_put q_717 (by omega) (ci := 12) rfl rfl (by decide) dX12_append_23 rfl rfl rfl (Nat.le_of_ble_eq_true rfl) (Or.inl rfl) (Nat.le_refl _) (Nat.le_refl _) (Nat.le_refl _) (Nat.le_refl _) h1 (s_X12_put v0 v1 (mI M (mR M v0 28) v1.toNatClampNeg) v2 v3 v4 M _ e6) ?_
    refine g_mask [true, true, false, false, false] rfl ?_
    refine g_widen (k' := 0) (u' := 0) (by omega) (by omega) ?_
    exact s_X12_append_26 v0 v1 M5 _ hf
def f_X12_pack_28 : Nat → Nat → Nat → Int32 → Int32 → Mem → Option (Unit × Mem)
  | 0, _, _, _, _, _ => none
  | n + 1, v0, v1, v2, v3, M =>
    if (8 : Int32) ≤ v3 then
      if mK M v0 = 13 then
        if mK M v1 = 21 then
          if inB ((v2 + (960 : Int32)) + (8 : Int32)) (mN M v1) = true then
            ap (sI M v1 ((v2 + (960 : Int32)) + (8 : Int32)).toNatClampNeg (mI M v0 30)) fun M5 =>
            some ((), M5)
          else none
        else none
      else none
    else
      if mK M v0 = 13 then
        if mK M (mR M v0 28) = 21 then
          if inB v3 (mN M (mR M v0 28)) = true then
            if mK M v1 = 21 then
              if inB ((v2 + (960 : Int32)) + v3) (mN M v1) = true then
                ap (sI M v1 ((v2 + (960 : Int32)) + v3).toNatClampNeg (mI M (mR M v0 28) v3.toNatClampNeg)) fun M11 =>
                f_X12_pack_28 n v0 v1 v2 (v3 + 1) M11
              else none
            else none
          else none
        else none
      else none
def f_X12_pack_2 : Nat → Nat → Nat → Int32 → Int32 → Mem → Option (Unit × Mem)
  | 0, _, _, _, _, _ => none
  | n + 1, v0, v1, v2, v3, M =>
    if (960 : Int32) ≤ v3 then
      f_X12_pack_28 FUEL v0 v1 v2 (0 : Int32) M
    else
      if mK M v0 = 13 then
        if mK M (mR M v0 27) = 21 then
          if inB v3 (mN M (mR M v0 27)) = true then
            if mK M v1 = 21 then
              if inB (v2 + v3) (mN M v1) = true then
                ap (sI M v1 (v2 + v3).toNatClampNeg (mI M (mR M v0 27) v3.toNatClampNeg)) fun M7 =>
                f_X12_pack_2 n v0 v1 v2 (v3 + 1) M7
              else none
            else none
          else none
        else none
      else none
def f_X12_pack (v0 : Nat) (v1 : Nat) (v2 : Int32) (M : Mem) : Option (Unit × Mem) :=
  f_X12_pack_2 FUEL v0 v1 v2 (0 : Int32) M
theorem s_X12_pack_28 : ∀ (n : Nat) (v0 : Nat) (v1 : Nat) (v2 : Int32) (v3 : Int32) (M : Mem) (r : (Unit × Mem)), f_X12_pack_28 n v0 v1 v2 v3 M = some r → G mi_X12_pack 1 (oU r.1) r.2 28 [some (aR v0), some (aR v1), some (aI v2), some (aI v3)] [] M 0 0 := by
  intro n
  induction n with
  | zero => intro v0 v1 v2 v3 M r hf; cases hf
  | succ n ih =>
    intro v0 v1 v2 v3 M r hf
    unfold f_X12_pack_28 at hf
    refine g_iload_n (pc' := 29) dX12_pack_28 rfl rfl ?_
    refine g_bipush (pc' := 31) (8 : Int32) dX12_pack_29 rfl (by decide) ?_
    refine g_icmp_ge (pc' := 34) 55 dX12_pack_31 rfl (by decide) (fun c1 => ?_) (fun c1 => ?_)
    · have hf := ite_t c1 hf
      refine g_aload_n (pc' := 56) dX12_pack_55 rfl rfl ?_
      refine g_iload_n (pc' := 57) dX12_pack_56 rfl rfl ?_
      refine g_sipush (pc' := 60) (960 : Int32) dX12_pack_57 rfl (by decide) ?_
      refine g_iadd (pc' := 61) dX12_pack_60 rfl ?_
      refine g_bipush (pc' := 63) (8 : Int32) dX12_pack_61 rfl (by decide) ?_
      refine g_iadd (pc' := 64) dX12_pack_63 rfl ?_
      refine g_aload_n (pc' := 65) dX12_pack_64 rfl rfl ?_
      obtain ⟨h2, hf⟩ := chk_s hf
      refine g_getI (pc' := 68) 12 30 rfl rfl (by decide) inX12 (by decide) rfl rfl q_364 dX12_pack_65 rfl h2 ?_
      obtain ⟨h3, hf⟩ := chk_s hf
      obtain ⟨b4, hf⟩ := chk_s hf
      refine g_iast (pc' := 69) dX12_pack_68 rfl h3 (inB_in b4) (gM fun M5 hM5 => ?_)
      have hf := ap_eq hf hM5
      cases hf
      exact g_return dX12_pack_69 rfl (Nat.le_of_ble_eq_true rfl) (Nat.le_of_ble_eq_true rfl)
    · have hf := ite_f c1 hf
      refine g_aload_n (pc' := 35) dX12_pack_34 rfl rfl ?_
      refine g_iload_n (pc' := 36) dX12_pack_35 rfl rfl ?_
      refine g_sipush (pc' := 39) (960 : Int32) dX12_pack_36 rfl (by decide) ?_
      refine g_iadd (pc' := 40) dX12_pack_39 rfl ?_
      refine g_iload_n (pc' := 41) dX12_pack_40 rfl rfl ?_
      refine g_iadd (pc' := 42) dX12_pack_41 rfl ?_
      refine g_aload_n (pc' := 43) dX12_pack_42 rfl rfl ?_
      obtain ⟨h6, hf⟩ := chk_s hf
      refine g_getR (pc' := 46) 12 28 rfl rfl (by decide) inX12 (by decide) rfl rfl q_139 dX12_pack_43 rfl h6 ?_
      refine g_iload_n (pc' := 47) dX12_pack_46 rfl rfl ?_
      obtain ⟨h7, hf⟩ := chk_s hf
      obtain ⟨b8, hf⟩ := chk_s hf
      refine g_iald (pc' := 48) dX12_pack_47 rfl h7 (inB_in b8) ?_
      obtain ⟨h9, hf⟩ := chk_s hf
      obtain ⟨b10, hf⟩ := chk_s hf
      refine g_iast (pc' := 49) dX12_pack_48 rfl h9 (inB_in b10) (gM fun M11 hM11 => ?_)
      have hf := ap_eq hf hM11
      refine g_iinc (pc' := 52) (lv' := [some (aR v0), some (aR v1), some (aI v2), some (aI (v3 + 1))]) (v3 + 1) dX12_pack_49 rfl rfl (by rfl) rfl (by decide) rfl ?_
      refine g_goto (pc' := 28) dX12_pack_52 (by decide) ?_
      exact ih v0 v1 v2 (v3 + 1) M11 _ hf
theorem s_X12_pack_2 : ∀ (n : Nat) (v0 : Nat) (v1 : Nat) (v2 : Int32) (v3 : Int32) (M : Mem) (r : (Unit × Mem)), f_X12_pack_2 n v0 v1 v2 v3 M = some r → G mi_X12_pack 1 (oU r.1) r.2 2 [some (aR v0), some (aR v1), some (aI v2), some (aI v3)] [] M 0 0 := by
  intro n
  induction n with
  | zero => intro v0 v1 v2 v3 M r hf; cases hf
  | succ n ih =>
    intro v0 v1 v2 v3 M r hf
    unfold f_X12_pack_2 at hf
    refine g_iload_n (pc' := 3) dX12_pack_2 rfl rfl ?_
    refine g_sipush (pc' := 6) (960 : Int32) dX12_pack_3 rfl (by decide) ?_
    refine g_icmp_ge (pc' := 9) 26 dX12_pack_6 rfl (by decide) (fun c1 => ?_) (fun c1 => ?_)
    · have hf := ite_t c1 hf
      refine g_iconst (pc' := 27) (0 : Int32) dX12_pack_26 rfl (by decide) ?_
      refine g_istore_n (pc' := 28) (lv' := [some (aR v0), some (aR v1), some (aI v2), some (aI (0 : Int32))]) dX12_pack_27 rfl rfl (by decide) rfl ?_
      exact s_X12_pack_28 FUEL v0 v1 v2 (0 : Int32) M _ hf
    · have hf := ite_f c1 hf
      refine g_aload_n (pc' := 10) dX12_pack_9 rfl rfl ?_
      refine g_iload_n (pc' := 11) dX12_pack_10 rfl rfl ?_
      refine g_iload_n (pc' := 12) dX12_pack_11 rfl rfl ?_
      refine g_iadd (pc' := 13) dX12_pack_12 rfl ?_
      refine g_aload_n (pc' := 14) dX12_pack_13 rfl rfl ?_
      obtain ⟨h2, hf⟩ := chk_s hf
      refine g_getR (pc' := 17) 12 27 rfl rfl (by decide) inX12 (by decide) rfl rfl q_138 dX12_pack_14 rfl h2 ?_
      refine g_iload_n (pc' := 18) dX12_pack_17 rfl rfl ?_
      obtain ⟨h3, hf⟩ := chk_s hf
      obtain ⟨b4, hf⟩ := chk_s hf
      refine g_iald (pc' := 19) dX12_pack_18 rfl h3 (inB_in b4) ?_
      obtain ⟨h5, hf⟩ := chk_s hf
      obtain ⟨b6, hf⟩ := chk_s hf
      refine g_iast (pc' := 20) dX12_pack_19 rfl h5 (inB_in b6) (gM fun M7 hM7 => ?_)
      have hf := ap_eq hf hM7
      refine g_iinc (pc' := 23) (lv' := [some (aR v0), some (aR v1), some (aI v2), some (aI (v3 + 1))]) (v3 + 1) dX12_pack_20 rfl rfl (by rfl) rfl (by decide) rfl ?_
      refine g_goto (pc' := 2) dX12_pack_23 (by decide) ?_
      exact ih v0 v1 v2 (v3 + 1) M7 _ hf
theorem s_X12_pack (v0 : Nat) (v1 : Nat) (v2 : Int32) (M : Mem) (r : (Unit × Mem)) (hf : f_X12_pack v0 v1 v2 M = some r) : Sem mi_X12_pack (1) [aR v0, aR v1, aI v2] M (oU r.1) r.2 := by
  unfold f_X12_pack at hf
  refine sem_of (by decide) rfl rfl rfl (Nat.le_of_ble_eq_true rfl) (lv := [some (aR v0), some (aR v1), some (aI v2), none]) rfl ?_
  refine g_iconst (pc' := 1) (0 : Int32) dX12_pack_0 rfl (by decide) ?_
  refine g_istore_n (pc' := 2) (lv' := [some (aR v0), some (aR v1), some (aI v2), some (aI (0 : Int32))]) dX12_pack_1 rfl rfl (by decide) rfl ?_
  exact s_X12_pack_2 FUEL v0 v1 v2 (0 : Int32) M _ hf
def f_X12_unpack_28 : Nat → Nat → Nat → Int32 → Int32 → Mem → Option (Unit × Mem)
  | 0, _, _, _, _, _ => none
  | n + 1, v0, v1, v2, v3, M =>
    if (8 : Int32) ≤ v3 then
      if mK M v1 = 21 then
        if inB ((v2 + (960 : Int32)) + (8 : Int32)) (mN M v1) = true then
          if mK M v0 = 13 then
            ap (sI M v0 30 (mI M v1 ((v2 + (960 : Int32)) + (8 : Int32)).toNatClampNeg)) fun M5 =>
            some ((), M5)
          else none
        else none
      else none
    else
      if mK M v0 = 13 then
        if mK M v1 = 21 then
          if inB ((v2 + (960 : Int32)) + v3) (mN M v1) = true then
            if mK M (mR M v0 28) = 21 then
              if inB v3 (mN M (mR M v0 28)) = true then
                ap (sI M (mR M v0 28) v3.toNatClampNeg (mI M v1 ((v2 + (960 : Int32)) + v3).toNatClampNeg)) fun M11 =>
                f_X12_unpack_28 n v0 v1 v2 (v3 + 1) M11
              else none
            else none
          else none
        else none
      else none
def f_X12_unpack_2 : Nat → Nat → Nat → Int32 → Int32 → Mem → Option (Unit × Mem)
  | 0, _, _, _, _, _ => none
  | n + 1, v0, v1, v2, v3, M =>
    if (960 : Int32) ≤ v3 then
      f_X12_unpack_28 FUEL v0 v1 v2 (0 : Int32) M
    else
      if mK M v0 = 13 then
        if mK M v1 = 21 then
          if inB (v2 + v3) (mN M v1) = true then
            if mK M (mR M v0 27) = 21 then
              if inB v3 (mN M (mR M v0 27)) = true then
                ap (sI M (mR M v0 27) v3.toNatClampNeg (mI M v1 (v2 + v3).toNatClampNeg)) fun M7 =>
                f_X12_unpack_2 n v0 v1 v2 (v3 + 1) M7
              else none
            else none
          else none
        else none
      else none
def f_X12_unpack (v0 : Nat) (v1 : Nat) (v2 : Int32) (M : Mem) : Option (Unit × Mem) :=
  f_X12_unpack_2 FUEL v0 v1 v2 (0 : Int32) M
theorem s_X12_unpack_28 : ∀ (n : Nat) (v0 : Nat) (v1 : Nat) (v2 : Int32) (v3 : Int32) (M : Mem) (r : (Unit × Mem)), f_X12_unpack_28 n v0 v1 v2 v3 M = some r → G mi_X12_unpack 1 (oU r.1) r.2 28 [some (aR v0), some (aR v1), some (aI v2), some (aI v3)] [] M 0 0 := by
  intro n
  induction n with
  | zero => intro v0 v1 v2 v3 M r hf; cases hf
  | succ n ih =>
    intro v0 v1 v2 v3 M r hf
    unfold f_X12_unpack_28 at hf
    refine g_iload_n (pc' := 29) dX12_unpack_28 rfl rfl ?_
    refine g_bipush (pc' := 31) (8 : Int32) dX12_unpack_29 rfl (by decide) ?_
    refine g_icmp_ge (pc' := 34) 55 dX12_unpack_31 rfl (by decide) (fun c1 => ?_) (fun c1 => ?_)
    · have hf := ite_t c1 hf
      refine g_aload_n (pc' := 56) dX12_unpack_55 rfl rfl ?_
      refine g_aload_n (pc' := 57) dX12_unpack_56 rfl rfl ?_
      refine g_iload_n (pc' := 58) dX12_unpack_57 rfl rfl ?_
      refine g_sipush (pc' := 61) (960 : Int32) dX12_unpack_58 rfl (by decide) ?_
      refine g_iadd (pc' := 62) dX12_unpack_61 rfl ?_
      refine g_bipush (pc' := 64) (8 : Int32) dX12_unpack_62 rfl (by decide) ?_
      refine g_iadd (pc' := 65) dX12_unpack_64 rfl ?_
      obtain ⟨h2, hf⟩ := chk_s hf
      obtain ⟨b3, hf⟩ := chk_s hf
      refine g_iald (pc' := 66) dX12_unpack_65 rfl h2 (inB_in b3) ?_
      obtain ⟨h4, hf⟩ := chk_s hf
      refine g_putI (pc' := 69) 12 30 rfl rfl (by decide) inX12 tyX12_ok nmX12 (by decide) rfl rfl rfl rfl q_364 dX12_unpack_66 rfl h4 (gM fun M5 hM5 => ?_)
      have hf := ap_eq hf hM5
      cases hf
      exact g_return dX12_unpack_69 rfl (Nat.le_of_ble_eq_true rfl) (Nat.le_of_ble_eq_true rfl)
    · have hf := ite_f c1 hf
      refine g_aload_n (pc' := 35) dX12_unpack_34 rfl rfl ?_
      obtain ⟨h6, hf⟩ := chk_s hf
      refine g_getR (pc' := 38) 12 28 rfl rfl (by decide) inX12 (by decide) rfl rfl q_139 dX12_unpack_35 rfl h6 ?_
      refine g_iload_n (pc' := 39) dX12_unpack_38 rfl rfl ?_
      refine g_aload_n (pc' := 40) dX12_unpack_39 rfl rfl ?_
      refine g_iload_n (pc' := 41) dX12_unpack_40 rfl rfl ?_
      refine g_sipush (pc' := 44) (960 : Int32) dX12_unpack_41 rfl (by decide) ?_
      refine g_iadd (pc' := 45) dX12_unpack_44 rfl ?_
      refine g_iload_n (pc' := 46) dX12_unpack_45 rfl rfl ?_
      refine g_iadd (pc' := 47) dX12_unpack_46 rfl ?_
      obtain ⟨h7, hf⟩ := chk_s hf
      obtain ⟨b8, hf⟩ := chk_s hf
      refine g_iald (pc' := 48) dX12_unpack_47 rfl h7 (inB_in b8) ?_
      obtain ⟨h9, hf⟩ := chk_s hf
      obtain ⟨b10, hf⟩ := chk_s hf
      refine g_iast (pc' := 49) dX12_unpack_48 rfl h9 (inB_in b10) (gM fun M11 hM11 => ?_)
      have hf := ap_eq hf hM11
      refine g_iinc (pc' := 52) (lv' := [some (aR v0), some (aR v1), some (aI v2), some (aI (v3 + 1))]) (v3 + 1) dX12_unpack_49 rfl rfl (by rfl) rfl (by decide) rfl ?_
      refine g_goto (pc' := 28) dX12_unpack_52 (by decide) ?_
      exact ih v0 v1 v2 (v3 + 1) M11 _ hf
theorem s_X12_unpack_2 : ∀ (n : Nat) (v0 : Nat) (v1 : Nat) (v2 : Int32) (v3 : Int32) (M : Mem) (r : (Unit × Mem)), f_X12_unpack_2 n v0 v1 v2 v3 M = some r → G mi_X12_unpack 1 (oU r.1) r.2 2 [some (aR v0), some (aR v1), some (aI v2), some (aI v3)] [] M 0 0 := by
  intro n
  induction n with
  | zero => intro v0 v1 v2 v3 M r hf; cases hf
  | succ n ih =>
    intro v0 v1 v2 v3 M r hf
    unfold f_X12_unpack_2 at hf
    refine g_iload_n (pc' := 3) dX12_unpack_2 rfl rfl ?_
    refine g_sipush (pc' := 6) (960 : Int32) dX12_unpack_3 rfl (by decide) ?_
    refine g_icmp_ge (pc' := 9) 26 dX12_unpack_6 rfl (by decide) (fun c1 => ?_) (fun c1 => ?_)
    · have hf := ite_t c1 hf
      refine g_iconst (pc' := 27) (0 : Int32) dX12_unpack_26 rfl (by decide) ?_
      refine g_istore_n (pc' := 28) (lv' := [some (aR v0), some (aR v1), some (aI v2), some (aI (0 : Int32))]) dX12_unpack_27 rfl rfl (by decide) rfl ?_
      exact s_X12_unpack_28 FUEL v0 v1 v2 (0 : Int32) M _ hf
    · have hf := ite_f c1 hf
      refine g_aload_n (pc' := 10) dX12_unpack_9 rfl rfl ?_
      obtain ⟨h2, hf⟩ := chk_s hf
      refine g_getR (pc' := 13) 12 27 rfl rfl (by decide) inX12 (by decide) rfl rfl q_138 dX12_unpack_10 rfl h2 ?_
      refine g_iload_n (pc' := 14) dX12_unpack_13 rfl rfl ?_
      refine g_aload_n (pc' := 15) dX12_unpack_14 rfl rfl ?_
      refine g_iload_n (pc' := 16) dX12_unpack_15 rfl rfl ?_
      refine g_iload_n (pc' := 17) dX12_unpack_16 rfl rfl ?_
      refine g_iadd (pc' := 18) dX12_unpack_17 rfl ?_
      obtain ⟨h3, hf⟩ := chk_s hf
      obtain ⟨b4, hf⟩ := chk_s hf
      refine g_iald (pc' := 19) dX12_unpack_18 rfl h3 (inB_in b4) ?_
      obtain ⟨h5, hf⟩ := chk_s hf
      obtain ⟨b6, hf⟩ := chk_s hf
      refine g_iast (pc' := 20) dX12_unpack_19 rfl h5 (inB_in b6) (gM fun M7 hM7 => ?_)
      have hf := ap_eq hf hM7
      refine g_iinc (pc' := 23) (lv' := [some (aR v0), some (aR v1), some (aI v2), some (aI (v3 + 1))]) (v3 + 1) dX12_unpack_20 rfl rfl (by rfl) rfl (by decide) rfl ?_
      refine g_goto (pc' := 2) dX12_unpack_23 (by decide) ?_
      exact ih v0 v1 v2 (v3 + 1) M7 _ hf
theorem s_X12_unpack (v0 : Nat) (v1 : Nat) (v2 : Int32) (M : Mem) (r : (Unit × Mem)) (hf : f_X12_unpack v0 v1 v2 M = some r) : Sem mi_X12_unpack (1) [aR v0, aR v1, aI v2] M (oU r.1) r.2 := by
  unfold f_X12_unpack at hf
  refine sem_of (by decide) rfl rfl rfl (Nat.le_of_ble_eq_true rfl) (lv := [some (aR v0), some (aR v1), some (aI v2), none]) rfl ?_
  refine g_iconst (pc' := 1) (0 : Int32) dX12_unpack_0 rfl (by decide) ?_
  refine g_istore_n (pc' := 2) (lv' := [some (aR v0), some (aR v1), some (aI v2), some (aI (0 : Int32))]) dX12_unpack_1 rfl rfl (by decide) rfl ?_
  exact s_X12_unpack_2 FUEL v0 v1 v2 (0 : Int32) M _ hf
def f_X12_isInside_22 (v2 : Int32) (v3 : Int32) (M : Mem) : Option (Int32 × Mem) :=
  if v3 = v2 then
    some ((1 : Int32), M)
  else
    some ((0 : Int32), M)
def f_X12_isInside_2 : Nat → Nat → Int32 → Int32 → Mem → Option (Int32 × Mem)
  | 0, _, _, _, _ => none
  | n + 1, v0, v2, v3, M =>
    if v3 = (-1 : Int32) then
      f_X12_isInside_22 v2 v3 M
    else
      if v3 = v2 then
        f_X12_isInside_22 v2 v3 M
      else
        if mK M v0 = 13 then
          if mK M (mR M v0 16) = 21 then
            if inB v3 (mN M (mR M v0 16)) = true then
              f_X12_isInside_2 n v0 v2 (mI M (mR M v0 16) v3.toNatClampNeg) M
            else none
          else none
        else none
def f_X12_isInside (v0 : Nat) (v1 : Int32) (v2 : Int32) (M : Mem) : Option (Int32 × Mem) :=
  f_X12_isInside_2 FUEL v0 v2 v1 M
theorem s_X12_isInside_22 (v2 : Int32) (v3 : Int32) (M : Mem) (r : (Int32 × Mem)) (hf : f_X12_isInside_22 v2 v3 M = some r) : G mi_X12_isInside 1 (oI r.1) r.2 22 [none, none, some (aI v2), some (aI v3)] [] M 0 0 := by
  unfold f_X12_isInside_22 at hf
  refine g_iload_n (pc' := 23) dX12_isInside_22 rfl rfl ?_
  refine g_iload_n (pc' := 24) dX12_isInside_23 rfl rfl ?_
  refine g_icmp_ne (pc' := 27) 31 dX12_isInside_24 rfl (by decide) (fun c1 => ?_) (fun c1 => ?_)
  · have hf := ite_f c1 hf
    refine g_iconst (pc' := 32) (0 : Int32) dX12_isInside_31 rfl (by decide) ?_
    cases hf
    exact g_zreturn dX12_isInside_32 rfl (Or.inl rfl) (Nat.le_of_ble_eq_true rfl) (Nat.le_of_ble_eq_true rfl)
  · have hf := ite_t c1 hf
    refine g_iconst (pc' := 28) (1 : Int32) dX12_isInside_27 rfl (by decide) ?_
    refine g_goto (pc' := 32) dX12_isInside_28 (by decide) ?_
    cases hf
    exact g_zreturn dX12_isInside_32 rfl (Or.inr rfl) (Nat.le_of_ble_eq_true rfl) (Nat.le_of_ble_eq_true rfl)
theorem s_X12_isInside_2 : ∀ (n : Nat) (v0 : Nat) (v2 : Int32) (v3 : Int32) (M : Mem) (r : (Int32 × Mem)), f_X12_isInside_2 n v0 v2 v3 M = some r → G mi_X12_isInside 1 (oI r.1) r.2 2 [some (aR v0), none, some (aI v2), some (aI v3)] [] M 0 0 := by
  intro n
  induction n with
  | zero => intro v0 v2 v3 M r hf; cases hf
  | succ n ih =>
    intro v0 v2 v3 M r hf
    unfold f_X12_isInside_2 at hf
    refine g_iload_n (pc' := 3) dX12_isInside_2 rfl rfl ?_
    refine g_iconst (pc' := 4) (-1 : Int32) dX12_isInside_3 rfl (by decide) ?_
    refine g_icmp_eq (pc' := 7) 22 dX12_isInside_4 rfl (by decide) (fun c1 => ?_) (fun c1 => ?_)
    · have hf := ite_t c1 hf
      refine g_mask [false, true, true, true] rfl ?_
      exact s_X12_isInside_22 v2 v3 M _ hf
    · have hf := ite_f c1 hf
      refine g_iload_n (pc' := 8) dX12_isInside_7 rfl rfl ?_
      refine g_iload_n (pc' := 9) dX12_isInside_8 rfl rfl ?_
      refine g_icmp_eq (pc' := 12) 22 dX12_isInside_9 rfl (by decide) (fun c2 => ?_) (fun c2 => ?_)
      · have hf := ite_t c2 hf
        refine g_mask [false, true, true, true] rfl ?_
        exact s_X12_isInside_22 v2 v3 M _ hf
      · have hf := ite_f c2 hf
        refine g_aload_n (pc' := 13) dX12_isInside_12 rfl rfl ?_
        obtain ⟨h3, hf⟩ := chk_s hf
        refine g_getR (pc' := 16) 12 16 rfl rfl (by decide) inX12 (by decide) rfl rfl q_128 dX12_isInside_13 rfl h3 ?_
        refine g_iload_n (pc' := 17) dX12_isInside_16 rfl rfl ?_
        obtain ⟨h4, hf⟩ := chk_s hf
        obtain ⟨b5, hf⟩ := chk_s hf
        refine g_iald (pc' := 18) dX12_isInside_17 rfl h4 (inB_in b5) ?_
        refine g_istore_n (pc' := 19) (lv' := [some (aR v0), none, some (aI v2), some (aI (mI M (mR M v0 16) v3.toNatClampNeg))]) dX12_isInside_18 rfl rfl (by decide) rfl ?_
        refine g_goto (pc' := 2) dX12_isInside_19 (by decide) ?_
        exact ih v0 v2 (mI M (mR M v0 16) v3.toNatClampNeg) M _ hf
theorem s_X12_isInside (v0 : Nat) (v1 : Int32) (v2 : Int32) (M : Mem) (r : (Int32 × Mem)) (hf : f_X12_isInside v0 v1 v2 M = some r) : Sem mi_X12_isInside (1) [aR v0, aI v1, aI v2] M (oI r.1) r.2 := by
  unfold f_X12_isInside at hf
  refine sem_of (by decide) rfl rfl rfl (Nat.le_of_ble_eq_true rfl) (lv := [some (aR v0), some (aI v1), some (aI v2), none]) rfl ?_
  refine g_iload_n (pc' := 1) dX12_isInside_0 rfl rfl ?_
  refine g_istore_n (pc' := 2) (lv' := [some (aR v0), some (aI v1), some (aI v2), some (aI v1)]) dX12_isInside_1 rfl rfl (by decide) rfl ?_
  refine g_mask [true, false, true, true] rfl ?_
  exact s_X12_isInside_2 FUEL v0 v2 v1 M _ hf
def f_X12_lackIn_38 (k3 : Nat → Int32 → Int32 → Int32 → Int32 → Mem → Option (Unit × Mem)) (v0 : Nat) (v1 : Int32) (v2 : Int32) (v3 : Int32) (v4 : Int32) (M : Mem) : Option (Unit × Mem) :=
  k3 v0 v1 v2 v3 (v4 + 1) M
def f_X12_lackIn_3 : Nat → Nat → Int32 → Int32 → Int32 → Int32 → Mem → Option (Unit × Mem)
  | 0, _, _, _, _, _, _ => none
  | n + 1, v0, v1, v2, v3, v4, M =>
    if mK M v0 = 13 then
      if mK M (mR M v0 24) = 21 then
        if inB (0 : Int32) (mN M (mR M v0 24)) = true then
          if (mI M (mR M v0 24) (0 : Int32).toNatClampNeg) ≤ v4 then
            some ((), M)
          else
            if mK M (mR M v0 25) = 21 then
              if inB v4 (mN M (mR M v0 25)) = true then
                bnd (f_X12_isInside v0 (mI M (mR M v0 25) v4.toNatClampNeg) v1 M) fun r8 M7 =>
                if r8 = 0 then
                  f_X12_lackIn_38 (f_X12_lackIn_3 n) v0 v1 v2 v3 v4 M7
                else
                  if mK M7 v0 = 13 then
                    bnd (f_X12_append v0 v4 v2 v3 (0 : Int32) M7) fun _ M11 =>
                    f_X12_lackIn_38 (f_X12_lackIn_3 n) v0 v1 v2 v3 v4 M11
                  else none
              else none
            else none
        else none
      else none
    else none
def f_X12_lackIn (v0 : Nat) (v1 : Int32) (v2 : Int32) (v3 : Int32) (M : Mem) : Option (Unit × Mem) :=
  f_X12_lackIn_3 FUEL v0 v1 v2 v3 (0 : Int32) M
theorem s_X12_lackIn_38 (k3 : Nat → Int32 → Int32 → Int32 → Int32 → Mem → Option (Unit × Mem)) (hk3 : ∀ (v0 : Nat) (v1 : Int32) (v2 : Int32) (v3 : Int32) (v4 : Int32) (M : Mem) (r : (Unit × Mem)), k3 v0 v1 v2 v3 v4 M = some r → G mi_X12_lackIn 3 (oU r.1) r.2 3 [some (aR v0), some (aI v1), some (aI v2), some (aI v3), some (aI v4)] [] M 0 0) (v0 : Nat) (v1 : Int32) (v2 : Int32) (v3 : Int32) (v4 : Int32) (M : Mem) (r : (Unit × Mem)) (hf : f_X12_lackIn_38 k3 v0 v1 v2 v3 v4 M = some r) : G mi_X12_lackIn 3 (oU r.1) r.2 38 [some (aR v0), some (aI v1), some (aI v2), some (aI v3), some (aI v4)] [] M 0 0 := by
  unfold f_X12_lackIn_38 at hf
  refine g_iinc (pc' := 41) (lv' := [some (aR v0), some (aI v1), some (aI v2), some (aI v3), some (aI (v4 + 1))]) (v4 + 1) dX12_lackIn_38 rfl rfl (by rfl) rfl (by decide) rfl ?_
  refine g_goto (pc' := 3) dX12_lackIn_41 (by decide) ?_
  exact hk3 v0 v1 v2 v3 (v4 + 1) M _ hf
theorem s_X12_lackIn_3 : ∀ (n : Nat) (v0 : Nat) (v1 : Int32) (v2 : Int32) (v3 : Int32) (v4 : Int32) (M : Mem) (r : (Unit × Mem)), f_X12_lackIn_3 n v0 v1 v2 v3 v4 M = some r → G mi_X12_lackIn 3 (oU r.1) r.2 3 [some (aR v0), some (aI v1), some (aI v2), some (aI v3), some (aI v4)] [] M 0 0 := by
  intro n
  induction n with
  | zero => intro v0 v1 v2 v3 v4 M r hf; cases hf
  | succ n ih =>
    intro v0 v1 v2 v3 v4 M r hf
    unfold f_X12_lackIn_3 at hf
    refine g_iload (pc' := 5) dX12_lackIn_3 rfl rfl ?_
    refine g_aload_n (pc' := 6) dX12_lackIn_5 rfl rfl ?_
    obtain ⟨h1, hf⟩ := chk_s hf
    refine g_getR (pc' := 9) 12 24 rfl rfl (by decide) inX12 (by decide) rfl rfl q_136 dX12_lackIn_6 rfl h1 ?_
    refine g_iconst (pc' := 10) (0 : Int32) dX12_lackIn_9 rfl (by decide) ?_
    obtain ⟨h2, hf⟩ := chk_s hf
    obtain ⟨b3, hf⟩ := chk_s hf
    refine g_iald (pc' := 11) dX12_lackIn_10 rfl h2 (inB_in b3) ?_
    refine g_icmp_ge (pc' := 14) 44 dX12_lackIn_11 rfl (by decide) (fun c4 => ?_) (fun c4 => ?_)
    · have hf := ite_t c4 hf
      cases hf
      exact g_return dX12_lackIn_44 rfl (Nat.le_of_ble_eq_true rfl) (Nat.le_of_ble_eq_true rfl)
    · have hf := ite_f c4 hf
      refine g_aload_n (pc' := 15) dX12_lackIn_14 rfl rfl ?_
      refine g_aload_n (pc' := 16) dX12_lackIn_15 rfl rfl ?_
      refine g_getR (pc' := 19) 12 25 rfl rfl (by decide) inX12 (by decide) rfl rfl q_137 dX12_lackIn_16 rfl h1 ?_
      refine g_iload (pc' := 21) dX12_lackIn_19 rfl rfl ?_
      obtain ⟨h5, hf⟩ := chk_s hf
      obtain ⟨b6, hf⟩ := chk_s hf
      refine g_iald (pc' := 22) dX12_lackIn_21 rfl h5 (inB_in b6) ?_
      refine g_iload_n (pc' := 23) dX12_lackIn_22 rfl rfl ?_
      obtain ⟨r8, M7, e8, hf⟩ := bnd_some hf
      refine g_callVi (pc' := 26) (k' := 0) (u' := 0) (fr2 := 1) (As := [aI (mI M (mR M v0 25) v4.toNatClampNeg), aI v1]) (b := v0) (st := []) cf_X12_isInside q_686 (by omega) (ci := 12) rfl rfl (by decide) dX12_lackIn_23 rfl rfl rfl (Nat.le_of_ble_eq_true rfl) (Or.inl rfl) (Nat.le_refl _) (Nat.le_refl _) (Nat.le_refl _) (Nat.le_refl _) h1 (s_X12_isInside v0 (mI M (mR M v0 25) v4.toNatClampNeg) v1 M _ e8) ?_
      refine g_if_eq (pc' := 29) 38 dX12_lackIn_26 rfl (by decide) (fun c9 => ?_) (fun c9 => ?_)
      · have hf := ite_t c9 hf
        refine g_widen (k' := 0) (u' := 0) (by omega) (by omega) ?_
        exact s_X12_lackIn_38 (f_X12_lackIn_3 n) ih v0 v1 v2 v3 v4 M7 _ hf
      · have hf := ite_f c9 hf
        refine g_aload_n (pc' := 30) dX12_lackIn_29 rfl rfl ?_
        refine g_iload (pc' := 32) dX12_lackIn_30 rfl rfl ?_
        refine g_iload_n (pc' := 33) dX12_lackIn_32 rfl rfl ?_
        refine g_iload_n (pc' := 34) dX12_lackIn_33 rfl rfl ?_
        refine g_iconst (pc' := 35) (0 : Int32) dX12_lackIn_34 rfl (by decide) ?_
        obtain ⟨h10, hf⟩ := chk_s hf
        obtain ⟨_, M11, e12, hf⟩ := bnd_some hf
        refine g_callVv (pc' := 38) (k' := 0) (u' := 0) (fr2 := 2) (As := [aI v4, aI v2, aI v3, aI (0 : Int32)]) (b := v0) (st := []) cf_X12_append q_713 (by omega) (ci := 12) rfl rfl (by decide) dX12_lackIn_35 rfl rfl rfl (Nat.le_of_ble_eq_true rfl) (Or.inl rfl) (Nat.le_refl _) (Nat.le_refl _) (Nat.le_refl _) (Nat.le_refl _) h10 (s_X12_append v0 v4 v2 v3 (0 : Int32) M7 _ e12) ?_
        refine g_widen (k' := 0) (u' := 0) (by omega) (by omega) ?_
        exact s_X12_lackIn_38 (f_X12_lackIn_3 n) ih v0 v1 v2 v3 v4 M11 _ hf
theorem s_X12_lackIn (v0 : Nat) (v1 : Int32) (v2 : Int32) (v3 : Int32) (M : Mem) (r : (Unit × Mem)) (hf : f_X12_lackIn v0 v1 v2 v3 M = some r) : Sem mi_X12_lackIn (3) [aR v0, aI v1, aI v2, aI v3] M (oU r.1) r.2 := by
  unfold f_X12_lackIn at hf
  refine sem_of (by decide) rfl rfl rfl (Nat.le_of_ble_eq_true rfl) (lv := [some (aR v0), some (aI v1), some (aI v2), some (aI v3), none]) rfl ?_
  refine g_iconst (pc' := 1) (0 : Int32) dX12_lackIn_0 rfl (by decide) ?_
  refine g_istore (pc' := 3) (lv' := [some (aR v0), some (aI v1), some (aI v2), some (aI v3), some (aI (0 : Int32))]) dX12_lackIn_1 rfl rfl (by decide) rfl ?_
  exact s_X12_lackIn_3 FUEL v0 v1 v2 v3 (0 : Int32) M _ hf
def f_X12_isTooMuch_47 (k17 : Nat → Int32 → Int32 → Mem → Option (Int32 × Mem)) (v0 : Nat) (v2 : Int32) (w0 : Int32) (M : Mem) : Option (Int32 × Mem) :=
  k17 v0 w0 (v2 + 1) M
def f_X12_isTooMuch_42 (k17 : Nat → Int32 → Int32 → Mem → Option (Int32 × Mem)) (v0 : Nat) (v2 : Int32) (M : Mem) : Option (Int32 × Mem) :=
  f_X12_isTooMuch_47 k17 v0 v2 (1 : Int32) M
def f_X12_isTooMuch_17 : Nat → Nat → Int32 → Int32 → Mem → Option (Int32 × Mem)
  | 0, _, _, _, _ => none
  | n + 1, v0, v1, v2, M =>
    if mK M v0 = 13 then
      if mK M (mR M v0 24) = 21 then
        if inB (0 : Int32) (mN M (mR M v0 24)) = true then
          if (mI M (mR M v0 24) (0 : Int32).toNatClampNeg) ≤ v2 then
            if zB v1 = true then
            some (v1, M)
            else none
          else
            if v1 = 0 then
              if mK M (mR M v0 28) = 21 then
                if inB v2 (mN M (mR M v0 28)) = true then
                  if (mI M (mR M v0 28) v2.toNatClampNeg) ≤ (120 : Int32) then
                    f_X12_isTooMuch_47 (f_X12_isTooMuch_17 n) v0 v2 (0 : Int32) M
                  else
                    f_X12_isTooMuch_42 (f_X12_isTooMuch_17 n) v0 v2 M
                else none
              else none
            else
              f_X12_isTooMuch_42 (f_X12_isTooMuch_17 n) v0 v2 M
        else none
      else none
    else none
def f_X12_isTooMuch_14 (v0 : Nat) (w0 : Int32) (M : Mem) : Option (Int32 × Mem) :=
  f_X12_isTooMuch_17 FUEL v0 w0 (0 : Int32) M
def f_X12_isTooMuch (v0 : Nat) (M : Mem) : Option (Int32 × Mem) :=
  if mK M v0 = 13 then
    if (mI M v0 30) ≤ (30 : Int32) then
      f_X12_isTooMuch_14 v0 (0 : Int32) M
    else
      f_X12_isTooMuch_14 v0 (1 : Int32) M
  else none
theorem s_X12_isTooMuch_47 (k17 : Nat → Int32 → Int32 → Mem → Option (Int32 × Mem)) (hk17 : ∀ (v0 : Nat) (v1 : Int32) (v2 : Int32) (M : Mem) (r : (Int32 × Mem)), k17 v0 v1 v2 M = some r → G mi_X12_isTooMuch 1 (oI r.1) r.2 17 [some (aR v0), some (aI v1), some (aI v2)] [] M 0 0) (v0 : Nat) (v2 : Int32) (w0 : Int32) (M : Mem) (r : (Int32 × Mem)) (hf : f_X12_isTooMuch_47 k17 v0 v2 w0 M = some r) : G mi_X12_isTooMuch 1 (oI r.1) r.2 47 [some (aR v0), none, some (aI v2)] [aI w0] M 0 0 := by
  unfold f_X12_isTooMuch_47 at hf
  refine g_istore_n (pc' := 48) (lv' := [some (aR v0), some (aI w0), some (aI v2)]) dX12_isTooMuch_47 rfl rfl (by decide) rfl ?_
  refine g_iinc (pc' := 51) (lv' := [some (aR v0), some (aI w0), some (aI (v2 + 1))]) (v2 + 1) dX12_isTooMuch_48 rfl rfl (by rfl) rfl (by decide) rfl ?_
  refine g_goto (pc' := 17) dX12_isTooMuch_51 (by decide) ?_
  exact hk17 v0 w0 (v2 + 1) M _ hf
theorem s_X12_isTooMuch_42 (k17 : Nat → Int32 → Int32 → Mem → Option (Int32 × Mem)) (hk17 : ∀ (v0 : Nat) (v1 : Int32) (v2 : Int32) (M : Mem) (r : (Int32 × Mem)), k17 v0 v1 v2 M = some r → G mi_X12_isTooMuch 1 (oI r.1) r.2 17 [some (aR v0), some (aI v1), some (aI v2)] [] M 0 0) (v0 : Nat) (v2 : Int32) (M : Mem) (r : (Int32 × Mem)) (hf : f_X12_isTooMuch_42 k17 v0 v2 M = some r) : G mi_X12_isTooMuch 1 (oI r.1) r.2 42 [some (aR v0), none, some (aI v2)] [] M 0 0 := by
  unfold f_X12_isTooMuch_42 at hf
  refine g_iconst (pc' := 43) (1 : Int32) dX12_isTooMuch_42 rfl (by decide) ?_
  refine g_goto (pc' := 47) dX12_isTooMuch_43 (by decide) ?_
  exact s_X12_isTooMuch_47 k17 hk17 v0 v2 (1 : Int32) M _ hf
theorem s_X12_isTooMuch_17 : ∀ (n : Nat) (v0 : Nat) (v1 : Int32) (v2 : Int32) (M : Mem) (r : (Int32 × Mem)), f_X12_isTooMuch_17 n v0 v1 v2 M = some r → G mi_X12_isTooMuch 1 (oI r.1) r.2 17 [some (aR v0), some (aI v1), some (aI v2)] [] M 0 0 := by
  intro n
  induction n with
  | zero => intro v0 v1 v2 M r hf; cases hf
  | succ n ih =>
    intro v0 v1 v2 M r hf
    unfold f_X12_isTooMuch_17 at hf
    refine g_iload_n (pc' := 18) dX12_isTooMuch_17 rfl rfl ?_
    refine g_aload_n (pc' := 19) dX12_isTooMuch_18 rfl rfl ?_
    obtain ⟨h1, hf⟩ := chk_s hf
    refine g_getR (pc' := 22) 12 24 rfl rfl (by decide) inX12 (by decide) rfl rfl q_136 dX12_isTooMuch_19 rfl h1 ?_
    refine g_iconst (pc' := 23) (0 : Int32) dX12_isTooMuch_22 rfl (by decide) ?_
    obtain ⟨h2, hf⟩ := chk_s hf
    obtain ⟨b3, hf⟩ := chk_s hf
    refine g_iald (pc' := 24) dX12_isTooMuch_23 rfl h2 (inB_in b3) ?_
    refine g_icmp_ge (pc' := 27) 54 dX12_isTooMuch_24 rfl (by decide) (fun c4 => ?_) (fun c4 => ?_)
    · have hf := ite_t c4 hf
      refine g_iload_n (pc' := 55) dX12_isTooMuch_54 rfl rfl ?_
      obtain ⟨hz, hf⟩ := chk_s hf
      cases hf
      exact g_zreturn dX12_isTooMuch_55 rfl (zB_ok hz) (Nat.le_of_ble_eq_true rfl) (Nat.le_of_ble_eq_true rfl)
    · have hf := ite_f c4 hf
      refine g_iload_n (pc' := 28) dX12_isTooMuch_27 rfl rfl ?_
      refine g_if_ne (pc' := 31) 42 dX12_isTooMuch_28 rfl (by decide) (fun c5 => ?_) (fun c5 => ?_)
      · have hf := ite_f c5 hf
        refine g_mask [true, false, true] rfl ?_
        exact s_X12_isTooMuch_42 (f_X12_isTooMuch_17 n) ih v0 v2 M _ hf
      · have hf := ite_t c5 hf
        refine g_aload_n (pc' := 32) dX12_isTooMuch_31 rfl rfl ?_
        refine g_getR (pc' := 35) 12 28 rfl rfl (by decide) inX12 (by decide) rfl rfl q_139 dX12_isTooMuch_32 rfl h1 ?_
        refine g_iload_n (pc' := 36) dX12_isTooMuch_35 rfl rfl ?_
        obtain ⟨h6, hf⟩ := chk_s hf
        obtain ⟨b7, hf⟩ := chk_s hf
        refine g_iald (pc' := 37) dX12_isTooMuch_36 rfl h6 (inB_in b7) ?_
        refine g_bipush (pc' := 39) (120 : Int32) dX12_isTooMuch_37 rfl (by decide) ?_
        refine g_icmp_le (pc' := 42) 46 dX12_isTooMuch_39 rfl (by decide) (fun c8 => ?_) (fun c8 => ?_)
        · have hf := ite_t c8 hf
          refine g_iconst (pc' := 47) (0 : Int32) dX12_isTooMuch_46 rfl (by decide) ?_
          refine g_mask [true, false, true] rfl ?_
          exact s_X12_isTooMuch_47 (f_X12_isTooMuch_17 n) ih v0 v2 (0 : Int32) M _ hf
        · have hf := ite_f c8 hf
          refine g_mask [true, false, true] rfl ?_
          exact s_X12_isTooMuch_42 (f_X12_isTooMuch_17 n) ih v0 v2 M _ hf
theorem s_X12_isTooMuch_14 (v0 : Nat) (w0 : Int32) (M : Mem) (r : (Int32 × Mem)) (hf : f_X12_isTooMuch_14 v0 w0 M = some r) : G mi_X12_isTooMuch 1 (oI r.1) r.2 14 [some (aR v0), none, none] [aI w0] M 0 0 := by
  unfold f_X12_isTooMuch_14 at hf
  refine g_istore_n (pc' := 15) (lv' := [some (aR v0), some (aI w0), none]) dX12_isTooMuch_14 rfl rfl (by decide) rfl ?_
  refine g_iconst (pc' := 16) (0 : Int32) dX12_isTooMuch_15 rfl (by decide) ?_
  refine g_istore_n (pc' := 17) (lv' := [some (aR v0), some (aI w0), some (aI (0 : Int32))]) dX12_isTooMuch_16 rfl rfl (by decide) rfl ?_
  exact s_X12_isTooMuch_17 FUEL v0 w0 (0 : Int32) M _ hf
theorem s_X12_isTooMuch (v0 : Nat) (M : Mem) (r : (Int32 × Mem)) (hf : f_X12_isTooMuch v0 M = some r) : Sem mi_X12_isTooMuch (1) [aR v0] M (oI r.1) r.2 := by
  unfold f_X12_isTooMuch at hf
  refine sem_of (by decide) rfl rfl rfl (Nat.le_of_ble_eq_true rfl) (lv := [some (aR v0), none, none]) rfl ?_
  refine g_aload_n (pc' := 1) dX12_isTooMuch_0 rfl rfl ?_
  obtain ⟨h1, hf⟩ := chk_s hf
  refine g_getI (pc' := 4) 12 30 rfl rfl (by decide) inX12 (by decide) rfl rfl q_364 dX12_isTooMuch_1 rfl h1 ?_
  refine g_bipush (pc' := 6) (30 : Int32) dX12_isTooMuch_4 rfl (by decide) ?_
  refine g_icmp_le (pc' := 9) 13 dX12_isTooMuch_6 rfl (by decide) (fun c2 => ?_) (fun c2 => ?_)
  · have hf := ite_t c2 hf
    refine g_iconst (pc' := 14) (0 : Int32) dX12_isTooMuch_13 rfl (by decide) ?_
    exact s_X12_isTooMuch_14 v0 (0 : Int32) M _ hf
  · have hf := ite_f c2 hf
    refine g_iconst (pc' := 10) (1 : Int32) dX12_isTooMuch_9 rfl (by decide) ?_
    refine g_goto (pc' := 14) dX12_isTooMuch_10 (by decide) ?_
    exact s_X12_isTooMuch_14 v0 (1 : Int32) M _ hf
def f_X12_readItem (kF : Nat → Int32 → Int32 → Int32 → Mem → Option (Unit × Mem)) (v0 : Nat) (v1 : Int32) (v2 : Int32) (v3 : Int32) (M : Mem) : Option (Unit × Mem) :=
  if mK M v0 = 13 then
    if mK M (mR M v0 17) = 21 then
      if inB v1 (mN M (mR M v0 17)) = true then
        if (mI M (mR M v0 17) v1.toNatClampNeg) = (-1 : Int32) then
          bnd (f_X12_mark v0 (40 : Int32) M) fun _ M5 =>
          if mK M5 v0 = 13 then
            bnd (kF v0 v1 v2 v3 M5) fun _ M8 =>
            if mK M8 v0 = 13 then
              bnd (f_X12_mark v0 (41 : Int32) M8) fun _ M11 =>
              some ((), M11)
            else none
          else none
        else
          bnd (f_X12_readNumber v0 (0 : Int32) M) fun r14 M13 =>
          if mK M13 v0 = 13 then
            if (mI M13 v0 12) = 0 then
              if mK M13 (mR M13 v0 17) = 21 then
                if inB v1 (mN M13 (mR M13 v0 17)) = true then
                  bnd (f_X12_append v0 (mI M13 (mR M13 v0 17) v1.toNatClampNeg) v2 v3 r14 M13) fun _ M19 =>
                  some ((), M19)
                else none
              else none
            else
              some ((), M13)
          else none
      else none
    else none
  else none
theorem s_X12_readItem (kF : Nat → Int32 → Int32 → Int32 → Mem → Option (Unit × Mem)) (F : Nat) (hF : ∀ (a0 : Nat) (a1 : Int32) (a2 : Int32) (a3 : Int32) (M : Mem) (r : (Unit × Mem)), kF a0 a1 a2 a3 M = some r → Sem mi_X12_readValues F [aR a0, aI a1, aI a2, aI a3] M (oU r.1) r.2) (v0 : Nat) (v1 : Int32) (v2 : Int32) (v3 : Int32) (M : Mem) (r : (Unit × Mem)) (hf : f_X12_readItem kF v0 v1 v2 v3 M = some r) : Sem mi_X12_readItem ((F + 4)) [aR v0, aI v1, aI v2, aI v3] M (oU r.1) r.2 := by
  unfold f_X12_readItem at hf
  refine sem_of (by decide) rfl rfl rfl (Nat.le_of_ble_eq_true rfl) (lv := [some (aR v0), some (aI v1), some (aI v2), some (aI v3), none]) rfl ?_
  refine g_aload_n (pc' := 1) dX12_readItem_0 rfl rfl ?_
  obtain ⟨h1, hf⟩ := chk_s hf
  refine g_getR (pc' := 4) 12 17 rfl rfl (by decide) inX12 (by decide) rfl rfl q_129 dX12_readItem_1 rfl h1 ?_
  refine g_iload_n (pc' := 5) dX12_readItem_4 rfl rfl ?_
  obtain ⟨h2, hf⟩ := chk_s hf
  obtain ⟨b3, hf⟩ := chk_s hf
  refine g_iald (pc' := 6) dX12_readItem_5 rfl h2 (inB_in b3) ?_
  refine g_iconst (pc' := 7) (-1 : Int32) dX12_readItem_6 rfl (by decide) ?_
  refine g_icmp_eq (pc' := 10) 39 dX12_readItem_7 rfl (by decide) (fun c4 => ?_) (fun c4 => ?_)
  · have hf := ite_t c4 hf
    refine g_aload_n (pc' := 40) dX12_readItem_39 rfl rfl ?_
    refine g_bipush (pc' := 42) (40 : Int32) dX12_readItem_40 rfl (by decide) ?_
    obtain ⟨_, M5, e6, hf⟩ := bnd_some hf
    refine g_callVv (pc' := 45) (k' := 0) (u' := 0) (fr2 := 3) (As := [aI (40 : Int32)]) (b := v0) (st := []) cf_X12_mark q_451 (by omega) (ci := 12) rfl rfl (by decide) dX12_readItem_42 rfl rfl rfl (Nat.le_of_ble_eq_true rfl) (Or.inl rfl) (Nat.le_refl _) (Nat.le_refl _) (Nat.le_refl _) (Nat.le_refl _) h1 (s_X12_mark v0 (40 : Int32) M _ e6) ?_
    refine g_aload_n (pc' := 46) dX12_readItem_45 rfl rfl ?_
    refine g_iload_n (pc' := 47) dX12_readItem_46 rfl rfl ?_
    refine g_iload_n (pc' := 48) dX12_readItem_47 rfl rfl ?_
    refine g_iload_n (pc' := 49) dX12_readItem_48 rfl rfl ?_
    obtain ⟨h7, hf⟩ := chk_s hf
    obtain ⟨_, M8, e9, hf⟩ := bnd_some hf
    refine g_callVv (pc' := 52) (k' := 0) (u' := 0) (fr2 := F) (As := [aI v1, aI v2, aI v3]) (b := v0) (st := []) cf_X12_readValues q_702 (by omega) (ci := 12) rfl rfl (by decide) dX12_readItem_49 rfl rfl rfl (Nat.le_of_ble_eq_true rfl) (Or.inl rfl) (Nat.le_refl _) (Nat.le_refl _) (Nat.le_refl _) (Nat.le_refl _) h7 (hF v0 v1 v2 v3 M5 _ e9) ?_
    refine g_aload_n (pc' := 53) dX12_readItem_52 rfl rfl ?_
    refine g_bipush (pc' := 55) (41 : Int32) dX12_readItem_53 rfl (by decide) ?_
    obtain ⟨h10, hf⟩ := chk_s hf
    obtain ⟨_, M11, e12, hf⟩ := bnd_some hf
    refine g_callVv (pc' := 58) (k' := 0) (u' := 0) (fr2 := 3) (As := [aI (41 : Int32)]) (b := v0) (st := []) cf_X12_mark q_451 (by omega) (ci := 12) rfl rfl (by decide) dX12_readItem_55 rfl rfl rfl (Nat.le_of_ble_eq_true rfl) (Or.inl rfl) (Nat.le_refl _) (Nat.le_refl _) (Nat.le_refl _) (Nat.le_refl _) h10 (s_X12_mark v0 (41 : Int32) M8 _ e12) ?_
    cases hf
    exact g_return dX12_readItem_58 rfl (Nat.le_of_ble_eq_true rfl) (Nat.le_of_ble_eq_true rfl)
  · have hf := ite_f c4 hf
    refine g_aload_n (pc' := 11) dX12_readItem_10 rfl rfl ?_
    refine g_iconst (pc' := 12) (0 : Int32) dX12_readItem_11 rfl (by decide) ?_
    obtain ⟨r14, M13, e14, hf⟩ := bnd_some hf
    refine g_callVi (pc' := 15) (k' := 0) (u' := 0) (fr2 := 3) (As := [aI (0 : Int32)]) (b := v0) (st := []) cf_X12_readNumber q_725 (by omega) (ci := 12) rfl rfl (by decide) dX12_readItem_12 rfl rfl rfl (Nat.le_of_ble_eq_true rfl) (Or.inl rfl) (Nat.le_refl _) (Nat.le_refl _) (Nat.le_refl _) (Nat.le_refl _) h1 (s_X12_readNumber v0 (0 : Int32) M _ e14) ?_
    refine g_istore (pc' := 17) (lv' := [some (aR v0), some (aI v1), some (aI v2), some (aI v3), some (aI r14)]) dX12_readItem_15 rfl rfl (by decide) rfl ?_
    refine g_aload_n (pc' := 18) dX12_readItem_17 rfl rfl ?_
    obtain ⟨h15, hf⟩ := chk_s hf
    refine g_getI (pc' := 21) 12 12 rfl rfl (by decide) inX12 (by decide) rfl rfl q_362 dX12_readItem_18 rfl h15 ?_
    refine g_if_ne (pc' := 24) 38 dX12_readItem_21 rfl (by decide) (fun c16 => ?_) (fun c16 => ?_)
    · have hf := ite_f c16 hf
      cases hf
      exact g_return dX12_readItem_38 rfl (Nat.le_of_ble_eq_true rfl) (Nat.le_of_ble_eq_true rfl)
    · have hf := ite_t c16 hf
      refine g_aload_n (pc' := 25) dX12_readItem_24 rfl rfl ?_
      refine g_aload_n (pc' := 26) dX12_readItem_25 rfl rfl ?_
      refine g_getR (pc' := 29) 12 17 rfl rfl (by decide) inX12 (by decide) rfl rfl q_129 dX12_readItem_26 rfl h15 ?_
      refine g_iload_n (pc' := 30) dX12_readItem_29 rfl rfl ?_
      obtain ⟨h17, hf⟩ := chk_s hf
      obtain ⟨b18, hf⟩ := chk_s hf
      refine g_iald (pc' := 31) dX12_readItem_30 rfl h17 (inB_in b18) ?_
      refine g_iload_n (pc' := 32) dX12_readItem_31 rfl rfl ?_
      refine g_iload_n (pc' := 33) dX12_readItem_32 rfl rfl ?_
      refine g_iload (pc' := 35) dX12_readItem_33 rfl rfl ?_
      obtain ⟨_, M19, e20, hf⟩ := bnd_some hf
      refine g_callVv (pc' := 38) (k' := 0) (u' := 0) (fr2 := 2) (As := [aI (mI M13 (mR M13 v0 17) v1.toNatClampNeg), aI v2, aI v3, aI r14]) (b := v0) (st := []) cf_X12_append q_713 (by omega) (ci := 12) rfl rfl (by decide) dX12_readItem_35 rfl rfl rfl (Nat.le_of_ble_eq_true rfl) (Or.inl rfl) (Nat.le_refl _) (Nat.le_refl _) (Nat.le_refl _) (Nat.le_refl _) h15 (s_X12_append v0 (mI M13 (mR M13 v0 17) v1.toNatClampNeg) v2 v3 r14 M13 _ e20) ?_
      cases hf
      exact g_return dX12_readItem_38 rfl (Nat.le_of_ble_eq_true rfl) (Nat.le_of_ble_eq_true rfl)
def f_X12_readMany_70 (kF : Nat → Int32 → Int32 → Int32 → Mem → Option (Unit × Mem)) (v0 : Nat) (M : Mem) : Option (Unit × Mem) :=
  if mK M v0 = 13 then
    bnd (f_X12_mark v0 (93 : Int32) M) fun _ M2 =>
    some ((), M2)
  else none
def f_X12_readMany_58 (kF : Nat → Int32 → Int32 → Int32 → Mem → Option (Unit × Mem)) (k25 : Nat → Int32 → Int32 → Int32 → Int32 → Mem → Option (Unit × Mem)) (v0 : Nat) (v1 : Int32) (v2 : Int32) (v3 : Int32) (w0 : Nat) (w1 : Int32) (w2 : Int32) (M : Mem) : Option (Unit × Mem) :=
  if mK M w0 = 13 then
    bnd (f_X12_readItem kF w0 w1 w2 (v3 + (1 : Int32)) M) fun _ M2 =>
    k25 v0 v1 v2 v3 (0 : Int32) M2
  else none
def f_X12_readMany_25 (kF : Nat → Int32 → Int32 → Int32 → Mem → Option (Unit × Mem)) : Nat → Nat → Int32 → Int32 → Int32 → Int32 → Mem → Option (Unit × Mem)
  | 0, _, _, _, _, _, _ => none
  | n + 1, v0, v1, v2, v3, v4, M =>
    if mK M v0 = 13 then
      if (mI M v0 12) = 0 then
        bnd (f_X12_isMarked v0 (93 : Int32) M) fun r4 M3 =>
        if r4 = 0 then
          if v4 = 0 then
            if mK M3 v0 = 13 then
              if mK M3 (mR M3 v0 19) = 21 then
                if inB v1 (mN M3 (mR M3 v0 19)) = true then
                  f_X12_readMany_58 kF (f_X12_readMany_25 kF n) v0 v1 v2 v3 v0 v1 (mI M3 (mR M3 v0 19) v1.toNatClampNeg) M3
                else none
              else none
            else none
          else
            f_X12_readMany_58 kF (f_X12_readMany_25 kF n) v0 v1 v2 v3 v0 v1 v2 M3
        else
          f_X12_readMany_70 kF v0 M3
      else
        f_X12_readMany_70 kF v0 M
    else none
def f_X12_readMany_22 (kF : Nat → Int32 → Int32 → Int32 → Mem → Option (Unit × Mem)) (v0 : Nat) (v1 : Int32) (v2 : Int32) (v3 : Int32) (M : Mem) : Option (Unit × Mem) :=
  f_X12_readMany_25 kF FUEL v0 v1 v2 v3 (1 : Int32) M
def f_X12_readMany (kF : Nat → Int32 → Int32 → Int32 → Mem → Option (Unit × Mem)) (v0 : Nat) (v1 : Int32) (v2 : Int32) (v3 : Int32) (M : Mem) : Option (Unit × Mem) :=
  if mK M v0 = 13 then
    bnd (f_X12_mark v0 (91 : Int32) M) fun _ M2 =>
    if mK M2 v0 = 13 then
      bnd (f_X12_isMarked v0 (93 : Int32) M2) fun r6 M5 =>
      if r6 = 0 then
        f_X12_readMany_22 kF v0 v1 v2 v3 M5
      else
        if mK M5 v0 = 13 then
          bnd (f_X12_lackIn v0 v1 v2 v3 M5) fun _ M9 =>
          f_X12_readMany_22 kF v0 v1 v2 v3 M9
        else none
    else none
  else none
theorem s_X12_readMany_70 (kF : Nat → Int32 → Int32 → Int32 → Mem → Option (Unit × Mem)) (F : Nat) (hF : ∀ (a0 : Nat) (a1 : Int32) (a2 : Int32) (a3 : Int32) (M : Mem) (r : (Unit × Mem)), kF a0 a1 a2 a3 M = some r → Sem mi_X12_readValues F [aR a0, aI a1, aI a2, aI a3] M (oU r.1) r.2) (v0 : Nat) (M : Mem) (r : (Unit × Mem)) (hf : f_X12_readMany_70 kF v0 M = some r) : G mi_X12_readMany (F + 5) (oU r.1) r.2 70 [some (aR v0), none, none, none, none] [] M 0 0 := by
  unfold f_X12_readMany_70 at hf
  refine g_aload_n (pc' := 71) dX12_readMany_70 rfl rfl ?_
  refine g_bipush (pc' := 73) (93 : Int32) dX12_readMany_71 rfl (by decide) ?_
  obtain ⟨h1, hf⟩ := chk_s hf
  obtain ⟨_, M2, e3, hf⟩ := bnd_some hf
  refine g_callVv (pc' := 76) (k' := 0) (u' := 0) (fr2 := 3) (As := [aI (93 : Int32)]) (b := v0) (st := []) cf_X12_mark q_451 (by omega) (ci := 12) rfl rfl (by decide) dX12_readMany_73 rfl rfl rfl (Nat.le_of_ble_eq_true rfl) (Or.inl rfl) (Nat.le_refl _) (Nat.le_refl _) (Nat.le_refl _) (Nat.le_refl _) h1 (s_X12_mark v0 (93 : Int32) M _ e3) ?_
  cases hf
  exact g_return dX12_readMany_76 rfl (Nat.le_of_ble_eq_true rfl) (Nat.le_of_ble_eq_true rfl)
theorem s_X12_readMany_58 (kF : Nat → Int32 → Int32 → Int32 → Mem → Option (Unit × Mem)) (k25 : Nat → Int32 → Int32 → Int32 → Int32 → Mem → Option (Unit × Mem)) (F : Nat) (hF : ∀ (a0 : Nat) (a1 : Int32) (a2 : Int32) (a3 : Int32) (M : Mem) (r : (Unit × Mem)), kF a0 a1 a2 a3 M = some r → Sem mi_X12_readValues F [aR a0, aI a1, aI a2, aI a3] M (oU r.1) r.2) (hk25 : ∀ (v0 : Nat) (v1 : Int32) (v2 : Int32) (v3 : Int32) (v4 : Int32) (M : Mem) (r : (Unit × Mem)), k25 v0 v1 v2 v3 v4 M = some r → G mi_X12_readMany (F + 5) (oU r.1) r.2 25 [some (aR v0), some (aI v1), some (aI v2), some (aI v3), some (aI v4)] [] M 0 0) (v0 : Nat) (v1 : Int32) (v2 : Int32) (v3 : Int32) (w0 : Nat) (w1 : Int32) (w2 : Int32) (M : Mem) (r : (Unit × Mem)) (hf : f_X12_readMany_58 kF k25 v0 v1 v2 v3 w0 w1 w2 M = some r) : G mi_X12_readMany (F + 5) (oU r.1) r.2 58 [some (aR v0), some (aI v1), some (aI v2), some (aI v3), none] [aI w2, aI w1, aR w0] M 0 0 := by
  unfold f_X12_readMany_58 at hf
  refine g_iload_n (pc' := 59) dX12_readMany_58 rfl rfl ?_
  refine g_iconst (pc' := 60) (1 : Int32) dX12_readMany_59 rfl (by decide) ?_
  refine g_iadd (pc' := 61) dX12_readMany_60 rfl ?_
  obtain ⟨h1, hf⟩ := chk_s hf
  obtain ⟨_, M2, e3, hf⟩ := bnd_some hf
  refine g_callVv (pc' := 64) (k' := 0) (u' := 0) (fr2 := F + 4) (As := [aI w1, aI w2, aI (v3 + (1 : Int32))]) (b := w0) (st := []) cf_X12_readItem q_721 (by omega) (ci := 12) rfl rfl (by decide) dX12_readMany_61 rfl rfl rfl (Nat.le_of_ble_eq_true rfl) (Or.inl rfl) (Nat.le_refl _) (Nat.le_refl _) (Nat.le_refl _) (Nat.le_refl _) h1 (s_X12_readItem kF F hF w0 w1 w2 (v3 + (1 : Int32)) M _ e3) ?_
  refine g_iconst (pc' := 65) (0 : Int32) dX12_readMany_64 rfl (by decide) ?_
  refine g_istore (pc' := 67) (lv' := [some (aR v0), some (aI v1), some (aI v2), some (aI v3), some (aI (0 : Int32))]) dX12_readMany_65 rfl rfl (by decide) rfl ?_
  refine g_goto (pc' := 25) dX12_readMany_67 (by decide) ?_
  refine g_widen (k' := 0) (u' := 0) (by omega) (by omega) ?_
  exact hk25 v0 v1 v2 v3 (0 : Int32) M2 _ hf
theorem s_X12_readMany_25 (kF : Nat → Int32 → Int32 → Int32 → Mem → Option (Unit × Mem)) (F : Nat) (hF : ∀ (a0 : Nat) (a1 : Int32) (a2 : Int32) (a3 : Int32) (M : Mem) (r : (Unit × Mem)), kF a0 a1 a2 a3 M = some r → Sem mi_X12_readValues F [aR a0, aI a1, aI a2, aI a3] M (oU r.1) r.2) : ∀ (n : Nat) (v0 : Nat) (v1 : Int32) (v2 : Int32) (v3 : Int32) (v4 : Int32) (M : Mem) (r : (Unit × Mem)), f_X12_readMany_25 kF n v0 v1 v2 v3 v4 M = some r → G mi_X12_readMany (F + 5) (oU r.1) r.2 25 [some (aR v0), some (aI v1), some (aI v2), some (aI v3), some (aI v4)] [] M 0 0 := by
  intro n
  induction n with
  | zero => intro v0 v1 v2 v3 v4 M r hf; cases hf
  | succ n ih =>
    intro v0 v1 v2 v3 v4 M r hf
    unfold f_X12_readMany_25 at hf
    refine g_aload_n (pc' := 26) dX12_readMany_25 rfl rfl ?_
    obtain ⟨h1, hf⟩ := chk_s hf
    refine g_getI (pc' := 29) 12 12 rfl rfl (by decide) inX12 (by decide) rfl rfl q_362 dX12_readMany_26 rfl h1 ?_
    refine g_if_ne (pc' := 32) 70 dX12_readMany_29 rfl (by decide) (fun c2 => ?_) (fun c2 => ?_)
    · have hf := ite_f c2 hf
      refine g_mask [true, false, false, false, false] rfl ?_
      exact s_X12_readMany_70 kF F hF v0 M _ hf
    · have hf := ite_t c2 hf
      refine g_aload_n (pc' := 33) dX12_readMany_32 rfl rfl ?_
      refine g_bipush (pc' := 35) (93 : Int32) dX12_readMany_33 rfl (by decide) ?_
      obtain ⟨r4, M3, e4, hf⟩ := bnd_some hf
      refine g_callVi (pc' := 38) (k' := 0) (u' := 0) (fr2 := 1) (As := [aI (93 : Int32)]) (b := v0) (st := []) cf_X12_isMarked q_411 (by omega) (ci := 12) rfl rfl (by decide) dX12_readMany_35 rfl rfl rfl (Nat.le_of_ble_eq_true rfl) (Or.inl rfl) (Nat.le_refl _) (Nat.le_refl _) (Nat.le_refl _) (Nat.le_refl _) h1 (s_X12_isMarked v0 (93 : Int32) M _ e4) ?_
      refine g_if_ne (pc' := 41) 70 dX12_readMany_38 rfl (by decide) (fun c5 => ?_) (fun c5 => ?_)
      · have hf := ite_f c5 hf
        refine g_mask [true, false, false, false, false] rfl ?_
        refine g_widen (k' := 0) (u' := 0) (by omega) (by omega) ?_
        exact s_X12_readMany_70 kF F hF v0 M3 _ hf
      · have hf := ite_t c5 hf
        refine g_aload_n (pc' := 42) dX12_readMany_41 rfl rfl ?_
        refine g_iload_n (pc' := 43) dX12_readMany_42 rfl rfl ?_
        refine g_iload (pc' := 45) dX12_readMany_43 rfl rfl ?_
        refine g_if_eq (pc' := 48) 52 dX12_readMany_45 rfl (by decide) (fun c6 => ?_) (fun c6 => ?_)
        · have hf := ite_t c6 hf
          refine g_aload_n (pc' := 53) dX12_readMany_52 rfl rfl ?_
          obtain ⟨h7, hf⟩ := chk_s hf
          refine g_getR (pc' := 56) 12 19 rfl rfl (by decide) inX12 (by decide) rfl rfl q_131 dX12_readMany_53 rfl h7 ?_
          refine g_iload_n (pc' := 57) dX12_readMany_56 rfl rfl ?_
          obtain ⟨h8, hf⟩ := chk_s hf
          obtain ⟨b9, hf⟩ := chk_s hf
          refine g_iald (pc' := 58) dX12_readMany_57 rfl h8 (inB_in b9) ?_
          refine g_mask [true, true, true, true, false] rfl ?_
          refine g_widen (k' := 0) (u' := 0) (by omega) (by omega) ?_
          exact s_X12_readMany_58 kF (f_X12_readMany_25 kF n) F hF ih v0 v1 v2 v3 v0 v1 (mI M3 (mR M3 v0 19) v1.toNatClampNeg) M3 _ hf
        · have hf := ite_f c6 hf
          refine g_iload_n (pc' := 49) dX12_readMany_48 rfl rfl ?_
          refine g_goto (pc' := 58) dX12_readMany_49 (by decide) ?_
          refine g_mask [true, true, true, true, false] rfl ?_
          refine g_widen (k' := 0) (u' := 0) (by omega) (by omega) ?_
          exact s_X12_readMany_58 kF (f_X12_readMany_25 kF n) F hF ih v0 v1 v2 v3 v0 v1 v2 M3 _ hf
theorem s_X12_readMany_22 (kF : Nat → Int32 → Int32 → Int32 → Mem → Option (Unit × Mem)) (F : Nat) (hF : ∀ (a0 : Nat) (a1 : Int32) (a2 : Int32) (a3 : Int32) (M : Mem) (r : (Unit × Mem)), kF a0 a1 a2 a3 M = some r → Sem mi_X12_readValues F [aR a0, aI a1, aI a2, aI a3] M (oU r.1) r.2) (v0 : Nat) (v1 : Int32) (v2 : Int32) (v3 : Int32) (M : Mem) (r : (Unit × Mem)) (hf : f_X12_readMany_22 kF v0 v1 v2 v3 M = some r) : G mi_X12_readMany (F + 5) (oU r.1) r.2 22 [some (aR v0), some (aI v1), some (aI v2), some (aI v3), none] [] M 0 0 := by
  unfold f_X12_readMany_22 at hf
  refine g_iconst (pc' := 23) (1 : Int32) dX12_readMany_22 rfl (by decide) ?_
  refine g_istore (pc' := 25) (lv' := [some (aR v0), some (aI v1), some (aI v2), some (aI v3), some (aI (1 : Int32))]) dX12_readMany_23 rfl rfl (by decide) rfl ?_
  exact s_X12_readMany_25 kF F hF FUEL v0 v1 v2 v3 (1 : Int32) M _ hf
theorem s_X12_readMany (kF : Nat → Int32 → Int32 → Int32 → Mem → Option (Unit × Mem)) (F : Nat) (hF : ∀ (a0 : Nat) (a1 : Int32) (a2 : Int32) (a3 : Int32) (M : Mem) (r : (Unit × Mem)), kF a0 a1 a2 a3 M = some r → Sem mi_X12_readValues F [aR a0, aI a1, aI a2, aI a3] M (oU r.1) r.2) (v0 : Nat) (v1 : Int32) (v2 : Int32) (v3 : Int32) (M : Mem) (r : (Unit × Mem)) (hf : f_X12_readMany kF v0 v1 v2 v3 M = some r) : Sem mi_X12_readMany ((F + 5)) [aR v0, aI v1, aI v2, aI v3] M (oU r.1) r.2 := by
  unfold f_X12_readMany at hf
  refine sem_of (by decide) rfl rfl rfl (Nat.le_of_ble_eq_true rfl) (lv := [some (aR v0), some (aI v1), some (aI v2), some (aI v3), none]) rfl ?_
  refine g_aload_n (pc' := 1) dX12_readMany_0 rfl rfl ?_
  refine g_bipush (pc' := 3) (91 : Int32) dX12_readMany_1 rfl (by decide) ?_
  obtain ⟨h1, hf⟩ := chk_s hf
  obtain ⟨_, M2, e3, hf⟩ := bnd_some hf
  refine g_callVv (pc' := 6) (k' := 0) (u' := 0) (fr2 := 3) (As := [aI (91 : Int32)]) (b := v0) (st := []) cf_X12_mark q_451 (by omega) (ci := 12) rfl rfl (by decide) dX12_readMany_3 rfl rfl rfl (Nat.le_of_ble_eq_true rfl) (Or.inl rfl) (Nat.le_refl _) (Nat.le_refl _) (Nat.le_refl _) (Nat.le_refl _) h1 (s_X12_mark v0 (91 : Int32) M _ e3) ?_
  refine g_aload_n (pc' := 7) dX12_readMany_6 rfl rfl ?_
  refine g_bipush (pc' := 9) (93 : Int32) dX12_readMany_7 rfl (by decide) ?_
  obtain ⟨h4, hf⟩ := chk_s hf
  obtain ⟨r6, M5, e6, hf⟩ := bnd_some hf
  refine g_callVi (pc' := 12) (k' := 0) (u' := 0) (fr2 := 1) (As := [aI (93 : Int32)]) (b := v0) (st := []) cf_X12_isMarked q_411 (by omega) (ci := 12) rfl rfl (by decide) dX12_readMany_9 rfl rfl rfl (Nat.le_of_ble_eq_true rfl) (Or.inl rfl) (Nat.le_refl _) (Nat.le_refl _) (Nat.le_refl _) (Nat.le_refl _) h4 (s_X12_isMarked v0 (93 : Int32) M2 _ e6) ?_
  refine g_if_eq (pc' := 15) 22 dX12_readMany_12 rfl (by decide) (fun c7 => ?_) (fun c7 => ?_)
  · have hf := ite_t c7 hf
    refine g_widen (k' := 0) (u' := 0) (by omega) (by omega) ?_
    exact s_X12_readMany_22 kF F hF v0 v1 v2 v3 M5 _ hf
  · have hf := ite_f c7 hf
    refine g_aload_n (pc' := 16) dX12_readMany_15 rfl rfl ?_
    refine g_iload_n (pc' := 17) dX12_readMany_16 rfl rfl ?_
    refine g_iload_n (pc' := 18) dX12_readMany_17 rfl rfl ?_
    refine g_iload_n (pc' := 19) dX12_readMany_18 rfl rfl ?_
    obtain ⟨h8, hf⟩ := chk_s hf
    obtain ⟨_, M9, e10, hf⟩ := bnd_some hf
    refine g_callVv (pc' := 22) (k' := 0) (u' := 0) (fr2 := 3) (As := [aI v1, aI v2, aI v3]) (b := v0) (st := []) cf_X12_lackIn q_709 (by omega) (ci := 12) rfl rfl (by decide) dX12_readMany_19 rfl rfl rfl (Nat.le_of_ble_eq_true rfl) (Or.inl rfl) (Nat.le_refl _) (Nat.le_refl _) (Nat.le_refl _) (Nat.le_refl _) h8 (s_X12_lackIn v0 v1 v2 v3 M5 _ e10) ?_
    refine g_widen (k' := 0) (u' := 0) (by omega) (by omega) ?_
    exact s_X12_readMany_22 kF F hF v0 v1 v2 v3 M9 _ hf
def f_X12_readValues_117 (kF : Nat → Int32 → Int32 → Int32 → Mem → Option (Unit × Mem)) (k3 : Nat → Int32 → Int32 → Int32 → Int32 → Mem → Option (Unit × Mem)) (v0 : Nat) (v1 : Int32) (v2 : Int32) (v3 : Int32) (v4 : Int32) (M : Mem) : Option (Unit × Mem) :=
  k3 v0 v1 v2 v3 (v4 + 1) M
def f_X12_readValues_113 (kF : Nat → Int32 → Int32 → Int32 → Mem → Option (Unit × Mem)) (k3 : Nat → Int32 → Int32 → Int32 → Int32 → Mem → Option (Unit × Mem)) (v0 : Nat) (v1 : Int32) (v2 : Int32) (v3 : Int32) (v4 : Int32) (w0 : Nat) (w1 : Int32) (w2 : Int32) (w3 : Int32) (w4 : Int32) (M : Mem) : Option (Unit × Mem) :=
  if mK M w0 = 13 then
    bnd (f_X12_readItem kF w0 w1 w2 (w3 + w4) M) fun _ M2 =>
    f_X12_readValues_117 kF k3 v0 v1 v2 v3 v4 M2
  else none
def f_X12_readValues_92 (kF : Nat → Int32 → Int32 → Int32 → Mem → Option (Unit × Mem)) (k3 : Nat → Int32 → Int32 → Int32 → Int32 → Mem → Option (Unit × Mem)) (v0 : Nat) (v1 : Int32) (v2 : Int32) (v3 : Int32) (v4 : Int32) (M : Mem) : Option (Unit × Mem) :=
  if mK M v0 = 13 then
    if mK M (mR M v0 15) = 21 then
      if inB v4 (mN M (mR M v0 15)) = true then
        if (mI M (mR M v0 15) v4.toNatClampNeg) = (1 : Int32) then
          f_X12_readValues_113 kF k3 v0 v1 v2 v3 v4 v0 v4 v2 v3 (1 : Int32) M
        else
          f_X12_readValues_113 kF k3 v0 v1 v2 v3 v4 v0 v4 v2 v3 (0 : Int32) M
      else none
    else none
  else none
def f_X12_readValues_3 (kF : Nat → Int32 → Int32 → Int32 → Mem → Option (Unit × Mem)) : Nat → Nat → Int32 → Int32 → Int32 → Int32 → Mem → Option (Unit × Mem)
  | 0, _, _, _, _, _, _ => none
  | n + 1, v0, v1, v2, v3, v4, M =>
    if mK M v0 = 13 then
      if mK M (mR M v0 23) = 21 then
        if inB (0 : Int32) (mN M (mR M v0 23)) = true then
          if (mI M (mR M v0 23) (0 : Int32).toNatClampNeg) ≤ v4 then
            some ((), M)
          else
            if (mI M v0 12) = 0 then
              if mK M (mR M v0 16) = 21 then
                if inB v4 (mN M (mR M v0 16)) = true then
                  if (mI M (mR M v0 16) v4.toNatClampNeg) = v1 then
                    if mK M (mR M v0 15) = 21 then
                      if inB v4 (mN M (mR M v0 15)) = true then
                        if (mI M (mR M v0 15) v4.toNatClampNeg) = (2 : Int32) then
                          bnd (f_X12_readMany kF v0 v4 v2 v3 M) fun _ M22 =>
                          f_X12_readValues_117 kF (f_X12_readValues_3 kF n) v0 v1 v2 v3 v4 M22
                        else
                          if (mI M (mR M v0 15) v4.toNatClampNeg) = (1 : Int32) then
                            bnd (f_X12_isMarked v0 (45 : Int32) M) fun r14 M13 =>
                            if r14 = 0 then
                              f_X12_readValues_92 kF (f_X12_readValues_3 kF n) v0 v1 v2 v3 v4 M13
                            else
                              if mK M13 v0 = 13 then
                                bnd (f_X12_stepOn v0 M13) fun _ M17 =>
                                if mK M17 v0 = 13 then
                                  bnd (f_X12_lackIn v0 v4 v2 v3 M17) fun _ M20 =>
                                  f_X12_readValues_117 kF (f_X12_readValues_3 kF n) v0 v1 v2 v3 v4 M20
                                else none
                              else none
                          else
                            f_X12_readValues_92 kF (f_X12_readValues_3 kF n) v0 v1 v2 v3 v4 M
                      else none
                    else none
                  else
                    f_X12_readValues_117 kF (f_X12_readValues_3 kF n) v0 v1 v2 v3 v4 M
                else none
              else none
            else
              some ((), M)
        else none
      else none
    else none
def f_X12_readValues_o (kF : Nat → Int32 → Int32 → Int32 → Mem → Option (Unit × Mem)) (v0 : Nat) (v1 : Int32) (v2 : Int32) (v3 : Int32) (M : Mem) : Option (Unit × Mem) :=
  f_X12_readValues_3 kF FUEL v0 v1 v2 v3 (0 : Int32) M
def f_X12_readValues : Nat → Nat → Int32 → Int32 → Int32 → Mem → Option (Unit × Mem)
  | 0, _, _, _, _, _ => none
  | n + 1, v0, v1, v2, v3, M => f_X12_readValues_o (f_X12_readValues n) v0 v1 v2 v3 M
theorem s_X12_readValues_117 (kF : Nat → Int32 → Int32 → Int32 → Mem → Option (Unit × Mem)) (k3 : Nat → Int32 → Int32 → Int32 → Int32 → Mem → Option (Unit × Mem)) (F : Nat) (hF : ∀ (a0 : Nat) (a1 : Int32) (a2 : Int32) (a3 : Int32) (M : Mem) (r : (Unit × Mem)), kF a0 a1 a2 a3 M = some r → Sem mi_X12_readValues F [aR a0, aI a1, aI a2, aI a3] M (oU r.1) r.2) (hk3 : ∀ (v0 : Nat) (v1 : Int32) (v2 : Int32) (v3 : Int32) (v4 : Int32) (M : Mem) (r : (Unit × Mem)), k3 v0 v1 v2 v3 v4 M = some r → G mi_X12_readValues (F + 6) (oU r.1) r.2 3 [some (aR v0), some (aI v1), some (aI v2), some (aI v3), some (aI v4)] [] M 0 0) (v0 : Nat) (v1 : Int32) (v2 : Int32) (v3 : Int32) (v4 : Int32) (M : Mem) (r : (Unit × Mem)) (hf : f_X12_readValues_117 kF k3 v0 v1 v2 v3 v4 M = some r) : G mi_X12_readValues (F + 6) (oU r.1) r.2 117 [some (aR v0), some (aI v1), some (aI v2), some (aI v3), some (aI v4)] [] M 0 0 := by
  unfold f_X12_readValues_117 at hf
  refine g_iinc (pc' := 120) (lv' := [some (aR v0), some (aI v1), some (aI v2), some (aI v3), some (aI (v4 + 1))]) (v4 + 1) dX12_readValues_117 rfl rfl (by rfl) rfl (by decide) rfl ?_
  refine g_goto (pc' := 3) dX12_readValues_120 (by decide) ?_
  exact hk3 v0 v1 v2 v3 (v4 + 1) M _ hf
theorem s_X12_readValues_113 (kF : Nat → Int32 → Int32 → Int32 → Mem → Option (Unit × Mem)) (k3 : Nat → Int32 → Int32 → Int32 → Int32 → Mem → Option (Unit × Mem)) (F : Nat) (hF : ∀ (a0 : Nat) (a1 : Int32) (a2 : Int32) (a3 : Int32) (M : Mem) (r : (Unit × Mem)), kF a0 a1 a2 a3 M = some r → Sem mi_X12_readValues F [aR a0, aI a1, aI a2, aI a3] M (oU r.1) r.2) (hk3 : ∀ (v0 : Nat) (v1 : Int32) (v2 : Int32) (v3 : Int32) (v4 : Int32) (M : Mem) (r : (Unit × Mem)), k3 v0 v1 v2 v3 v4 M = some r → G mi_X12_readValues (F + 6) (oU r.1) r.2 3 [some (aR v0), some (aI v1), some (aI v2), some (aI v3), some (aI v4)] [] M 0 0) (v0 : Nat) (v1 : Int32) (v2 : Int32) (v3 : Int32) (v4 : Int32) (w0 : Nat) (w1 : Int32) (w2 : Int32) (w3 : Int32) (w4 : Int32) (M : Mem) (r : (Unit × Mem)) (hf : f_X12_readValues_113 kF k3 v0 v1 v2 v3 v4 w0 w1 w2 w3 w4 M = some r) : G mi_X12_readValues (F + 6) (oU r.1) r.2 113 [some (aR v0), some (aI v1), some (aI v2), some (aI v3), some (aI v4)] [aI w4, aI w3, aI w2, aI w1, aR w0] M 0 0 := by
  unfold f_X12_readValues_113 at hf
  refine g_iadd (pc' := 114) dX12_readValues_113 rfl ?_
  obtain ⟨h1, hf⟩ := chk_s hf
  obtain ⟨_, M2, e3, hf⟩ := bnd_some hf
  refine g_callVv (pc' := 117) (k' := 0) (u' := 0) (fr2 := F + 4) (As := [aI w1, aI w2, aI (w3 + w4)]) (b := w0) (st := []) cf_X12_readItem q_721 (by omega) (ci := 12) rfl rfl (by decide) dX12_readValues_114 rfl rfl rfl (Nat.le_of_ble_eq_true rfl) (Or.inl rfl) (Nat.le_refl _) (Nat.le_refl _) (Nat.le_refl _) (Nat.le_refl _) h1 (s_X12_readItem kF F hF w0 w1 w2 (w3 + w4) M _ e3) ?_
  refine g_widen (k' := 0) (u' := 0) (by omega) (by omega) ?_
  exact s_X12_readValues_117 kF k3 F hF hk3 v0 v1 v2 v3 v4 M2 _ hf
theorem s_X12_readValues_92 (kF : Nat → Int32 → Int32 → Int32 → Mem → Option (Unit × Mem)) (k3 : Nat → Int32 → Int32 → Int32 → Int32 → Mem → Option (Unit × Mem)) (F : Nat) (hF : ∀ (a0 : Nat) (a1 : Int32) (a2 : Int32) (a3 : Int32) (M : Mem) (r : (Unit × Mem)), kF a0 a1 a2 a3 M = some r → Sem mi_X12_readValues F [aR a0, aI a1, aI a2, aI a3] M (oU r.1) r.2) (hk3 : ∀ (v0 : Nat) (v1 : Int32) (v2 : Int32) (v3 : Int32) (v4 : Int32) (M : Mem) (r : (Unit × Mem)), k3 v0 v1 v2 v3 v4 M = some r → G mi_X12_readValues (F + 6) (oU r.1) r.2 3 [some (aR v0), some (aI v1), some (aI v2), some (aI v3), some (aI v4)] [] M 0 0) (v0 : Nat) (v1 : Int32) (v2 : Int32) (v3 : Int32) (v4 : Int32) (M : Mem) (r : (Unit × Mem)) (hf : f_X12_readValues_92 kF k3 v0 v1 v2 v3 v4 M = some r) : G mi_X12_readValues (F + 6) (oU r.1) r.2 92 [some (aR v0), some (aI v1), some (aI v2), some (aI v3), some (aI v4)] [] M 0 0 := by
  unfold f_X12_readValues_92 at hf
  refine g_aload_n (pc' := 93) dX12_readValues_92 rfl rfl ?_
  refine g_iload (pc' := 95) dX12_readValues_93 rfl rfl ?_
  refine g_iload_n (pc' := 96) dX12_readValues_95 rfl rfl ?_
  refine g_iload_n (pc' := 97) dX12_readValues_96 rfl rfl ?_
  refine g_aload_n (pc' := 98) dX12_readValues_97 rfl rfl ?_
  obtain ⟨h1, hf⟩ := chk_s hf
  refine g_getR (pc' := 101) 12 15 rfl rfl (by decide) inX12 (by decide) rfl rfl q_127 dX12_readValues_98 rfl h1 ?_
  refine g_iload (pc' := 103) dX12_readValues_101 rfl rfl ?_
  obtain ⟨h2, hf⟩ := chk_s hf
  obtain ⟨b3, hf⟩ := chk_s hf
  refine g_iald (pc' := 104) dX12_readValues_103 rfl h2 (inB_in b3) ?_
  refine g_iconst (pc' := 105) (1 : Int32) dX12_readValues_104 rfl (by decide) ?_
  refine g_icmp_ne (pc' := 108) 112 dX12_readValues_105 rfl (by decide) (fun c4 => ?_) (fun c4 => ?_)
  · have hf := ite_f c4 hf
    refine g_iconst (pc' := 113) (0 : Int32) dX12_readValues_112 rfl (by decide) ?_
    exact s_X12_readValues_113 kF k3 F hF hk3 v0 v1 v2 v3 v4 v0 v4 v2 v3 (0 : Int32) M _ hf
  · have hf := ite_t c4 hf
    refine g_iconst (pc' := 109) (1 : Int32) dX12_readValues_108 rfl (by decide) ?_
    refine g_goto (pc' := 113) dX12_readValues_109 (by decide) ?_
    exact s_X12_readValues_113 kF k3 F hF hk3 v0 v1 v2 v3 v4 v0 v4 v2 v3 (1 : Int32) M _ hf
theorem s_X12_readValues_3 (kF : Nat → Int32 → Int32 → Int32 → Mem → Option (Unit × Mem)) (F : Nat) (hF : ∀ (a0 : Nat) (a1 : Int32) (a2 : Int32) (a3 : Int32) (M : Mem) (r : (Unit × Mem)), kF a0 a1 a2 a3 M = some r → Sem mi_X12_readValues F [aR a0, aI a1, aI a2, aI a3] M (oU r.1) r.2) : ∀ (n : Nat) (v0 : Nat) (v1 : Int32) (v2 : Int32) (v3 : Int32) (v4 : Int32) (M : Mem) (r : (Unit × Mem)), f_X12_readValues_3 kF n v0 v1 v2 v3 v4 M = some r → G mi_X12_readValues (F + 6) (oU r.1) r.2 3 [some (aR v0), some (aI v1), some (aI v2), some (aI v3), some (aI v4)] [] M 0 0 := by
  intro n
  induction n with
  | zero => intro v0 v1 v2 v3 v4 M r hf; cases hf
  | succ n ih =>
    intro v0 v1 v2 v3 v4 M r hf
    unfold f_X12_readValues_3 at hf
    refine g_iload (pc' := 5) dX12_readValues_3 rfl rfl ?_
    refine g_aload_n (pc' := 6) dX12_readValues_5 rfl rfl ?_
    obtain ⟨h1, hf⟩ := chk_s hf
    refine g_getR (pc' := 9) 12 23 rfl rfl (by decide) inX12 (by decide) rfl rfl q_135 dX12_readValues_6 rfl h1 ?_
    refine g_iconst (pc' := 10) (0 : Int32) dX12_readValues_9 rfl (by decide) ?_
    obtain ⟨h2, hf⟩ := chk_s hf
    obtain ⟨b3, hf⟩ := chk_s hf
    refine g_iald (pc' := 11) dX12_readValues_10 rfl h2 (inB_in b3) ?_
    refine g_icmp_ge (pc' := 14) 123 dX12_readValues_11 rfl (by decide) (fun c4 => ?_) (fun c4 => ?_)
    · have hf := ite_t c4 hf
      cases hf
      exact g_return dX12_readValues_123 rfl (Nat.le_of_ble_eq_true rfl) (Nat.le_of_ble_eq_true rfl)
    · have hf := ite_f c4 hf
      refine g_aload_n (pc' := 15) dX12_readValues_14 rfl rfl ?_
      refine g_getI (pc' := 18) 12 12 rfl rfl (by decide) inX12 (by decide) rfl rfl q_362 dX12_readValues_15 rfl h1 ?_
      refine g_if_ne (pc' := 21) 123 dX12_readValues_18 rfl (by decide) (fun c5 => ?_) (fun c5 => ?_)
      · have hf := ite_f c5 hf
        cases hf
        exact g_return dX12_readValues_123 rfl (Nat.le_of_ble_eq_true rfl) (Nat.le_of_ble_eq_true rfl)
      · have hf := ite_t c5 hf
        refine g_aload_n (pc' := 22) dX12_readValues_21 rfl rfl ?_
        refine g_getR (pc' := 25) 12 16 rfl rfl (by decide) inX12 (by decide) rfl rfl q_128 dX12_readValues_22 rfl h1 ?_
        refine g_iload (pc' := 27) dX12_readValues_25 rfl rfl ?_
        obtain ⟨h6, hf⟩ := chk_s hf
        obtain ⟨b7, hf⟩ := chk_s hf
        refine g_iald (pc' := 28) dX12_readValues_27 rfl h6 (inB_in b7) ?_
        refine g_iload_n (pc' := 29) dX12_readValues_28 rfl rfl ?_
        refine g_icmp_eq (pc' := 32) 35 dX12_readValues_29 rfl (by decide) (fun c8 => ?_) (fun c8 => ?_)
        · have hf := ite_t c8 hf
          refine g_aload_n (pc' := 36) dX12_readValues_35 rfl rfl ?_
          refine g_getR (pc' := 39) 12 15 rfl rfl (by decide) inX12 (by decide) rfl rfl q_127 dX12_readValues_36 rfl h1 ?_
          refine g_iload (pc' := 41) dX12_readValues_39 rfl rfl ?_
          obtain ⟨h9, hf⟩ := chk_s hf
          obtain ⟨b10, hf⟩ := chk_s hf
          refine g_iald (pc' := 42) dX12_readValues_41 rfl h9 (inB_in b10) ?_
          refine g_iconst (pc' := 43) (2 : Int32) dX12_readValues_42 rfl (by decide) ?_
          refine g_icmp_ne (pc' := 46) 57 dX12_readValues_43 rfl (by decide) (fun c11 => ?_) (fun c11 => ?_)
          · have hf := ite_f c11 hf
            refine g_aload_n (pc' := 58) dX12_readValues_57 rfl rfl ?_
            refine g_getR (pc' := 61) 12 15 rfl rfl (by decide) inX12 (by decide) rfl rfl q_127 dX12_readValues_58 rfl h1 ?_
            refine g_iload (pc' := 63) dX12_readValues_61 rfl rfl ?_
            refine g_iald (pc' := 64) dX12_readValues_63 rfl h9 (inB_in b10) ?_
            refine g_iconst (pc' := 65) (1 : Int32) dX12_readValues_64 rfl (by decide) ?_
            refine g_icmp_ne (pc' := 68) 92 dX12_readValues_65 rfl (by decide) (fun c12 => ?_) (fun c12 => ?_)
            · have hf := ite_f c12 hf
              exact s_X12_readValues_92 kF (f_X12_readValues_3 kF n) F hF ih v0 v1 v2 v3 v4 M _ hf
            · have hf := ite_t c12 hf
              refine g_aload_n (pc' := 69) dX12_readValues_68 rfl rfl ?_
              refine g_bipush (pc' := 71) (45 : Int32) dX12_readValues_69 rfl (by decide) ?_
              obtain ⟨r14, M13, e14, hf⟩ := bnd_some hf
              refine g_callVi (pc' := 74) (k' := 0) (u' := 0) (fr2 := 1) (As := [aI (45 : Int32)]) (b := v0) (st := []) cf_X12_isMarked q_411 (by omega) (ci := 12) rfl rfl (by decide) dX12_readValues_71 rfl rfl rfl (Nat.le_of_ble_eq_true rfl) (Or.inl rfl) (Nat.le_refl _) (Nat.le_refl _) (Nat.le_refl _) (Nat.le_refl _) h1 (s_X12_isMarked v0 (45 : Int32) M _ e14) ?_
              refine g_if_eq (pc' := 77) 92 dX12_readValues_74 rfl (by decide) (fun c15 => ?_) (fun c15 => ?_)
              · have hf := ite_t c15 hf
                refine g_widen (k' := 0) (u' := 0) (by omega) (by omega) ?_
                exact s_X12_readValues_92 kF (f_X12_readValues_3 kF n) F hF ih v0 v1 v2 v3 v4 M13 _ hf
              · have hf := ite_f c15 hf
                refine g_aload_n (pc' := 78) dX12_readValues_77 rfl rfl ?_
                obtain ⟨h16, hf⟩ := chk_s hf
                obtain ⟨_, M17, e18, hf⟩ := bnd_some hf
                refine g_callVv (pc' := 81) (k' := 0) (u' := 0) (fr2 := 2) (As := []) (b := v0) (st := []) cf_X12_stepOn q_378 (by omega) (ci := 12) rfl rfl (by decide) dX12_readValues_78 rfl rfl rfl (Nat.le_of_ble_eq_true rfl) (Or.inl rfl) (Nat.le_refl _) (Nat.le_refl _) (Nat.le_refl _) (Nat.le_refl _) h16 (s_X12_stepOn v0 M13 _ e18) ?_
                refine g_aload_n (pc' := 82) dX12_readValues_81 rfl rfl ?_
                refine g_iload (pc' := 84) dX12_readValues_82 rfl rfl ?_
                refine g_iload_n (pc' := 85) dX12_readValues_84 rfl rfl ?_
                refine g_iload_n (pc' := 86) dX12_readValues_85 rfl rfl ?_
                obtain ⟨h19, hf⟩ := chk_s hf
                obtain ⟨_, M20, e21, hf⟩ := bnd_some hf
                refine g_callVv (pc' := 89) (k' := 0) (u' := 0) (fr2 := 3) (As := [aI v4, aI v2, aI v3]) (b := v0) (st := []) cf_X12_lackIn q_709 (by omega) (ci := 12) rfl rfl (by decide) dX12_readValues_86 rfl rfl rfl (Nat.le_of_ble_eq_true rfl) (Or.inl rfl) (Nat.le_refl _) (Nat.le_refl _) (Nat.le_refl _) (Nat.le_refl _) h19 (s_X12_lackIn v0 v4 v2 v3 M17 _ e21) ?_
                refine g_goto (pc' := 117) dX12_readValues_89 (by decide) ?_
                refine g_widen (k' := 0) (u' := 0) (by omega) (by omega) ?_
                exact s_X12_readValues_117 kF (f_X12_readValues_3 kF n) F hF ih v0 v1 v2 v3 v4 M20 _ hf
          · have hf := ite_t c11 hf
            refine g_aload_n (pc' := 47) dX12_readValues_46 rfl rfl ?_
            refine g_iload (pc' := 49) dX12_readValues_47 rfl rfl ?_
            refine g_iload_n (pc' := 50) dX12_readValues_49 rfl rfl ?_
            refine g_iload_n (pc' := 51) dX12_readValues_50 rfl rfl ?_
            obtain ⟨_, M22, e23, hf⟩ := bnd_some hf
            refine g_callVv (pc' := 54) (k' := 0) (u' := 0) (fr2 := F + 5) (As := [aI v4, aI v2, aI v3]) (b := v0) (st := []) cf_X12_readMany q_706 (by omega) (ci := 12) rfl rfl (by decide) dX12_readValues_51 rfl rfl rfl (Nat.le_of_ble_eq_true rfl) (Or.inl rfl) (Nat.le_refl _) (Nat.le_refl _) (Nat.le_refl _) (Nat.le_refl _) h1 (s_X12_readMany kF F hF v0 v4 v2 v3 M _ e23) ?_
            refine g_goto (pc' := 117) dX12_readValues_54 (by decide) ?_
            refine g_widen (k' := 0) (u' := 0) (by omega) (by omega) ?_
            exact s_X12_readValues_117 kF (f_X12_readValues_3 kF n) F hF ih v0 v1 v2 v3 v4 M22 _ hf
        · have hf := ite_f c8 hf
          refine g_goto (pc' := 117) dX12_readValues_32 (by decide) ?_
          exact s_X12_readValues_117 kF (f_X12_readValues_3 kF n) F hF ih v0 v1 v2 v3 v4 M _ hf
theorem s_X12_readValues_o (kF : Nat → Int32 → Int32 → Int32 → Mem → Option (Unit × Mem)) (F : Nat) (hF : ∀ (a0 : Nat) (a1 : Int32) (a2 : Int32) (a3 : Int32) (M : Mem) (r : (Unit × Mem)), kF a0 a1 a2 a3 M = some r → Sem mi_X12_readValues F [aR a0, aI a1, aI a2, aI a3] M (oU r.1) r.2) (v0 : Nat) (v1 : Int32) (v2 : Int32) (v3 : Int32) (M : Mem) (r : (Unit × Mem)) (hf : f_X12_readValues_o kF v0 v1 v2 v3 M = some r) : Sem mi_X12_readValues ((F + 6)) [aR v0, aI v1, aI v2, aI v3] M (oU r.1) r.2 := by
  unfold f_X12_readValues_o at hf
  refine sem_of (by decide) rfl rfl rfl (Nat.le_of_ble_eq_true rfl) (lv := [some (aR v0), some (aI v1), some (aI v2), some (aI v3), none]) rfl ?_
  refine g_iconst (pc' := 1) (0 : Int32) dX12_readValues_0 rfl (by decide) ?_
  refine g_istore (pc' := 3) (lv' := [some (aR v0), some (aI v1), some (aI v2), some (aI v3), some (aI (0 : Int32))]) dX12_readValues_1 rfl rfl (by decide) rfl ?_
  exact s_X12_readValues_3 kF F hF FUEL v0 v1 v2 v3 (0 : Int32) M _ hf
theorem s_X12_readValues : ∀ (n : Nat) (v0 : Nat) (v1 : Int32) (v2 : Int32) (v3 : Int32) (M : Mem) (r : (Unit × Mem)), f_X12_readValues n v0 v1 v2 v3 M = some r → Sem mi_X12_readValues (6 * n + 0) [aR v0, aI v1, aI v2, aI v3] M (oU r.1) r.2 := by
  intro n
  induction n with
  | zero => intro v0 v1 v2 v3 M r hf; cases hf
  | succ n ih =>
    intro v0 v1 v2 v3 M r hf
    rw [show 6 * (n + 1) + 0 = 6 * n + 0 + 6 by omega]
    exact s_X12_readValues_o (f_X12_readValues n) (6 * n + 0) ih v0 v1 v2 v3 M r hf
def f_X12_oftenAround_27 (k7 : Nat → Int32 → Int32 → Mem → Option (Int32 × Mem)) (v0 : Nat) (v2 : Int32) (v3 : Int32) (M : Mem) : Option (Int32 × Mem) :=
  if mK M v0 = 13 then
    if mK M (mR M v0 16) = 21 then
      if inB v3 (mN M (mR M v0 16)) = true then
        k7 v0 v2 (mI M (mR M v0 16) v3.toNatClampNeg) M
      else none
    else none
  else none
def f_X12_oftenAround_7 : Nat → Nat → Int32 → Int32 → Mem → Option (Int32 × Mem)
  | 0, _, _, _, _ => none
  | n + 1, v0, v2, v3, M =>
    if mK M v0 = 13 then
      if mK M (mR M v0 15) = 21 then
        if inB v3 (mN M (mR M v0 15)) = true then
          if (mI M (mR M v0 15) v3.toNatClampNeg) = (2 : Int32) then
            if mK M (mR M v0 19) = 21 then
              if inB v3 (mN M (mR M v0 19)) = true then
                if (mI M (mR M v0 19) v3.toNatClampNeg) = v2 then
                  some (v3, M)
                else
                  f_X12_oftenAround_27 (f_X12_oftenAround_7 n) v0 v2 v3 M
              else none
            else none
          else
            f_X12_oftenAround_27 (f_X12_oftenAround_7 n) v0 v2 v3 M
        else none
      else none
    else none
def f_X12_oftenAround (v0 : Nat) (v1 : Int32) (v2 : Int32) (M : Mem) : Option (Int32 × Mem) :=
  if mK M v0 = 13 then
    if mK M (mR M v0 25) = 21 then
      if inB v1 (mN M (mR M v0 25)) = true then
        f_X12_oftenAround_7 FUEL v0 v2 (mI M (mR M v0 25) v1.toNatClampNeg) M
      else none
    else none
  else none
theorem s_X12_oftenAround_27 (k7 : Nat → Int32 → Int32 → Mem → Option (Int32 × Mem)) (hk7 : ∀ (v0 : Nat) (v2 : Int32) (v3 : Int32) (M : Mem) (r : (Int32 × Mem)), k7 v0 v2 v3 M = some r → G mi_X12_oftenAround 1 (oI r.1) r.2 7 [some (aR v0), none, some (aI v2), some (aI v3)] [] M 0 0) (v0 : Nat) (v2 : Int32) (v3 : Int32) (M : Mem) (r : (Int32 × Mem)) (hf : f_X12_oftenAround_27 k7 v0 v2 v3 M = some r) : G mi_X12_oftenAround 1 (oI r.1) r.2 27 [some (aR v0), none, some (aI v2), some (aI v3)] [] M 0 0 := by
  unfold f_X12_oftenAround_27 at hf
  refine g_aload_n (pc' := 28) dX12_oftenAround_27 rfl rfl ?_
  obtain ⟨h1, hf⟩ := chk_s hf
  refine g_getR (pc' := 31) 12 16 rfl rfl (by decide) inX12 (by decide) rfl rfl q_128 dX12_oftenAround_28 rfl h1 ?_
  refine g_iload_n (pc' := 32) dX12_oftenAround_31 rfl rfl ?_
  obtain ⟨h2, hf⟩ := chk_s hf
  obtain ⟨b3, hf⟩ := chk_s hf
  refine g_iald (pc' := 33) dX12_oftenAround_32 rfl h2 (inB_in b3) ?_
  refine g_istore_n (pc' := 34) (lv' := [some (aR v0), none, some (aI v2), some (aI (mI M (mR M v0 16) v3.toNatClampNeg))]) dX12_oftenAround_33 rfl rfl (by decide) rfl ?_
  refine g_goto (pc' := 7) dX12_oftenAround_34 (by decide) ?_
  exact hk7 v0 v2 (mI M (mR M v0 16) v3.toNatClampNeg) M _ hf
theorem s_X12_oftenAround_7 : ∀ (n : Nat) (v0 : Nat) (v2 : Int32) (v3 : Int32) (M : Mem) (r : (Int32 × Mem)), f_X12_oftenAround_7 n v0 v2 v3 M = some r → G mi_X12_oftenAround 1 (oI r.1) r.2 7 [some (aR v0), none, some (aI v2), some (aI v3)] [] M 0 0 := by
  intro n
  induction n with
  | zero => intro v0 v2 v3 M r hf; cases hf
  | succ n ih =>
    intro v0 v2 v3 M r hf
    unfold f_X12_oftenAround_7 at hf
    refine g_aload_n (pc' := 8) dX12_oftenAround_7 rfl rfl ?_
    obtain ⟨h1, hf⟩ := chk_s hf
    refine g_getR (pc' := 11) 12 15 rfl rfl (by decide) inX12 (by decide) rfl rfl q_127 dX12_oftenAround_8 rfl h1 ?_
    refine g_iload_n (pc' := 12) dX12_oftenAround_11 rfl rfl ?_
    obtain ⟨h2, hf⟩ := chk_s hf
    obtain ⟨b3, hf⟩ := chk_s hf
    refine g_iald (pc' := 13) dX12_oftenAround_12 rfl h2 (inB_in b3) ?_
    refine g_iconst (pc' := 14) (2 : Int32) dX12_oftenAround_13 rfl (by decide) ?_
    refine g_icmp_ne (pc' := 17) 27 dX12_oftenAround_14 rfl (by decide) (fun c4 => ?_) (fun c4 => ?_)
    · have hf := ite_f c4 hf
      exact s_X12_oftenAround_27 (f_X12_oftenAround_7 n) ih v0 v2 v3 M _ hf
    · have hf := ite_t c4 hf
      refine g_aload_n (pc' := 18) dX12_oftenAround_17 rfl rfl ?_
      refine g_getR (pc' := 21) 12 19 rfl rfl (by decide) inX12 (by decide) rfl rfl q_131 dX12_oftenAround_18 rfl h1 ?_
      refine g_iload_n (pc' := 22) dX12_oftenAround_21 rfl rfl ?_
      obtain ⟨h5, hf⟩ := chk_s hf
      obtain ⟨b6, hf⟩ := chk_s hf
      refine g_iald (pc' := 23) dX12_oftenAround_22 rfl h5 (inB_in b6) ?_
      refine g_iload_n (pc' := 24) dX12_oftenAround_23 rfl rfl ?_
      refine g_icmp_eq (pc' := 27) 37 dX12_oftenAround_24 rfl (by decide) (fun c7 => ?_) (fun c7 => ?_)
      · have hf := ite_t c7 hf
        refine g_iload_n (pc' := 38) dX12_oftenAround_37 rfl rfl ?_
        cases hf
        exact g_ireturn dX12_oftenAround_38 rfl (Nat.le_of_ble_eq_true rfl) (Nat.le_of_ble_eq_true rfl)
      · have hf := ite_f c7 hf
        exact s_X12_oftenAround_27 (f_X12_oftenAround_7 n) ih v0 v2 v3 M _ hf
theorem s_X12_oftenAround (v0 : Nat) (v1 : Int32) (v2 : Int32) (M : Mem) (r : (Int32 × Mem)) (hf : f_X12_oftenAround v0 v1 v2 M = some r) : Sem mi_X12_oftenAround (1) [aR v0, aI v1, aI v2] M (oI r.1) r.2 := by
  unfold f_X12_oftenAround at hf
  refine sem_of (by decide) rfl rfl rfl (Nat.le_of_ble_eq_true rfl) (lv := [some (aR v0), some (aI v1), some (aI v2), none]) rfl ?_
  refine g_aload_n (pc' := 1) dX12_oftenAround_0 rfl rfl ?_
  obtain ⟨h1, hf⟩ := chk_s hf
  refine g_getR (pc' := 4) 12 25 rfl rfl (by decide) inX12 (by decide) rfl rfl q_137 dX12_oftenAround_1 rfl h1 ?_
  refine g_iload_n (pc' := 5) dX12_oftenAround_4 rfl rfl ?_
  obtain ⟨h2, hf⟩ := chk_s hf
  obtain ⟨b3, hf⟩ := chk_s hf
  refine g_iald (pc' := 6) dX12_oftenAround_5 rfl h2 (inB_in b3) ?_
  refine g_istore_n (pc' := 7) (lv' := [some (aR v0), some (aI v1), some (aI v2), some (aI (mI M (mR M v0 25) v1.toNatClampNeg))]) dX12_oftenAround_6 rfl rfl (by decide) rfl ?_
  refine g_mask [true, false, true, true] rfl ?_
  exact s_X12_oftenAround_7 FUEL v0 v2 (mI M (mR M v0 25) v1.toNatClampNeg) M _ hf
