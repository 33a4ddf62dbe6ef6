/-- the words that stay: of the tables, and selects of private methods -/
def WALL : List Cond := lw_tbl.filter goodWord
theorem wall_tbl {w : Cond} (h : w ∈ WALL) : w ∈ lw_tbl := (List.mem_filter.mp h).1
theorem wall_good {w : Cond} (h : w ∈ WALL) : (w.onTables && w.keeps) = true ∨ ∃ ty, w = .arrayClass ty := good_of_word (List.mem_filter.mp h).2
theorem wall_gi {c : Cond} (h : c ∈ WALL) : GoodIn WALL (c :: WALL) := fun w hw => (List.mem_cons.mp hw).elim (fun e => by subst e; exact ⟨h, wall_good h⟩) (fun h => ⟨h, wall_good h⟩)
theorem wall_c1 {w : Cond} (h : w ∈ tables_1_1) : w ∈ tables_1 := List.mem_append_left _ h
theorem wall_t1 {w : Cond} (i : Nat) (h : tables_1_1[i]? = some w) (g : goodWord w = true) : w ∈ WALL := List.mem_filter.mpr ⟨List.mem_append_right _ (wall_c1 (List.mem_of_getElem? h)), g⟩
theorem wall_c2 {w : Cond} (h : w ∈ tables_1_2) : w ∈ tables_1 := List.mem_append_right _ (List.mem_append_left _ h)
theorem wall_t2 {w : Cond} (i : Nat) (h : tables_1_2[i]? = some w) (g : goodWord w = true) : w ∈ WALL := List.mem_filter.mpr ⟨List.mem_append_right _ (wall_c2 (List.mem_of_getElem? h)), g⟩
theorem wall_c3 {w : Cond} (h : w ∈ tables_1_3) : w ∈ tables_1 := List.mem_append_right _ (List.mem_append_right _ (List.mem_append_left _ h))
theorem wall_t3 {w : Cond} (i : Nat) (h : tables_1_3[i]? = some w) (g : goodWord w = true) : w ∈ WALL := List.mem_filter.mpr ⟨List.mem_append_right _ (wall_c3 (List.mem_of_getElem? h)), g⟩
theorem wall_c4 {w : Cond} (h : w ∈ tables_1_4) : w ∈ tables_1 := List.mem_append_right _ (List.mem_append_right _ (List.mem_append_right _ (List.mem_append_left _ h)))
theorem wall_t4 {w : Cond} (i : Nat) (h : tables_1_4[i]? = some w) (g : goodWord w = true) : w ∈ WALL := List.mem_filter.mpr ⟨List.mem_append_right _ (wall_c4 (List.mem_of_getElem? h)), g⟩
theorem wall_c5 {w : Cond} (h : w ∈ tables_1_5) : w ∈ tables_1 := List.mem_append_right _ (List.mem_append_right _ (List.mem_append_right _ (List.mem_append_right _ (List.mem_append_left _ h))))
theorem wall_t5 {w : Cond} (i : Nat) (h : tables_1_5[i]? = some w) (g : goodWord w = true) : w ∈ WALL := List.mem_filter.mpr ⟨List.mem_append_right _ (wall_c5 (List.mem_of_getElem? h)), g⟩
theorem wall_c6 {w : Cond} (h : w ∈ tables_1_6) : w ∈ tables_1 := List.mem_append_right _ (List.mem_append_right _ (List.mem_append_right _ (List.mem_append_right _ (List.mem_append_right _ (List.mem_append_left _ h)))))
theorem wall_t6 {w : Cond} (i : Nat) (h : tables_1_6[i]? = some w) (g : goodWord w = true) : w ∈ WALL := List.mem_filter.mpr ⟨List.mem_append_right _ (wall_c6 (List.mem_of_getElem? h)), g⟩
theorem wall_c7 {w : Cond} (h : w ∈ tables_1_7) : w ∈ tables_1 := List.mem_append_right _ (List.mem_append_right _ (List.mem_append_right _ (List.mem_append_right _ (List.mem_append_right _ (List.mem_append_right _ (List.mem_append_left _ h))))))
theorem wall_t7 {w : Cond} (i : Nat) (h : tables_1_7[i]? = some w) (g : goodWord w = true) : w ∈ WALL := List.mem_filter.mpr ⟨List.mem_append_right _ (wall_c7 (List.mem_of_getElem? h)), g⟩
theorem wall_c8 {w : Cond} (h : w ∈ tables_1_8) : w ∈ tables_1 := List.mem_append_right _ (List.mem_append_right _ (List.mem_append_right _ (List.mem_append_right _ (List.mem_append_right _ (List.mem_append_right _ (List.mem_append_right _ (List.mem_append_left _ h)))))))
theorem wall_t8 {w : Cond} (i : Nat) (h : tables_1_8[i]? = some w) (g : goodWord w = true) : w ∈ WALL := List.mem_filter.mpr ⟨List.mem_append_right _ (wall_c8 (List.mem_of_getElem? h)), g⟩
theorem wall_c9 {w : Cond} (h : w ∈ tables_1_9) : w ∈ tables_1 := List.mem_append_right _ (List.mem_append_right _ (List.mem_append_right _ (List.mem_append_right _ (List.mem_append_right _ (List.mem_append_right _ (List.mem_append_right _ (List.mem_append_right _ (h))))))))
theorem wall_t9 {w : Cond} (i : Nat) (h : tables_1_9[i]? = some w) (g : goodWord w = true) : w ∈ WALL := List.mem_filter.mpr ⟨List.mem_append_right _ (wall_c9 (List.mem_of_getElem? h)), g⟩
theorem wall_p1 {q : MethodName × Nat} (h : q ∈ lw_privs_1) : q ∈ lw_privs := List.mem_append_left _ h
theorem wall_s1 {q : MethodName × Nat} (i : Nat) (h : lw_privs_1[i]? = some q) (g : goodWord (Cond.selects q.1.cls q.1 q.1) = true) : Cond.selects q.1.cls q.1 q.1 ∈ WALL := List.mem_filter.mpr ⟨List.mem_append_left _ (List.mem_map_of_mem (wall_p1 (List.mem_of_getElem? h))), g⟩
theorem wall_p2 {q : MethodName × Nat} (h : q ∈ lw_privs_2) : q ∈ lw_privs := List.mem_append_right _ (List.mem_append_left _ h)
theorem wall_s2 {q : MethodName × Nat} (i : Nat) (h : lw_privs_2[i]? = some q) (g : goodWord (Cond.selects q.1.cls q.1 q.1) = true) : Cond.selects q.1.cls q.1 q.1 ∈ WALL := List.mem_filter.mpr ⟨List.mem_append_left _ (List.mem_map_of_mem (wall_p2 (List.mem_of_getElem? h))), g⟩
theorem wall_p3 {q : MethodName × Nat} (h : q ∈ lw_privs_3) : q ∈ lw_privs := List.mem_append_right _ (List.mem_append_right _ (List.mem_append_left _ h))
theorem wall_s3 {q : MethodName × Nat} (i : Nat) (h : lw_privs_3[i]? = some q) (g : goodWord (Cond.selects q.1.cls q.1 q.1) = true) : Cond.selects q.1.cls q.1 q.1 ∈ WALL := List.mem_filter.mpr ⟨List.mem_append_left _ (List.mem_map_of_mem (wall_p3 (List.mem_of_getElem? h))), g⟩
theorem wall_p4 {q : MethodName × Nat} (h : q ∈ lw_privs_4) : q ∈ lw_privs := List.mem_append_right _ (List.mem_append_right _ (List.mem_append_right _ (List.mem_append_left _ h)))
theorem wall_s4 {q : MethodName × Nat} (i : Nat) (h : lw_privs_4[i]? = some q) (g : goodWord (Cond.selects q.1.cls q.1 q.1) = true) : Cond.selects q.1.cls q.1 q.1 ∈ WALL := List.mem_filter.mpr ⟨List.mem_append_left _ (List.mem_map_of_mem (wall_p4 (List.mem_of_getElem? h))), g⟩
theorem wall_p5 {q : MethodName × Nat} (h : q ∈ lw_privs_5) : q ∈ lw_privs := List.mem_append_right _ (List.mem_append_right _ (List.mem_append_right _ (List.mem_append_right _ (List.mem_append_left _ h))))
theorem wall_s5 {q : MethodName × Nat} (i : Nat) (h : lw_privs_5[i]? = some q) (g : goodWord (Cond.selects q.1.cls q.1 q.1) = true) : Cond.selects q.1.cls q.1 q.1 ∈ WALL := List.mem_filter.mpr ⟨List.mem_append_left _ (List.mem_map_of_mem (wall_p5 (List.mem_of_getElem? h))), g⟩
theorem wall_p6 {q : MethodName × Nat} (h : q ∈ lw_privs_6) : q ∈ lw_privs := List.mem_append_right _ (List.mem_append_right _ (List.mem_append_right _ (List.mem_append_right _ (List.mem_append_right _ (List.mem_append_left _ h)))))
theorem wall_s6 {q : MethodName × Nat} (i : Nat) (h : lw_privs_6[i]? = some q) (g : goodWord (Cond.selects q.1.cls q.1 q.1) = true) : Cond.selects q.1.cls q.1 q.1 ∈ WALL := List.mem_filter.mpr ⟨List.mem_append_left _ (List.mem_map_of_mem (wall_p6 (List.mem_of_getElem? h))), g⟩
theorem wall_p7 {q : MethodName × Nat} (h : q ∈ lw_privs_7) : q ∈ lw_privs := List.mem_append_right _ (List.mem_append_right _ (List.mem_append_right _ (List.mem_append_right _ (List.mem_append_right _ (List.mem_append_right _ (List.mem_append_left _ h))))))
theorem wall_s7 {q : MethodName × Nat} (i : Nat) (h : lw_privs_7[i]? = some q) (g : goodWord (Cond.selects q.1.cls q.1 q.1) = true) : Cond.selects q.1.cls q.1 q.1 ∈ WALL := List.mem_filter.mpr ⟨List.mem_append_left _ (List.mem_map_of_mem (wall_p7 (List.mem_of_getElem? h))), g⟩
theorem wall_p8 {q : MethodName × Nat} (h : q ∈ lw_privs_8) : q ∈ lw_privs := List.mem_append_right _ (List.mem_append_right _ (List.mem_append_right _ (List.mem_append_right _ (List.mem_append_right _ (List.mem_append_right _ (List.mem_append_right _ (List.mem_append_left _ h)))))))
theorem wall_s8 {q : MethodName × Nat} (i : Nat) (h : lw_privs_8[i]? = some q) (g : goodWord (Cond.selects q.1.cls q.1 q.1) = true) : Cond.selects q.1.cls q.1 q.1 ∈ WALL := List.mem_filter.mpr ⟨List.mem_append_left _ (List.mem_map_of_mem (wall_p8 (List.mem_of_getElem? h))), g⟩
theorem wall_p9 {q : MethodName × Nat} (h : q ∈ lw_privs_9) : q ∈ lw_privs := List.mem_append_right _ (List.mem_append_right _ (List.mem_append_right _ (List.mem_append_right _ (List.mem_append_right _ (List.mem_append_right _ (List.mem_append_right _ (List.mem_append_right _ (List.mem_append_left _ h))))))))
theorem wall_s9 {q : MethodName × Nat} (i : Nat) (h : lw_privs_9[i]? = some q) (g : goodWord (Cond.selects q.1.cls q.1 q.1) = true) : Cond.selects q.1.cls q.1 q.1 ∈ WALL := List.mem_filter.mpr ⟨List.mem_append_left _ (List.mem_map_of_mem (wall_p9 (List.mem_of_getElem? h))), g⟩
theorem wall_p10 {q : MethodName × Nat} (h : q ∈ lw_privs_10) : q ∈ lw_privs := List.mem_append_right _ (List.mem_append_right _ (List.mem_append_right _ (List.mem_append_right _ (List.mem_append_right _ (List.mem_append_right _ (List.mem_append_right _ (List.mem_append_right _ (List.mem_append_right _ (h)))))))))
theorem wall_s10 {q : MethodName × Nat} (i : Nat) (h : lw_privs_10[i]? = some q) (g : goodWord (Cond.selects q.1.cls q.1 q.1) = true) : Cond.selects q.1.cls q.1 q.1 ∈ WALL := List.mem_filter.mpr ⟨List.mem_append_left _ (List.mem_map_of_mem (wall_p10 (List.mem_of_getElem? h))), g⟩
theorem q_0 : Cond.classLink RL 8 RX11 ∈ WALL := wall_t1 26 rfl rfl
theorem q_1 : Cond.instantiable RX11 15 ∈ WALL := wall_t1 27 rfl rfl
theorem q_2 : Cond.initialized RX11 ∈ WALL := wall_t1 1 rfl rfl
theorem q_3 : Cond.classLink RL 87 RX12 ∈ WALL := wall_t6 161 rfl rfl
theorem q_4 : Cond.instantiable RX12 55 ∈ WALL := wall_t6 162 rfl rfl
theorem q_5 : Cond.initialized RX12 ∈ WALL := wall_t1 12 rfl rfl
theorem q_6 : Cond.arrayClass .long ∈ WALL := wall_t9 104 rfl rfl
theorem q_7 : Cond.methodLink RL 86 yX11_init ∈ WALL := wall_t1 28 rfl rfl
theorem q_8 : Cond.instanceMethod yX11_init ∈ WALL := wall_t1 29 rfl rfl
theorem q_9 : Cond.code yX11_init cX11_init 1 none ∈ WALL := wall_t1 30 rfl rfl
theorem q_10 : Cond.methodLink RX11 3 objectInit ∈ WALL := wall_t1 31 rfl rfl
theorem q_11 : Cond.instanceMethod objectInit ∈ WALL := wall_t1 32 rfl rfl
theorem q_12 : Cond.code objectInit ⟨#[0xb1]⟩ 1 none ∈ WALL := wall_t1 33 rfl rfl
theorem q_13 : Cond.classLink RX11 9 RX9 ∈ WALL := wall_t1 34 rfl rfl
theorem q_14 : Cond.instantiable RX9 6 ∈ WALL := wall_t1 35 rfl rfl
theorem q_15 : Cond.initialized RX9 ∈ WALL := wall_t1 2 rfl rfl
theorem q_16 : Cond.fieldLink RX11 12 "LeafStripes" "text" "LLeafStripes$Text;" ∈ WALL := wall_t2 177 rfl rfl
theorem q_17 : Cond.classLink RX11 16 RX6 ∈ WALL := wall_t1 67 rfl rfl
theorem q_18 : Cond.instantiable RX6 6 ∈ WALL := wall_t1 68 rfl rfl
theorem q_19 : Cond.initialized RX6 ∈ WALL := wall_t1 3 rfl rfl
theorem q_20 : Cond.fieldLink RX11 19 "LeafStripes" "shapeText" "LLeafStripes$ShapeText;" ∈ WALL := wall_t2 178 rfl rfl
theorem q_21 : Cond.classLink RX11 23 RX4 ∈ WALL := wall_t1 92 rfl rfl
theorem q_22 : Cond.instantiable RX4 6 ∈ WALL := wall_t1 93 rfl rfl
theorem q_23 : Cond.initialized RX4 ∈ WALL := wall_t1 4 rfl rfl
theorem q_24 : Cond.fieldLink RX11 26 "LeafStripes" "recordText" "LLeafStripes$RecordText;" ∈ WALL := wall_t2 179 rfl rfl
theorem q_25 : Cond.classLink RX11 30 RX1 ∈ WALL := wall_t1 119 rfl rfl
theorem q_26 : Cond.instantiable RX1 7 ∈ WALL := wall_t1 120 rfl rfl
theorem q_27 : Cond.initialized RX1 ∈ WALL := wall_t1 5 rfl rfl
theorem q_28 : Cond.fieldLink RX11 33 "LeafStripes" "checker" "LLeafStripes$Check;" ∈ WALL := wall_t2 180 rfl rfl
theorem q_29 : Cond.classLink RX11 37 RX8 ∈ WALL := wall_t1 151 rfl rfl
theorem q_30 : Cond.instantiable RX8 8 ∈ WALL := wall_t1 152 rfl rfl
theorem q_31 : Cond.initialized RX8 ∈ WALL := wall_t1 6 rfl rfl
theorem q_32 : Cond.fieldLink RX11 40 "LeafStripes" "teller" "LLeafStripes$Teller;" ∈ WALL := wall_t2 181 rfl rfl
theorem q_33 : Cond.classLink RX11 44 RX10 ∈ WALL := wall_t1 185 rfl rfl
theorem q_34 : Cond.instantiable RX10 7 ∈ WALL := wall_t1 186 rfl rfl
theorem q_35 : Cond.initialized RX10 ∈ WALL := wall_t1 7 rfl rfl
theorem q_36 : Cond.fieldLink RX11 47 "LeafStripes" "drawer" "LLeafStripes$Years;" ∈ WALL := wall_t2 182 rfl rfl
theorem q_37 : Cond.classLink RX11 51 RX7 ∈ WALL := wall_t1 215 rfl rfl
theorem q_38 : Cond.instantiable RX7 6 ∈ WALL := wall_t1 216 rfl rfl
theorem q_39 : Cond.initialized RX7 ∈ WALL := wall_t1 8 rfl rfl
theorem q_40 : Cond.fieldLink RX11 54 "LeafStripes" "now" "LLeafStripes$State;" ∈ WALL := wall_t2 183 rfl rfl
theorem q_41 : Cond.fieldLink RX11 58 "LeafStripes" "kept" "LLeafStripes$State;" ∈ WALL := wall_t2 184 rfl rfl
theorem q_42 : Cond.classLink RX11 61 RX5 ∈ WALL := wall_t2 57 rfl rfl
theorem q_43 : Cond.instantiable RX5 13 ∈ WALL := wall_t2 58 rfl rfl
theorem q_44 : Cond.initialized RX5 ∈ WALL := wall_t1 10 rfl rfl
theorem q_45 : Cond.fieldLink RX11 64 "LeafStripes" "ownShape" "LLeafStripes$Shape;" ∈ WALL := wall_t2 185 rfl rfl
theorem q_46 : Cond.fieldLink RX11 68 "LeafStripes" "viewShape" "LLeafStripes$Shape;" ∈ WALL := wall_t2 186 rfl rfl
theorem q_47 : Cond.fieldLink RX11 71 "LeafStripes" "spareShape" "LLeafStripes$Shape;" ∈ WALL := wall_t2 187 rfl rfl
theorem q_48 : Cond.classLink RX11 74 RX3 ∈ WALL := wall_t2 150 rfl rfl
theorem q_49 : Cond.instantiable RX3 6 ∈ WALL := wall_t2 151 rfl rfl
theorem q_50 : Cond.initialized RX3 ∈ WALL := wall_t1 11 rfl rfl
theorem q_51 : Cond.fieldLink RX11 77 "LeafStripes" "ownPipe" "LLeafStripes$Pipe;" ∈ WALL := wall_t2 188 rfl rfl
theorem q_52 : Cond.fieldLink RX11 81 "LeafStripes" "sparePipe" "LLeafStripes$Pipe;" ∈ WALL := wall_t2 189 rfl rfl
theorem q_53 : Cond.fieldLink RX11 84 "LeafStripes" "imaged" "Z" ∈ WALL := wall_t2 190 rfl rfl
theorem q_54 : Cond.fieldLink RX11 88 "LeafStripes" "faultPlace" "I" ∈ WALL := wall_t2 191 rfl rfl
theorem q_55 : Cond.instanceMethod yX9_init ∈ WALL := wall_t1 37 rfl rfl
theorem q_56 : Cond.code yX9_init cX9_init 1 none ∈ WALL := wall_t1 38 rfl rfl
theorem q_57 : Cond.methodLink RX9 3 objectInit ∈ WALL := wall_t1 39 rfl rfl
theorem q_58 : Cond.arrayClass .int ∈ WALL := wall_t1 66 rfl rfl
theorem q_59 : Cond.fieldLink RX9 9 "LeafStripes$Text" "bytes" "[I" ∈ WALL := wall_t1 40 rfl rfl
theorem q_60 : Cond.instanceMethod yX6_init ∈ WALL := wall_t1 70 rfl rfl
theorem q_61 : Cond.code yX6_init cX6_init 1 none ∈ WALL := wall_t1 71 rfl rfl
theorem q_62 : Cond.methodLink RX6 3 objectInit ∈ WALL := wall_t1 72 rfl rfl
theorem q_63 : Cond.instanceMethod yX4_init ∈ WALL := wall_t1 95 rfl rfl
theorem q_64 : Cond.code yX4_init cX4_init 1 none ∈ WALL := wall_t1 96 rfl rfl
theorem q_65 : Cond.methodLink RX4 3 objectInit ∈ WALL := wall_t1 97 rfl rfl
theorem q_66 : Cond.fieldLink RX4 9 "LeafStripes$RecordText" "sizes" "[I" ∈ WALL := wall_t1 98 rfl rfl
theorem q_67 : Cond.instanceMethod yX1_init ∈ WALL := wall_t1 122 rfl rfl
theorem q_68 : Cond.code yX1_init cX1_init 1 none ∈ WALL := wall_t1 123 rfl rfl
theorem q_69 : Cond.methodLink RX1 3 objectInit ∈ WALL := wall_t1 124 rfl rfl
theorem q_70 : Cond.instanceMethod yX8_init ∈ WALL := wall_t1 154 rfl rfl
theorem q_71 : Cond.code yX8_init cX8_init 1 none ∈ WALL := wall_t1 155 rfl rfl
theorem q_72 : Cond.methodLink RX8 3 objectInit ∈ WALL := wall_t1 156 rfl rfl
theorem q_73 : Cond.classLink RX8 9 "[[I" ∈ WALL := wall_t1 157 rfl rfl
theorem q_74 : Cond.fieldLink RX8 11 "LeafStripes$Teller" "at" "[[I" ∈ WALL := wall_t1 167 rfl rfl
theorem q_75 : Cond.instanceMethod yX10_init ∈ WALL := wall_t1 188 rfl rfl
theorem q_76 : Cond.code yX10_init cX10_init 1 none ∈ WALL := wall_t1 189 rfl rfl
theorem q_77 : Cond.methodLink RX10 3 objectInit ∈ WALL := wall_t1 190 rfl rfl
theorem q_78 : Cond.fieldLink RX10 9 "LeafStripes$Years" "sizes" "[I" ∈ WALL := wall_t1 195 rfl rfl
theorem q_79 : Cond.fieldLink RX10 15 "LeafStripes$Years" "drawn" "[I" ∈ WALL := wall_t1 196 rfl rfl
theorem q_80 : Cond.methodLink RX11 53 yX7_init ∈ WALL := wall_t1 217 rfl rfl
theorem q_81 : Cond.instanceMethod yX7_init ∈ WALL := wall_t1 218 rfl rfl
theorem q_82 : Cond.code yX7_init cX7_init 2 none ∈ WALL := wall_t1 219 rfl rfl
theorem q_83 : Cond.methodLink RX7 3 objectInit ∈ WALL := wall_t1 220 rfl rfl
theorem q_84 : Cond.classLink RX7 9 RX2 ∈ WALL := wall_t1 221 rfl rfl
theorem q_85 : Cond.fieldLink RX7 11 "LeafStripes$State" "columns" "[LLeafStripes$Column;" ∈ WALL := wall_t2 26 rfl rfl
theorem q_86 : Cond.classLink RX7 17 RX0 ∈ WALL := wall_t1 223 rfl rfl
theorem q_87 : Cond.fieldLink RX7 19 "LeafStripes$State" "acts" "[LLeafStripes$Act;" ∈ WALL := wall_t2 37 rfl rfl
theorem q_88 : Cond.instantiable RX2 5 ∈ WALL := wall_t1 225 rfl rfl
theorem q_89 : Cond.initialized RX2 ∈ WALL := wall_t1 9 rfl rfl
theorem q_90 : Cond.instanceMethod yX2_init ∈ WALL := wall_t1 227 rfl rfl
theorem q_91 : Cond.code yX2_init cX2_init 1 none ∈ WALL := wall_t1 228 rfl rfl
theorem q_92 : Cond.methodLink RX2 3 objectInit ∈ WALL := wall_t1 229 rfl rfl
theorem q_93 : Cond.fieldLink RX2 9 "LeafStripes$Column" "rep" "[I" ∈ WALL := wall_t1 230 rfl rfl
theorem q_94 : Cond.fieldLink RX2 15 "LeafStripes$Column" "def" "[I" ∈ WALL := wall_t1 235 rfl rfl
theorem q_95 : Cond.fieldLink RX2 18 "LeafStripes$Column" "value" "[I" ∈ WALL := wall_t2 0 rfl rfl
theorem q_96 : Cond.instanceMethod yX5_init ∈ WALL := wall_t2 60 rfl rfl
theorem q_97 : Cond.code yX5_init cX5_init 1 none ∈ WALL := wall_t2 61 rfl rfl
theorem q_98 : Cond.methodLink RX5 3 objectInit ∈ WALL := wall_t2 62 rfl rfl
theorem q_99 : Cond.fieldLink RX5 9 "LeafStripes$Shape" "kind" "[I" ∈ WALL := wall_t2 77 rfl rfl
theorem q_100 : Cond.fieldLink RX5 15 "LeafStripes$Shape" "group" "[I" ∈ WALL := wall_t2 83 rfl rfl
theorem q_101 : Cond.fieldLink RX5 18 "LeafStripes$Shape" "leafAt" "[I" ∈ WALL := wall_t2 89 rfl rfl
theorem q_102 : Cond.fieldLink RX5 21 "LeafStripes$Shape" "def" "[I" ∈ WALL := wall_t2 95 rfl rfl
theorem q_103 : Cond.fieldLink RX5 24 "LeafStripes$Shape" "rep" "[I" ∈ WALL := wall_t2 100 rfl rfl
theorem q_104 : Cond.fieldLink RX5 27 "LeafStripes$Shape" "letters" "[I" ∈ WALL := wall_t2 105 rfl rfl
theorem q_105 : Cond.fieldLink RX5 30 "LeafStripes$Shape" "names" "[I" ∈ WALL := wall_t2 107 rfl rfl
theorem q_106 : Cond.fieldLink RX5 33 "LeafStripes$Shape" "inside" "[I" ∈ WALL := wall_t2 109 rfl rfl
theorem q_107 : Cond.fieldLink RX5 36 "LeafStripes$Shape" "leaves" "[I" ∈ WALL := wall_t2 112 rfl rfl
theorem q_108 : Cond.fieldLink RX5 39 "LeafStripes$Shape" "twin" "[I" ∈ WALL := wall_t2 116 rfl rfl
theorem q_109 : Cond.fieldLink RX5 42 "LeafStripes$Shape" "fieldOf" "[I" ∈ WALL := wall_t2 119 rfl rfl
theorem q_110 : Cond.instanceMethod yX3_init ∈ WALL := wall_t2 153 rfl rfl
theorem q_111 : Cond.code yX3_init cX3_init 1 none ∈ WALL := wall_t2 154 rfl rfl
theorem q_112 : Cond.methodLink RX3 3 objectInit ∈ WALL := wall_t2 155 rfl rfl
theorem q_113 : Cond.fieldLink RX3 9 "LeafStripes$Pipe" "out" "[I" ∈ WALL := wall_t2 158 rfl rfl
theorem q_114 : Cond.fieldLink RX3 15 "LeafStripes$Pipe" "kind" "[I" ∈ WALL := wall_t2 161 rfl rfl
theorem q_115 : Cond.fieldLink RX3 18 "LeafStripes$Pipe" "number" "[I" ∈ WALL := wall_t2 162 rfl rfl
theorem q_116 : Cond.fieldLink RX3 21 "LeafStripes$Pipe" "came" "[I" ∈ WALL := wall_t2 163 rfl rfl
theorem q_117 : Cond.methodLink RL 89 yX12_init ∈ WALL := wall_t6 163 rfl rfl
theorem q_118 : Cond.instanceMethod yX12_init ∈ WALL := wall_t6 164 rfl rfl
theorem q_119 : Cond.code yX12_init cX12_init 1 none ∈ WALL := wall_t6 165 rfl rfl
theorem q_120 : Cond.methodLink RX12 3 objectInit ∈ WALL := wall_t6 166 rfl rfl
theorem q_121 : Cond.classLink RX12 9 RJ0 ∈ WALL := wall_t6 167 rfl rfl
theorem q_122 : Cond.fieldLink RX12 17 "LeafStripesModel" "kindWords" "[Ljava/lang/String;" ∈ WALL := wall_t6 180 rfl rfl
theorem q_123 : Cond.fieldLink RX12 35 "LeafStripesModel" "stepWords" "[Ljava/lang/String;" ∈ WALL := wall_t6 181 rfl rfl
theorem q_124 : Cond.fieldLink RX12 38 "LeafStripesModel" "tape" "[I" ∈ WALL := wall_t6 183 rfl rfl
theorem q_125 : Cond.fieldLink RX12 42 "LeafStripesModel" "status" "[I" ∈ WALL := wall_t6 184 rfl rfl
theorem q_126 : Cond.fieldLink RX12 45 "LeafStripesModel" "faultPlace" "I" ∈ WALL := wall_t6 194 rfl rfl
theorem q_127 : Cond.fieldLink RX12 49 "LeafStripesModel" "kind" "[I" ∈ WALL := wall_t6 195 rfl rfl
theorem q_128 : Cond.fieldLink RX12 52 "LeafStripesModel" "group" "[I" ∈ WALL := wall_t6 196 rfl rfl
theorem q_129 : Cond.fieldLink RX12 55 "LeafStripesModel" "leafOf" "[I" ∈ WALL := wall_t6 197 rfl rfl
theorem q_130 : Cond.fieldLink RX12 58 "LeafStripesModel" "def" "[I" ∈ WALL := wall_t6 198 rfl rfl
theorem q_131 : Cond.fieldLink RX12 61 "LeafStripesModel" "rep" "[I" ∈ WALL := wall_t6 199 rfl rfl
theorem q_132 : Cond.fieldLink RX12 64 "LeafStripesModel" "named" "[I" ∈ WALL := wall_t6 200 rfl rfl
theorem q_133 : Cond.fieldLink RX12 67 "LeafStripesModel" "isOne" "[I" ∈ WALL := wall_t6 201 rfl rfl
theorem q_134 : Cond.fieldLink RX12 70 "LeafStripesModel" "names" "[I" ∈ WALL := wall_t6 202 rfl rfl
theorem q_135 : Cond.fieldLink RX12 73 "LeafStripesModel" "fieldMany" "[I" ∈ WALL := wall_t6 203 rfl rfl
theorem q_136 : Cond.fieldLink RX12 76 "LeafStripesModel" "leafMany" "[I" ∈ WALL := wall_t6 204 rfl rfl
theorem q_137 : Cond.fieldLink RX12 79 "LeafStripesModel" "fieldOfLeaf" "[I" ∈ WALL := wall_t6 205 rfl rfl
theorem q_138 : Cond.fieldLink RX12 82 "LeafStripesModel" "entries" "[I" ∈ WALL := wall_t6 207 rfl rfl
theorem q_139 : Cond.fieldLink RX12 85 "LeafStripesModel" "entryMany" "[I" ∈ WALL := wall_t6 208 rfl rfl
theorem q_140 : Cond.constant RX12 88 (38760) ∈ WALL := wall_t6 179 rfl rfl
theorem q_141 : Cond.fieldLink RX12 89 "LeafStripesModel" "past" "[I" ∈ WALL := wall_t6 209 rfl rfl
theorem q_142 : Cond.fieldLink RX12 92 "LeafStripesModel" "rowThen" "[I" ∈ WALL := wall_t6 212 rfl rfl
theorem q_143 : Cond.fieldLink RX12 95 "LeafStripesModel" "rowNow" "[I" ∈ WALL := wall_t6 213 rfl rfl
theorem q_144 : Cond.fieldLink RX12 98 "LeafStripesModel" "pointer" "[I" ∈ WALL := wall_t6 218 rfl rfl
theorem q_145 : Cond.fieldLink RX12 101 "LeafStripesModel" "low" "[I" ∈ WALL := wall_t6 219 rfl rfl
theorem q_146 : Cond.fieldLink RX12 104 "LeafStripesModel" "high" "[I" ∈ WALL := wall_t6 220 rfl rfl
theorem q_147 : Cond.fieldLink RX12 107 "LeafStripesModel" "stepKind" "[I" ∈ WALL := wall_t6 224 rfl rfl
theorem q_148 : Cond.fieldLink RX12 110 "LeafStripesModel" "stepNumber" "[I" ∈ WALL := wall_t6 225 rfl rfl
theorem q_149 : Cond.fieldLink RX12 113 "LeafStripesModel" "cameTo" "[I" ∈ WALL := wall_t6 226 rfl rfl
theorem q_150 : Cond.fieldLink RX12 116 "LeafStripesModel" "imageRow" "[I" ∈ WALL := wall_t6 232 rfl rfl
theorem q_151 : Cond.fieldLink RX12 119 "LeafStripesModel" "pastThen" "[I" ∈ WALL := wall_t6 233 rfl rfl
theorem q_152 : Cond.fieldLink RX12 122 "LeafStripesModel" "statusThen" "[I" ∈ WALL := wall_t6 234 rfl rfl
theorem q_153 : Cond.methodLink RL 90 yX11_feed ∈ WALL := wall_t2 223 rfl rfl
theorem q_154 : Cond.instanceMethod yX11_feed ∈ WALL := wall_t2 224 rfl rfl
theorem q_155 : Cond.selects RX11 yX11_feed yX11_feed ∈ WALL := wall_t2 225 rfl rfl
theorem q_156 : Cond.code yX11_feed cX11_feed 6 (some .int) ∈ WALL := wall_t2 226 rfl rfl
theorem q_157 : Cond.fieldLink RX11 92 "LeafStripes$Text" "size" "I" ∈ WALL := wall_t1 42 rfl rfl
theorem q_158 : Cond.methodLink RX11 95 yX9_append ∈ WALL := wall_t2 227 rfl rfl
theorem q_159 : Cond.instanceMethod yX9_append ∈ WALL := wall_t2 228 rfl rfl
theorem q_160 : Cond.selects RX9 yX9_append yX9_append ∈ WALL := wall_t2 229 rfl rfl
theorem q_161 : Cond.code yX9_append cX9_append 3 none ∈ WALL := wall_t2 230 rfl rfl
theorem q_162 : Cond.fieldLink RX9 15 "LeafStripes$Text" "size" "I" ∈ WALL := wall_t1 43 rfl rfl
theorem q_163 : Cond.methodLink RL 94 yX12_feed ∈ WALL := wall_t7 110 rfl rfl
theorem q_164 : Cond.instanceMethod yX12_feed ∈ WALL := wall_t7 111 rfl rfl
theorem q_165 : Cond.selects RX12 yX12_feed yX12_feed ∈ WALL := wall_t7 112 rfl rfl
theorem q_166 : Cond.code yX12_feed cX12_feed 8 (some .int) ∈ WALL := wall_t7 113 rfl rfl
theorem q_167 : Cond.fieldLink RX12 125 "LeafStripesModel" "code" "I" ∈ WALL := wall_t6 182 rfl rfl
theorem q_168 : Cond.fieldLink RX12 128 "LeafStripesModel" "taped" "I" ∈ WALL := wall_t6 185 rfl rfl
theorem q_169 : Cond.methodLink RL 95 yL_schema ∈ WALL := wall_t3 151 rfl rfl
theorem q_170 : Cond.static yL_schema ∈ WALL := wall_t3 152 rfl rfl
theorem q_171 : Cond.initialized RL ∈ WALL := wall_t1 0 rfl rfl
theorem q_172 : Cond.codeWith yL_schema cL_schema 4 (some .int) [(0, 9, 12, 13)] ∈ WALL := wall_t3 153 rfl rfl
theorem q_173 : Cond.classLink RL 13 "java/lang/IllegalArgumentException" ∈ WALL := wall_t3 154 rfl rfl
theorem q_174 : Cond.methodLink RL 7 yX11_schema ∈ WALL := wall_t3 155 rfl rfl
theorem q_175 : Cond.instanceMethod yX11_schema ∈ WALL := wall_t3 156 rfl rfl
theorem q_176 : Cond.selects RX11 yX11_schema yX11_schema ∈ WALL := wall_t3 157 rfl rfl
theorem q_177 : Cond.code yX11_schema cX11_schema 4 (some .int) ∈ WALL := wall_t3 158 rfl rfl
theorem q_178 : Cond.methodLink RX11 99 yX11_needTape ∈ WALL := wall_t3 159 rfl rfl
theorem q_179 : Cond.instanceMethod yX11_needTape ∈ WALL := wall_t3 161 rfl rfl
theorem q_180 : Cond.selects RX11 yX11_needTape yX11_needTape ∈ WALL := wall_s1 (q := (⟨"LeafStripes", "needTape", "(I)V"⟩, 15)) 10 rfl rfl
theorem q_181 : Cond.code yX11_needTape cX11_needTape 2 none ∈ WALL := wall_t3 162 rfl rfl
theorem q_182 : Cond.classLink RX11 260 "java/lang/IllegalArgumentException" ∈ WALL := wall_t3 163 rfl rfl
theorem q_183 : Cond.initialized "java/lang/IllegalArgumentException" ∈ WALL := wall_t1 16 rfl rfl
theorem q_184 : Cond.methodLink RX11 102 yX9_open ∈ WALL := wall_t3 230 rfl rfl
theorem q_185 : Cond.instanceMethod yX9_open ∈ WALL := wall_t3 231 rfl rfl
theorem q_186 : Cond.selects RX9 yX9_open yX9_open ∈ WALL := wall_t3 232 rfl rfl
theorem q_187 : Cond.code yX9_open cX9_open 2 none ∈ WALL := wall_t3 233 rfl rfl
theorem q_188 : Cond.fieldLink RX9 19 "LeafStripes$Text" "limit" "I" ∈ WALL := wall_t1 44 rfl rfl
theorem q_189 : Cond.fieldLink RX9 22 "LeafStripes$Text" "end" "I" ∈ WALL := wall_t1 52 rfl rfl
theorem q_190 : Cond.methodLink RX9 25 yX9_advance ∈ WALL := wall_t3 234 rfl rfl
theorem q_191 : Cond.instanceMethod yX9_advance ∈ WALL := wall_t3 235 rfl rfl
theorem q_192 : Cond.selects RX9 yX9_advance yX9_advance ∈ WALL := wall_t3 236 rfl rfl
theorem q_193 : Cond.code yX9_advance cX9_advance 3 none ∈ WALL := wall_t3 237 rfl rfl
theorem q_194 : Cond.fieldLink RX9 28 "LeafStripes$Text" "start" "I" ∈ WALL := wall_t1 49 rfl rfl
theorem q_195 : Cond.fieldLink RX9 31 "LeafStripes$Text" "token" "I" ∈ WALL := wall_t1 48 rfl rfl
theorem q_196 : Cond.methodLink RX9 34 yX9_isLetter ∈ WALL := wall_t3 238 rfl rfl
theorem q_197 : Cond.static yX9_isLetter ∈ WALL := wall_t3 239 rfl rfl
theorem q_198 : Cond.code yX9_isLetter cX9_isLetter 1 (some .boolean) ∈ WALL := wall_t4 0 rfl rfl
theorem q_199 : Cond.methodLink RX9 38 yX9_isDigit ∈ WALL := wall_t4 1 rfl rfl
theorem q_200 : Cond.static yX9_isDigit ∈ WALL := wall_t4 2 rfl rfl
theorem q_201 : Cond.code yX9_isDigit cX9_isDigit 1 (some .boolean) ∈ WALL := wall_t4 3 rfl rfl
theorem q_202 : Cond.methodLink RX9 41 yX9_isSign ∈ WALL := wall_t4 4 rfl rfl
theorem q_203 : Cond.static yX9_isSign ∈ WALL := wall_t4 5 rfl rfl
theorem q_204 : Cond.code yX9_isSign cX9_isSign 1 (some .boolean) ∈ WALL := wall_t4 6 rfl rfl
theorem q_205 : Cond.methodLink RX11 105 yX6_read ∈ WALL := wall_t4 7 rfl rfl
theorem q_206 : Cond.instanceMethod yX6_read ∈ WALL := wall_t4 8 rfl rfl
theorem q_207 : Cond.selects RX6 yX6_read yX6_read ∈ WALL := wall_t4 9 rfl rfl
theorem q_208 : Cond.code yX6_read cX6_read 7 (some .int) ∈ WALL := wall_t4 10 rfl rfl
theorem q_209 : Cond.fieldLink RX6 9 "LeafStripes$ShapeText" "text" "LLeafStripes$Text;" ∈ WALL := wall_t1 73 rfl rfl
theorem q_210 : Cond.fieldLink RX6 15 "LeafStripes$ShapeText" "out" "LLeafStripes$Shape;" ∈ WALL := wall_t1 74 rfl rfl
theorem q_211 : Cond.fieldLink RX6 19 "LeafStripes$ShapeText" "base" "LLeafStripes$Shape;" ∈ WALL := wall_t1 75 rfl rfl
theorem q_212 : Cond.fieldLink RX6 22 "LeafStripes$ShapeText" "viewing" "Z" ∈ WALL := wall_t1 76 rfl rfl
theorem q_213 : Cond.fieldLink RX6 26 "LeafStripes$ShapeText" "open" "I" ∈ WALL := wall_t1 77 rfl rfl
theorem q_214 : Cond.fieldLink RX6 30 "LeafStripes$ShapeText" "depth" "I" ∈ WALL := wall_t1 78 rfl rfl
theorem q_215 : Cond.fieldLink RX6 38 "LeafStripes$Text" "token" "I" ∈ WALL := wall_t1 45 rfl rfl
theorem q_216 : Cond.fieldLink RX6 43 "LeafStripes$Shape" "fieldCount" "I" ∈ WALL := wall_t2 64 rfl rfl
theorem q_217 : Cond.methodLink RX6 33 yX5_clear ∈ WALL := wall_t4 11 rfl rfl
theorem q_218 : Cond.instanceMethod yX5_clear ∈ WALL := wall_t4 12 rfl rfl
theorem q_219 : Cond.selects RX5 yX5_clear yX5_clear ∈ WALL := wall_t4 13 rfl rfl
theorem q_220 : Cond.code yX5_clear cX5_clear 1 none ∈ WALL := wall_t4 14 rfl rfl
theorem q_221 : Cond.fieldLink RX5 45 "LeafStripes$Shape" "fieldCount" "I" ∈ WALL := wall_t2 63 rfl rfl
theorem q_222 : Cond.fieldLink RX5 49 "LeafStripes$Shape" "leafCount" "I" ∈ WALL := wall_t2 69 rfl rfl
theorem q_223 : Cond.methodLink RX6 46 yX6_readClose ∈ WALL := wall_t4 15 rfl rfl
theorem q_224 : Cond.instanceMethod yX6_readClose ∈ WALL := wall_t4 17 rfl rfl
theorem q_225 : Cond.selects RX6 yX6_readClose yX6_readClose ∈ WALL := wall_s1 (q := (⟨"LeafStripes$ShapeText", "readClose", "()I"⟩, 6)) 12 rfl rfl
theorem q_226 : Cond.code yX6_readClose cX6_readClose 1 (some .int) ∈ WALL := wall_t4 18 rfl rfl
theorem q_227 : Cond.fieldLink RX6 56 "LeafStripes$Shape" "inside" "[I" ∈ WALL := wall_t2 110 rfl rfl
theorem q_228 : Cond.fieldLink RX6 60 "LeafStripes$Shape" "group" "[I" ∈ WALL := wall_t2 84 rfl rfl
theorem q_229 : Cond.methodLink RX6 50 yX6_readField ∈ WALL := wall_t4 19 rfl rfl
theorem q_230 : Cond.instanceMethod yX6_readField ∈ WALL := wall_t4 21 rfl rfl
theorem q_231 : Cond.selects RX6 yX6_readField yX6_readField ∈ WALL := wall_s1 (q := (⟨"LeafStripes$ShapeText", "readField", "()I"⟩, 6)) 13 rfl rfl
theorem q_232 : Cond.code yX6_readField cX6_readField 4 (some .int) ∈ WALL := wall_t4 22 rfl rfl
theorem q_233 : Cond.methodLink RX6 63 yX6_kindTold ∈ WALL := wall_t4 23 rfl rfl
theorem q_234 : Cond.instanceMethod yX6_kindTold ∈ WALL := wall_t4 25 rfl rfl
theorem q_235 : Cond.selects RX6 yX6_kindTold yX6_kindTold ∈ WALL := wall_s1 (q := (⟨"LeafStripes$ShapeText", "kindTold", "()I"⟩, 6)) 14 rfl rfl
theorem q_236 : Cond.code yX6_kindTold cX6_kindTold 1 (some .int) ∈ WALL := wall_t4 26 rfl rfl
theorem q_237 : Cond.methodLink RX6 79 yX9_isWord ∈ WALL := wall_t4 28 rfl rfl
theorem q_238 : Cond.instanceMethod yX9_isWord ∈ WALL := wall_t4 29 rfl rfl
theorem q_239 : Cond.selects RX9 yX9_isWord yX9_isWord ∈ WALL := wall_t4 30 rfl rfl
theorem q_240 : Cond.code yX9_isWord cX9_isWord 3 (some .boolean) ∈ WALL := wall_t4 31 rfl rfl
theorem q_241 : Cond.methodLink RX9 44 yJ0_length_8abf5 ∈ WALL := wall_t4 32 rfl rfl
theorem q_242 : Cond.instanceMethod yJ0_length_8abf5 ∈ WALL := wall_t4 33 rfl rfl
theorem q_243 : Cond.selects RJ0 yJ0_length_8abf5 yJ0_length_8abf5 ∈ WALL := wall_t4 34 rfl rfl
theorem q_244 : Cond.initialized RJ0 ∈ WALL := wall_t1 17 rfl rfl
theorem q_245 : Cond.code yJ0_length_8abf5 cJ0_length_8abf5 1 (some .int) ∈ WALL := wall_t4 35 rfl rfl
theorem q_246 : Cond.fieldLink RJ0 9 "java/lang/String" "value" "[B" ∈ WALL := wall_t9 123 rfl rfl
theorem q_247 : Cond.methodLink RJ0 335 yJ0_coder_7d493 ∈ WALL := wall_t4 36 rfl rfl
theorem q_248 : Cond.instanceMethod yJ0_coder_7d493 ∈ WALL := wall_t4 37 rfl rfl
theorem q_249 : Cond.selects RJ0 yJ0_coder_7d493 yJ0_coder_7d493 ∈ WALL := wall_t4 38 rfl rfl
theorem q_250 : Cond.code yJ0_coder_7d493 cJ0_coder_7d493 1 (some .byte) ∈ WALL := wall_t4 39 rfl rfl
theorem q_251 : Cond.fieldLink RJ0 38 "java/lang/String" "COMPACT_STRINGS" "Z" ∈ WALL := wall_t4 40 rfl rfl
theorem q_252 : Cond.fieldLink RJ0 15 "java/lang/String" "coder" "B" ∈ WALL := wall_t9 124 rfl rfl
theorem q_253 : Cond.methodLink RX9 50 yX9_width ∈ WALL := wall_t4 42 rfl rfl
theorem q_254 : Cond.instanceMethod yX9_width ∈ WALL := wall_t4 43 rfl rfl
theorem q_255 : Cond.selects RX9 yX9_width yX9_width ∈ WALL := wall_t4 44 rfl rfl
theorem q_256 : Cond.code yX9_width cX9_width 1 (some .int) ∈ WALL := wall_t4 45 rfl rfl
theorem q_257 : Cond.methodLink RX9 53 yJ0_charAt_5068e ∈ WALL := wall_t4 46 rfl rfl
theorem q_258 : Cond.instanceMethod yJ0_charAt_5068e ∈ WALL := wall_t4 47 rfl rfl
theorem q_259 : Cond.selects RJ0 yJ0_charAt_5068e yJ0_charAt_5068e ∈ WALL := wall_t4 48 rfl rfl
theorem q_260 : Cond.code yJ0_charAt_5068e cJ0_charAt_5068e 2 (some .char) ∈ WALL := wall_t4 49 rfl rfl
theorem q_261 : Cond.methodLink RJ0 492 yJ0_isLatin1_aae02 ∈ WALL := wall_t4 50 rfl rfl
theorem q_262 : Cond.instanceMethod yJ0_isLatin1_aae02 ∈ WALL := wall_t4 51 rfl rfl
theorem q_263 : Cond.selects RJ0 yJ0_isLatin1_aae02 yJ0_isLatin1_aae02 ∈ WALL := wall_t4 52 rfl rfl
theorem q_264 : Cond.code yJ0_isLatin1_aae02 cJ0_isLatin1_aae02 1 (some .boolean) ∈ WALL := wall_t4 53 rfl rfl
theorem q_265 : Cond.methodLink RJ0 495 yJ1_charAt_3b067 ∈ WALL := wall_t4 54 rfl rfl
theorem q_266 : Cond.static yJ1_charAt_3b067 ∈ WALL := wall_t4 55 rfl rfl
theorem q_267 : Cond.initialized RJ1 ∈ WALL := wall_t1 18 rfl rfl
theorem q_268 : Cond.code yJ1_charAt_3b067 cJ1_charAt_3b067 2 (some .char) ∈ WALL := wall_t4 56 rfl rfl
theorem q_269 : Cond.methodLink RJ1 9 yJ0_checkIndex_df160 ∈ WALL := wall_t4 57 rfl rfl
theorem q_270 : Cond.static yJ0_checkIndex_df160 ∈ WALL := wall_t4 58 rfl rfl
theorem q_271 : Cond.code yJ0_checkIndex_df160 cJ0_checkIndex_df160 2 none ∈ WALL := wall_t4 59 rfl rfl
theorem q_272 : Cond.fieldLink RJ0 1053 "jdk/internal/util/Preconditions" "SIOOBE_FORMATTER" "Ljava/util/function/BiFunction;" ∈ WALL := wall_t4 60 rfl rfl
theorem q_273 : Cond.methodLink RJ0 1059 yJ3_checkIndex_8e157 ∈ WALL := wall_t4 62 rfl rfl
theorem q_274 : Cond.static yJ3_checkIndex_8e157 ∈ WALL := wall_t4 63 rfl rfl
theorem q_275 : Cond.initialized RJ3 ∈ WALL := wall_t1 19 rfl rfl
theorem q_276 : Cond.code yJ3_checkIndex_8e157 cJ3_checkIndex_8e157 3 (some .int) ∈ WALL := wall_t4 64 rfl rfl
theorem q_277 : Cond.methodLink RJ0 498 yJ2_charAt_3b067 ∈ WALL := wall_t4 65 rfl rfl
theorem q_278 : Cond.static yJ2_charAt_3b067 ∈ WALL := wall_t4 66 rfl rfl
theorem q_279 : Cond.initialized RJ2 ∈ WALL := wall_t1 20 rfl rfl
theorem q_280 : Cond.code yJ2_charAt_3b067 cJ2_charAt_3b067 2 (some .char) ∈ WALL := wall_t4 67 rfl rfl
theorem q_281 : Cond.methodLink RJ2 67 yJ2_checkIndex_2214a ∈ WALL := wall_t4 68 rfl rfl
theorem q_282 : Cond.static yJ2_checkIndex_2214a ∈ WALL := wall_t4 69 rfl rfl
theorem q_283 : Cond.code yJ2_checkIndex_2214a cJ2_checkIndex_2214a 2 none ∈ WALL := wall_t4 70 rfl rfl
theorem q_284 : Cond.methodLink RJ2 48 yJ2_length_9d52b ∈ WALL := wall_t4 71 rfl rfl
theorem q_285 : Cond.static yJ2_length_9d52b ∈ WALL := wall_t4 72 rfl rfl
theorem q_286 : Cond.code yJ2_length_9d52b cJ2_length_9d52b 1 (some .int) ∈ WALL := wall_t4 73 rfl rfl
theorem q_287 : Cond.methodLink RJ2 414 yJ0_checkIndex_df160 ∈ WALL := wall_t4 74 rfl rfl
theorem q_288 : Cond.methodLink RJ2 71 yJ2_getChar_3b067 ∈ WALL := wall_t4 75 rfl rfl
theorem q_289 : Cond.static yJ2_getChar_3b067 ∈ WALL := wall_t4 76 rfl rfl
theorem q_290 : Cond.code yJ2_getChar_3b067 cJ2_getChar_3b067 2 (some .char) ∈ WALL := wall_t4 77 rfl rfl
theorem q_291 : Cond.fieldLink RJ2 44 "java/lang/StringUTF16" "$assertionsDisabled" "Z" ∈ WALL := wall_t4 78 rfl rfl
theorem q_292 : Cond.fieldLink RJ2 59 "java/lang/StringUTF16" "HI_BYTE_SHIFT" "I" ∈ WALL := wall_t4 80 rfl rfl
theorem q_293 : Cond.fieldLink RJ2 63 "java/lang/StringUTF16" "LO_BYTE_SHIFT" "I" ∈ WALL := wall_t4 82 rfl rfl
theorem q_294 : Cond.methodLink RX6 66 yX5_openField ∈ WALL := wall_t4 86 rfl rfl
theorem q_295 : Cond.instanceMethod yX5_openField ∈ WALL := wall_t4 87 rfl rfl
theorem q_296 : Cond.selects RX5 yX5_openField yX5_openField ∈ WALL := wall_t4 88 rfl rfl
theorem q_297 : Cond.code yX5_openField cX5_openField 4 (some .int) ∈ WALL := wall_t4 89 rfl rfl
theorem q_298 : Cond.methodLink RX6 53 yX9_advance ∈ WALL := wall_t4 90 rfl rfl
theorem q_299 : Cond.methodLink RX6 70 yX6_readName ∈ WALL := wall_t4 91 rfl rfl
theorem q_300 : Cond.instanceMethod yX6_readName ∈ WALL := wall_t4 93 rfl rfl
theorem q_301 : Cond.selects RX6 yX6_readName yX6_readName ∈ WALL := wall_s1 (q := (⟨"LeafStripes$ShapeText", "readName", "(I)I"⟩, 6)) 15 rfl rfl
theorem q_302 : Cond.code yX6_readName cX6_readName 2 (some .int) ∈ WALL := wall_t4 94 rfl rfl
theorem q_303 : Cond.methodLink RX6 87 yX9_width ∈ WALL := wall_t4 95 rfl rfl
theorem q_304 : Cond.methodLink RX6 90 yX5_putName ∈ WALL := wall_t4 96 rfl rfl
theorem q_305 : Cond.instanceMethod yX5_putName ∈ WALL := wall_t4 97 rfl rfl
theorem q_306 : Cond.selects RX5 yX5_putName yX5_putName ∈ WALL := wall_t4 98 rfl rfl
theorem q_307 : Cond.code yX5_putName cX5_putName 4 none ∈ WALL := wall_t4 99 rfl rfl
theorem q_308 : Cond.fieldLink RX5 58 "LeafStripes$Text" "bytes" "[I" ∈ WALL := wall_t1 41 rfl rfl
theorem q_309 : Cond.fieldLink RX5 61 "LeafStripes$Text" "start" "I" ∈ WALL := wall_t1 50 rfl rfl
theorem q_310 : Cond.methodLink RX5 52 yX9_width ∈ WALL := wall_t4 100 rfl rfl
theorem q_311 : Cond.methodLink RX6 94 yX6_findTwin ∈ WALL := wall_t4 101 rfl rfl
theorem q_312 : Cond.instanceMethod yX6_findTwin ∈ WALL := wall_t4 103 rfl rfl
theorem q_313 : Cond.selects RX6 yX6_findTwin yX6_findTwin ∈ WALL := wall_s2 (q := (⟨"LeafStripes$ShapeText", "findTwin", "(I)Z"⟩, 6)) 0 rfl rfl
theorem q_314 : Cond.code yX6_findTwin cX6_findTwin 5 (some .boolean) ∈ WALL := wall_t4 104 rfl rfl
theorem q_315 : Cond.fieldLink RX6 102 "LeafStripes$Shape" "twin" "[I" ∈ WALL := wall_t2 118 rfl rfl
theorem q_316 : Cond.fieldLink RX6 105 "LeafStripes$Shape" "kind" "[I" ∈ WALL := wall_t2 80 rfl rfl
theorem q_317 : Cond.methodLink RX6 98 yX5_fieldNamed ∈ WALL := wall_t4 105 rfl rfl
theorem q_318 : Cond.instanceMethod yX5_fieldNamed ∈ WALL := wall_t4 106 rfl rfl
theorem q_319 : Cond.selects RX5 yX5_fieldNamed yX5_fieldNamed ∈ WALL := wall_t4 107 rfl rfl
theorem q_320 : Cond.code yX5_fieldNamed cX5_fieldNamed 5 (some .int) ∈ WALL := wall_t4 108 rfl rfl
theorem q_321 : Cond.methodLink RX5 64 yX5_hasNameOf ∈ WALL := wall_t4 109 rfl rfl
theorem q_322 : Cond.instanceMethod yX5_hasNameOf ∈ WALL := wall_t4 110 rfl rfl
theorem q_323 : Cond.selects RX5 yX5_hasNameOf yX5_hasNameOf ∈ WALL := wall_t4 111 rfl rfl
theorem q_324 : Cond.code yX5_hasNameOf cX5_hasNameOf 5 (some .boolean) ∈ WALL := wall_t4 112 rfl rfl
theorem q_325 : Cond.methodLink RX6 74 yX6_readLeafOrGroup ∈ WALL := wall_t4 113 rfl rfl
theorem q_326 : Cond.instanceMethod yX6_readLeafOrGroup ∈ WALL := wall_t4 115 rfl rfl
theorem q_327 : Cond.selects RX6 yX6_readLeafOrGroup yX6_readLeafOrGroup ∈ WALL := wall_s2 (q := (⟨"LeafStripes$ShapeText", "readLeafOrGroup", "(I)I"⟩, 6)) 1 rfl rfl
theorem q_328 : Cond.code yX6_readLeafOrGroup cX6_readLeafOrGroup 3 (some .int) ∈ WALL := wall_t4 116 rfl rfl
theorem q_329 : Cond.fieldLink RX6 108 "LeafStripes$Shape" "leafCount" "I" ∈ WALL := wall_t2 76 rfl rfl
theorem q_330 : Cond.fieldLink RX6 115 "LeafStripes$Shape" "leafAt" "[I" ∈ WALL := wall_t2 91 rfl rfl
theorem q_331 : Cond.methodLink RX6 111 yX5_makeLeaf ∈ WALL := wall_t4 117 rfl rfl
theorem q_332 : Cond.instanceMethod yX5_makeLeaf ∈ WALL := wall_t4 118 rfl rfl
theorem q_333 : Cond.selects RX5 yX5_makeLeaf yX5_makeLeaf ∈ WALL := wall_t4 119 rfl rfl
theorem q_334 : Cond.code yX5_makeLeaf cX5_makeLeaf 4 none ∈ WALL := wall_t4 120 rfl rfl
theorem q_335 : Cond.methodLink RX11 109 yX11_noteFault ∈ WALL := wall_t4 121 rfl rfl
theorem q_336 : Cond.instanceMethod yX11_noteFault ∈ WALL := wall_t4 123 rfl rfl
theorem q_337 : Cond.selects RX11 yX11_noteFault yX11_noteFault ∈ WALL := wall_s2 (q := (⟨"LeafStripes", "noteFault", "(I)Z"⟩, 15)) 2 rfl rfl
theorem q_338 : Cond.code yX11_noteFault cX11_noteFault 2 (some .boolean) ∈ WALL := wall_t4 124 rfl rfl
theorem q_339 : Cond.fieldLink RX11 357 "LeafStripes$Text" "start" "I" ∈ WALL := wall_t1 51 rfl rfl
theorem q_340 : Cond.fieldLink RX11 175 "LeafStripes$State" "refusedTexts" "I" ∈ WALL := wall_t2 41 rfl rfl
theorem q_341 : Cond.methodLink RX11 113 yX5_clear ∈ WALL := wall_t4 125 rfl rfl
theorem q_342 : Cond.methodLink RX11 116 yX3_clear ∈ WALL := wall_t4 126 rfl rfl
theorem q_343 : Cond.instanceMethod yX3_clear ∈ WALL := wall_t4 127 rfl rfl
theorem q_344 : Cond.selects RX3 yX3_clear yX3_clear ∈ WALL := wall_t4 128 rfl rfl
theorem q_345 : Cond.code yX3_clear cX3_clear 1 none ∈ WALL := wall_t4 129 rfl rfl
theorem q_346 : Cond.fieldLink RX3 24 "LeafStripes$Pipe" "steps" "I" ∈ WALL := wall_t2 156 rfl rfl
theorem q_347 : Cond.methodLink RX11 117 yX7_clear ∈ WALL := wall_t4 130 rfl rfl
theorem q_348 : Cond.instanceMethod yX7_clear ∈ WALL := wall_t4 131 rfl rfl
theorem q_349 : Cond.selects RX7 yX7_clear yX7_clear ∈ WALL := wall_t4 132 rfl rfl
theorem q_350 : Cond.code yX7_clear cX7_clear 3 none ∈ WALL := wall_t4 133 rfl rfl
theorem q_351 : Cond.fieldLink RX7 24 "LeafStripes$State" "records" "I" ∈ WALL := wall_t2 32 rfl rfl
theorem q_352 : Cond.fieldLink RX7 28 "LeafStripes$State" "actCount" "I" ∈ WALL := wall_t2 38 rfl rfl
theorem q_353 : Cond.fieldLink RX7 31 "LeafStripes$Column" "size" "I" ∈ WALL := wall_t2 5 rfl rfl
theorem q_354 : Cond.fieldLink RX7 34 "LeafStripes$Shape" "leafCount" "I" ∈ WALL := wall_t2 71 rfl rfl
theorem q_355 : Cond.fieldLink RX7 39 "LeafStripes$Shape" "def" "[I" ∈ WALL := wall_t2 96 rfl rfl
theorem q_356 : Cond.fieldLink RX7 43 "LeafStripes$Shape" "fieldOf" "[I" ∈ WALL := wall_t2 120 rfl rfl
theorem q_357 : Cond.fieldLink RX7 46 "LeafStripes$Column" "full" "I" ∈ WALL := wall_t2 13 rfl rfl
theorem q_358 : Cond.methodLink RL 100 yX12_schema ∈ WALL := wall_t7 114 rfl rfl
theorem q_359 : Cond.instanceMethod yX12_schema ∈ WALL := wall_t7 115 rfl rfl
theorem q_360 : Cond.selects RX12 yX12_schema yX12_schema ∈ WALL := wall_t7 116 rfl rfl
theorem q_361 : Cond.code yX12_schema cX12_schema 3 (some .int) ∈ WALL := wall_t7 117 rfl rfl
theorem q_362 : Cond.fieldLink RX12 170 "LeafStripesModel" "bad" "I" ∈ WALL := wall_t6 192 rfl rfl
theorem q_363 : Cond.fieldLink RX12 246 "LeafStripesModel" "stepMany" "I" ∈ WALL := wall_t6 227 rfl rfl
theorem q_364 : Cond.fieldLink RX12 249 "LeafStripesModel" "records" "I" ∈ WALL := wall_t6 210 rfl rfl
theorem q_365 : Cond.fieldLink RX12 252 "LeafStripesModel" "acts" "I" ∈ WALL := wall_t6 211 rfl rfl
theorem q_366 : Cond.fieldLink RX12 255 "LeafStripesModel" "hasImage" "Z" ∈ WALL := wall_t6 230 rfl rfl
theorem q_367 : Cond.methodLink RX12 233 yX12_begin ∈ WALL := wall_t7 118 rfl rfl
theorem q_368 : Cond.instanceMethod yX12_begin ∈ WALL := wall_t7 120 rfl rfl
theorem q_369 : Cond.selects RX12 yX12_begin yX12_begin ∈ WALL := wall_s5 (q := (⟨"LeafStripesModel", "begin", "(I)Z"⟩, 55)) 3 rfl rfl
theorem q_370 : Cond.code yX12_begin cX12_begin 2 (some .boolean) ∈ WALL := wall_t7 121 rfl rfl
theorem q_371 : Cond.fieldLink RX12 131 "LeafStripesModel" "size" "I" ∈ WALL := wall_t6 187 rfl rfl
theorem q_372 : Cond.fieldLink RX12 134 "LeafStripesModel" "at" "I" ∈ WALL := wall_t6 186 rfl rfl
theorem q_373 : Cond.methodLink RX12 236 yX12_readSchema ∈ WALL := wall_t7 122 rfl rfl
theorem q_374 : Cond.instanceMethod yX12_readSchema ∈ WALL := wall_t7 124 rfl rfl
theorem q_375 : Cond.selects RX12 yX12_readSchema yX12_readSchema ∈ WALL := wall_s5 (q := (⟨"LeafStripesModel", "readSchema", "(Z)V"⟩, 55)) 4 rfl rfl
theorem q_376 : Cond.code yX12_readSchema cX12_readSchema 2 none ∈ WALL := wall_t7 125 rfl rfl
theorem q_377 : Cond.fieldLink RX12 206 "LeafStripesModel" "viewing" "Z" ∈ WALL := wall_t6 206 rfl rfl
theorem q_378 : Cond.methodLink RX12 195 yX12_stepOn ∈ WALL := wall_t7 126 rfl rfl
theorem q_379 : Cond.instanceMethod yX12_stepOn ∈ WALL := wall_t7 128 rfl rfl
theorem q_380 : Cond.selects RX12 yX12_stepOn yX12_stepOn ∈ WALL := wall_s5 (q := (⟨"LeafStripesModel", "stepOn", "()V"⟩, 55)) 5 rfl rfl
theorem q_381 : Cond.code yX12_stepOn cX12_stepOn 2 none ∈ WALL := wall_t7 129 rfl rfl
theorem q_382 : Cond.fieldLink RX12 141 "LeafStripesModel" "begins" "I" ∈ WALL := wall_t6 190 rfl rfl
theorem q_383 : Cond.fieldLink RX12 144 "LeafStripesModel" "token" "I" ∈ WALL := wall_t6 188 rfl rfl
theorem q_384 : Cond.fieldLink RX12 154 "LeafStripesModel" "number" "I" ∈ WALL := wall_t6 189 rfl rfl
theorem q_385 : Cond.constant RX12 157 (100000) ∈ WALL := wall_t7 140 rfl rfl
theorem q_386 : Cond.methodLink RX12 158 Lib.Math.min.name ∈ WALL := wall_t7 141 rfl rfl
theorem q_387 : Cond.static Lib.Math.min.name ∈ WALL := wall_t3 53 rfl rfl
theorem q_388 : Cond.initialized "java/lang/Math" ∈ WALL := wall_t1 21 rfl rfl
theorem q_389 : Cond.code Lib.Math.min.name Lib.Math.min.code 2 (some .int) ∈ WALL := wall_t3 54 rfl rfl
theorem q_390 : Cond.fieldLink RX12 167 "LeafStripesModel" "stops" "I" ∈ WALL := wall_t6 191 rfl rfl
theorem q_391 : Cond.methodLink RX12 137 yX12_byteAt ∈ WALL := wall_t7 130 rfl rfl
theorem q_392 : Cond.instanceMethod yX12_byteAt ∈ WALL := wall_t7 132 rfl rfl
theorem q_393 : Cond.selects RX12 yX12_byteAt yX12_byteAt ∈ WALL := wall_s5 (q := (⟨"LeafStripesModel", "byteAt", "(I)I"⟩, 55)) 6 rfl rfl
theorem q_394 : Cond.code yX12_byteAt cX12_byteAt 2 (some .int) ∈ WALL := wall_t7 133 rfl rfl
theorem q_395 : Cond.methodLink RX12 147 yX12_isLetter ∈ WALL := wall_t7 134 rfl rfl
theorem q_396 : Cond.static yX12_isLetter ∈ WALL := wall_t7 135 rfl rfl
theorem q_397 : Cond.code yX12_isLetter cX12_isLetter 1 (some .boolean) ∈ WALL := wall_t7 136 rfl rfl
theorem q_398 : Cond.methodLink RX12 151 yX12_isDigit ∈ WALL := wall_t7 137 rfl rfl
theorem q_399 : Cond.static yX12_isDigit ∈ WALL := wall_t7 138 rfl rfl
theorem q_400 : Cond.code yX12_isDigit cX12_isDigit 1 (some .boolean) ∈ WALL := wall_t7 139 rfl rfl
theorem q_401 : Cond.methodLink RX12 164 yX12_isMark ∈ WALL := wall_t7 142 rfl rfl
theorem q_402 : Cond.static yX12_isMark ∈ WALL := wall_t7 143 rfl rfl
theorem q_403 : Cond.code yX12_isMark cX12_isMark 1 (some .boolean) ∈ WALL := wall_t7 144 rfl rfl
theorem q_404 : Cond.methodLink RX12 223 yX12_readFields ∈ WALL := wall_t7 145 rfl rfl
theorem q_405 : Cond.instanceMethod yX12_readFields ∈ WALL := wall_t7 147 rfl rfl
theorem q_406 : Cond.selects RX12 yX12_readFields yX12_readFields ∈ WALL := wall_s5 (q := (⟨"LeafStripesModel", "readFields", "(II)V"⟩, 55)) 7 rfl rfl
theorem q_407 : Cond.code yX12_readFields cX12_readFields 3 none ∈ WALL := wall_t7 148 rfl rfl
theorem q_408 : Cond.methodLink RX12 230 yX12_readField ∈ WALL := wall_t7 149 rfl rfl
theorem q_409 : Cond.instanceMethod yX12_readField ∈ WALL := wall_t7 151 rfl rfl
theorem q_410 : Cond.selects RX12 yX12_readField yX12_readField ∈ WALL := wall_s5 (q := (⟨"LeafStripesModel", "readField", "(II)V"⟩, 55)) 8 rfl rfl
theorem q_411 : Cond.methodLink RX12 188 yX12_isMarked ∈ WALL := wall_t7 183 rfl rfl
theorem q_412 : Cond.instanceMethod yX12_isMarked ∈ WALL := wall_t7 185 rfl rfl
theorem q_413 : Cond.selects RX12 yX12_isMarked yX12_isMarked ∈ WALL := wall_s6 (q := (⟨"LeafStripesModel", "isMarked", "(I)Z"⟩, 55)) 0 rfl rfl
theorem q_414 : Cond.code yX12_isMarked cX12_isMarked 2 (some .boolean) ∈ WALL := wall_t7 186 rfl rfl
theorem q_415 : Cond.code yX12_readField cX12_readField 7 none ∈ WALL := wall_t7 152 rfl rfl
theorem q_416 : Cond.methodLink RX12 213 yX12_which ∈ WALL := wall_t7 153 rfl rfl
theorem q_417 : Cond.instanceMethod yX12_which ∈ WALL := wall_t7 155 rfl rfl
theorem q_418 : Cond.selects RX12 yX12_which yX12_which ∈ WALL := wall_s5 (q := (⟨"LeafStripesModel", "which", "([Ljava/lang/String;)I"⟩, 55)) 9 rfl rfl
theorem q_419 : Cond.code yX12_which cX12_which 3 (some .int) ∈ WALL := wall_t7 156 rfl rfl
theorem q_420 : Cond.methodLink RX12 184 yX12_is ∈ WALL := wall_t7 157 rfl rfl
theorem q_421 : Cond.instanceMethod yX12_is ∈ WALL := wall_t7 159 rfl rfl
theorem q_422 : Cond.selects RX12 yX12_is yX12_is ∈ WALL := wall_s5 (q := (⟨"LeafStripesModel", "is", "(Ljava/lang/String;)Z"⟩, 55)) 10 rfl rfl
theorem q_423 : Cond.code yX12_is cX12_is 4 (some .boolean) ∈ WALL := wall_t7 160 rfl rfl
theorem q_424 : Cond.methodLink RX12 176 yJ0_length_8abf5 ∈ WALL := wall_t7 161 rfl rfl
theorem q_425 : Cond.methodLink RX12 180 yJ0_charAt_5068e ∈ WALL := wall_t7 162 rfl rfl
theorem q_426 : Cond.methodLink RX12 191 yX12_wrong ∈ WALL := wall_t7 163 rfl rfl
theorem q_427 : Cond.instanceMethod yX12_wrong ∈ WALL := wall_t7 165 rfl rfl
theorem q_428 : Cond.selects RX12 yX12_wrong yX12_wrong ∈ WALL := wall_s5 (q := (⟨"LeafStripesModel", "wrong", "(I)V"⟩, 55)) 11 rfl rfl
theorem q_429 : Cond.code yX12_wrong cX12_wrong 2 none ∈ WALL := wall_t7 166 rfl rfl
theorem q_430 : Cond.fieldLink RX12 173 "LeafStripesModel" "badPlace" "I" ∈ WALL := wall_t6 193 rfl rfl
theorem q_431 : Cond.methodLink RX12 217 yX12_readName ∈ WALL := wall_t7 167 rfl rfl
theorem q_432 : Cond.instanceMethod yX12_readName ∈ WALL := wall_t7 169 rfl rfl
theorem q_433 : Cond.selects RX12 yX12_readName yX12_readName ∈ WALL := wall_s5 (q := (⟨"LeafStripesModel", "readName", "(I)V"⟩, 55)) 12 rfl rfl
theorem q_434 : Cond.code yX12_readName cX12_readName 3 none ∈ WALL := wall_t7 170 rfl rfl
theorem q_435 : Cond.methodLink RX12 210 yX12_mayBeSeen ∈ WALL := wall_t7 171 rfl rfl
theorem q_436 : Cond.instanceMethod yX12_mayBeSeen ∈ WALL := wall_t7 173 rfl rfl
theorem q_437 : Cond.selects RX12 yX12_mayBeSeen yX12_mayBeSeen ∈ WALL := wall_s5 (q := (⟨"LeafStripesModel", "mayBeSeen", "(I)Z"⟩, 55)) 13 rfl rfl
theorem q_438 : Cond.code yX12_mayBeSeen cX12_mayBeSeen 5 (some .boolean) ∈ WALL := wall_t7 174 rfl rfl
theorem q_439 : Cond.methodLink RX12 202 yX12_fieldNamedAs ∈ WALL := wall_t7 175 rfl rfl
theorem q_440 : Cond.instanceMethod yX12_fieldNamedAs ∈ WALL := wall_t7 177 rfl rfl
theorem q_441 : Cond.selects RX12 yX12_fieldNamedAs yX12_fieldNamedAs ∈ WALL := wall_s5 (q := (⟨"LeafStripesModel", "fieldNamedAs", "(IIII)I"⟩, 55)) 14 rfl rfl
theorem q_442 : Cond.code yX12_fieldNamedAs cX12_fieldNamedAs 6 (some .int) ∈ WALL := wall_t7 178 rfl rfl
theorem q_443 : Cond.methodLink RX12 198 yX12_isSameName ∈ WALL := wall_t7 179 rfl rfl
theorem q_444 : Cond.instanceMethod yX12_isSameName ∈ WALL := wall_t7 181 rfl rfl
theorem q_445 : Cond.selects RX12 yX12_isSameName yX12_isSameName ∈ WALL := wall_s5 (q := (⟨"LeafStripesModel", "isSameName", "(II)Z"⟩, 55)) 15 rfl rfl
theorem q_446 : Cond.code yX12_isSameName cX12_isSameName 5 (some .boolean) ∈ WALL := wall_t7 182 rfl rfl
theorem q_447 : Cond.methodLink RX12 220 yX12_isLeafThere ∈ WALL := wall_t7 187 rfl rfl
theorem q_448 : Cond.instanceMethod yX12_isLeafThere ∈ WALL := wall_t7 189 rfl rfl
theorem q_449 : Cond.selects RX12 yX12_isLeafThere yX12_isLeafThere ∈ WALL := wall_s6 (q := (⟨"LeafStripesModel", "isLeafThere", "(I)Z"⟩, 55)) 1 rfl rfl
theorem q_450 : Cond.code yX12_isLeafThere cX12_isLeafThere 2 (some .boolean) ∈ WALL := wall_t7 190 rfl rfl
theorem q_451 : Cond.methodLink RX12 227 yX12_mark ∈ WALL := wall_t7 191 rfl rfl
theorem q_452 : Cond.instanceMethod yX12_mark ∈ WALL := wall_t7 193 rfl rfl
theorem q_453 : Cond.selects RX12 yX12_mark yX12_mark ∈ WALL := wall_s6 (q := (⟨"LeafStripesModel", "mark", "(I)V"⟩, 55)) 2 rfl rfl
theorem q_454 : Cond.code yX12_mark cX12_mark 2 none ∈ WALL := wall_t7 194 rfl rfl
theorem q_455 : Cond.methodLink RX12 240 yX12_ended ∈ WALL := wall_t7 195 rfl rfl
theorem q_456 : Cond.instanceMethod yX12_ended ∈ WALL := wall_t7 197 rfl rfl
theorem q_457 : Cond.selects RX12 yX12_ended yX12_ended ∈ WALL := wall_s6 (q := (⟨"LeafStripesModel", "ended", "()I"⟩, 55)) 3 rfl rfl
theorem q_458 : Cond.code yX12_ended cX12_ended 1 (some .int) ∈ WALL := wall_t7 198 rfl rfl
theorem q_459 : Cond.methodLink RX12 243 yX12_takeFields ∈ WALL := wall_t7 199 rfl rfl
theorem q_460 : Cond.instanceMethod yX12_takeFields ∈ WALL := wall_t7 201 rfl rfl
theorem q_461 : Cond.selects RX12 yX12_takeFields yX12_takeFields ∈ WALL := wall_s6 (q := (⟨"LeafStripesModel", "takeFields", "(I)V"⟩, 55)) 4 rfl rfl
theorem q_462 : Cond.code yX12_takeFields cX12_takeFields 5 none ∈ WALL := wall_t7 202 rfl rfl
theorem q_463 : Cond.methodLink RL 101 yX12_thrown ∈ WALL := wall_t7 106 rfl rfl
theorem q_464 : Cond.instanceMethod yX12_thrown ∈ WALL := wall_t7 107 rfl rfl
theorem q_465 : Cond.selects RX12 yX12_thrown yX12_thrown ∈ WALL := wall_t7 108 rfl rfl
theorem q_466 : Cond.code yX12_thrown cX12_thrown 1 (some .int) ∈ WALL := wall_t7 109 rfl rfl
theorem q_467 : Cond.methodLink RL 105 yL_add ∈ WALL := wall_t4 134 rfl rfl
theorem q_468 : Cond.static yL_add ∈ WALL := wall_t4 135 rfl rfl
theorem q_469 : Cond.codeWith yL_add cL_add 4 (some .int) [(0, 9, 12, 13)] ∈ WALL := wall_t4 136 rfl rfl
theorem q_470 : Cond.methodLink RL 15 yX11_add ∈ WALL := wall_t4 137 rfl rfl
theorem q_471 : Cond.instanceMethod yX11_add ∈ WALL := wall_t4 138 rfl rfl
theorem q_472 : Cond.selects RX11 yX11_add yX11_add ∈ WALL := wall_t4 139 rfl rfl
theorem q_473 : Cond.code yX11_add cX11_add 3 (some .int) ∈ WALL := wall_t4 140 rfl rfl
theorem q_474 : Cond.fieldLink RX11 120 "LeafStripes$Shape" "fieldCount" "I" ∈ WALL := wall_t2 65 rfl rfl
theorem q_475 : Cond.fieldLink RX11 134 "LeafStripes$RecordText" "records" "I" ∈ WALL := wall_t1 101 rfl rfl
theorem q_476 : Cond.fieldLink RX11 137 "LeafStripes$RecordText" "sizes" "[I" ∈ WALL := wall_t1 99 rfl rfl
theorem q_477 : Cond.fieldLink RX11 141 "LeafStripes$Shape" "leafCount" "I" ∈ WALL := wall_t2 75 rfl rfl
theorem q_478 : Cond.methodLink RX11 123 yX11_isWrong ∈ WALL := wall_t2 239 rfl rfl
theorem q_479 : Cond.instanceMethod yX11_isWrong ∈ WALL := wall_t3 1 rfl rfl
theorem q_480 : Cond.selects RX11 yX11_isWrong yX11_isWrong ∈ WALL := wall_s1 (q := (⟨"LeafStripes", "isWrong", "()Z"⟩, 15)) 0 rfl rfl
theorem q_481 : Cond.code yX11_isWrong cX11_isWrong 1 (some .boolean) ∈ WALL := wall_t3 2 rfl rfl
theorem q_482 : Cond.methodLink RX11 354 yX1_run ∈ WALL := wall_t3 3 rfl rfl
theorem q_483 : Cond.instanceMethod yX1_run ∈ WALL := wall_t3 4 rfl rfl
theorem q_484 : Cond.selects RX1 yX1_run yX1_run ∈ WALL := wall_t3 5 rfl rfl
theorem q_485 : Cond.code yX1_run cX1_run 4 (some .int) ∈ WALL := wall_t3 6 rfl rfl
theorem q_486 : Cond.fieldLink RX1 9 "LeafStripes$Check" "shape" "LLeafStripes$Shape;" ∈ WALL := wall_t1 134 rfl rfl
theorem q_487 : Cond.fieldLink RX1 15 "LeafStripes$Check" "state" "LLeafStripes$State;" ∈ WALL := wall_t1 135 rfl rfl
theorem q_488 : Cond.fieldLink RX1 19 "LeafStripes$Check" "wrong" "I" ∈ WALL := wall_t1 125 rfl rfl
theorem q_489 : Cond.fieldLink RX1 23 "LeafStripes$Check" "wrongLeaf" "I" ∈ WALL := wall_t1 126 rfl rfl
theorem q_490 : Cond.fieldLink RX1 26 "LeafStripes$Check" "wrongEntry" "I" ∈ WALL := wall_t1 128 rfl rfl
theorem q_491 : Cond.fieldLink RX1 29 "LeafStripes$Shape" "leafCount" "I" ∈ WALL := wall_t2 70 rfl rfl
theorem q_492 : Cond.methodLink RX1 34 yX1_checkColumn ∈ WALL := wall_t3 7 rfl rfl
theorem q_493 : Cond.instanceMethod yX1_checkColumn ∈ WALL := wall_t3 9 rfl rfl
theorem q_494 : Cond.selects RX1 yX1_checkColumn yX1_checkColumn ∈ WALL := wall_s1 (q := (⟨"LeafStripes$Check", "checkColumn", "(I)V"⟩, 7)) 1 rfl rfl
theorem q_495 : Cond.code yX1_checkColumn cX1_checkColumn 5 none ∈ WALL := wall_t3 10 rfl rfl
theorem q_496 : Cond.fieldLink RX1 41 "LeafStripes$State" "columns" "[LLeafStripes$Column;" ∈ WALL := wall_t2 30 rfl rfl
theorem q_497 : Cond.fieldLink RX1 47 "LeafStripes$Column" "size" "I" ∈ WALL := wall_t2 9 rfl rfl
theorem q_498 : Cond.fieldLink RX1 64 "LeafStripes$State" "records" "I" ∈ WALL := wall_t2 35 rfl rfl
theorem q_499 : Cond.methodLink RX1 52 yX1_wrongAt ∈ WALL := wall_t3 11 rfl rfl
theorem q_500 : Cond.instanceMethod yX1_wrongAt ∈ WALL := wall_t3 13 rfl rfl
theorem q_501 : Cond.selects RX1 yX1_wrongAt yX1_wrongAt ∈ WALL := wall_s1 (q := (⟨"LeafStripes$Check", "wrongAt", "(II)I"⟩, 7)) 2 rfl rfl
theorem q_502 : Cond.code yX1_wrongAt cX1_wrongAt 7 (some .int) ∈ WALL := wall_t3 14 rfl rfl
theorem q_503 : Cond.fieldLink RX1 67 "LeafStripes$Column" "rep" "[I" ∈ WALL := wall_t1 231 rfl rfl
theorem q_504 : Cond.fieldLink RX1 71 "LeafStripes$Shape" "fieldOf" "[I" ∈ WALL := wall_t2 121 rfl rfl
theorem q_505 : Cond.fieldLink RX1 74 "LeafStripes$Shape" "rep" "[I" ∈ WALL := wall_t2 101 rfl rfl
theorem q_506 : Cond.fieldLink RX1 75 "LeafStripes$Column" "def" "[I" ∈ WALL := wall_t1 236 rfl rfl
theorem q_507 : Cond.fieldLink RX1 78 "LeafStripes$Shape" "def" "[I" ∈ WALL := wall_t2 97 rfl rfl
theorem q_508 : Cond.methodLink RX1 79 yX1_needOf ∈ WALL := wall_t3 15 rfl rfl
theorem q_509 : Cond.instanceMethod yX1_needOf ∈ WALL := wall_t3 17 rfl rfl
theorem q_510 : Cond.selects RX1 yX1_needOf yX1_needOf ∈ WALL := wall_s1 (q := (⟨"LeafStripes$Check", "needOf", "(II)I"⟩, 7)) 3 rfl rfl
theorem q_511 : Cond.code yX1_needOf cX1_needOf 4 (some .int) ∈ WALL := wall_t3 18 rfl rfl
theorem q_512 : Cond.methodLink RX1 82 yX5_manyAround ∈ WALL := wall_t3 19 rfl rfl
theorem q_513 : Cond.instanceMethod yX5_manyAround ∈ WALL := wall_t3 20 rfl rfl
theorem q_514 : Cond.selects RX5 yX5_manyAround yX5_manyAround ∈ WALL := wall_t3 21 rfl rfl
theorem q_515 : Cond.code yX5_manyAround cX5_manyAround 5 (some .int) ∈ WALL := wall_t3 22 rfl rfl
theorem q_516 : Cond.methodLink RX1 56 yX1_note ∈ WALL := wall_t3 23 rfl rfl
theorem q_517 : Cond.instanceMethod yX1_note ∈ WALL := wall_t3 25 rfl rfl
theorem q_518 : Cond.selects RX1 yX1_note yX1_note ∈ WALL := wall_s1 (q := (⟨"LeafStripes$Check", "note", "(III)V"⟩, 7)) 4 rfl rfl
theorem q_519 : Cond.code yX1_note cX1_note 4 none ∈ WALL := wall_t3 26 rfl rfl
theorem q_520 : Cond.methodLink RX1 60 yX2_firsts ∈ WALL := wall_t3 27 rfl rfl
theorem q_521 : Cond.instanceMethod yX2_firsts ∈ WALL := wall_t3 28 rfl rfl
theorem q_522 : Cond.selects RX2 yX2_firsts yX2_firsts ∈ WALL := wall_t3 29 rfl rfl
theorem q_523 : Cond.code yX2_firsts cX2_firsts 3 (some .int) ∈ WALL := wall_t3 30 rfl rfl
theorem q_524 : Cond.fieldLink RX2 21 "LeafStripes$Column" "size" "I" ∈ WALL := wall_t2 8 rfl rfl
theorem q_525 : Cond.methodLink RX1 38 yX1_checkWithAhead ∈ WALL := wall_t3 31 rfl rfl
theorem q_526 : Cond.instanceMethod yX1_checkWithAhead ∈ WALL := wall_t3 33 rfl rfl
theorem q_527 : Cond.selects RX1 yX1_checkWithAhead yX1_checkWithAhead ∈ WALL := wall_s1 (q := (⟨"LeafStripes$Check", "checkWithAhead", "(I)V"⟩, 7)) 5 rfl rfl
theorem q_528 : Cond.code yX1_checkWithAhead cX1_checkWithAhead 8 none ∈ WALL := wall_t3 34 rfl rfl
theorem q_529 : Cond.methodLink RX1 94 Lib.Math.min.name ∈ WALL := wall_t3 52 rfl rfl
theorem q_530 : Cond.methodLink RX1 85 yX5_levelOf ∈ WALL := wall_t3 35 rfl rfl
theorem q_531 : Cond.instanceMethod yX5_levelOf ∈ WALL := wall_t3 36 rfl rfl
theorem q_532 : Cond.selects RX5 yX5_levelOf yX5_levelOf ∈ WALL := wall_t3 37 rfl rfl
theorem q_533 : Cond.code yX5_levelOf cX5_levelOf 4 (some .int) ∈ WALL := wall_t3 38 rfl rfl
theorem q_534 : Cond.methodLink RX5 68 yX5_innermostAround ∈ WALL := wall_t3 39 rfl rfl
theorem q_535 : Cond.instanceMethod yX5_innermostAround ∈ WALL := wall_t3 40 rfl rfl
theorem q_536 : Cond.selects RX5 yX5_innermostAround yX5_innermostAround ∈ WALL := wall_t3 41 rfl rfl
theorem q_537 : Cond.code yX5_innermostAround cX5_innermostAround 5 (some .int) ∈ WALL := wall_t3 42 rfl rfl
theorem q_538 : Cond.methodLink RX1 88 yX1_mostShared ∈ WALL := wall_t3 43 rfl rfl
theorem q_539 : Cond.instanceMethod yX1_mostShared ∈ WALL := wall_t3 45 rfl rfl
theorem q_540 : Cond.selects RX1 yX1_mostShared yX1_mostShared ∈ WALL := wall_s1 (q := (⟨"LeafStripes$Check", "mostShared", "(II)I"⟩, 7)) 6 rfl rfl
theorem q_541 : Cond.code yX1_mostShared cX1_mostShared 4 (some .int) ∈ WALL := wall_t3 46 rfl rfl
theorem q_542 : Cond.methodLink RX1 99 yX5_innermostAround ∈ WALL := wall_t3 47 rfl rfl
theorem q_543 : Cond.methodLink RX1 91 yX2_behind ∈ WALL := wall_t3 48 rfl rfl
theorem q_544 : Cond.instanceMethod yX2_behind ∈ WALL := wall_t3 49 rfl rfl
theorem q_545 : Cond.selects RX2 yX2_behind yX2_behind ∈ WALL := wall_t3 50 rfl rfl
theorem q_546 : Cond.code yX2_behind cX2_behind 4 (some .int) ∈ WALL := wall_t3 51 rfl rfl
theorem q_547 : Cond.methodLink RX11 127 yX11_refuse ∈ WALL := wall_t3 55 rfl rfl
theorem q_548 : Cond.instanceMethod yX11_refuse ∈ WALL := wall_t3 57 rfl rfl
theorem q_549 : Cond.selects RX11 yX11_refuse yX11_refuse ∈ WALL := wall_s1 (q := (⟨"LeafStripes", "refuse", "()I"⟩, 15)) 7 rfl rfl
theorem q_550 : Cond.code yX11_refuse cX11_refuse 1 (some .int) ∈ WALL := wall_t3 58 rfl rfl
theorem q_551 : Cond.fieldLink RX11 178 "LeafStripes$State" "refusedActs" "I" ∈ WALL := wall_t2 43 rfl rfl
theorem q_552 : Cond.methodLink RX11 131 yX4_read ∈ WALL := wall_t4 141 rfl rfl
theorem q_553 : Cond.instanceMethod yX4_read ∈ WALL := wall_t4 142 rfl rfl
theorem q_554 : Cond.selects RX4 yX4_read yX4_read ∈ WALL := wall_t4 143 rfl rfl
theorem q_555 : Cond.code yX4_read cX4_read 5 (some .int) ∈ WALL := wall_t4 144 rfl rfl
theorem q_556 : Cond.fieldLink RX4 15 "LeafStripes$RecordText" "text" "LLeafStripes$Text;" ∈ WALL := wall_t1 102 rfl rfl
theorem q_557 : Cond.fieldLink RX4 19 "LeafStripes$RecordText" "shape" "LLeafStripes$Shape;" ∈ WALL := wall_t1 103 rfl rfl
theorem q_558 : Cond.fieldLink RX4 23 "LeafStripes$RecordText" "state" "LLeafStripes$State;" ∈ WALL := wall_t1 104 rfl rfl
theorem q_559 : Cond.fieldLink RX4 27 "LeafStripes$RecordText" "fault" "I" ∈ WALL := wall_t1 105 rfl rfl
theorem q_560 : Cond.fieldLink RX4 31 "LeafStripes$State" "records" "I" ∈ WALL := wall_t2 34 rfl rfl
theorem q_561 : Cond.fieldLink RX4 36 "LeafStripes$RecordText" "records" "I" ∈ WALL := wall_t1 100 rfl rfl
theorem q_562 : Cond.fieldLink RX4 37 "LeafStripes$Shape" "leafCount" "I" ∈ WALL := wall_t2 72 rfl rfl
theorem q_563 : Cond.fieldLink RX4 42 "LeafStripes$State" "columns" "[LLeafStripes$Column;" ∈ WALL := wall_t2 27 rfl rfl
theorem q_564 : Cond.fieldLink RX4 46 "LeafStripes$Column" "size" "I" ∈ WALL := wall_t2 6 rfl rfl
theorem q_565 : Cond.fieldLink RX4 51 "LeafStripes$Text" "token" "I" ∈ WALL := wall_t1 46 rfl rfl
theorem q_566 : Cond.methodLink RX4 56 yX4_canBegin ∈ WALL := wall_t4 145 rfl rfl
theorem q_567 : Cond.instanceMethod yX4_canBegin ∈ WALL := wall_t4 147 rfl rfl
theorem q_568 : Cond.selects RX4 yX4_canBegin yX4_canBegin ∈ WALL := wall_s2 (q := (⟨"LeafStripes$RecordText", "canBegin", "(I)Z"⟩, 6)) 3 rfl rfl
theorem q_569 : Cond.code yX4_canBegin cX4_canBegin 2 (some .boolean) ∈ WALL := wall_t4 148 rfl rfl
theorem q_570 : Cond.fieldLink RX4 74 "LeafStripes$Shape" "kind" "[I" ∈ WALL := wall_t2 78 rfl rfl
theorem q_571 : Cond.fieldLink RX4 77 "LeafStripes$Shape" "leafAt" "[I" ∈ WALL := wall_t2 90 rfl rfl
theorem q_572 : Cond.methodLink RX4 60 yX4_readFields ∈ WALL := wall_t4 149 rfl rfl
theorem q_573 : Cond.instanceMethod yX4_readFields ∈ WALL := wall_t4 151 rfl rfl
theorem q_574 : Cond.selects RX4 yX4_readFields yX4_readFields ∈ WALL := wall_s2 (q := (⟨"LeafStripes$RecordText", "readFields", "(IIII)Z"⟩, 6)) 4 rfl rfl
theorem q_575 : Cond.code yX4_readFields cX4_readFields 6 (some .boolean) ∈ WALL := wall_t4 152 rfl rfl
theorem q_576 : Cond.fieldLink RX4 80 "LeafStripes$Shape" "fieldCount" "I" ∈ WALL := wall_t2 67 rfl rfl
theorem q_577 : Cond.fieldLink RX4 83 "LeafStripes$Shape" "group" "[I" ∈ WALL := wall_t2 86 rfl rfl
theorem q_578 : Cond.methodLink RX4 68 yX4_fail ∈ WALL := wall_t4 153 rfl rfl
theorem q_579 : Cond.instanceMethod yX4_fail ∈ WALL := wall_t4 155 rfl rfl
theorem q_580 : Cond.selects RX4 yX4_fail yX4_fail ∈ WALL := wall_s2 (q := (⟨"LeafStripes$RecordText", "fail", "(I)Z"⟩, 6)) 5 rfl rfl
theorem q_581 : Cond.code yX4_fail cX4_fail 2 (some .boolean) ∈ WALL := wall_t4 156 rfl rfl
theorem q_582 : Cond.methodLink RX4 86 yX4_readField ∈ WALL := wall_t4 157 rfl rfl
theorem q_583 : Cond.instanceMethod yX4_readField ∈ WALL := wall_t4 159 rfl rfl
theorem q_584 : Cond.selects RX4 yX4_readField yX4_readField ∈ WALL := wall_s2 (q := (⟨"LeafStripes$RecordText", "readField", "(IIII)Z"⟩, 6)) 6 rfl rfl
theorem q_585 : Cond.code yX4_readField cX4_readField 5 (some .boolean) ∈ WALL := wall_t4 160 rfl rfl
theorem q_586 : Cond.methodLink RX4 89 yX4_readItem ∈ WALL := wall_t4 161 rfl rfl
theorem q_587 : Cond.instanceMethod yX4_readItem ∈ WALL := wall_t4 163 rfl rfl
theorem q_588 : Cond.selects RX4 yX4_readItem yX4_readItem ∈ WALL := wall_s2 (q := (⟨"LeafStripes$RecordText", "readItem", "(IIII)Z"⟩, 6)) 7 rfl rfl
theorem q_589 : Cond.methodLink RX4 92 yX4_readItems ∈ WALL := wall_t4 179 rfl rfl
theorem q_590 : Cond.instanceMethod yX4_readItems ∈ WALL := wall_t4 181 rfl rfl
theorem q_591 : Cond.selects RX4 yX4_readItems yX4_readItems ∈ WALL := wall_s2 (q := (⟨"LeafStripes$RecordText", "readItems", "(IIII)Z"⟩, 6)) 9 rfl rfl
theorem q_592 : Cond.methodLink RX4 71 yX9_advance ∈ WALL := wall_t4 178 rfl rfl
theorem q_593 : Cond.methodLink RX4 95 yX4_putNone ∈ WALL := wall_t4 183 rfl rfl
theorem q_594 : Cond.instanceMethod yX4_putNone ∈ WALL := wall_t4 185 rfl rfl
theorem q_595 : Cond.selects RX4 yX4_putNone yX4_putNone ∈ WALL := wall_s2 (q := (⟨"LeafStripes$RecordText", "putNone", "(III)V"⟩, 6)) 10 rfl rfl
theorem q_596 : Cond.code yX4_putNone cX4_putNone 5 none ∈ WALL := wall_t4 186 rfl rfl
theorem q_597 : Cond.fieldLink RX4 113 "LeafStripes$Shape" "leaves" "[I" ∈ WALL := wall_t2 115 rfl rfl
theorem q_598 : Cond.methodLink RX4 109 yX4_stage ∈ WALL := wall_t4 173 rfl rfl
theorem q_599 : Cond.instanceMethod yX4_stage ∈ WALL := wall_t4 175 rfl rfl
theorem q_600 : Cond.selects RX4 yX4_stage yX4_stage ∈ WALL := wall_s2 (q := (⟨"LeafStripes$RecordText", "stage", "(IIII)V"⟩, 6)) 8 rfl rfl
theorem q_601 : Cond.code yX4_stage cX4_stage 5 none ∈ WALL := wall_t4 176 rfl rfl
theorem q_602 : Cond.methodLink RX4 116 yX2_put ∈ WALL := wall_t4 177 rfl rfl
theorem q_603 : Cond.instanceMethod yX2_put ∈ WALL := wall_t3 131 rfl rfl
theorem q_604 : Cond.selects RX2 yX2_put yX2_put ∈ WALL := wall_t3 132 rfl rfl
theorem q_605 : Cond.code yX2_put cX2_put 5 none ∈ WALL := wall_t3 133 rfl rfl
theorem q_606 : Cond.code yX4_readItem cX4_readItem 7 (some .boolean) ∈ WALL := wall_t4 164 rfl rfl
theorem q_607 : Cond.methodLink RX4 102 yX9_numberFault ∈ WALL := wall_t4 165 rfl rfl
theorem q_608 : Cond.instanceMethod yX9_numberFault ∈ WALL := wall_t4 166 rfl rfl
theorem q_609 : Cond.selects RX9 yX9_numberFault yX9_numberFault ∈ WALL := wall_t4 167 rfl rfl
theorem q_610 : Cond.code yX9_numberFault cX9_numberFault 1 (some .int) ∈ WALL := wall_t4 168 rfl rfl
theorem q_611 : Cond.methodLink RX4 106 yX9_number ∈ WALL := wall_t4 169 rfl rfl
theorem q_612 : Cond.instanceMethod yX9_number ∈ WALL := wall_t4 170 rfl rfl
theorem q_613 : Cond.selects RX9 yX9_number yX9_number ∈ WALL := wall_t4 171 rfl rfl
theorem q_614 : Cond.code yX9_number cX9_number 3 (some .int) ∈ WALL := wall_t4 172 rfl rfl
theorem q_615 : Cond.code yX4_readItems cX4_readItems 6 (some .boolean) ∈ WALL := wall_t4 182 rfl rfl
theorem q_616 : Cond.fieldLink RX4 99 "LeafStripes$Shape" "rep" "[I" ∈ WALL := wall_t2 102 rfl rfl
theorem q_617 : Cond.methodLink RX4 64 yX4_readEnd ∈ WALL := wall_t4 187 rfl rfl
theorem q_618 : Cond.instanceMethod yX4_readEnd ∈ WALL := wall_t4 189 rfl rfl
theorem q_619 : Cond.selects RX4 yX4_readEnd yX4_readEnd ∈ WALL := wall_s2 (q := (⟨"LeafStripes$RecordText", "readEnd", "()Z"⟩, 6)) 11 rfl rfl
theorem q_620 : Cond.code yX4_readEnd cX4_readEnd 2 (some .boolean) ∈ WALL := wall_t4 190 rfl rfl
theorem q_621 : Cond.methodLink RX11 144 yX7_addStaged ∈ WALL := wall_t4 191 rfl rfl
theorem q_622 : Cond.instanceMethod yX7_addStaged ∈ WALL := wall_t4 192 rfl rfl
theorem q_623 : Cond.selects RX7 yX7_addStaged yX7_addStaged ∈ WALL := wall_t4 193 rfl rfl
theorem q_624 : Cond.code yX7_addStaged cX7_addStaged 5 none ∈ WALL := wall_t4 194 rfl rfl
theorem q_625 : Cond.instantiable RX0 5 ∈ WALL := wall_t3 60 rfl rfl
theorem q_626 : Cond.initialized RX0 ∈ WALL := wall_t1 22 rfl rfl
theorem q_627 : Cond.methodLink RX7 65 yX0_init ∈ WALL := wall_t4 195 rfl rfl
theorem q_628 : Cond.instanceMethod yX0_init ∈ WALL := wall_t3 78 rfl rfl
theorem q_629 : Cond.code yX0_init cX0_init 6 none ∈ WALL := wall_t3 79 rfl rfl
theorem q_630 : Cond.methodLink RX0 1 objectInit ∈ WALL := wall_t3 80 rfl rfl
theorem q_631 : Cond.fieldLink RX0 7 "LeafStripes$Act" "kind" "I" ∈ WALL := wall_t3 81 rfl rfl
theorem q_632 : Cond.fieldLink RX0 13 "LeafStripes$Act" "leaf" "I" ∈ WALL := wall_t3 83 rfl rfl
theorem q_633 : Cond.fieldLink RX0 16 "LeafStripes$Act" "entry" "I" ∈ WALL := wall_t3 85 rfl rfl
theorem q_634 : Cond.fieldLink RX0 19 "LeafStripes$Act" "number" "I" ∈ WALL := wall_t3 87 rfl rfl
theorem q_635 : Cond.fieldLink RX0 22 "LeafStripes$Act" "row" "[I" ∈ WALL := wall_t3 89 rfl rfl
theorem q_636 : Cond.methodLink RX7 68 yX7_keep ∈ WALL := wall_t4 196 rfl rfl
theorem q_637 : Cond.instanceMethod yX7_keep ∈ WALL := wall_t3 103 rfl rfl
theorem q_638 : Cond.selects RX7 yX7_keep yX7_keep ∈ WALL := wall_t3 104 rfl rfl
theorem q_639 : Cond.code yX7_keep cX7_keep 2 none ∈ WALL := wall_t3 105 rfl rfl
theorem q_640 : Cond.methodLink RX7 53 arraycopyName ∈ WALL := wall_t3 106 rfl rfl
theorem q_641 : Cond.native arraycopyName ∈ WALL := wall_t3 108 rfl rfl
theorem q_642 : Cond.static arraycopyName ∈ WALL := wall_t3 107 rfl rfl
theorem q_643 : Cond.initialized "java/lang/System" ∈ WALL := wall_t1 23 rfl rfl
theorem q_644 : Cond.methodLink RL 107 yX12_add ∈ WALL := wall_t7 211 rfl rfl
theorem q_645 : Cond.instanceMethod yX12_add ∈ WALL := wall_t7 212 rfl rfl
theorem q_646 : Cond.selects RX12 yX12_add yX12_add ∈ WALL := wall_t7 213 rfl rfl
theorem q_647 : Cond.code yX12_add cX12_add 2 (some .int) ∈ WALL := wall_t7 214 rfl rfl
theorem q_648 : Cond.methodLink RX12 288 yX12_checked ∈ WALL := wall_t7 215 rfl rfl
theorem q_649 : Cond.instanceMethod yX12_checked ∈ WALL := wall_t7 217 rfl rfl
theorem q_650 : Cond.selects RX12 yX12_checked yX12_checked ∈ WALL := wall_s6 (q := (⟨"LeafStripesModel", "checked", "()I"⟩, 55)) 5 rfl rfl
theorem q_651 : Cond.code yX12_checked cX12_checked 4 (some .int) ∈ WALL := wall_t7 218 rfl rfl
theorem q_652 : Cond.methodLink RX12 327 yX12_wrongAt ∈ WALL := wall_t7 219 rfl rfl
theorem q_653 : Cond.instanceMethod yX12_wrongAt ∈ WALL := wall_t7 221 rfl rfl
theorem q_654 : Cond.selects RX12 yX12_wrongAt yX12_wrongAt ∈ WALL := wall_s6 (q := (⟨"LeafStripesModel", "wrongAt", "(II)I"⟩, 55)) 6 rfl rfl
theorem q_655 : Cond.code yX12_wrongAt cX12_wrongAt 5 (some .int) ∈ WALL := wall_t7 222 rfl rfl
theorem q_656 : Cond.methodLink RX12 308 yX12_repAt ∈ WALL := wall_t7 223 rfl rfl
theorem q_657 : Cond.instanceMethod yX12_repAt ∈ WALL := wall_t7 225 rfl rfl
theorem q_658 : Cond.selects RX12 yX12_repAt yX12_repAt ∈ WALL := wall_s6 (q := (⟨"LeafStripesModel", "repAt", "(II)I"⟩, 55)) 7 rfl rfl
theorem q_659 : Cond.code yX12_repAt cX12_repAt 3 (some .int) ∈ WALL := wall_t7 226 rfl rfl
theorem q_660 : Cond.methodLink RX12 258 yX12_defAt ∈ WALL := wall_t7 227 rfl rfl
theorem q_661 : Cond.instanceMethod yX12_defAt ∈ WALL := wall_t7 229 rfl rfl
theorem q_662 : Cond.selects RX12 yX12_defAt yX12_defAt ∈ WALL := wall_s6 (q := (⟨"LeafStripesModel", "defAt", "(II)I"⟩, 55)) 8 rfl rfl
theorem q_663 : Cond.code yX12_defAt cX12_defAt 3 (some .int) ∈ WALL := wall_t7 230 rfl rfl
theorem q_664 : Cond.methodLink RX12 311 yX12_oftenAround ∈ WALL := wall_t7 231 rfl rfl
theorem q_665 : Cond.instanceMethod yX12_oftenAround ∈ WALL := wall_t7 233 rfl rfl
theorem q_666 : Cond.selects RX12 yX12_oftenAround yX12_oftenAround ∈ WALL := wall_s6 (q := (⟨"LeafStripesModel", "oftenAround", "(II)I"⟩, 55)) 9 rfl rfl
theorem q_667 : Cond.code yX12_oftenAround cX12_oftenAround 4 (some .int) ∈ WALL := wall_t7 234 rfl rfl
theorem q_668 : Cond.methodLink RX12 330 yX12_wrongIs ∈ WALL := wall_t7 235 rfl rfl
theorem q_669 : Cond.instanceMethod yX12_wrongIs ∈ WALL := wall_t7 237 rfl rfl
theorem q_670 : Cond.selects RX12 yX12_wrongIs yX12_wrongIs ∈ WALL := wall_s6 (q := (⟨"LeafStripesModel", "wrongIs", "(III)I"⟩, 55)) 10 rfl rfl
theorem q_671 : Cond.code yX12_wrongIs cX12_wrongIs 4 (some .int) ∈ WALL := wall_t7 238 rfl rfl
theorem q_672 : Cond.fieldLink RX12 321 "LeafStripesModel" "wrongLeaf" "I" ∈ WALL := wall_t6 214 rfl rfl
theorem q_673 : Cond.fieldLink RX12 324 "LeafStripesModel" "wrongEntry" "I" ∈ WALL := wall_t6 215 rfl rfl
theorem q_674 : Cond.methodLink RX12 333 yX12_firstsOf ∈ WALL := wall_t7 239 rfl rfl
theorem q_675 : Cond.instanceMethod yX12_firstsOf ∈ WALL := wall_t8 1 rfl rfl
theorem q_676 : Cond.selects RX12 yX12_firstsOf yX12_firstsOf ∈ WALL := wall_s6 (q := (⟨"LeafStripesModel", "firstsOf", "(I)I"⟩, 55)) 11 rfl rfl
theorem q_677 : Cond.code yX12_firstsOf cX12_firstsOf 4 (some .int) ∈ WALL := wall_t8 2 rfl rfl
theorem q_678 : Cond.methodLink RX12 336 yX12_unlikeAhead ∈ WALL := wall_t8 3 rfl rfl
theorem q_679 : Cond.instanceMethod yX12_unlikeAhead ∈ WALL := wall_t8 5 rfl rfl
theorem q_680 : Cond.selects RX12 yX12_unlikeAhead yX12_unlikeAhead ∈ WALL := wall_s6 (q := (⟨"LeafStripesModel", "unlikeAhead", "(I)I"⟩, 55)) 12 rfl rfl
theorem q_681 : Cond.code yX12_unlikeAhead cX12_unlikeAhead 7 (some .int) ∈ WALL := wall_t8 6 rfl rfl
theorem q_682 : Cond.methodLink RX12 314 yX12_both ∈ WALL := wall_t8 7 rfl rfl
theorem q_683 : Cond.instanceMethod yX12_both ∈ WALL := wall_t8 9 rfl rfl
theorem q_684 : Cond.selects RX12 yX12_both yX12_both ∈ WALL := wall_s6 (q := (⟨"LeafStripesModel", "both", "(II)I"⟩, 55)) 13 rfl rfl
theorem q_685 : Cond.code yX12_both cX12_both 4 (some .int) ∈ WALL := wall_t8 10 rfl rfl
theorem q_686 : Cond.methodLink RX12 265 yX12_isInside ∈ WALL := wall_t8 11 rfl rfl
theorem q_687 : Cond.instanceMethod yX12_isInside ∈ WALL := wall_t8 13 rfl rfl
theorem q_688 : Cond.selects RX12 yX12_isInside yX12_isInside ∈ WALL := wall_s6 (q := (⟨"LeafStripesModel", "isInside", "(II)Z"⟩, 55)) 14 rfl rfl
theorem q_689 : Cond.code yX12_isInside cX12_isInside 4 (some .boolean) ∈ WALL := wall_t8 14 rfl rfl
theorem q_690 : Cond.methodLink RX12 317 yX12_stepIn ∈ WALL := wall_t8 15 rfl rfl
theorem q_691 : Cond.instanceMethod yX12_stepIn ∈ WALL := wall_t8 17 rfl rfl
theorem q_692 : Cond.selects RX12 yX12_stepIn yX12_stepIn ∈ WALL := wall_s6 (q := (⟨"LeafStripesModel", "stepIn", "(III)I"⟩, 55)) 15 rfl rfl
theorem q_693 : Cond.code yX12_stepIn cX12_stepIn 5 (some .int) ∈ WALL := wall_t8 18 rfl rfl
theorem q_694 : Cond.methodLink RX12 291 yX12_pack ∈ WALL := wall_t8 19 rfl rfl
theorem q_695 : Cond.instanceMethod yX12_pack ∈ WALL := wall_t8 21 rfl rfl
theorem q_696 : Cond.selects RX12 yX12_pack yX12_pack ∈ WALL := wall_s7 (q := (⟨"LeafStripesModel", "pack", "([II)V"⟩, 55)) 0 rfl rfl
theorem q_697 : Cond.code yX12_pack cX12_pack 4 none ∈ WALL := wall_t8 22 rfl rfl
theorem q_698 : Cond.methodLink RX12 295 yX12_mayBegin ∈ WALL := wall_t8 23 rfl rfl
theorem q_699 : Cond.instanceMethod yX12_mayBegin ∈ WALL := wall_t8 25 rfl rfl
theorem q_700 : Cond.selects RX12 yX12_mayBegin yX12_mayBegin ∈ WALL := wall_s7 (q := (⟨"LeafStripesModel", "mayBegin", "()Z"⟩, 55)) 1 rfl rfl
theorem q_701 : Cond.code yX12_mayBegin cX12_mayBegin 1 (some .boolean) ∈ WALL := wall_t8 26 rfl rfl
theorem q_702 : Cond.methodLink RX12 275 yX12_readValues ∈ WALL := wall_t8 27 rfl rfl
theorem q_703 : Cond.instanceMethod yX12_readValues ∈ WALL := wall_t8 29 rfl rfl
theorem q_704 : Cond.selects RX12 yX12_readValues yX12_readValues ∈ WALL := wall_s7 (q := (⟨"LeafStripesModel", "readValues", "(III)V"⟩, 55)) 2 rfl rfl
theorem q_705 : Cond.code yX12_readValues cX12_readValues 5 none ∈ WALL := wall_t8 30 rfl rfl
theorem q_706 : Cond.methodLink RX12 285 yX12_readMany ∈ WALL := wall_t8 31 rfl rfl
theorem q_707 : Cond.instanceMethod yX12_readMany ∈ WALL := wall_t8 33 rfl rfl
theorem q_708 : Cond.selects RX12 yX12_readMany yX12_readMany ∈ WALL := wall_s7 (q := (⟨"LeafStripesModel", "readMany", "(III)V"⟩, 55)) 3 rfl rfl
theorem q_709 : Cond.methodLink RX12 279 yX12_lackIn ∈ WALL := wall_t8 35 rfl rfl
theorem q_710 : Cond.instanceMethod yX12_lackIn ∈ WALL := wall_t8 37 rfl rfl
theorem q_711 : Cond.selects RX12 yX12_lackIn yX12_lackIn ∈ WALL := wall_s7 (q := (⟨"LeafStripesModel", "lackIn", "(III)V"⟩, 55)) 4 rfl rfl
theorem q_712 : Cond.code yX12_lackIn cX12_lackIn 5 none ∈ WALL := wall_t8 38 rfl rfl
theorem q_713 : Cond.methodLink RX12 268 yX12_append ∈ WALL := wall_t8 39 rfl rfl
theorem q_714 : Cond.instanceMethod yX12_append ∈ WALL := wall_t8 41 rfl rfl
theorem q_715 : Cond.selects RX12 yX12_append yX12_append ∈ WALL := wall_s7 (q := (⟨"LeafStripesModel", "append", "(IIII)V"⟩, 55)) 5 rfl rfl
theorem q_716 : Cond.code yX12_append cX12_append 5 none ∈ WALL := wall_t8 42 rfl rfl
theorem q_717 : Cond.methodLink RX12 261 yX12_put ∈ WALL := wall_t8 43 rfl rfl
theorem q_718 : Cond.instanceMethod yX12_put ∈ WALL := wall_t8 45 rfl rfl
theorem q_719 : Cond.selects RX12 yX12_put yX12_put ∈ WALL := wall_s7 (q := (⟨"LeafStripesModel", "put", "(IIIII)V"⟩, 55)) 6 rfl rfl
theorem q_720 : Cond.code yX12_put cX12_put 6 none ∈ WALL := wall_t8 46 rfl rfl
theorem q_721 : Cond.methodLink RX12 282 yX12_readItem ∈ WALL := wall_t8 47 rfl rfl
theorem q_722 : Cond.instanceMethod yX12_readItem ∈ WALL := wall_t8 49 rfl rfl
theorem q_723 : Cond.selects RX12 yX12_readItem yX12_readItem ∈ WALL := wall_s7 (q := (⟨"LeafStripesModel", "readItem", "(III)V"⟩, 55)) 7 rfl rfl
theorem q_724 : Cond.code yX12_readItem cX12_readItem 5 none ∈ WALL := wall_t8 50 rfl rfl
theorem q_725 : Cond.methodLink RX12 272 yX12_readNumber ∈ WALL := wall_t8 51 rfl rfl
theorem q_726 : Cond.instanceMethod yX12_readNumber ∈ WALL := wall_t8 53 rfl rfl
theorem q_727 : Cond.selects RX12 yX12_readNumber yX12_readNumber ∈ WALL := wall_s7 (q := (⟨"LeafStripesModel", "readNumber", "(I)I"⟩, 55)) 8 rfl rfl
theorem q_728 : Cond.code yX12_readNumber cX12_readNumber 3 (some .int) ∈ WALL := wall_t8 54 rfl rfl
theorem q_729 : Cond.code yX12_readMany cX12_readMany 5 none ∈ WALL := wall_t8 34 rfl rfl
theorem q_730 : Cond.methodLink RX12 299 yX12_isTooMuch ∈ WALL := wall_t8 55 rfl rfl
theorem q_731 : Cond.instanceMethod yX12_isTooMuch ∈ WALL := wall_t8 57 rfl rfl
theorem q_732 : Cond.selects RX12 yX12_isTooMuch yX12_isTooMuch ∈ WALL := wall_s7 (q := (⟨"LeafStripesModel", "isTooMuch", "()Z"⟩, 55)) 9 rfl rfl
theorem q_733 : Cond.code yX12_isTooMuch cX12_isTooMuch 3 (some .boolean) ∈ WALL := wall_t8 58 rfl rfl
theorem q_734 : Cond.methodLink RX12 302 yX12_unpack ∈ WALL := wall_t8 59 rfl rfl
theorem q_735 : Cond.instanceMethod yX12_unpack ∈ WALL := wall_t8 61 rfl rfl
theorem q_736 : Cond.selects RX12 yX12_unpack yX12_unpack ∈ WALL := wall_s7 (q := (⟨"LeafStripesModel", "unpack", "([II)V"⟩, 55)) 10 rfl rfl
theorem q_737 : Cond.code yX12_unpack cX12_unpack 4 none ∈ WALL := wall_t8 62 rfl rfl
theorem q_738 : Cond.methodLink RX12 305 yX12_keep ∈ WALL := wall_t8 63 rfl rfl
theorem q_739 : Cond.instanceMethod yX12_keep ∈ WALL := wall_t8 65 rfl rfl
theorem q_740 : Cond.selects RX12 yX12_keep yX12_keep ∈ WALL := wall_s7 (q := (⟨"LeafStripesModel", "keep", "()V"⟩, 55)) 11 rfl rfl
theorem q_741 : Cond.code yX12_keep cX12_keep 2 none ∈ WALL := wall_t8 66 rfl rfl
theorem q_742 : Cond.methodLink RL 108 yL_view ∈ WALL := wall_t4 197 rfl rfl
theorem q_743 : Cond.static yL_view ∈ WALL := wall_t4 198 rfl rfl
theorem q_744 : Cond.codeWith yL_view cL_view 4 (some .int) [(0, 9, 12, 13)] ∈ WALL := wall_t4 199 rfl rfl
theorem q_745 : Cond.methodLink RL 18 yX11_view ∈ WALL := wall_t4 200 rfl rfl
theorem q_746 : Cond.instanceMethod yX11_view ∈ WALL := wall_t4 201 rfl rfl
theorem q_747 : Cond.selects RX11 yX11_view yX11_view ∈ WALL := wall_t4 202 rfl rfl
theorem q_748 : Cond.code yX11_view cX11_view 4 (some .int) ∈ WALL := wall_t4 203 rfl rfl
theorem q_749 : Cond.methodLink RL 110 yX12_view ∈ WALL := wall_t7 203 rfl rfl
theorem q_750 : Cond.instanceMethod yX12_view ∈ WALL := wall_t7 204 rfl rfl
theorem q_751 : Cond.selects RX12 yX12_view yX12_view ∈ WALL := wall_t7 205 rfl rfl
theorem q_752 : Cond.code yX12_view cX12_view 2 (some .int) ∈ WALL := wall_t7 206 rfl rfl
theorem q_753 : Cond.methodLink RL 111 yL_pipe ∈ WALL := wall_t4 204 rfl rfl
theorem q_754 : Cond.static yL_pipe ∈ WALL := wall_t4 205 rfl rfl
theorem q_755 : Cond.codeWith yL_pipe cL_pipe 4 (some .int) [(0, 9, 12, 13)] ∈ WALL := wall_t4 206 rfl rfl
theorem q_756 : Cond.methodLink RL 21 yX11_pipe ∈ WALL := wall_t4 207 rfl rfl
theorem q_757 : Cond.instanceMethod yX11_pipe ∈ WALL := wall_t4 208 rfl rfl
theorem q_758 : Cond.selects RX11 yX11_pipe yX11_pipe ∈ WALL := wall_t4 209 rfl rfl
theorem q_759 : Cond.code yX11_pipe cX11_pipe 4 (some .int) ∈ WALL := wall_t4 210 rfl rfl
theorem q_760 : Cond.methodLink RX11 148 yX3_read ∈ WALL := wall_t4 211 rfl rfl
theorem q_761 : Cond.instanceMethod yX3_read ∈ WALL := wall_t4 212 rfl rfl
theorem q_762 : Cond.selects RX3 yX3_read yX3_read ∈ WALL := wall_t4 213 rfl rfl
theorem q_763 : Cond.code yX3_read cX3_read 4 (some .int) ∈ WALL := wall_t4 214 rfl rfl
theorem q_764 : Cond.fieldLink RX3 28 "LeafStripes$Text" "token" "I" ∈ WALL := wall_t1 47 rfl rfl
theorem q_765 : Cond.methodLink RX3 33 yX3_readStep ∈ WALL := wall_t4 215 rfl rfl
theorem q_766 : Cond.instanceMethod yX3_readStep ∈ WALL := wall_t4 217 rfl rfl
theorem q_767 : Cond.selects RX3 yX3_readStep yX3_readStep ∈ WALL := wall_s2 (q := (⟨"LeafStripes$Pipe", "readStep", "(LLeafStripes$Text;)I"⟩, 6)) 12 rfl rfl
theorem q_768 : Cond.code yX3_readStep cX3_readStep 4 (some .int) ∈ WALL := wall_t4 218 rfl rfl
theorem q_769 : Cond.methodLink RX3 40 yX3_kindTold ∈ WALL := wall_t4 219 rfl rfl
theorem q_770 : Cond.static yX3_kindTold ∈ WALL := wall_t4 220 rfl rfl
theorem q_771 : Cond.code yX3_kindTold cX3_kindTold 1 (some .int) ∈ WALL := wall_t4 221 rfl rfl
theorem q_772 : Cond.methodLink RX3 51 yX9_isWord ∈ WALL := wall_t4 223 rfl rfl
theorem q_773 : Cond.methodLink RX3 37 yX9_advance ∈ WALL := wall_t4 230 rfl rfl
theorem q_774 : Cond.methodLink RX3 43 yX9_numberFault ∈ WALL := wall_t4 231 rfl rfl
theorem q_775 : Cond.methodLink RX3 47 yX9_number ∈ WALL := wall_t4 232 rfl rfl
theorem q_776 : Cond.methodLink RL 113 yX12_pipe ∈ WALL := wall_t9 36 rfl rfl
theorem q_777 : Cond.instanceMethod yX12_pipe ∈ WALL := wall_t9 37 rfl rfl
theorem q_778 : Cond.selects RX12 yX12_pipe yX12_pipe ∈ WALL := wall_t9 38 rfl rfl
theorem q_779 : Cond.code yX12_pipe cX12_pipe 4 (some .int) ∈ WALL := wall_t9 39 rfl rfl
theorem q_780 : Cond.methodLink RL 114 yX11_fault ∈ WALL := wall_t2 231 rfl rfl
theorem q_781 : Cond.instanceMethod yX11_fault ∈ WALL := wall_t2 232 rfl rfl
theorem q_782 : Cond.selects RX11 yX11_fault yX11_fault ∈ WALL := wall_t2 233 rfl rfl
theorem q_783 : Cond.code yX11_fault cX11_fault 1 (some .int) ∈ WALL := wall_t2 234 rfl rfl
theorem q_784 : Cond.methodLink RL 117 yX12_fault ∈ WALL := wall_t7 207 rfl rfl
theorem q_785 : Cond.instanceMethod yX12_fault ∈ WALL := wall_t7 208 rfl rfl
theorem q_786 : Cond.selects RX12 yX12_fault yX12_fault ∈ WALL := wall_t7 209 rfl rfl
theorem q_787 : Cond.code yX12_fault cX12_fault 1 (some .int) ∈ WALL := wall_t7 210 rfl rfl
theorem q_788 : Cond.methodLink RL 118 yL_count ∈ WALL := wall_t4 233 rfl rfl
theorem q_789 : Cond.static yL_count ∈ WALL := wall_t4 234 rfl rfl
theorem q_790 : Cond.codeWith yL_count cL_count 4 (some .int) [(0, 9, 12, 27)] ∈ WALL := wall_t4 235 rfl rfl
theorem q_791 : Cond.classLink RL 27 "java/util/NoSuchElementException" ∈ WALL := wall_t4 236 rfl rfl
theorem q_792 : Cond.methodLink RL 24 yX11_count ∈ WALL := wall_t4 237 rfl rfl
theorem q_793 : Cond.instanceMethod yX11_count ∈ WALL := wall_t4 238 rfl rfl
theorem q_794 : Cond.selects RX11 yX11_count yX11_count ∈ WALL := wall_t4 239 rfl rfl
theorem q_795 : Cond.code yX11_count cX11_count 2 (some .int) ∈ WALL := wall_t5 0 rfl rfl
theorem q_796 : Cond.fieldLink RX11 151 "LeafStripes$State" "records" "I" ∈ WALL := wall_t2 36 rfl rfl
theorem q_797 : Cond.fieldLink RX11 156 "LeafStripes$Shape" "def" "[I" ∈ WALL := wall_t2 99 rfl rfl
theorem q_798 : Cond.fieldLink RX11 163 "LeafStripes$Shape" "rep" "[I" ∈ WALL := wall_t2 103 rfl rfl
theorem q_799 : Cond.fieldLink RX11 166 "LeafStripes$Pipe" "steps" "I" ∈ WALL := wall_t2 157 rfl rfl
theorem q_800 : Cond.fieldLink RX11 172 "LeafStripes$State" "actCount" "I" ∈ WALL := wall_t2 39 rfl rfl
theorem q_801 : Cond.methodLink RX11 152 yX7_entriesOfAll ∈ WALL := wall_t5 1 rfl rfl
theorem q_802 : Cond.instanceMethod yX7_entriesOfAll ∈ WALL := wall_t5 2 rfl rfl
theorem q_803 : Cond.selects RX7 yX7_entriesOfAll yX7_entriesOfAll ∈ WALL := wall_t5 3 rfl rfl
theorem q_804 : Cond.code yX7_entriesOfAll cX7_entriesOfAll 4 (some .int) ∈ WALL := wall_t5 4 rfl rfl
theorem q_805 : Cond.methodLink RX11 159 yX5_greatestOfLeaves ∈ WALL := wall_t5 5 rfl rfl
theorem q_806 : Cond.instanceMethod yX5_greatestOfLeaves ∈ WALL := wall_t5 6 rfl rfl
theorem q_807 : Cond.selects RX5 yX5_greatestOfLeaves yX5_greatestOfLeaves ∈ WALL := wall_t5 7 rfl rfl
theorem q_808 : Cond.code yX5_greatestOfLeaves cX5_greatestOfLeaves 4 (some .int) ∈ WALL := wall_t5 8 rfl rfl
theorem q_809 : Cond.methodLink RX5 82 Lib.Math.max.name ∈ WALL := wall_t5 9 rfl rfl
theorem q_810 : Cond.static Lib.Math.max.name ∈ WALL := wall_t5 10 rfl rfl
theorem q_811 : Cond.code Lib.Math.max.name Lib.Math.max.code 2 (some .int) ∈ WALL := wall_t5 11 rfl rfl
theorem q_812 : Cond.methodLink RX11 169 yX5_cover ∈ WALL := wall_t5 12 rfl rfl
theorem q_813 : Cond.instanceMethod yX5_cover ∈ WALL := wall_t5 13 rfl rfl
theorem q_814 : Cond.selects RX5 yX5_cover yX5_cover ∈ WALL := wall_t5 14 rfl rfl
theorem q_815 : Cond.code yX5_cover cX5_cover 3 (some .int) ∈ WALL := wall_t5 15 rfl rfl
theorem q_816 : Cond.methodLink RX5 87 yJ6_bitCount_0f7a4 ∈ WALL := wall_t5 16 rfl rfl
theorem q_817 : Cond.static yJ6_bitCount_0f7a4 ∈ WALL := wall_t5 17 rfl rfl
theorem q_818 : Cond.initialized RJ6 ∈ WALL := wall_t1 24 rfl rfl
theorem q_819 : Cond.code yJ6_bitCount_0f7a4 cJ6_bitCount_0f7a4 1 (some .int) ∈ WALL := wall_t5 18 rfl rfl
theorem q_820 : Cond.constant RJ6 265 (1431655765) ∈ WALL := wall_t5 19 rfl rfl
theorem q_821 : Cond.constant RJ6 266 (858993459) ∈ WALL := wall_t5 20 rfl rfl
theorem q_822 : Cond.constant RJ6 267 (252645135) ∈ WALL := wall_t5 21 rfl rfl
theorem q_823 : Cond.methodLink RX5 92 yX5_tellsShapes ∈ WALL := wall_t5 22 rfl rfl
theorem q_824 : Cond.instanceMethod yX5_tellsShapes ∈ WALL := wall_t5 24 rfl rfl
theorem q_825 : Cond.selects RX5 yX5_tellsShapes yX5_tellsShapes ∈ WALL := wall_s2 (q := (⟨"LeafStripes$Shape", "tellsShapes", "(I)Z"⟩, 13)) 13 rfl rfl
theorem q_826 : Cond.code yX5_tellsShapes cX5_tellsShapes 3 (some .boolean) ∈ WALL := wall_t5 25 rfl rfl
theorem q_827 : Cond.methodLink RX11 181 yX11_countChecked ∈ WALL := wall_t5 26 rfl rfl
theorem q_828 : Cond.instanceMethod yX11_countChecked ∈ WALL := wall_t5 28 rfl rfl
theorem q_829 : Cond.selects RX11 yX11_countChecked yX11_countChecked ∈ WALL := wall_s2 (q := (⟨"LeafStripes", "countChecked", "(I)I"⟩, 15)) 14 rfl rfl
theorem q_830 : Cond.code yX11_countChecked cX11_countChecked 3 (some .int) ∈ WALL := wall_t5 29 rfl rfl
theorem q_831 : Cond.classLink RX11 202 "java/util/NoSuchElementException" ∈ WALL := wall_t5 30 rfl rfl
theorem q_832 : Cond.initialized "java/util/NoSuchElementException" ∈ WALL := wall_t1 25 rfl rfl
theorem q_833 : Cond.fieldLink RX11 360 "LeafStripes$Check" "wrongLeaf" "I" ∈ WALL := wall_t1 127 rfl rfl
theorem q_834 : Cond.fieldLink RX11 363 "LeafStripes$Check" "wrongEntry" "I" ∈ WALL := wall_t1 129 rfl rfl
theorem q_835 : Cond.fieldLink RX11 369 "LeafStripes$Check" "harmless" "I" ∈ WALL := wall_t1 131 rfl rfl
theorem q_836 : Cond.fieldLink RX11 372 "LeafStripes$Check" "firstHarmless" "I" ∈ WALL := wall_t1 133 rfl rfl
theorem q_837 : Cond.methodLink RX11 366 yX1_weigh ∈ WALL := wall_t5 46 rfl rfl
theorem q_838 : Cond.instanceMethod yX1_weigh ∈ WALL := wall_t5 47 rfl rfl
theorem q_839 : Cond.selects RX1 yX1_weigh yX1_weigh ∈ WALL := wall_t5 48 rfl rfl
theorem q_840 : Cond.code yX1_weigh cX1_weigh 5 none ∈ WALL := wall_t5 49 rfl rfl
theorem q_841 : Cond.fieldLink RX1 102 "LeafStripes$Check" "harmless" "I" ∈ WALL := wall_t1 130 rfl rfl
theorem q_842 : Cond.fieldLink RX1 105 "LeafStripes$Check" "firstHarmless" "I" ∈ WALL := wall_t1 132 rfl rfl
theorem q_843 : Cond.methodLink RX1 108 yX1_repIsHarmless ∈ WALL := wall_t5 50 rfl rfl
theorem q_844 : Cond.instanceMethod yX1_repIsHarmless ∈ WALL := wall_t5 52 rfl rfl
theorem q_845 : Cond.selects RX1 yX1_repIsHarmless yX1_repIsHarmless ∈ WALL := wall_s2 (q := (⟨"LeafStripes$Check", "repIsHarmless", "(III)Z"⟩, 7)) 15 rfl rfl
theorem q_846 : Cond.code yX1_repIsHarmless cX1_repIsHarmless 8 (some .boolean) ∈ WALL := wall_t5 53 rfl rfl
theorem q_847 : Cond.methodLink RX1 112 yX1_weighOne ∈ WALL := wall_t5 54 rfl rfl
theorem q_848 : Cond.instanceMethod yX1_weighOne ∈ WALL := wall_t5 56 rfl rfl
theorem q_849 : Cond.selects RX1 yX1_weighOne yX1_weighOne ∈ WALL := wall_s3 (q := (⟨"LeafStripes$Check", "weighOne", "(ZI)V"⟩, 7)) 0 rfl rfl
theorem q_850 : Cond.code yX1_weighOne cX1_weighOne 3 none ∈ WALL := wall_t5 57 rfl rfl
theorem q_851 : Cond.methodLink RX1 116 yX1_defIsHarmless ∈ WALL := wall_t5 58 rfl rfl
theorem q_852 : Cond.instanceMethod yX1_defIsHarmless ∈ WALL := wall_t5 60 rfl rfl
theorem q_853 : Cond.selects RX1 yX1_defIsHarmless yX1_defIsHarmless ∈ WALL := wall_s3 (q := (⟨"LeafStripes$Check", "defIsHarmless", "(III)Z"⟩, 7)) 1 rfl rfl
theorem q_854 : Cond.code yX1_defIsHarmless cX1_defIsHarmless 5 (some .boolean) ∈ WALL := wall_t5 61 rfl rfl
theorem q_855 : Cond.methodLink RX1 119 yX1_looksAlike ∈ WALL := wall_t5 62 rfl rfl
theorem q_856 : Cond.instanceMethod yX1_looksAlike ∈ WALL := wall_t5 64 rfl rfl
theorem q_857 : Cond.selects RX1 yX1_looksAlike yX1_looksAlike ∈ WALL := wall_s3 (q := (⟨"LeafStripes$Check", "looksAlike", "(IIII)Z"⟩, 7)) 2 rfl rfl
theorem q_858 : Cond.code yX1_looksAlike cX1_looksAlike 7 (some .boolean) ∈ WALL := wall_t5 65 rfl rfl
theorem q_859 : Cond.methodLink RL 120 yX12_count ∈ WALL := wall_t8 67 rfl rfl
theorem q_860 : Cond.instanceMethod yX12_count ∈ WALL := wall_t8 68 rfl rfl
theorem q_861 : Cond.selects RX12 yX12_count yX12_count ∈ WALL := wall_t8 69 rfl rfl
theorem q_862 : Cond.code yX12_count cX12_count 2 (some .int) ∈ WALL := wall_t8 70 rfl rfl
theorem q_863 : Cond.fieldLink RX12 346 "LeafStripesModel" "harmlessMany" "I" ∈ WALL := wall_t6 216 rfl rfl
theorem q_864 : Cond.fieldLink RX12 349 "LeafStripesModel" "harmlessFirst" "I" ∈ WALL := wall_t6 217 rfl rfl
theorem q_865 : Cond.methodLink RX12 367 yX12_allEntries ∈ WALL := wall_t8 71 rfl rfl
theorem q_866 : Cond.instanceMethod yX12_allEntries ∈ WALL := wall_t8 73 rfl rfl
theorem q_867 : Cond.selects RX12 yX12_allEntries yX12_allEntries ∈ WALL := wall_s7 (q := (⟨"LeafStripesModel", "allEntries", "()I"⟩, 55)) 12 rfl rfl
theorem q_868 : Cond.code yX12_allEntries cX12_allEntries 3 (some .int) ∈ WALL := wall_t8 74 rfl rfl
theorem q_869 : Cond.methodLink RX12 370 yX12_greatest ∈ WALL := wall_t8 75 rfl rfl
theorem q_870 : Cond.instanceMethod yX12_greatest ∈ WALL := wall_t8 77 rfl rfl
theorem q_871 : Cond.selects RX12 yX12_greatest yX12_greatest ∈ WALL := wall_s7 (q := (⟨"LeafStripesModel", "greatest", "([I)I"⟩, 55)) 13 rfl rfl
theorem q_872 : Cond.code yX12_greatest cX12_greatest 4 (some .int) ∈ WALL := wall_t8 78 rfl rfl
theorem q_873 : Cond.methodLink RX12 364 Lib.Math.max.name ∈ WALL := wall_t8 79 rfl rfl
theorem q_874 : Cond.methodLink RX12 374 yX12_coverNow ∈ WALL := wall_t8 80 rfl rfl
theorem q_875 : Cond.instanceMethod yX12_coverNow ∈ WALL := wall_t8 82 rfl rfl
theorem q_876 : Cond.selects RX12 yX12_coverNow yX12_coverNow ∈ WALL := wall_s7 (q := (⟨"LeafStripesModel", "coverNow", "()I"⟩, 55)) 14 rfl rfl
theorem q_877 : Cond.code yX12_coverNow cX12_coverNow 5 (some .int) ∈ WALL := wall_t8 83 rfl rfl
theorem q_878 : Cond.methodLink RX12 355 yX12_bitsOf ∈ WALL := wall_t8 84 rfl rfl
theorem q_879 : Cond.static yX12_bitsOf ∈ WALL := wall_t8 85 rfl rfl
theorem q_880 : Cond.code yX12_bitsOf cX12_bitsOf 3 (some .int) ∈ WALL := wall_t8 86 rfl rfl
theorem q_881 : Cond.methodLink RX12 358 yX12_hasLeafOf ∈ WALL := wall_t8 87 rfl rfl
theorem q_882 : Cond.instanceMethod yX12_hasLeafOf ∈ WALL := wall_t8 89 rfl rfl
theorem q_883 : Cond.selects RX12 yX12_hasLeafOf yX12_hasLeafOf ∈ WALL := wall_s7 (q := (⟨"LeafStripesModel", "hasLeafOf", "(II)Z"⟩, 55)) 15 rfl rfl
theorem q_884 : Cond.code yX12_hasLeafOf cX12_hasLeafOf 5 (some .boolean) ∈ WALL := wall_t8 90 rfl rfl
theorem q_885 : Cond.methodLink RX12 361 yX12_isOf ∈ WALL := wall_t8 91 rfl rfl
theorem q_886 : Cond.static yX12_isOf ∈ WALL := wall_t8 92 rfl rfl
theorem q_887 : Cond.code yX12_isOf cX12_isOf 2 (some .boolean) ∈ WALL := wall_t8 93 rfl rfl
theorem q_888 : Cond.methodLink RX12 377 yX12_tellHarmless ∈ WALL := wall_t8 94 rfl rfl
theorem q_889 : Cond.instanceMethod yX12_tellHarmless ∈ WALL := wall_t8 96 rfl rfl
theorem q_890 : Cond.selects RX12 yX12_tellHarmless yX12_tellHarmless ∈ WALL := wall_s8 (q := (⟨"LeafStripesModel", "tellHarmless", "()V"⟩, 55)) 0 rfl rfl
theorem q_891 : Cond.code yX12_tellHarmless cX12_tellHarmless 5 none ∈ WALL := wall_t8 97 rfl rfl
theorem q_892 : Cond.methodLink RX12 352 yX12_tryLevel ∈ WALL := wall_t8 98 rfl rfl
theorem q_893 : Cond.instanceMethod yX12_tryLevel ∈ WALL := wall_t8 100 rfl rfl
theorem q_894 : Cond.selects RX12 yX12_tryLevel yX12_tryLevel ∈ WALL := wall_s8 (q := (⟨"LeafStripesModel", "tryLevel", "(IIII)V"⟩, 55)) 1 rfl rfl
theorem q_895 : Cond.code yX12_tryLevel cX12_tryLevel 8 none ∈ WALL := wall_t8 101 rfl rfl
theorem q_896 : Cond.methodLink RX12 339 yX12_valueAt ∈ WALL := wall_t8 102 rfl rfl
theorem q_897 : Cond.instanceMethod yX12_valueAt ∈ WALL := wall_t8 104 rfl rfl
theorem q_898 : Cond.selects RX12 yX12_valueAt yX12_valueAt ∈ WALL := wall_s8 (q := (⟨"LeafStripesModel", "valueAt", "(II)I"⟩, 55)) 2 rfl rfl
theorem q_899 : Cond.code yX12_valueAt cX12_valueAt 3 (some .int) ∈ WALL := wall_t8 105 rfl rfl
theorem q_900 : Cond.methodLink RX12 342 yX12_isWrongBy ∈ WALL := wall_t8 106 rfl rfl
theorem q_901 : Cond.instanceMethod yX12_isWrongBy ∈ WALL := wall_t8 108 rfl rfl
theorem q_902 : Cond.selects RX12 yX12_isWrongBy yX12_isWrongBy ∈ WALL := wall_s8 (q := (⟨"LeafStripesModel", "isWrongBy", "(III)Z"⟩, 55)) 3 rfl rfl
theorem q_903 : Cond.code yX12_isWrongBy cX12_isWrongBy 4 (some .boolean) ∈ WALL := wall_t8 109 rfl rfl
theorem q_904 : Cond.methodLink RX12 380 yX12_fail ∈ WALL := wall_t8 110 rfl rfl
theorem q_905 : Cond.instanceMethod yX12_fail ∈ WALL := wall_t8 112 rfl rfl
theorem q_906 : Cond.selects RX12 yX12_fail yX12_fail ∈ WALL := wall_s8 (q := (⟨"LeafStripesModel", "fail", "(I)I"⟩, 55)) 4 rfl rfl
theorem q_907 : Cond.code yX12_fail cX12_fail 2 (some .int) ∈ WALL := wall_t8 113 rfl rfl
theorem q_908 : Cond.methodLink RL 121 yL_field ∈ WALL := wall_t5 66 rfl rfl
theorem q_909 : Cond.static yL_field ∈ WALL := wall_t5 67 rfl rfl
theorem q_910 : Cond.codeWith yL_field cL_field 5 (some .int) [(0, 10, 13, 27)] ∈ WALL := wall_t5 68 rfl rfl
theorem q_911 : Cond.methodLink RL 29 yX11_field ∈ WALL := wall_t5 69 rfl rfl
theorem q_912 : Cond.instanceMethod yX11_field ∈ WALL := wall_t5 70 rfl rfl
theorem q_913 : Cond.selects RX11 yX11_field yX11_field ∈ WALL := wall_t5 71 rfl rfl
theorem q_914 : Cond.code yX11_field cX11_field 3 (some .int) ∈ WALL := wall_t5 72 rfl rfl
theorem q_915 : Cond.fieldLink RX11 187 "LeafStripes$Shape" "kind" "[I" ∈ WALL := wall_t2 82 rfl rfl
theorem q_916 : Cond.fieldLink RX11 190 "LeafStripes$Shape" "leafAt" "[I" ∈ WALL := wall_t2 92 rfl rfl
theorem q_917 : Cond.fieldLink RX11 193 "LeafStripes$Shape" "group" "[I" ∈ WALL := wall_t2 88 rfl rfl
theorem q_918 : Cond.fieldLink RX11 196 "LeafStripes$Shape" "letters" "[I" ∈ WALL := wall_t2 106 rfl rfl
theorem q_919 : Cond.fieldLink RX11 199 "LeafStripes$Shape" "inside" "[I" ∈ WALL := wall_t2 111 rfl rfl
theorem q_920 : Cond.methodLink RX11 184 yX11_needField ∈ WALL := wall_t5 73 rfl rfl
theorem q_921 : Cond.instanceMethod yX11_needField ∈ WALL := wall_t5 75 rfl rfl
theorem q_922 : Cond.selects RX11 yX11_needField yX11_needField ∈ WALL := wall_s3 (q := (⟨"LeafStripes", "needField", "(I)V"⟩, 15)) 3 rfl rfl
theorem q_923 : Cond.code yX11_needField cX11_needField 2 none ∈ WALL := wall_t5 76 rfl rfl
theorem q_924 : Cond.methodLink RL 124 yX12_field ∈ WALL := wall_t8 114 rfl rfl
theorem q_925 : Cond.instanceMethod yX12_field ∈ WALL := wall_t8 115 rfl rfl
theorem q_926 : Cond.selects RX12 yX12_field yX12_field ∈ WALL := wall_t8 116 rfl rfl
theorem q_927 : Cond.code yX12_field cX12_field 5 (some .int) ∈ WALL := wall_t8 117 rfl rfl
theorem q_928 : Cond.methodLink RX12 387 yX12_isField ∈ WALL := wall_t8 118 rfl rfl
theorem q_929 : Cond.instanceMethod yX12_isField ∈ WALL := wall_t8 120 rfl rfl
theorem q_930 : Cond.selects RX12 yX12_isField yX12_isField ∈ WALL := wall_s8 (q := (⟨"LeafStripesModel", "isField", "(I)Z"⟩, 55)) 5 rfl rfl
theorem q_931 : Cond.code yX12_isField cX12_isField 2 (some .boolean) ∈ WALL := wall_t8 121 rfl rfl
theorem q_932 : Cond.methodLink RX12 383 yX12_isIn ∈ WALL := wall_t8 122 rfl rfl
theorem q_933 : Cond.static yX12_isIn ∈ WALL := wall_t8 123 rfl rfl
theorem q_934 : Cond.code yX12_isIn cX12_isIn 6 (some .boolean) ∈ WALL := wall_t8 124 rfl rfl
theorem q_935 : Cond.methodLink RL 125 yL_name ∈ WALL := wall_t5 78 rfl rfl
theorem q_936 : Cond.static yL_name ∈ WALL := wall_t5 79 rfl rfl
theorem q_937 : Cond.codeWith yL_name cL_name 5 (some .int) [(0, 10, 13, 27)] ∈ WALL := wall_t5 80 rfl rfl
theorem q_938 : Cond.methodLink RL 33 yX11_name ∈ WALL := wall_t5 81 rfl rfl
theorem q_939 : Cond.instanceMethod yX11_name ∈ WALL := wall_t5 82 rfl rfl
theorem q_940 : Cond.selects RX11 yX11_name yX11_name ∈ WALL := wall_t5 83 rfl rfl
theorem q_941 : Cond.code yX11_name cX11_name 3 (some .int) ∈ WALL := wall_t5 84 rfl rfl
theorem q_942 : Cond.fieldLink RX11 211 "LeafStripes$Shape" "names" "[I" ∈ WALL := wall_t2 108 rfl rfl
theorem q_943 : Cond.methodLink RL 127 yX12_name ∈ WALL := wall_t8 125 rfl rfl
theorem q_944 : Cond.instanceMethod yX12_name ∈ WALL := wall_t8 126 rfl rfl
theorem q_945 : Cond.selects RX12 yX12_name yX12_name ∈ WALL := wall_t8 127 rfl rfl
theorem q_946 : Cond.code yX12_name cX12_name 3 (some .int) ∈ WALL := wall_t8 128 rfl rfl
theorem q_947 : Cond.methodLink RL 128 yL_leaf ∈ WALL := wall_t5 86 rfl rfl
theorem q_948 : Cond.static yL_leaf ∈ WALL := wall_t5 87 rfl rfl
theorem q_949 : Cond.codeWith yL_leaf cL_leaf 5 (some .int) [(0, 10, 13, 27)] ∈ WALL := wall_t5 88 rfl rfl
theorem q_950 : Cond.methodLink RL 36 yX11_leaf ∈ WALL := wall_t5 89 rfl rfl
theorem q_951 : Cond.instanceMethod yX11_leaf ∈ WALL := wall_t5 90 rfl rfl
theorem q_952 : Cond.selects RX11 yX11_leaf yX11_leaf ∈ WALL := wall_t5 91 rfl rfl
theorem q_953 : Cond.code yX11_leaf cX11_leaf 5 (some .int) ∈ WALL := wall_t5 92 rfl rfl
theorem q_954 : Cond.fieldLink RX11 217 "LeafStripes$Shape" "fieldOf" "[I" ∈ WALL := wall_t2 122 rfl rfl
theorem q_955 : Cond.fieldLink RX11 220 "LeafStripes$State" "columns" "[LLeafStripes$Column;" ∈ WALL := wall_t2 31 rfl rfl
theorem q_956 : Cond.fieldLink RX11 224 "LeafStripes$Column" "size" "I" ∈ WALL := wall_t2 12 rfl rfl
theorem q_957 : Cond.fieldLink RX11 227 "LeafStripes$Column" "rep" "[I" ∈ WALL := wall_t1 232 rfl rfl
theorem q_958 : Cond.fieldLink RX11 231 "LeafStripes$Column" "def" "[I" ∈ WALL := wall_t1 238 rfl rfl
theorem q_959 : Cond.methodLink RX11 214 yX11_needLeaf ∈ WALL := wall_t5 93 rfl rfl
theorem q_960 : Cond.instanceMethod yX11_needLeaf ∈ WALL := wall_t5 95 rfl rfl
theorem q_961 : Cond.selects RX11 yX11_needLeaf yX11_needLeaf ∈ WALL := wall_s3 (q := (⟨"LeafStripes", "needLeaf", "(I)V"⟩, 15)) 4 rfl rfl
theorem q_962 : Cond.code yX11_needLeaf cX11_needLeaf 2 none ∈ WALL := wall_t5 96 rfl rfl
theorem q_963 : Cond.methodLink RX11 228 yX2_runsOf ∈ WALL := wall_t5 98 rfl rfl
theorem q_964 : Cond.instanceMethod yX2_runsOf ∈ WALL := wall_t5 99 rfl rfl
theorem q_965 : Cond.selects RX2 yX2_runsOf yX2_runsOf ∈ WALL := wall_t5 100 rfl rfl
theorem q_966 : Cond.code yX2_runsOf cX2_runsOf 4 (some .int) ∈ WALL := wall_t5 101 rfl rfl
theorem q_967 : Cond.methodLink RX11 232 yX11_binaryDigits ∈ WALL := wall_t5 102 rfl rfl
theorem q_968 : Cond.static yX11_binaryDigits ∈ WALL := wall_t5 103 rfl rfl
theorem q_969 : Cond.code yX11_binaryDigits cX11_binaryDigits 3 (some .int) ∈ WALL := wall_t5 104 rfl rfl
theorem q_970 : Cond.methodLink RL 130 yX12_leaf ∈ WALL := wall_t8 129 rfl rfl
theorem q_971 : Cond.instanceMethod yX12_leaf ∈ WALL := wall_t8 130 rfl rfl
theorem q_972 : Cond.selects RX12 yX12_leaf yX12_leaf ∈ WALL := wall_t8 131 rfl rfl
theorem q_973 : Cond.code yX12_leaf cX12_leaf 3 (some .int) ∈ WALL := wall_t8 132 rfl rfl
theorem q_974 : Cond.methodLink RX12 390 yX12_isLeaf ∈ WALL := wall_t8 133 rfl rfl
theorem q_975 : Cond.instanceMethod yX12_isLeaf ∈ WALL := wall_t8 135 rfl rfl
theorem q_976 : Cond.selects RX12 yX12_isLeaf yX12_isLeaf ∈ WALL := wall_s8 (q := (⟨"LeafStripesModel", "isLeaf", "(I)Z"⟩, 55)) 6 rfl rfl
theorem q_977 : Cond.code yX12_isLeaf cX12_isLeaf 2 (some .boolean) ∈ WALL := wall_t8 136 rfl rfl
theorem q_978 : Cond.methodLink RX12 393 yX12_runsOf ∈ WALL := wall_t8 137 rfl rfl
theorem q_979 : Cond.instanceMethod yX12_runsOf ∈ WALL := wall_t8 139 rfl rfl
theorem q_980 : Cond.selects RX12 yX12_runsOf yX12_runsOf ∈ WALL := wall_s8 (q := (⟨"LeafStripesModel", "runsOf", "(IZ)I"⟩, 55)) 7 rfl rfl
theorem q_981 : Cond.code yX12_runsOf cX12_runsOf 6 (some .int) ∈ WALL := wall_t8 140 rfl rfl
theorem q_982 : Cond.methodLink RX12 397 yX12_digitsOf ∈ WALL := wall_t8 141 rfl rfl
theorem q_983 : Cond.static yX12_digitsOf ∈ WALL := wall_t8 142 rfl rfl
theorem q_984 : Cond.code yX12_digitsOf cX12_digitsOf 2 (some .int) ∈ WALL := wall_t8 143 rfl rfl
theorem q_985 : Cond.methodLink RL 131 yL_entry ∈ WALL := wall_t5 105 rfl rfl
theorem q_986 : Cond.static yL_entry ∈ WALL := wall_t5 106 rfl rfl
theorem q_987 : Cond.codeWith yL_entry cL_entry 6 (some .int) [(0, 12, 15, 27)] ∈ WALL := wall_t5 107 rfl rfl
theorem q_988 : Cond.methodLink RL 39 yX11_entry ∈ WALL := wall_t5 108 rfl rfl
theorem q_989 : Cond.instanceMethod yX11_entry ∈ WALL := wall_t5 109 rfl rfl
theorem q_990 : Cond.selects RX11 yX11_entry yX11_entry ∈ WALL := wall_t5 110 rfl rfl
theorem q_991 : Cond.code yX11_entry cX11_entry 5 (some .int) ∈ WALL := wall_t5 111 rfl rfl
theorem q_992 : Cond.fieldLink RX11 242 "LeafStripes$Column" "value" "[I" ∈ WALL := wall_t2 3 rfl rfl
theorem q_993 : Cond.methodLink RX11 235 yX11_needEntry ∈ WALL := wall_t5 112 rfl rfl
theorem q_994 : Cond.instanceMethod yX11_needEntry ∈ WALL := wall_t5 114 rfl rfl
theorem q_995 : Cond.selects RX11 yX11_needEntry yX11_needEntry ∈ WALL := wall_s3 (q := (⟨"LeafStripes", "needEntry", "(II)V"⟩, 15)) 5 rfl rfl
theorem q_996 : Cond.code yX11_needEntry cX11_needEntry 3 none ∈ WALL := wall_t5 115 rfl rfl
theorem q_997 : Cond.methodLink RX11 239 yX2_hasValue ∈ WALL := wall_t5 117 rfl rfl
theorem q_998 : Cond.instanceMethod yX2_hasValue ∈ WALL := wall_t5 118 rfl rfl
theorem q_999 : Cond.selects RX2 yX2_hasValue yX2_hasValue ∈ WALL := wall_t5 119 rfl rfl
theorem q_1000 : Cond.code yX2_hasValue cX2_hasValue 2 (some .boolean) ∈ WALL := wall_t5 120 rfl rfl
theorem q_1001 : Cond.fieldLink RX2 31 "LeafStripes$Column" "full" "I" ∈ WALL := wall_t2 14 rfl rfl
theorem q_1002 : Cond.methodLink RL 134 yX12_entry ∈ WALL := wall_t8 144 rfl rfl
theorem q_1003 : Cond.instanceMethod yX12_entry ∈ WALL := wall_t8 145 rfl rfl
theorem q_1004 : Cond.selects RX12 yX12_entry yX12_entry ∈ WALL := wall_t8 146 rfl rfl
theorem q_1005 : Cond.code yX12_entry cX12_entry 4 (some .int) ∈ WALL := wall_t8 147 rfl rfl
theorem q_1006 : Cond.methodLink RX12 400 yX12_isEntry ∈ WALL := wall_t8 148 rfl rfl
theorem q_1007 : Cond.instanceMethod yX12_isEntry ∈ WALL := wall_t8 150 rfl rfl
theorem q_1008 : Cond.selects RX12 yX12_isEntry yX12_isEntry ∈ WALL := wall_s8 (q := (⟨"LeafStripesModel", "isEntry", "(II)Z"⟩, 55)) 8 rfl rfl
theorem q_1009 : Cond.code yX12_isEntry cX12_isEntry 3 (some .boolean) ∈ WALL := wall_t8 151 rfl rfl
theorem q_1010 : Cond.methodLink RX12 403 yX12_hasValue ∈ WALL := wall_t8 152 rfl rfl
theorem q_1011 : Cond.instanceMethod yX12_hasValue ∈ WALL := wall_t8 154 rfl rfl
theorem q_1012 : Cond.selects RX12 yX12_hasValue yX12_hasValue ∈ WALL := wall_s8 (q := (⟨"LeafStripesModel", "hasValue", "(II)Z"⟩, 55)) 9 rfl rfl
theorem q_1013 : Cond.code yX12_hasValue cX12_hasValue 3 (some .boolean) ∈ WALL := wall_t8 155 rfl rfl
theorem q_1014 : Cond.methodLink RL 135 yL_skip ∈ WALL := wall_t5 121 rfl rfl
theorem q_1015 : Cond.static yL_skip ∈ WALL := wall_t5 122 rfl rfl
theorem q_1016 : Cond.codeWith yL_skip cL_skip 6 (some .int) [(0, 12, 15, 27)] ∈ WALL := wall_t5 123 rfl rfl
theorem q_1017 : Cond.methodLink RL 43 yX11_skip ∈ WALL := wall_t5 124 rfl rfl
theorem q_1018 : Cond.instanceMethod yX11_skip ∈ WALL := wall_t5 125 rfl rfl
theorem q_1019 : Cond.selects RX11 yX11_skip yX11_skip ∈ WALL := wall_t5 126 rfl rfl
theorem q_1020 : Cond.code yX11_skip cX11_skip 6 (some .int) ∈ WALL := wall_t5 127 rfl rfl
theorem q_1021 : Cond.methodLink RX11 245 yX11_needRecord ∈ WALL := wall_t5 128 rfl rfl
theorem q_1022 : Cond.instanceMethod yX11_needRecord ∈ WALL := wall_t5 130 rfl rfl
theorem q_1023 : Cond.selects RX11 yX11_needRecord yX11_needRecord ∈ WALL := wall_s3 (q := (⟨"LeafStripes", "needRecord", "(I)V"⟩, 15)) 6 rfl rfl
theorem q_1024 : Cond.code yX11_needRecord cX11_needRecord 2 none ∈ WALL := wall_t5 131 rfl rfl
theorem q_1025 : Cond.methodLink RX11 248 yX2_firstOf ∈ WALL := wall_t5 133 rfl rfl
theorem q_1026 : Cond.instanceMethod yX2_firstOf ∈ WALL := wall_t3 70 rfl rfl
theorem q_1027 : Cond.selects RX2 yX2_firstOf yX2_firstOf ∈ WALL := wall_t3 71 rfl rfl
theorem q_1028 : Cond.code yX2_firstOf cX2_firstOf 4 (some .int) ∈ WALL := wall_t3 72 rfl rfl
theorem q_1029 : Cond.methodLink RX11 251 yX2_behind ∈ WALL := wall_t5 134 rfl rfl
theorem q_1030 : Cond.methodLink RL 137 yX12_skip ∈ WALL := wall_t8 156 rfl rfl
theorem q_1031 : Cond.instanceMethod yX12_skip ∈ WALL := wall_t8 157 rfl rfl
theorem q_1032 : Cond.selects RX12 yX12_skip yX12_skip ∈ WALL := wall_t8 158 rfl rfl
theorem q_1033 : Cond.code yX12_skip cX12_skip 5 (some .int) ∈ WALL := wall_t8 159 rfl rfl
theorem q_1034 : Cond.methodLink RX12 406 yX12_isRecord ∈ WALL := wall_t8 160 rfl rfl
theorem q_1035 : Cond.instanceMethod yX12_isRecord ∈ WALL := wall_t8 162 rfl rfl
theorem q_1036 : Cond.selects RX12 yX12_isRecord yX12_isRecord ∈ WALL := wall_s8 (q := (⟨"LeafStripesModel", "isRecord", "(I)Z"⟩, 55)) 10 rfl rfl
theorem q_1037 : Cond.code yX12_isRecord cX12_isRecord 2 (some .boolean) ∈ WALL := wall_t8 163 rfl rfl
theorem q_1038 : Cond.methodLink RX12 409 yX12_firstOf ∈ WALL := wall_t8 164 rfl rfl
theorem q_1039 : Cond.instanceMethod yX12_firstOf ∈ WALL := wall_t8 166 rfl rfl
theorem q_1040 : Cond.selects RX12 yX12_firstOf yX12_firstOf ∈ WALL := wall_s8 (q := (⟨"LeafStripesModel", "firstOf", "(II)I"⟩, 55)) 11 rfl rfl
theorem q_1041 : Cond.code yX12_firstOf cX12_firstOf 5 (some .int) ∈ WALL := wall_t8 167 rfl rfl
theorem q_1042 : Cond.methodLink RX12 412 yX12_behindOf ∈ WALL := wall_t8 168 rfl rfl
theorem q_1043 : Cond.instanceMethod yX12_behindOf ∈ WALL := wall_t8 170 rfl rfl
theorem q_1044 : Cond.selects RX12 yX12_behindOf yX12_behindOf ∈ WALL := wall_s8 (q := (⟨"LeafStripesModel", "behindOf", "(II)I"⟩, 55)) 12 rfl rfl
theorem q_1045 : Cond.code yX12_behindOf cX12_behindOf 3 (some .int) ∈ WALL := wall_t8 171 rfl rfl
theorem q_1046 : Cond.methodLink RL 138 yL_next ∈ WALL := wall_t5 135 rfl rfl
theorem q_1047 : Cond.static yL_next ∈ WALL := wall_t5 136 rfl rfl
theorem q_1048 : Cond.codeWith yL_next cL_next 6 (some .int) [(0, 12, 15, 27), (0, 12, 19, 13)] ∈ WALL := wall_t5 137 rfl rfl
theorem q_1049 : Cond.methodLink RL 46 yX11_next ∈ WALL := wall_t5 138 rfl rfl
theorem q_1050 : Cond.instanceMethod yX11_next ∈ WALL := wall_t5 139 rfl rfl
theorem q_1051 : Cond.selects RX11 yX11_next yX11_next ∈ WALL := wall_t5 140 rfl rfl
theorem q_1052 : Cond.code yX11_next cX11_next 4 (some .int) ∈ WALL := wall_t5 141 rfl rfl
theorem q_1053 : Cond.methodLink RX11 257 yX11_needSet ∈ WALL := wall_t5 143 rfl rfl
theorem q_1054 : Cond.instanceMethod yX11_needSet ∈ WALL := wall_t5 145 rfl rfl
theorem q_1055 : Cond.selects RX11 yX11_needSet yX11_needSet ∈ WALL := wall_s3 (q := (⟨"LeafStripes", "needSet", "(I)V"⟩, 15)) 7 rfl rfl
theorem q_1056 : Cond.code yX11_needSet cX11_needSet 2 none ∈ WALL := wall_t5 146 rfl rfl
theorem q_1057 : Cond.methodLink RX11 265 yX5_leafAfter ∈ WALL := wall_t5 149 rfl rfl
theorem q_1058 : Cond.instanceMethod yX5_leafAfter ∈ WALL := wall_t5 150 rfl rfl
theorem q_1059 : Cond.selects RX5 yX5_leafAfter yX5_leafAfter ∈ WALL := wall_t5 151 rfl rfl
theorem q_1060 : Cond.code yX5_leafAfter cX5_leafAfter 7 (some .int) ∈ WALL := wall_t5 152 rfl rfl
theorem q_1061 : Cond.static yX11_lowestBit ∈ WALL := wall_t5 154 rfl rfl
theorem q_1062 : Cond.code yX11_lowestBit cX11_lowestBit 2 (some .int) ∈ WALL := wall_t5 155 rfl rfl
theorem q_1063 : Cond.methodLink RX5 76 yX5_levelOf ∈ WALL := wall_t5 156 rfl rfl
theorem q_1064 : Cond.methodLink RX5 79 yX5_manyAround ∈ WALL := wall_t5 157 rfl rfl
theorem q_1065 : Cond.methodLink RL 140 yX12_next ∈ WALL := wall_t8 172 rfl rfl
theorem q_1066 : Cond.instanceMethod yX12_next ∈ WALL := wall_t8 173 rfl rfl
theorem q_1067 : Cond.selects RX12 yX12_next yX12_next ∈ WALL := wall_t8 174 rfl rfl
theorem q_1068 : Cond.code yX12_next cX12_next 4 (some .int) ∈ WALL := wall_t8 175 rfl rfl
theorem q_1069 : Cond.constantLong RX12 418 (31) ∈ WALL := wall_t8 176 rfl rfl
theorem q_1070 : Cond.methodLink RX12 420 yX12_isSet ∈ WALL := wall_t8 177 rfl rfl
theorem q_1071 : Cond.instanceMethod yX12_isSet ∈ WALL := wall_t8 179 rfl rfl
theorem q_1072 : Cond.selects RX12 yX12_isSet yX12_isSet ∈ WALL := wall_s8 (q := (⟨"LeafStripesModel", "isSet", "(I)Z"⟩, 55)) 13 rfl rfl
theorem q_1073 : Cond.code yX12_isSet cX12_isSet 2 (some .boolean) ∈ WALL := wall_t8 180 rfl rfl
theorem q_1074 : Cond.methodLink RX12 423 yX12_nextOf ∈ WALL := wall_t8 181 rfl rfl
theorem q_1075 : Cond.instanceMethod yX12_nextOf ∈ WALL := wall_t8 183 rfl rfl
theorem q_1076 : Cond.selects RX12 yX12_nextOf yX12_nextOf ∈ WALL := wall_s8 (q := (⟨"LeafStripesModel", "nextOf", "(III)I"⟩, 55)) 14 rfl rfl
theorem q_1077 : Cond.code yX12_nextOf cX12_nextOf 6 (some .int) ∈ WALL := wall_t8 184 rfl rfl
theorem q_1078 : Cond.methodLink RX12 415 yX12_levelBehind ∈ WALL := wall_t8 185 rfl rfl
theorem q_1079 : Cond.instanceMethod yX12_levelBehind ∈ WALL := wall_t8 187 rfl rfl
theorem q_1080 : Cond.selects RX12 yX12_levelBehind yX12_levelBehind ∈ WALL := wall_s8 (q := (⟨"LeafStripesModel", "levelBehind", "(II)I"⟩, 55)) 15 rfl rfl
theorem q_1081 : Cond.code yX12_levelBehind cX12_levelBehind 5 (some .int) ∈ WALL := wall_t8 188 rfl rfl
theorem q_1082 : Cond.methodLink RL 141 yL_length ∈ WALL := wall_t5 158 rfl rfl
theorem q_1083 : Cond.static yL_length ∈ WALL := wall_t5 159 rfl rfl
theorem q_1084 : Cond.codeWith yL_length cL_length 5 (some .int) [(0, 10, 13, 27), (0, 10, 17, 13)] ∈ WALL := wall_t5 160 rfl rfl
theorem q_1085 : Cond.methodLink RL 49 yX11_length ∈ WALL := wall_t5 161 rfl rfl
theorem q_1086 : Cond.instanceMethod yX11_length ∈ WALL := wall_t5 162 rfl rfl
theorem q_1087 : Cond.selects RX11 yX11_length yX11_length ∈ WALL := wall_t5 163 rfl rfl
theorem q_1088 : Cond.code yX11_length cX11_length 3 (some .int) ∈ WALL := wall_t5 164 rfl rfl
theorem q_1089 : Cond.methodLink RX11 269 yX8_tell ∈ WALL := wall_t5 165 rfl rfl
theorem q_1090 : Cond.instanceMethod yX8_tell ∈ WALL := wall_t5 166 rfl rfl
theorem q_1091 : Cond.selects RX8 yX8_tell yX8_tell ∈ WALL := wall_t5 167 rfl rfl
theorem q_1092 : Cond.code yX8_tell cX8_tell 7 (some .int) ∈ WALL := wall_t5 168 rfl rfl
theorem q_1093 : Cond.fieldLink RX8 16 "LeafStripes$Teller" "shape" "LLeafStripes$Shape;" ∈ WALL := wall_t1 164 rfl rfl
theorem q_1094 : Cond.fieldLink RX8 20 "LeafStripes$Teller" "base" "LLeafStripes$Shape;" ∈ WALL := wall_t1 165 rfl rfl
theorem q_1095 : Cond.fieldLink RX8 23 "LeafStripes$Teller" "state" "LLeafStripes$State;" ∈ WALL := wall_t1 166 rfl rfl
theorem q_1096 : Cond.fieldLink RX8 27 "LeafStripes$Teller" "set" "I" ∈ WALL := wall_t1 163 rfl rfl
theorem q_1097 : Cond.fieldLink RX8 31 "LeafStripes$Teller" "wanted" "I" ∈ WALL := wall_t1 161 rfl rfl
theorem q_1098 : Cond.fieldLink RX8 34 "LeafStripes$Teller" "told" "I" ∈ WALL := wall_t1 162 rfl rfl
theorem q_1099 : Cond.fieldLink RX8 37 "LeafStripes$Teller" "found" "I" ∈ WALL := wall_t1 159 rfl rfl
theorem q_1100 : Cond.methodLink RX8 40 yX8_goTo ∈ WALL := wall_t5 169 rfl rfl
theorem q_1101 : Cond.instanceMethod yX8_goTo ∈ WALL := wall_t5 171 rfl rfl
theorem q_1102 : Cond.selects RX8 yX8_goTo yX8_goTo ∈ WALL := wall_s3 (q := (⟨"LeafStripes$Teller", "goTo", "(I)V"⟩, 8)) 8 rfl rfl
theorem q_1103 : Cond.code yX8_goTo cX8_goTo 3 none ∈ WALL := wall_t5 172 rfl rfl
theorem q_1104 : Cond.fieldLink RX8 51 "LeafStripes$Shape" "leafCount" "I" ∈ WALL := wall_t2 74 rfl rfl
theorem q_1105 : Cond.fieldLink RX8 56 "LeafStripes$State" "columns" "[LLeafStripes$Column;" ∈ WALL := wall_t2 29 rfl rfl
theorem q_1106 : Cond.methodLink RX8 62 yX2_firstOf ∈ WALL := wall_t5 173 rfl rfl
theorem q_1107 : Cond.methodLink RX8 44 yX8_tellFields ∈ WALL := wall_t5 174 rfl rfl
theorem q_1108 : Cond.instanceMethod yX8_tellFields ∈ WALL := wall_t5 176 rfl rfl
theorem q_1109 : Cond.selects RX8 yX8_tellFields yX8_tellFields ∈ WALL := wall_s3 (q := (⟨"LeafStripes$Teller", "tellFields", "(II)V"⟩, 8)) 9 rfl rfl
theorem q_1110 : Cond.code yX8_tellFields cX8_tellFields 5 none ∈ WALL := wall_t5 177 rfl rfl
theorem q_1111 : Cond.fieldLink RX8 68 "LeafStripes$Shape" "fieldCount" "I" ∈ WALL := wall_t2 66 rfl rfl
theorem q_1112 : Cond.fieldLink RX8 71 "LeafStripes$Shape" "group" "[I" ∈ WALL := wall_t2 85 rfl rfl
theorem q_1113 : Cond.fieldLink RX8 75 "LeafStripes$Shape" "leaves" "[I" ∈ WALL := wall_t2 113 rfl rfl
theorem q_1114 : Cond.methodLink RX8 48 yX8_put ∈ WALL := wall_t5 178 rfl rfl
theorem q_1115 : Cond.instanceMethod yX8_put ∈ WALL := wall_t5 180 rfl rfl
theorem q_1116 : Cond.selects RX8 yX8_put yX8_put ∈ WALL := wall_s3 (q := (⟨"LeafStripes$Teller", "put", "(I)V"⟩, 8)) 10 rfl rfl
theorem q_1117 : Cond.code yX8_put cX8_put 2 none ∈ WALL := wall_t5 181 rfl rfl
theorem q_1118 : Cond.methodLink RX8 78 yX8_tellField ∈ WALL := wall_t5 182 rfl rfl
theorem q_1119 : Cond.instanceMethod yX8_tellField ∈ WALL := wall_t5 184 rfl rfl
theorem q_1120 : Cond.selects RX8 yX8_tellField yX8_tellField ∈ WALL := wall_s3 (q := (⟨"LeafStripes$Teller", "tellField", "(II)V"⟩, 8)) 11 rfl rfl
theorem q_1121 : Cond.code yX8_tellField cX8_tellField 6 none ∈ WALL := wall_t5 185 rfl rfl
theorem q_1122 : Cond.fieldLink RX8 81 "LeafStripes$Shape" "twin" "[I" ∈ WALL := wall_t2 117 rfl rfl
theorem q_1123 : Cond.fieldLink RX8 84 "LeafStripes$Shape" "kind" "[I" ∈ WALL := wall_t2 79 rfl rfl
theorem q_1124 : Cond.methodLink RX8 87 yX8_isThere ∈ WALL := wall_t5 186 rfl rfl
theorem q_1125 : Cond.instanceMethod yX8_isThere ∈ WALL := wall_t5 188 rfl rfl
theorem q_1126 : Cond.selects RX8 yX8_isThere yX8_isThere ∈ WALL := wall_s3 (q := (⟨"LeafStripes$Teller", "isThere", "(II)Z"⟩, 8)) 12 rfl rfl
theorem q_1127 : Cond.code yX8_isThere cX8_isThere 4 (some .boolean) ∈ WALL := wall_t5 189 rfl rfl
theorem q_1128 : Cond.fieldLink RX8 107 "LeafStripes$Column" "def" "[I" ∈ WALL := wall_t1 237 rfl rfl
theorem q_1129 : Cond.fieldLink RX8 110 "LeafStripes$Shape" "def" "[I" ∈ WALL := wall_t2 98 rfl rfl
theorem q_1130 : Cond.methodLink RX8 104 yX8_has ∈ WALL := wall_t5 191 rfl rfl
theorem q_1131 : Cond.instanceMethod yX8_has ∈ WALL := wall_t5 193 rfl rfl
theorem q_1132 : Cond.selects RX8 yX8_has yX8_has ∈ WALL := wall_s3 (q := (⟨"LeafStripes$Teller", "has", "(II)Z"⟩, 8)) 13 rfl rfl
theorem q_1133 : Cond.code yX8_has cX8_has 3 (some .boolean) ∈ WALL := wall_t5 194 rfl rfl
theorem q_1134 : Cond.fieldLink RX8 111 "LeafStripes$Column" "size" "I" ∈ WALL := wall_t2 11 rfl rfl
theorem q_1135 : Cond.methodLink RX8 91 yX8_tellItems ∈ WALL := wall_t5 195 rfl rfl
theorem q_1136 : Cond.instanceMethod yX8_tellItems ∈ WALL := wall_t5 197 rfl rfl
theorem q_1137 : Cond.selects RX8 yX8_tellItems yX8_tellItems ∈ WALL := wall_s3 (q := (⟨"LeafStripes$Teller", "tellItems", "(III)V"⟩, 8)) 14 rfl rfl
theorem q_1138 : Cond.methodLink RX8 95 yX8_beginAt ∈ WALL := wall_t5 199 rfl rfl
theorem q_1139 : Cond.instanceMethod yX8_beginAt ∈ WALL := wall_t5 201 rfl rfl
theorem q_1140 : Cond.selects RX8 yX8_beginAt yX8_beginAt ∈ WALL := wall_s3 (q := (⟨"LeafStripes$Teller", "beginAt", "(II)V"⟩, 8)) 15 rfl rfl
theorem q_1141 : Cond.code yX8_beginAt cX8_beginAt 4 none ∈ WALL := wall_t5 202 rfl rfl
theorem q_1142 : Cond.methodLink RX8 98 yX8_tellItem ∈ WALL := wall_t5 203 rfl rfl
theorem q_1143 : Cond.instanceMethod yX8_tellItem ∈ WALL := wall_t5 205 rfl rfl
theorem q_1144 : Cond.selects RX8 yX8_tellItem yX8_tellItem ∈ WALL := wall_s4 (q := (⟨"LeafStripes$Teller", "tellItem", "(III)V"⟩, 8)) 0 rfl rfl
theorem q_1145 : Cond.code yX8_tellItem cX8_tellItem 5 none ∈ WALL := wall_t5 206 rfl rfl
theorem q_1146 : Cond.fieldLink RX8 126 "LeafStripes$Shape" "leafAt" "[I" ∈ WALL := wall_t2 94 rfl rfl
theorem q_1147 : Cond.fieldLink RX8 129 "LeafStripes$Column" "value" "[I" ∈ WALL := wall_t2 4 rfl rfl
theorem q_1148 : Cond.methodLink RX8 132 yX8_putNumber ∈ WALL := wall_t5 207 rfl rfl
theorem q_1149 : Cond.instanceMethod yX8_putNumber ∈ WALL := wall_t5 209 rfl rfl
theorem q_1150 : Cond.selects RX8 yX8_putNumber yX8_putNumber ∈ WALL := wall_s4 (q := (⟨"LeafStripes$Teller", "putNumber", "(I)V"⟩, 8)) 1 rfl rfl
theorem q_1151 : Cond.code yX8_putNumber cX8_putNumber 2 none ∈ WALL := wall_t5 210 rfl rfl
theorem q_1152 : Cond.code yX8_tellItems cX8_tellItems 6 none ∈ WALL := wall_t5 198 rfl rfl
theorem q_1153 : Cond.methodLink RX8 114 yX8_goOn ∈ WALL := wall_t5 211 rfl rfl
theorem q_1154 : Cond.instanceMethod yX8_goOn ∈ WALL := wall_t5 213 rfl rfl
theorem q_1155 : Cond.selects RX8 yX8_goOn yX8_goOn ∈ WALL := wall_s4 (q := (⟨"LeafStripes$Teller", "goOn", "(III)Z"⟩, 8)) 2 rfl rfl
theorem q_1156 : Cond.code yX8_goOn cX8_goOn 6 (some .boolean) ∈ WALL := wall_t5 214 rfl rfl
theorem q_1157 : Cond.fieldLink RX8 118 "LeafStripes$Shape" "rep" "[I" ∈ WALL := wall_t2 104 rfl rfl
theorem q_1158 : Cond.fieldLink RX8 125 "LeafStripes$Column" "rep" "[I" ∈ WALL := wall_t1 233 rfl rfl
theorem q_1159 : Cond.methodLink RX8 121 yX2_behind ∈ WALL := wall_t5 215 rfl rfl
theorem q_1160 : Cond.methodLink RL 143 yX12_length ∈ WALL := wall_t8 197 rfl rfl
theorem q_1161 : Cond.instanceMethod yX12_length ∈ WALL := wall_t8 198 rfl rfl
theorem q_1162 : Cond.selects RX12 yX12_length yX12_length ∈ WALL := wall_t8 199 rfl rfl
theorem q_1163 : Cond.code yX12_length cX12_length 3 (some .int) ∈ WALL := wall_t8 200 rfl rfl
theorem q_1164 : Cond.methodLink RX12 462 yX12_tell ∈ WALL := wall_t8 201 rfl rfl
theorem q_1165 : Cond.instanceMethod yX12_tell ∈ WALL := wall_t8 203 rfl rfl
theorem q_1166 : Cond.selects RX12 yX12_tell yX12_tell ∈ WALL := wall_s9 (q := (⟨"LeafStripesModel", "tell", "(IIII)I"⟩, 55)) 1 rfl rfl
theorem q_1167 : Cond.code yX12_tell cX12_tell 6 (some .int) ∈ WALL := wall_t8 204 rfl rfl
theorem q_1168 : Cond.fieldLink RX12 429 "LeafStripesModel" "told" "I" ∈ WALL := wall_t6 221 rfl rfl
theorem q_1169 : Cond.fieldLink RX12 432 "LeafStripesModel" "wanted" "I" ∈ WALL := wall_t6 222 rfl rfl
theorem q_1170 : Cond.methodLink RX12 444 yX12_tellValues ∈ WALL := wall_t8 205 rfl rfl
theorem q_1171 : Cond.instanceMethod yX12_tellValues ∈ WALL := wall_t8 207 rfl rfl
theorem q_1172 : Cond.selects RX12 yX12_tellValues yX12_tellValues ∈ WALL := wall_s9 (q := (⟨"LeafStripesModel", "tellValues", "(IIII)V"⟩, 55)) 2 rfl rfl
theorem q_1173 : Cond.code yX12_tellValues cX12_tellValues 8 none ∈ WALL := wall_t8 208 rfl rfl
theorem q_1174 : Cond.methodLink RX12 456 yX12_isTold ∈ WALL := wall_t8 209 rfl rfl
theorem q_1175 : Cond.instanceMethod yX12_isTold ∈ WALL := wall_t8 211 rfl rfl
theorem q_1176 : Cond.selects RX12 yX12_isTold yX12_isTold ∈ WALL := wall_s9 (q := (⟨"LeafStripesModel", "isTold", "(III)Z"⟩, 55)) 3 rfl rfl
theorem q_1177 : Cond.code yX12_isTold cX12_isTold 4 (some .boolean) ∈ WALL := wall_t8 212 rfl rfl
theorem q_1178 : Cond.methodLink RX12 438 yX12_say ∈ WALL := wall_t8 213 rfl rfl
theorem q_1179 : Cond.instanceMethod yX12_say ∈ WALL := wall_t8 215 rfl rfl
theorem q_1180 : Cond.selects RX12 yX12_say yX12_say ∈ WALL := wall_s9 (q := (⟨"LeafStripesModel", "say", "(I)V"⟩, 55)) 4 rfl rfl
theorem q_1181 : Cond.code yX12_say cX12_say 2 none ∈ WALL := wall_t8 216 rfl rfl
theorem q_1182 : Cond.fieldLink RX12 435 "LeafStripesModel" "wantedSign" "I" ∈ WALL := wall_t6 223 rfl rfl
theorem q_1183 : Cond.methodLink RX12 459 yX12_tellField ∈ WALL := wall_t8 217 rfl rfl
theorem q_1184 : Cond.instanceMethod yX12_tellField ∈ WALL := wall_t8 219 rfl rfl
theorem q_1185 : Cond.selects RX12 yX12_tellField yX12_tellField ∈ WALL := wall_s9 (q := (⟨"LeafStripesModel", "tellField", "(IIII)V"⟩, 55)) 5 rfl rfl
theorem q_1186 : Cond.code yX12_tellField cX12_tellField 9 none ∈ WALL := wall_t8 220 rfl rfl
theorem q_1187 : Cond.methodLink RX12 447 yX12_firstLeafIn ∈ WALL := wall_t8 221 rfl rfl
theorem q_1188 : Cond.instanceMethod yX12_firstLeafIn ∈ WALL := wall_t8 223 rfl rfl
theorem q_1189 : Cond.selects RX12 yX12_firstLeafIn yX12_firstLeafIn ∈ WALL := wall_s9 (q := (⟨"LeafStripesModel", "firstLeafIn", "(I)I"⟩, 55)) 6 rfl rfl
theorem q_1190 : Cond.code yX12_firstLeafIn cX12_firstLeafIn 3 (some .int) ∈ WALL := wall_t8 224 rfl rfl
theorem q_1191 : Cond.methodLink RX12 453 yX12_tellMany ∈ WALL := wall_t8 225 rfl rfl
theorem q_1192 : Cond.instanceMethod yX12_tellMany ∈ WALL := wall_t8 227 rfl rfl
theorem q_1193 : Cond.selects RX12 yX12_tellMany yX12_tellMany ∈ WALL := wall_s9 (q := (⟨"LeafStripesModel", "tellMany", "(IIII)V"⟩, 55)) 7 rfl rfl
theorem q_1194 : Cond.methodLink RX12 450 yX12_tellItem ∈ WALL := wall_t8 229 rfl rfl
theorem q_1195 : Cond.instanceMethod yX12_tellItem ∈ WALL := wall_t8 231 rfl rfl
theorem q_1196 : Cond.selects RX12 yX12_tellItem yX12_tellItem ∈ WALL := wall_s9 (q := (⟨"LeafStripesModel", "tellItem", "(IIII)V"⟩, 55)) 8 rfl rfl
theorem q_1197 : Cond.code yX12_tellItem cX12_tellItem 6 none ∈ WALL := wall_t8 232 rfl rfl
theorem q_1198 : Cond.methodLink RX12 441 yX12_sayNumber ∈ WALL := wall_t8 233 rfl rfl
theorem q_1199 : Cond.instanceMethod yX12_sayNumber ∈ WALL := wall_t8 235 rfl rfl
theorem q_1200 : Cond.selects RX12 yX12_sayNumber yX12_sayNumber ∈ WALL := wall_s9 (q := (⟨"LeafStripesModel", "sayNumber", "(I)V"⟩, 55)) 9 rfl rfl
theorem q_1201 : Cond.code yX12_sayNumber cX12_sayNumber 3 none ∈ WALL := wall_t8 236 rfl rfl
theorem q_1202 : Cond.code yX12_tellMany cX12_tellMany 12 none ∈ WALL := wall_t8 228 rfl rfl
theorem q_1203 : Cond.methodLink RL 144 yL_sign ∈ WALL := wall_t5 216 rfl rfl
theorem q_1204 : Cond.static yL_sign ∈ WALL := wall_t5 217 rfl rfl
theorem q_1205 : Cond.codeWith yL_sign cL_sign 6 (some .int) [(0, 12, 15, 27), (0, 12, 19, 13)] ∈ WALL := wall_t5 218 rfl rfl
theorem q_1206 : Cond.methodLink RL 52 yX11_sign ∈ WALL := wall_t5 219 rfl rfl
theorem q_1207 : Cond.instanceMethod yX11_sign ∈ WALL := wall_t5 220 rfl rfl
theorem q_1208 : Cond.selects RX11 yX11_sign yX11_sign ∈ WALL := wall_t5 221 rfl rfl
theorem q_1209 : Cond.code yX11_sign cX11_sign 4 (some .int) ∈ WALL := wall_t5 222 rfl rfl
theorem q_1210 : Cond.fieldLink RX11 275 "LeafStripes$Teller" "found" "I" ∈ WALL := wall_t1 160 rfl rfl
theorem q_1211 : Cond.methodLink RL 146 yX12_sign ∈ WALL := wall_t8 237 rfl rfl
theorem q_1212 : Cond.instanceMethod yX12_sign ∈ WALL := wall_t8 238 rfl rfl
theorem q_1213 : Cond.selects RX12 yX12_sign yX12_sign ∈ WALL := wall_t8 239 rfl rfl
theorem q_1214 : Cond.code yX12_sign cX12_sign 4 (some .int) ∈ WALL := wall_t9 0 rfl rfl
theorem q_1215 : Cond.methodLink RL 147 yL_reads ∈ WALL := wall_t5 224 rfl rfl
theorem q_1216 : Cond.static yL_reads ∈ WALL := wall_t5 225 rfl rfl
theorem q_1217 : Cond.codeWith yL_reads cL_reads 5 (some .int) [(0, 10, 13, 27), (0, 10, 17, 13)] ∈ WALL := wall_t5 226 rfl rfl
theorem q_1218 : Cond.methodLink RL 55 yX11_reads ∈ WALL := wall_t5 227 rfl rfl
theorem q_1219 : Cond.instanceMethod yX11_reads ∈ WALL := wall_t5 228 rfl rfl
theorem q_1220 : Cond.selects RX11 yX11_reads yX11_reads ∈ WALL := wall_t5 229 rfl rfl
theorem q_1221 : Cond.code yX11_reads cX11_reads 3 (some .int) ∈ WALL := wall_t5 230 rfl rfl
theorem q_1222 : Cond.methodLink RX11 278 yX8_countReads ∈ WALL := wall_t5 231 rfl rfl
theorem q_1223 : Cond.instanceMethod yX8_countReads ∈ WALL := wall_t5 232 rfl rfl
theorem q_1224 : Cond.selects RX8 yX8_countReads yX8_countReads ∈ WALL := wall_t5 233 rfl rfl
theorem q_1225 : Cond.code yX8_countReads cX8_countReads 10 (some .int) ∈ WALL := wall_t5 234 rfl rfl
theorem q_1226 : Cond.methodLink RX8 135 yX5_leafAfter ∈ WALL := wall_t5 235 rfl rfl
theorem q_1227 : Cond.methodLink RL 149 yX12_reads ∈ WALL := wall_t8 189 rfl rfl
theorem q_1228 : Cond.instanceMethod yX12_reads ∈ WALL := wall_t8 190 rfl rfl
theorem q_1229 : Cond.selects RX12 yX12_reads yX12_reads ∈ WALL := wall_t8 191 rfl rfl
theorem q_1230 : Cond.code yX12_reads cX12_reads 3 (some .int) ∈ WALL := wall_t8 192 rfl rfl
theorem q_1231 : Cond.methodLink RX12 426 yX12_readsOf ∈ WALL := wall_t8 193 rfl rfl
theorem q_1232 : Cond.instanceMethod yX12_readsOf ∈ WALL := wall_t8 195 rfl rfl
theorem q_1233 : Cond.selects RX12 yX12_readsOf yX12_readsOf ∈ WALL := wall_s9 (q := (⟨"LeafStripesModel", "readsOf", "(II)I"⟩, 55)) 0 rfl rfl
theorem q_1234 : Cond.code yX12_readsOf cX12_readsOf 6 (some .int) ∈ WALL := wall_t8 196 rfl rfl
theorem q_1235 : Cond.methodLink RL 150 yL_seen ∈ WALL := wall_t5 236 rfl rfl
theorem q_1236 : Cond.static yL_seen ∈ WALL := wall_t5 237 rfl rfl
theorem q_1237 : Cond.codeWith yL_seen cL_seen 4 (some .int) [(0, 9, 12, 27)] ∈ WALL := wall_t5 238 rfl rfl
theorem q_1238 : Cond.methodLink RL 58 yX11_seen ∈ WALL := wall_t5 239 rfl rfl
theorem q_1239 : Cond.instanceMethod yX11_seen ∈ WALL := wall_t6 0 rfl rfl
theorem q_1240 : Cond.selects RX11 yX11_seen yX11_seen ∈ WALL := wall_t6 1 rfl rfl
theorem q_1241 : Cond.code yX11_seen cX11_seen 2 (some .int) ∈ WALL := wall_t6 2 rfl rfl
theorem q_1242 : Cond.methodLink RL 152 yX12_seen ∈ WALL := wall_t9 1 rfl rfl
theorem q_1243 : Cond.instanceMethod yX12_seen ∈ WALL := wall_t9 2 rfl rfl
theorem q_1244 : Cond.selects RX12 yX12_seen yX12_seen ∈ WALL := wall_t9 3 rfl rfl
theorem q_1245 : Cond.code yX12_seen cX12_seen 2 (some .int) ∈ WALL := wall_t9 4 rfl rfl
theorem q_1246 : Cond.methodLink RX12 465 yX12_isSeen ∈ WALL := wall_t9 5 rfl rfl
theorem q_1247 : Cond.instanceMethod yX12_isSeen ∈ WALL := wall_t9 7 rfl rfl
theorem q_1248 : Cond.selects RX12 yX12_isSeen yX12_isSeen ∈ WALL := wall_s9 (q := (⟨"LeafStripesModel", "isSeen", "()Z"⟩, 55)) 10 rfl rfl
theorem q_1249 : Cond.code yX12_isSeen cX12_isSeen 1 (some .boolean) ∈ WALL := wall_t9 8 rfl rfl
theorem q_1250 : Cond.methodLink RL 153 yL_seenSign ∈ WALL := wall_t6 3 rfl rfl
theorem q_1251 : Cond.static yL_seenSign ∈ WALL := wall_t6 4 rfl rfl
theorem q_1252 : Cond.codeWith yL_seenSign cL_seenSign 5 (some .int) [(0, 10, 13, 27)] ∈ WALL := wall_t6 5 rfl rfl
theorem q_1253 : Cond.methodLink RL 61 yX11_seenSign ∈ WALL := wall_t6 6 rfl rfl
theorem q_1254 : Cond.instanceMethod yX11_seenSign ∈ WALL := wall_t6 7 rfl rfl
theorem q_1255 : Cond.selects RX11 yX11_seenSign yX11_seenSign ∈ WALL := wall_t6 8 rfl rfl
theorem q_1256 : Cond.code yX11_seenSign cX11_seenSign 3 (some .int) ∈ WALL := wall_t6 9 rfl rfl
theorem q_1257 : Cond.methodLink RL 155 yX12_seenSign ∈ WALL := wall_t9 9 rfl rfl
theorem q_1258 : Cond.instanceMethod yX12_seenSign ∈ WALL := wall_t9 10 rfl rfl
theorem q_1259 : Cond.selects RX12 yX12_seenSign yX12_seenSign ∈ WALL := wall_t9 11 rfl rfl
theorem q_1260 : Cond.code yX12_seenSign cX12_seenSign 3 (some .int) ∈ WALL := wall_t9 12 rfl rfl
theorem q_1261 : Cond.methodLink RL 156 yL_fold ∈ WALL := wall_t6 10 rfl rfl
theorem q_1262 : Cond.static yL_fold ∈ WALL := wall_t6 11 rfl rfl
theorem q_1263 : Cond.codeWith yL_fold cL_fold 5 (some .int) [(0, 10, 13, 27)] ∈ WALL := wall_t6 12 rfl rfl
theorem q_1264 : Cond.methodLink RL 64 yX11_fold ∈ WALL := wall_t6 13 rfl rfl
theorem q_1265 : Cond.instanceMethod yX11_fold ∈ WALL := wall_t6 14 rfl rfl
theorem q_1266 : Cond.selects RX11 yX11_fold yX11_fold ∈ WALL := wall_t6 15 rfl rfl
theorem q_1267 : Cond.code yX11_fold cX11_fold 3 (some .int) ∈ WALL := wall_t6 16 rfl rfl
theorem q_1268 : Cond.methodLink RX11 284 yX2_folded ∈ WALL := wall_t6 18 rfl rfl
theorem q_1269 : Cond.instanceMethod yX2_folded ∈ WALL := wall_t6 19 rfl rfl
theorem q_1270 : Cond.selects RX2 yX2_folded yX2_folded ∈ WALL := wall_t6 20 rfl rfl
theorem q_1271 : Cond.code yX2_folded cX2_folded 2 (some .int) ∈ WALL := wall_t6 21 rfl rfl
theorem q_1272 : Cond.methodLink RX2 38 yX2_valueCount ∈ WALL := wall_t6 22 rfl rfl
theorem q_1273 : Cond.instanceMethod yX2_valueCount ∈ WALL := wall_t6 24 rfl rfl
theorem q_1274 : Cond.selects RX2 yX2_valueCount yX2_valueCount ∈ WALL := wall_s4 (q := (⟨"LeafStripes$Column", "valueCount", "()I"⟩, 5)) 3 rfl rfl
theorem q_1275 : Cond.code yX2_valueCount cX2_valueCount 3 (some .int) ∈ WALL := wall_t6 25 rfl rfl
theorem q_1276 : Cond.methodLink RX2 58 yX2_hasValue ∈ WALL := wall_t6 26 rfl rfl
theorem q_1277 : Cond.methodLink RX2 42 yX2_valueSum ∈ WALL := wall_t6 27 rfl rfl
theorem q_1278 : Cond.instanceMethod yX2_valueSum ∈ WALL := wall_t6 28 rfl rfl
theorem q_1279 : Cond.selects RX2 yX2_valueSum yX2_valueSum ∈ WALL := wall_t6 29 rfl rfl
theorem q_1280 : Cond.code yX2_valueSum cX2_valueSum 3 (some .int) ∈ WALL := wall_t6 30 rfl rfl
theorem q_1281 : Cond.methodLink RX2 45 yX2_least ∈ WALL := wall_t6 31 rfl rfl
theorem q_1282 : Cond.instanceMethod yX2_least ∈ WALL := wall_t6 33 rfl rfl
theorem q_1283 : Cond.selects RX2 yX2_least yX2_least ∈ WALL := wall_s4 (q := (⟨"LeafStripes$Column", "least", "()I"⟩, 5)) 4 rfl rfl
theorem q_1284 : Cond.code yX2_least cX2_least 3 (some .int) ∈ WALL := wall_t6 34 rfl rfl
theorem q_1285 : Cond.methodLink RX2 48 yX2_greatest ∈ WALL := wall_t6 35 rfl rfl
theorem q_1286 : Cond.instanceMethod yX2_greatest ∈ WALL := wall_t6 37 rfl rfl
theorem q_1287 : Cond.selects RX2 yX2_greatest yX2_greatest ∈ WALL := wall_s4 (q := (⟨"LeafStripes$Column", "greatest", "()I"⟩, 5)) 5 rfl rfl
theorem q_1288 : Cond.code yX2_greatest cX2_greatest 3 (some .int) ∈ WALL := wall_t6 38 rfl rfl
theorem q_1289 : Cond.methodLink RX2 51 yX2_unlikeCount ∈ WALL := wall_t6 39 rfl rfl
theorem q_1290 : Cond.instanceMethod yX2_unlikeCount ∈ WALL := wall_t6 41 rfl rfl
theorem q_1291 : Cond.selects RX2 yX2_unlikeCount yX2_unlikeCount ∈ WALL := wall_s4 (q := (⟨"LeafStripes$Column", "unlikeCount", "()I"⟩, 5)) 6 rfl rfl
theorem q_1292 : Cond.code yX2_unlikeCount cX2_unlikeCount 3 (some .int) ∈ WALL := wall_t6 42 rfl rfl
theorem q_1293 : Cond.methodLink RX2 62 yX2_cameAhead ∈ WALL := wall_t6 43 rfl rfl
theorem q_1294 : Cond.instanceMethod yX2_cameAhead ∈ WALL := wall_t6 45 rfl rfl
theorem q_1295 : Cond.selects RX2 yX2_cameAhead yX2_cameAhead ∈ WALL := wall_s4 (q := (⟨"LeafStripes$Column", "cameAhead", "(I)Z"⟩, 5)) 7 rfl rfl
theorem q_1296 : Cond.code yX2_cameAhead cX2_cameAhead 3 (some .boolean) ∈ WALL := wall_t6 46 rfl rfl
theorem q_1297 : Cond.methodLink RX2 54 yX2_rolled ∈ WALL := wall_t6 47 rfl rfl
theorem q_1298 : Cond.instanceMethod yX2_rolled ∈ WALL := wall_t6 49 rfl rfl
theorem q_1299 : Cond.selects RX2 yX2_rolled yX2_rolled ∈ WALL := wall_s4 (q := (⟨"LeafStripes$Column", "rolled", "(Z)I"⟩, 5)) 8 rfl rfl
theorem q_1300 : Cond.code yX2_rolled cX2_rolled 4 (some .int) ∈ WALL := wall_t6 50 rfl rfl
theorem q_1301 : Cond.methodLink RL 158 yX12_fold ∈ WALL := wall_t9 13 rfl rfl
theorem q_1302 : Cond.instanceMethod yX12_fold ∈ WALL := wall_t9 14 rfl rfl
theorem q_1303 : Cond.selects RX12 yX12_fold yX12_fold ∈ WALL := wall_t9 15 rfl rfl
theorem q_1304 : Cond.code yX12_fold cX12_fold 6 (some .int) ∈ WALL := wall_t9 16 rfl rfl
theorem q_1305 : Cond.constantLong RX12 471 (7) ∈ WALL := wall_t9 17 rfl rfl
theorem q_1306 : Cond.methodLink RX12 473 yX12_folded ∈ WALL := wall_t9 18 rfl rfl
theorem q_1307 : Cond.instanceMethod yX12_folded ∈ WALL := wall_t9 20 rfl rfl
theorem q_1308 : Cond.selects RX12 yX12_folded yX12_folded ∈ WALL := wall_s9 (q := (⟨"LeafStripesModel", "folded", "(IIIII)I"⟩, 55)) 11 rfl rfl
theorem q_1309 : Cond.code yX12_folded cX12_folded 7 (some .int) ∈ WALL := wall_t9 21 rfl rfl
theorem q_1310 : Cond.methodLink RX12 468 yX12_isNews ∈ WALL := wall_t9 22 rfl rfl
theorem q_1311 : Cond.instanceMethod yX12_isNews ∈ WALL := wall_t9 24 rfl rfl
theorem q_1312 : Cond.selects RX12 yX12_isNews yX12_isNews ∈ WALL := wall_s9 (q := (⟨"LeafStripesModel", "isNews", "(II)Z"⟩, 55)) 12 rfl rfl
theorem q_1313 : Cond.code yX12_isNews cX12_isNews 5 (some .boolean) ∈ WALL := wall_t9 25 rfl rfl
theorem q_1314 : Cond.methodLink RL 159 yL_picked ∈ WALL := wall_t6 51 rfl rfl
theorem q_1315 : Cond.static yL_picked ∈ WALL := wall_t6 52 rfl rfl
theorem q_1316 : Cond.codeWith yL_picked cL_picked 6 (some .int) [(0, 12, 15, 27)] ∈ WALL := wall_t6 53 rfl rfl
theorem q_1317 : Cond.methodLink RL 67 yX11_picked ∈ WALL := wall_t6 54 rfl rfl
theorem q_1318 : Cond.instanceMethod yX11_picked ∈ WALL := wall_t6 55 rfl rfl
theorem q_1319 : Cond.selects RX11 yX11_picked yX11_picked ∈ WALL := wall_t6 56 rfl rfl
theorem q_1320 : Cond.code yX11_picked cX11_picked 8 (some .int) ∈ WALL := wall_t6 57 rfl rfl
theorem q_1321 : Cond.methodLink RX11 289 yX2_fits ∈ WALL := wall_t6 59 rfl rfl
theorem q_1322 : Cond.instanceMethod yX2_fits ∈ WALL := wall_t6 60 rfl rfl
theorem q_1323 : Cond.selects RX2 yX2_fits yX2_fits ∈ WALL := wall_t6 61 rfl rfl
theorem q_1324 : Cond.code yX2_fits cX2_fits 6 (some .boolean) ∈ WALL := wall_t6 62 rfl rfl
theorem q_1325 : Cond.methodLink RL 161 yX12_picked ∈ WALL := wall_t9 26 rfl rfl
theorem q_1326 : Cond.instanceMethod yX12_picked ∈ WALL := wall_t9 27 rfl rfl
theorem q_1327 : Cond.selects RX12 yX12_picked yX12_picked ∈ WALL := wall_t9 28 rfl rfl
theorem q_1328 : Cond.code yX12_picked cX12_picked 11 (some .int) ∈ WALL := wall_t9 29 rfl rfl
theorem q_1329 : Cond.constantLong RX12 477 (3) ∈ WALL := wall_t9 30 rfl rfl
theorem q_1330 : Cond.methodLink RL 162 yL_pages ∈ WALL := wall_t6 63 rfl rfl
theorem q_1331 : Cond.static yL_pages ∈ WALL := wall_t6 64 rfl rfl
theorem q_1332 : Cond.codeWith yL_pages cL_pages 5 (some .int) [(0, 10, 13, 27), (0, 10, 17, 13)] ∈ WALL := wall_t6 65 rfl rfl
theorem q_1333 : Cond.methodLink RL 70 yX11_pages ∈ WALL := wall_t6 66 rfl rfl
theorem q_1334 : Cond.instanceMethod yX11_pages ∈ WALL := wall_t6 67 rfl rfl
theorem q_1335 : Cond.selects RX11 yX11_pages yX11_pages ∈ WALL := wall_t6 68 rfl rfl
theorem q_1336 : Cond.code yX11_pages cX11_pages 3 (some .int) ∈ WALL := wall_t6 69 rfl rfl
theorem q_1337 : Cond.methodLink RX11 295 yX2_pageCount ∈ WALL := wall_t6 71 rfl rfl
theorem q_1338 : Cond.instanceMethod yX2_pageCount ∈ WALL := wall_t6 72 rfl rfl
theorem q_1339 : Cond.selects RX2 yX2_pageCount yX2_pageCount ∈ WALL := wall_t6 73 rfl rfl
theorem q_1340 : Cond.code yX2_pageCount cX2_pageCount 6 (some .int) ∈ WALL := wall_t6 74 rfl rfl
theorem q_1341 : Cond.methodLink RX2 65 yX2_behind ∈ WALL := wall_t6 75 rfl rfl
theorem q_1342 : Cond.methodLink RL 164 yX12_pages ∈ WALL := wall_t9 31 rfl rfl
theorem q_1343 : Cond.instanceMethod yX12_pages ∈ WALL := wall_t9 32 rfl rfl
theorem q_1344 : Cond.selects RX12 yX12_pages yX12_pages ∈ WALL := wall_t9 33 rfl rfl
theorem q_1345 : Cond.code yX12_pages cX12_pages 7 (some .int) ∈ WALL := wall_t9 34 rfl rfl
theorem q_1346 : Cond.constantLong RX12 479 (120) ∈ WALL := wall_t9 35 rfl rfl
theorem q_1347 : Cond.methodLink RL 165 yL_piped ∈ WALL := wall_t6 76 rfl rfl
theorem q_1348 : Cond.static yL_piped ∈ WALL := wall_t6 77 rfl rfl
theorem q_1349 : Cond.codeWith yL_piped cL_piped 5 (some .int) [(0, 10, 13, 27)] ∈ WALL := wall_t6 78 rfl rfl
theorem q_1350 : Cond.methodLink RL 73 yX11_piped ∈ WALL := wall_t6 79 rfl rfl
theorem q_1351 : Cond.instanceMethod yX11_piped ∈ WALL := wall_t6 80 rfl rfl
theorem q_1352 : Cond.selects RX11 yX11_piped yX11_piped ∈ WALL := wall_t6 81 rfl rfl
theorem q_1353 : Cond.code yX11_piped cX11_piped 4 (some .int) ∈ WALL := wall_t6 82 rfl rfl
theorem q_1354 : Cond.fieldLink RX11 304 "LeafStripes$Pipe" "out" "[I" ∈ WALL := wall_t2 159 rfl rfl
theorem q_1355 : Cond.methodLink RX11 298 yX3_run ∈ WALL := wall_t6 83 rfl rfl
theorem q_1356 : Cond.instanceMethod yX3_run ∈ WALL := wall_t6 84 rfl rfl
theorem q_1357 : Cond.selects RX3 yX3_run yX3_run ∈ WALL := wall_t6 85 rfl rfl
theorem q_1358 : Cond.code yX3_run cX3_run 3 (some .int) ∈ WALL := wall_t6 86 rfl rfl
theorem q_1359 : Cond.fieldLink RX3 67 "LeafStripes$Pipe" "outCount" "I" ∈ WALL := wall_t2 160 rfl rfl
theorem q_1360 : Cond.fieldLink RX3 70 "LeafStripes$Column" "size" "I" ∈ WALL := wall_t2 10 rfl rfl
theorem q_1361 : Cond.fieldLink RX3 79 "LeafStripes$Column" "value" "[I" ∈ WALL := wall_t2 1 rfl rfl
theorem q_1362 : Cond.methodLink RX3 75 yX2_hasValue ∈ WALL := wall_t6 87 rfl rfl
theorem q_1363 : Cond.methodLink RX3 82 yX3_send ∈ WALL := wall_t6 88 rfl rfl
theorem q_1364 : Cond.instanceMethod yX3_send ∈ WALL := wall_t6 90 rfl rfl
theorem q_1365 : Cond.selects RX3 yX3_send yX3_send ∈ WALL := wall_s4 (q := (⟨"LeafStripes$Pipe", "send", "(I)V"⟩, 6)) 9 rfl rfl
theorem q_1366 : Cond.code yX3_send cX3_send 4 none ∈ WALL := wall_t6 91 rfl rfl
theorem q_1367 : Cond.methodLink RX3 86 yX3_goesOn ∈ WALL := wall_t6 92 rfl rfl
theorem q_1368 : Cond.instanceMethod yX3_goesOn ∈ WALL := wall_t6 94 rfl rfl
theorem q_1369 : Cond.selects RX3 yX3_goesOn yX3_goesOn ∈ WALL := wall_s4 (q := (⟨"LeafStripes$Pipe", "goesOn", "(II)Z"⟩, 6)) 10 rfl rfl
theorem q_1370 : Cond.code yX3_goesOn cX3_goesOn 4 (some .boolean) ∈ WALL := wall_t6 95 rfl rfl
theorem q_1371 : Cond.methodLink RX3 90 yX3_changed ∈ WALL := wall_t6 96 rfl rfl
theorem q_1372 : Cond.instanceMethod yX3_changed ∈ WALL := wall_t6 98 rfl rfl
theorem q_1373 : Cond.selects RX3 yX3_changed yX3_changed ∈ WALL := wall_s4 (q := (⟨"LeafStripes$Pipe", "changed", "(II)I"⟩, 6)) 11 rfl rfl
theorem q_1374 : Cond.code yX3_changed cX3_changed 4 (some .int) ∈ WALL := wall_t6 99 rfl rfl
theorem q_1375 : Cond.methodLink RL 167 yX12_piped ∈ WALL := wall_t9 40 rfl rfl
theorem q_1376 : Cond.instanceMethod yX12_piped ∈ WALL := wall_t9 41 rfl rfl
theorem q_1377 : Cond.selects RX12 yX12_piped yX12_piped ∈ WALL := wall_t9 42 rfl rfl
theorem q_1378 : Cond.code yX12_piped cX12_piped 6 (some .int) ∈ WALL := wall_t9 43 rfl rfl
theorem q_1379 : Cond.fieldLink RX12 481 "LeafStripesModel" "flowing" "I" ∈ WALL := wall_t6 228 rfl rfl
theorem q_1380 : Cond.methodLink RX12 484 yX12_goesThrough ∈ WALL := wall_t9 44 rfl rfl
theorem q_1381 : Cond.instanceMethod yX12_goesThrough ∈ WALL := wall_t9 46 rfl rfl
theorem q_1382 : Cond.selects RX12 yX12_goesThrough yX12_goesThrough ∈ WALL := wall_s9 (q := (⟨"LeafStripesModel", "goesThrough", "(I)Z"⟩, 55)) 13 rfl rfl
theorem q_1383 : Cond.code yX12_goesThrough cX12_goesThrough 4 (some .boolean) ∈ WALL := wall_t9 47 rfl rfl
theorem q_1384 : Cond.methodLink RL 168 yX11_drop ∈ WALL := wall_t2 235 rfl rfl
theorem q_1385 : Cond.instanceMethod yX11_drop ∈ WALL := wall_t2 236 rfl rfl
theorem q_1386 : Cond.selects RX11 yX11_drop yX11_drop ∈ WALL := wall_t2 237 rfl rfl
theorem q_1387 : Cond.code yX11_drop cX11_drop 1 (some .int) ∈ WALL := wall_t2 238 rfl rfl
theorem q_1388 : Cond.classLink RX11 307 RX0 ∈ WALL := wall_t3 59 rfl rfl
theorem q_1389 : Cond.methodLink RX11 309 yX7_tailRow ∈ WALL := wall_t3 61 rfl rfl
theorem q_1390 : Cond.instanceMethod yX7_tailRow ∈ WALL := wall_t3 62 rfl rfl
theorem q_1391 : Cond.selects RX7 yX7_tailRow yX7_tailRow ∈ WALL := wall_t3 63 rfl rfl
theorem q_1392 : Cond.code yX7_tailRow cX7_tailRow 9 (some (.array .int)) ∈ WALL := wall_t3 64 rfl rfl
theorem q_1393 : Cond.methodLink RX7 72 yX7_lastFirst ∈ WALL := wall_t3 65 rfl rfl
theorem q_1394 : Cond.instanceMethod yX7_lastFirst ∈ WALL := wall_t3 67 rfl rfl
theorem q_1395 : Cond.selects RX7 yX7_lastFirst yX7_lastFirst ∈ WALL := wall_s1 (q := (⟨"LeafStripes$State", "lastFirst", "(I)I"⟩, 6)) 8 rfl rfl
theorem q_1396 : Cond.code yX7_lastFirst cX7_lastFirst 3 (some .int) ∈ WALL := wall_t3 68 rfl rfl
theorem q_1397 : Cond.methodLink RX7 79 yX2_firstOf ∈ WALL := wall_t3 69 rfl rfl
theorem q_1398 : Cond.methodLink RX7 76 yX2_packed ∈ WALL := wall_t3 73 rfl rfl
theorem q_1399 : Cond.instanceMethod yX2_packed ∈ WALL := wall_t3 74 rfl rfl
theorem q_1400 : Cond.selects RX2 yX2_packed yX2_packed ∈ WALL := wall_t3 75 rfl rfl
theorem q_1401 : Cond.code yX2_packed cX2_packed 2 (some .int) ∈ WALL := wall_t3 76 rfl rfl
theorem q_1402 : Cond.methodLink RX11 313 yX0_init ∈ WALL := wall_t3 77 rfl rfl
theorem q_1403 : Cond.methodLink RX11 316 yX7_keep ∈ WALL := wall_t3 102 rfl rfl
theorem q_1404 : Cond.methodLink RX11 320 yX7_cutLastRecord ∈ WALL := wall_t3 109 rfl rfl
theorem q_1405 : Cond.instanceMethod yX7_cutLastRecord ∈ WALL := wall_t3 110 rfl rfl
theorem q_1406 : Cond.selects RX7 yX7_cutLastRecord yX7_cutLastRecord ∈ WALL := wall_t3 111 rfl rfl
theorem q_1407 : Cond.code yX7_cutLastRecord cX7_cutLastRecord 3 none ∈ WALL := wall_t3 112 rfl rfl
theorem q_1408 : Cond.methodLink RL 171 yX12_drop ∈ WALL := wall_t9 48 rfl rfl
theorem q_1409 : Cond.instanceMethod yX12_drop ∈ WALL := wall_t9 49 rfl rfl
theorem q_1410 : Cond.selects RX12 yX12_drop yX12_drop ∈ WALL := wall_t9 50 rfl rfl
theorem q_1411 : Cond.code yX12_drop cX12_drop 2 (some .int) ∈ WALL := wall_t9 51 rfl rfl
theorem q_1412 : Cond.methodLink RX12 487 yX12_refuse ∈ WALL := wall_t9 52 rfl rfl
theorem q_1413 : Cond.instanceMethod yX12_refuse ∈ WALL := wall_t9 54 rfl rfl
theorem q_1414 : Cond.selects RX12 yX12_refuse yX12_refuse ∈ WALL := wall_s9 (q := (⟨"LeafStripesModel", "refuse", "()I"⟩, 55)) 14 rfl rfl
theorem q_1415 : Cond.code yX12_refuse cX12_refuse 1 (some .int) ∈ WALL := wall_t9 55 rfl rfl
theorem q_1416 : Cond.methodLink RL 172 yL_set ∈ WALL := wall_t6 101 rfl rfl
theorem q_1417 : Cond.static yL_set ∈ WALL := wall_t6 102 rfl rfl
theorem q_1418 : Cond.codeWith yL_set cL_set 6 (some .int) [(0, 12, 15, 27)] ∈ WALL := wall_t6 103 rfl rfl
theorem q_1419 : Cond.methodLink RL 76 yX11_set ∈ WALL := wall_t6 104 rfl rfl
theorem q_1420 : Cond.instanceMethod yX11_set ∈ WALL := wall_t6 105 rfl rfl
theorem q_1421 : Cond.selects RX11 yX11_set yX11_set ∈ WALL := wall_t6 106 rfl rfl
theorem q_1422 : Cond.code yX11_set cX11_set 6 (some .int) ∈ WALL := wall_t6 107 rfl rfl
theorem q_1423 : Cond.methodLink RL 174 yX12_set ∈ WALL := wall_t9 56 rfl rfl
theorem q_1424 : Cond.instanceMethod yX12_set ∈ WALL := wall_t9 57 rfl rfl
theorem q_1425 : Cond.selects RX12 yX12_set yX12_set ∈ WALL := wall_t9 58 rfl rfl
theorem q_1426 : Cond.code yX12_set cX12_set 5 (some .int) ∈ WALL := wall_t9 59 rfl rfl
theorem q_1427 : Cond.constantLong RX12 490 (999) ∈ WALL := wall_t9 60 rfl rfl
theorem q_1428 : Cond.methodLink RL 175 yL_damage ∈ WALL := wall_t6 108 rfl rfl
theorem q_1429 : Cond.static yL_damage ∈ WALL := wall_t6 109 rfl rfl
theorem q_1430 : Cond.codeWith yL_damage cL_damage 7 (some .int) [(0, 14, 17, 27)] ∈ WALL := wall_t6 110 rfl rfl
theorem q_1431 : Cond.methodLink RL 79 yX11_damage ∈ WALL := wall_t6 111 rfl rfl
theorem q_1432 : Cond.instanceMethod yX11_damage ∈ WALL := wall_t6 112 rfl rfl
theorem q_1433 : Cond.selects RX11 yX11_damage yX11_damage ∈ WALL := wall_t6 113 rfl rfl
theorem q_1434 : Cond.code yX11_damage cX11_damage 8 (some .int) ∈ WALL := wall_t6 114 rfl rfl
theorem q_1435 : Cond.methodLink RL 178 yX12_damage ∈ WALL := wall_t9 61 rfl rfl
theorem q_1436 : Cond.instanceMethod yX12_damage ∈ WALL := wall_t9 62 rfl rfl
theorem q_1437 : Cond.selects RX12 yX12_damage yX12_damage ∈ WALL := wall_t9 63 rfl rfl
theorem q_1438 : Cond.code yX12_damage cX12_damage 6 (some .int) ∈ WALL := wall_t9 64 rfl rfl
theorem q_1439 : Cond.constantLong RX12 492 (9) ∈ WALL := wall_t9 65 rfl rfl
theorem q_1440 : Cond.methodLink RL 179 yX11_undo ∈ WALL := wall_t3 113 rfl rfl
theorem q_1441 : Cond.instanceMethod yX11_undo ∈ WALL := wall_t3 114 rfl rfl
theorem q_1442 : Cond.selects RX11 yX11_undo yX11_undo ∈ WALL := wall_t3 115 rfl rfl
theorem q_1443 : Cond.code yX11_undo cX11_undo 1 (some .int) ∈ WALL := wall_t3 116 rfl rfl
theorem q_1444 : Cond.methodLink RX11 323 yX7_undoLast ∈ WALL := wall_t3 117 rfl rfl
theorem q_1445 : Cond.instanceMethod yX7_undoLast ∈ WALL := wall_t3 118 rfl rfl
theorem q_1446 : Cond.selects RX7 yX7_undoLast yX7_undoLast ∈ WALL := wall_t3 119 rfl rfl
theorem q_1447 : Cond.code yX7_undoLast cX7_undoLast 5 none ∈ WALL := wall_t3 120 rfl rfl
theorem q_1448 : Cond.fieldLink RX7 86 "LeafStripes$Act" "kind" "I" ∈ WALL := wall_t3 82 rfl rfl
theorem q_1449 : Cond.fieldLink RX7 89 "LeafStripes$Act" "number" "I" ∈ WALL := wall_t3 88 rfl rfl
theorem q_1450 : Cond.fieldLink RX7 96 "LeafStripes$Act" "row" "[I" ∈ WALL := wall_t3 90 rfl rfl
theorem q_1451 : Cond.fieldLink RX7 103 "LeafStripes$Act" "leaf" "I" ∈ WALL := wall_t3 84 rfl rfl
theorem q_1452 : Cond.fieldLink RX7 106 "LeafStripes$Column" "value" "[I" ∈ WALL := wall_t2 2 rfl rfl
theorem q_1453 : Cond.fieldLink RX7 109 "LeafStripes$Column" "rep" "[I" ∈ WALL := wall_t1 234 rfl rfl
theorem q_1454 : Cond.fieldLink RX7 112 "LeafStripes$Column" "def" "[I" ∈ WALL := wall_t1 239 rfl rfl
theorem q_1455 : Cond.fieldLink RX7 113 "LeafStripes$Act" "entry" "I" ∈ WALL := wall_t3 86 rfl rfl
theorem q_1456 : Cond.methodLink RX7 92 yX7_cutLastRecord ∈ WALL := wall_t3 121 rfl rfl
theorem q_1457 : Cond.methodLink RX7 99 yX7_bringBack ∈ WALL := wall_t3 122 rfl rfl
theorem q_1458 : Cond.instanceMethod yX7_bringBack ∈ WALL := wall_t3 124 rfl rfl
theorem q_1459 : Cond.selects RX7 yX7_bringBack yX7_bringBack ∈ WALL := wall_s1 (q := (⟨"LeafStripes$State", "bringBack", "([II)V"⟩, 6)) 9 rfl rfl
theorem q_1460 : Cond.code yX7_bringBack cX7_bringBack 7 none ∈ WALL := wall_t3 125 rfl rfl
theorem q_1461 : Cond.methodLink RX7 82 yX2_unpack ∈ WALL := wall_t3 126 rfl rfl
theorem q_1462 : Cond.instanceMethod yX2_unpack ∈ WALL := wall_t3 127 rfl rfl
theorem q_1463 : Cond.selects RX2 yX2_unpack yX2_unpack ∈ WALL := wall_t3 128 rfl rfl
theorem q_1464 : Cond.code yX2_unpack cX2_unpack 3 none ∈ WALL := wall_t3 129 rfl rfl
theorem q_1465 : Cond.methodLink RX2 34 yX2_put ∈ WALL := wall_t3 130 rfl rfl
theorem q_1466 : Cond.methodLink RL 182 yX12_undo ∈ WALL := wall_t9 66 rfl rfl
theorem q_1467 : Cond.instanceMethod yX12_undo ∈ WALL := wall_t9 67 rfl rfl
theorem q_1468 : Cond.selects RX12 yX12_undo yX12_undo ∈ WALL := wall_t9 68 rfl rfl
theorem q_1469 : Cond.code yX12_undo cX12_undo 1 (some .int) ∈ WALL := wall_t9 69 rfl rfl
theorem q_1470 : Cond.methodLink RL 183 yL_years ∈ WALL := wall_t6 115 rfl rfl
theorem q_1471 : Cond.static yL_years ∈ WALL := wall_t6 116 rfl rfl
theorem q_1472 : Cond.codeWith yL_years cL_years 6 (some .int) [(0, 12, 15, 27), (0, 12, 19, 13)] ∈ WALL := wall_t6 117 rfl rfl
theorem q_1473 : Cond.methodLink RL 83 yX11_years ∈ WALL := wall_t6 118 rfl rfl
theorem q_1474 : Cond.instanceMethod yX11_years ∈ WALL := wall_t6 119 rfl rfl
theorem q_1475 : Cond.selects RX11 yX11_years yX11_years ∈ WALL := wall_t6 120 rfl rfl
theorem q_1476 : Cond.code yX11_years cX11_years 4 (some .int) ∈ WALL := wall_t6 121 rfl rfl
theorem q_1477 : Cond.fieldLink RX11 331 "LeafStripes$Years" "records" "I" ∈ WALL := wall_t1 192 rfl rfl
theorem q_1478 : Cond.fieldLink RX11 332 "LeafStripes$Years" "valueSum" "I" ∈ WALL := wall_t1 194 rfl rfl
theorem q_1479 : Cond.methodLink RX11 328 yX10_run ∈ WALL := wall_t6 123 rfl rfl
theorem q_1480 : Cond.instanceMethod yX10_run ∈ WALL := wall_t6 124 rfl rfl
theorem q_1481 : Cond.selects RX10 yX10_run yX10_run ∈ WALL := wall_t6 125 rfl rfl
theorem q_1482 : Cond.code yX10_run cX10_run 6 none ∈ WALL := wall_t6 126 rfl rfl
theorem q_1483 : Cond.fieldLink RX10 18 "LeafStripes$Years" "shape" "LLeafStripes$Shape;" ∈ WALL := wall_t1 199 rfl rfl
theorem q_1484 : Cond.fieldLink RX10 22 "LeafStripes$Years" "seed" "I" ∈ WALL := wall_t1 198 rfl rfl
theorem q_1485 : Cond.fieldLink RX10 26 "LeafStripes$State" "records" "I" ∈ WALL := wall_t2 33 rfl rfl
theorem q_1486 : Cond.fieldLink RX10 31 "LeafStripes$Years" "records" "I" ∈ WALL := wall_t1 191 rfl rfl
theorem q_1487 : Cond.fieldLink RX10 32 "LeafStripes$Years" "valueSum" "I" ∈ WALL := wall_t1 193 rfl rfl
theorem q_1488 : Cond.fieldLink RX10 35 "LeafStripes$Shape" "leafCount" "I" ∈ WALL := wall_t2 73 rfl rfl
theorem q_1489 : Cond.fieldLink RX10 40 "LeafStripes$State" "columns" "[LLeafStripes$Column;" ∈ WALL := wall_t2 28 rfl rfl
theorem q_1490 : Cond.fieldLink RX10 44 "LeafStripes$Column" "size" "I" ∈ WALL := wall_t2 7 rfl rfl
theorem q_1491 : Cond.methodLink RX10 49 yX2_valueSum ∈ WALL := wall_t6 127 rfl rfl
theorem q_1492 : Cond.methodLink RX10 52 yX10_drawRecord ∈ WALL := wall_t6 128 rfl rfl
theorem q_1493 : Cond.instanceMethod yX10_drawRecord ∈ WALL := wall_t6 130 rfl rfl
theorem q_1494 : Cond.selects RX10 yX10_drawRecord yX10_drawRecord ∈ WALL := wall_s4 (q := (⟨"LeafStripes$Years", "drawRecord", "()V"⟩, 7)) 12 rfl rfl
theorem q_1495 : Cond.code yX10_drawRecord cX10_drawRecord 2 none ∈ WALL := wall_t6 131 rfl rfl
theorem q_1496 : Cond.fieldLink RX10 62 "LeafStripes$Years" "drawnSum" "I" ∈ WALL := wall_t1 197 rfl rfl
theorem q_1497 : Cond.methodLink RX10 65 yX10_drawFields ∈ WALL := wall_t6 132 rfl rfl
theorem q_1498 : Cond.instanceMethod yX10_drawFields ∈ WALL := wall_t6 134 rfl rfl
theorem q_1499 : Cond.selects RX10 yX10_drawFields yX10_drawFields ∈ WALL := wall_s4 (q := (⟨"LeafStripes$Years", "drawFields", "(II)V"⟩, 7)) 13 rfl rfl
theorem q_1500 : Cond.code yX10_drawFields cX10_drawFields 4 none ∈ WALL := wall_t6 135 rfl rfl
theorem q_1501 : Cond.fieldLink RX10 70 "LeafStripes$Shape" "fieldCount" "I" ∈ WALL := wall_t2 68 rfl rfl
theorem q_1502 : Cond.fieldLink RX10 73 "LeafStripes$Shape" "group" "[I" ∈ WALL := wall_t2 87 rfl rfl
theorem q_1503 : Cond.methodLink RX10 76 yX10_drawField ∈ WALL := wall_t6 136 rfl rfl
theorem q_1504 : Cond.instanceMethod yX10_drawField ∈ WALL := wall_t6 138 rfl rfl
theorem q_1505 : Cond.selects RX10 yX10_drawField yX10_drawField ∈ WALL := wall_s4 (q := (⟨"LeafStripes$Years", "drawField", "(II)V"⟩, 7)) 14 rfl rfl
theorem q_1506 : Cond.code yX10_drawField cX10_drawField 5 none ∈ WALL := wall_t6 139 rfl rfl
theorem q_1507 : Cond.fieldLink RX10 79 "LeafStripes$Shape" "kind" "[I" ∈ WALL := wall_t2 81 rfl rfl
theorem q_1508 : Cond.fieldLink RX10 89 "LeafStripes$Shape" "leaves" "[I" ∈ WALL := wall_t2 114 rfl rfl
theorem q_1509 : Cond.methodLink RX10 82 yX10_draw ∈ WALL := wall_t6 140 rfl rfl
theorem q_1510 : Cond.instanceMethod yX10_draw ∈ WALL := wall_t6 142 rfl rfl
theorem q_1511 : Cond.selects RX10 yX10_draw yX10_draw ∈ WALL := wall_s4 (q := (⟨"LeafStripes$Years", "draw", "(I)I"⟩, 7)) 15 rfl rfl
theorem q_1512 : Cond.code yX10_draw cX10_draw 2 (some .int) ∈ WALL := wall_t6 143 rfl rfl
theorem q_1513 : Cond.constant RX10 69 (1103515245) ∈ WALL := wall_t6 144 rfl rfl
theorem q_1514 : Cond.methodLink RX10 86 yX10_drawItem ∈ WALL := wall_t6 145 rfl rfl
theorem q_1515 : Cond.instanceMethod yX10_drawItem ∈ WALL := wall_t6 147 rfl rfl
theorem q_1516 : Cond.selects RX10 yX10_drawItem yX10_drawItem ∈ WALL := wall_s5 (q := (⟨"LeafStripes$Years", "drawItem", "(II)V"⟩, 7)) 0 rfl rfl
theorem q_1517 : Cond.code yX10_drawItem cX10_drawItem 4 none ∈ WALL := wall_t6 148 rfl rfl
theorem q_1518 : Cond.fieldLink RX10 92 "LeafStripes$Shape" "leafAt" "[I" ∈ WALL := wall_t2 93 rfl rfl
theorem q_1519 : Cond.methodLink RX10 55 yX10_hasRoom ∈ WALL := wall_t6 149 rfl rfl
theorem q_1520 : Cond.instanceMethod yX10_hasRoom ∈ WALL := wall_t6 151 rfl rfl
theorem q_1521 : Cond.selects RX10 yX10_hasRoom yX10_hasRoom ∈ WALL := wall_s5 (q := (⟨"LeafStripes$Years", "hasRoom", "()Z"⟩, 7)) 1 rfl rfl
theorem q_1522 : Cond.code yX10_hasRoom cX10_hasRoom 2 (some .boolean) ∈ WALL := wall_t6 152 rfl rfl
theorem q_1523 : Cond.methodLink RX10 59 yX10_takeRecord ∈ WALL := wall_t6 153 rfl rfl
theorem q_1524 : Cond.instanceMethod yX10_takeRecord ∈ WALL := wall_t6 155 rfl rfl
theorem q_1525 : Cond.selects RX10 yX10_takeRecord yX10_takeRecord ∈ WALL := wall_s5 (q := (⟨"LeafStripes$Years", "takeRecord", "()V"⟩, 7)) 2 rfl rfl
theorem q_1526 : Cond.code yX10_takeRecord cX10_takeRecord 2 none ∈ WALL := wall_t6 156 rfl rfl
theorem q_1527 : Cond.methodLink RX11 335 yX10_entrySum ∈ WALL := wall_t6 157 rfl rfl
theorem q_1528 : Cond.instanceMethod yX10_entrySum ∈ WALL := wall_t6 158 rfl rfl
theorem q_1529 : Cond.selects RX10 yX10_entrySum yX10_entrySum ∈ WALL := wall_t6 159 rfl rfl
theorem q_1530 : Cond.code yX10_entrySum cX10_entrySum 3 (some .int) ∈ WALL := wall_t6 160 rfl rfl
theorem q_1531 : Cond.methodLink RL 185 yX12_years ∈ WALL := wall_t9 70 rfl rfl
theorem q_1532 : Cond.instanceMethod yX12_years ∈ WALL := wall_t9 71 rfl rfl
theorem q_1533 : Cond.selects RX12 yX12_years yX12_years ∈ WALL := wall_t9 72 rfl rfl
theorem q_1534 : Cond.code yX12_years cX12_years 5 (some .int) ∈ WALL := wall_t9 73 rfl rfl
theorem q_1535 : Cond.constantLong RX12 507 (2) ∈ WALL := wall_t9 74 rfl rfl
theorem q_1536 : Cond.constantLong RX12 509 (10) ∈ WALL := wall_t9 75 rfl rfl
theorem q_1537 : Cond.fieldLink RX12 494 "LeafStripesModel" "seedNow" "I" ∈ WALL := wall_t6 229 rfl rfl
theorem q_1538 : Cond.methodLink RX12 501 yX12_drawValues ∈ WALL := wall_t9 76 rfl rfl
theorem q_1539 : Cond.instanceMethod yX12_drawValues ∈ WALL := wall_t9 78 rfl rfl
theorem q_1540 : Cond.selects RX12 yX12_drawValues yX12_drawValues ∈ WALL := wall_s9 (q := (⟨"LeafStripesModel", "drawValues", "(III)V"⟩, 55)) 15 rfl rfl
theorem q_1541 : Cond.code yX12_drawValues cX12_drawValues 7 none ∈ WALL := wall_t9 79 rfl rfl
theorem q_1542 : Cond.methodLink RX12 498 yX12_drawOf ∈ WALL := wall_t9 80 rfl rfl
theorem q_1543 : Cond.instanceMethod yX12_drawOf ∈ WALL := wall_t9 82 rfl rfl
theorem q_1544 : Cond.selects RX12 yX12_drawOf yX12_drawOf ∈ WALL := wall_s10 (q := (⟨"LeafStripesModel", "drawOf", "(I)I"⟩, 55)) 0 rfl rfl
theorem q_1545 : Cond.code yX12_drawOf cX12_drawOf 2 (some .int) ∈ WALL := wall_t9 83 rfl rfl
theorem q_1546 : Cond.constant RX12 497 (1103515245) ∈ WALL := wall_t9 84 rfl rfl
theorem q_1547 : Cond.methodLink RX12 504 yX12_drawItem ∈ WALL := wall_t9 85 rfl rfl
theorem q_1548 : Cond.instanceMethod yX12_drawItem ∈ WALL := wall_t9 87 rfl rfl
theorem q_1549 : Cond.selects RX12 yX12_drawItem yX12_drawItem ∈ WALL := wall_s10 (q := (⟨"LeafStripesModel", "drawItem", "(III)V"⟩, 55)) 1 rfl rfl
theorem q_1550 : Cond.code yX12_drawItem cX12_drawItem 4 none ∈ WALL := wall_t9 88 rfl rfl
theorem q_1551 : Cond.methodLink RX12 511 yX12_valuesSum ∈ WALL := wall_t9 89 rfl rfl
theorem q_1552 : Cond.instanceMethod yX12_valuesSum ∈ WALL := wall_t9 91 rfl rfl
theorem q_1553 : Cond.selects RX12 yX12_valuesSum yX12_valuesSum ∈ WALL := wall_s10 (q := (⟨"LeafStripesModel", "valuesSum", "()I"⟩, 55)) 2 rfl rfl
theorem q_1554 : Cond.code yX12_valuesSum cX12_valuesSum 4 (some .int) ∈ WALL := wall_t9 92 rfl rfl
theorem q_1555 : Cond.methodLink RL 186 yX11_image ∈ WALL := wall_t3 134 rfl rfl
theorem q_1556 : Cond.instanceMethod yX11_image ∈ WALL := wall_t3 135 rfl rfl
theorem q_1557 : Cond.selects RX11 yX11_image yX11_image ∈ WALL := wall_t3 136 rfl rfl
theorem q_1558 : Cond.code yX11_image cX11_image 1 none ∈ WALL := wall_t3 137 rfl rfl
theorem q_1559 : Cond.methodLink RX11 338 yX7_copyFrom ∈ WALL := wall_t3 138 rfl rfl
theorem q_1560 : Cond.instanceMethod yX7_copyFrom ∈ WALL := wall_t3 139 rfl rfl
theorem q_1561 : Cond.selects RX7 yX7_copyFrom yX7_copyFrom ∈ WALL := wall_t3 140 rfl rfl
theorem q_1562 : Cond.code yX7_copyFrom cX7_copyFrom 3 none ∈ WALL := wall_t3 141 rfl rfl
theorem q_1563 : Cond.fieldLink RX7 59 "LeafStripes$State" "refusedTexts" "I" ∈ WALL := wall_t2 40 rfl rfl
theorem q_1564 : Cond.fieldLink RX7 62 "LeafStripes$State" "refusedActs" "I" ∈ WALL := wall_t2 42 rfl rfl
theorem q_1565 : Cond.methodLink RX7 49 yX2_copyFrom ∈ WALL := wall_t3 142 rfl rfl
theorem q_1566 : Cond.instanceMethod yX2_copyFrom ∈ WALL := wall_t3 143 rfl rfl
theorem q_1567 : Cond.selects RX2 yX2_copyFrom yX2_copyFrom ∈ WALL := wall_t3 144 rfl rfl
theorem q_1568 : Cond.code yX2_copyFrom cX2_copyFrom 2 none ∈ WALL := wall_t3 145 rfl rfl
theorem q_1569 : Cond.methodLink RX2 25 arraycopyName ∈ WALL := wall_t3 146 rfl rfl
theorem q_1570 : Cond.methodLink RL 189 yX12_image ∈ WALL := wall_t9 93 rfl rfl
theorem q_1571 : Cond.instanceMethod yX12_image ∈ WALL := wall_t9 94 rfl rfl
theorem q_1572 : Cond.selects RX12 yX12_image yX12_image ∈ WALL := wall_t9 95 rfl rfl
theorem q_1573 : Cond.code yX12_image cX12_image 1 none ∈ WALL := wall_t9 96 rfl rfl
theorem q_1574 : Cond.fieldLink RX12 514 "LeafStripesModel" "actsThen" "I" ∈ WALL := wall_t6 231 rfl rfl
theorem q_1575 : Cond.methodLink RX12 517 yX12_copyTo ∈ WALL := wall_t9 97 rfl rfl
theorem q_1576 : Cond.static yX12_copyTo ∈ WALL := wall_t9 98 rfl rfl
theorem q_1577 : Cond.code yX12_copyTo cX12_copyTo 3 none ∈ WALL := wall_t9 99 rfl rfl
theorem q_1578 : Cond.methodLink RL 190 yX11_restore ∈ WALL := wall_t3 147 rfl rfl
theorem q_1579 : Cond.instanceMethod yX11_restore ∈ WALL := wall_t3 148 rfl rfl
theorem q_1580 : Cond.selects RX11 yX11_restore yX11_restore ∈ WALL := wall_t3 149 rfl rfl
theorem q_1581 : Cond.code yX11_restore cX11_restore 1 (some .boolean) ∈ WALL := wall_t3 150 rfl rfl
theorem q_1582 : Cond.methodLink RL 194 yX12_restore ∈ WALL := wall_t9 100 rfl rfl
theorem q_1583 : Cond.instanceMethod yX12_restore ∈ WALL := wall_t9 101 rfl rfl
theorem q_1584 : Cond.selects RX12 yX12_restore yX12_restore ∈ WALL := wall_t9 102 rfl rfl
theorem q_1585 : Cond.code yX12_restore cX12_restore 1 (some .boolean) ∈ WALL := wall_t9 103 rfl rfl
theorem inX0 : ∀ w ∈ wsX00, w ∈ WALL := by
  intro w h
  obtain ⟨k, hk, rfl⟩ := List.mem_map.mp h
  have hk := List.mem_range.mp hk
  match k, hk with
  | 0, _ => exact wall_t3 91 rfl rfl
  | 1, _ => exact wall_t3 93 rfl rfl
  | 2, _ => exact wall_t3 95 rfl rfl
  | 3, _ => exact wall_t3 97 rfl rfl
  | 4, _ => exact wall_t3 99 rfl rfl
  | k + 5, hk => exact absurd hk (by omega)
theorem inX1 : ∀ w ∈ wsX10, w ∈ WALL := by
  intro w h
  obtain ⟨k, hk, rfl⟩ := List.mem_map.mp h
  have hk := List.mem_range.mp hk
  match k, hk with
  | 0, _ => exact wall_t1 136 rfl rfl
  | 1, _ => exact wall_t1 138 rfl rfl
  | 2, _ => exact wall_t1 140 rfl rfl
  | 3, _ => exact wall_t1 142 rfl rfl
  | 4, _ => exact wall_t1 144 rfl rfl
  | 5, _ => exact wall_t1 146 rfl rfl
  | 6, _ => exact wall_t1 148 rfl rfl
  | k + 7, hk => exact absurd hk (by omega)
theorem inX2 : ∀ w ∈ wsX20, w ∈ WALL := by
  intro w h
  obtain ⟨k, hk, rfl⟩ := List.mem_map.mp h
  have hk := List.mem_range.mp hk
  match k, hk with
  | 0, _ => exact wall_t2 15 rfl rfl
  | 1, _ => exact wall_t2 17 rfl rfl
  | 2, _ => exact wall_t2 19 rfl rfl
  | 3, _ => exact wall_t2 21 rfl rfl
  | 4, _ => exact wall_t2 23 rfl rfl
  | k + 5, hk => exact absurd hk (by omega)
theorem inX3 : ∀ w ∈ wsX30, w ∈ WALL := by
  intro w h
  obtain ⟨k, hk, rfl⟩ := List.mem_map.mp h
  have hk := List.mem_range.mp hk
  match k, hk with
  | 0, _ => exact wall_t2 164 rfl rfl
  | 1, _ => exact wall_t2 166 rfl rfl
  | 2, _ => exact wall_t2 168 rfl rfl
  | 3, _ => exact wall_t2 170 rfl rfl
  | 4, _ => exact wall_t2 172 rfl rfl
  | 5, _ => exact wall_t2 174 rfl rfl
  | k + 6, hk => exact absurd hk (by omega)
theorem inX4 : ∀ w ∈ wsX40, w ∈ WALL := by
  intro w h
  obtain ⟨k, hk, rfl⟩ := List.mem_map.mp h
  have hk := List.mem_range.mp hk
  match k, hk with
  | 0, _ => exact wall_t1 106 rfl rfl
  | 1, _ => exact wall_t1 108 rfl rfl
  | 2, _ => exact wall_t1 110 rfl rfl
  | 3, _ => exact wall_t1 112 rfl rfl
  | 4, _ => exact wall_t1 114 rfl rfl
  | 5, _ => exact wall_t1 116 rfl rfl
  | k + 6, hk => exact absurd hk (by omega)
theorem inX5 : ∀ w ∈ wsX50, w ∈ WALL := by
  intro w h
  obtain ⟨k, hk, rfl⟩ := List.mem_map.mp h
  have hk := List.mem_range.mp hk
  match k, hk with
  | 0, _ => exact wall_t2 123 rfl rfl
  | 1, _ => exact wall_t2 125 rfl rfl
  | 2, _ => exact wall_t2 127 rfl rfl
  | 3, _ => exact wall_t2 129 rfl rfl
  | 4, _ => exact wall_t2 131 rfl rfl
  | 5, _ => exact wall_t2 133 rfl rfl
  | 6, _ => exact wall_t2 135 rfl rfl
  | 7, _ => exact wall_t2 137 rfl rfl
  | 8, _ => exact wall_t2 139 rfl rfl
  | 9, _ => exact wall_t2 141 rfl rfl
  | 10, _ => exact wall_t2 143 rfl rfl
  | 11, _ => exact wall_t2 145 rfl rfl
  | 12, _ => exact wall_t2 147 rfl rfl
  | k + 13, hk => exact absurd hk (by omega)
theorem inX6 : ∀ w ∈ wsX60, w ∈ WALL := by
  intro w h
  obtain ⟨k, hk, rfl⟩ := List.mem_map.mp h
  have hk := List.mem_range.mp hk
  match k, hk with
  | 0, _ => exact wall_t1 79 rfl rfl
  | 1, _ => exact wall_t1 81 rfl rfl
  | 2, _ => exact wall_t1 83 rfl rfl
  | 3, _ => exact wall_t1 85 rfl rfl
  | 4, _ => exact wall_t1 87 rfl rfl
  | 5, _ => exact wall_t1 89 rfl rfl
  | k + 6, hk => exact absurd hk (by omega)
theorem inX7 : ∀ w ∈ wsX70, w ∈ WALL := by
  intro w h
  obtain ⟨k, hk, rfl⟩ := List.mem_map.mp h
  have hk := List.mem_range.mp hk
  match k, hk with
  | 0, _ => exact wall_t2 44 rfl rfl
  | 1, _ => exact wall_t2 46 rfl rfl
  | 2, _ => exact wall_t2 48 rfl rfl
  | 3, _ => exact wall_t2 50 rfl rfl
  | 4, _ => exact wall_t2 52 rfl rfl
  | 5, _ => exact wall_t2 54 rfl rfl
  | k + 6, hk => exact absurd hk (by omega)
theorem inX8 : ∀ w ∈ wsX80, w ∈ WALL := by
  intro w h
  obtain ⟨k, hk, rfl⟩ := List.mem_map.mp h
  have hk := List.mem_range.mp hk
  match k, hk with
  | 0, _ => exact wall_t1 168 rfl rfl
  | 1, _ => exact wall_t1 170 rfl rfl
  | 2, _ => exact wall_t1 172 rfl rfl
  | 3, _ => exact wall_t1 174 rfl rfl
  | 4, _ => exact wall_t1 176 rfl rfl
  | 5, _ => exact wall_t1 178 rfl rfl
  | 6, _ => exact wall_t1 180 rfl rfl
  | 7, _ => exact wall_t1 182 rfl rfl
  | k + 8, hk => exact absurd hk (by omega)
theorem inX9 : ∀ w ∈ wsX90, w ∈ WALL := by
  intro w h
  obtain ⟨k, hk, rfl⟩ := List.mem_map.mp h
  have hk := List.mem_range.mp hk
  match k, hk with
  | 0, _ => exact wall_t1 53 rfl rfl
  | 1, _ => exact wall_t1 55 rfl rfl
  | 2, _ => exact wall_t1 57 rfl rfl
  | 3, _ => exact wall_t1 59 rfl rfl
  | 4, _ => exact wall_t1 61 rfl rfl
  | 5, _ => exact wall_t1 63 rfl rfl
  | k + 6, hk => exact absurd hk (by omega)
theorem inX10 : ∀ w ∈ wsX100, w ∈ WALL := by
  intro w h
  obtain ⟨k, hk, rfl⟩ := List.mem_map.mp h
  have hk := List.mem_range.mp hk
  match k, hk with
  | 0, _ => exact wall_t1 200 rfl rfl
  | 1, _ => exact wall_t1 202 rfl rfl
  | 2, _ => exact wall_t1 204 rfl rfl
  | 3, _ => exact wall_t1 206 rfl rfl
  | 4, _ => exact wall_t1 208 rfl rfl
  | 5, _ => exact wall_t1 210 rfl rfl
  | 6, _ => exact wall_t1 212 rfl rfl
  | k + 7, hk => exact absurd hk (by omega)
theorem inX11 : ∀ w ∈ wsX110, w ∈ WALL := by
  intro w h
  obtain ⟨k, hk, rfl⟩ := List.mem_map.mp h
  have hk := List.mem_range.mp hk
  match k, hk with
  | 0, _ => exact wall_t2 192 rfl rfl
  | 1, _ => exact wall_t2 194 rfl rfl
  | 2, _ => exact wall_t2 196 rfl rfl
  | 3, _ => exact wall_t2 198 rfl rfl
  | 4, _ => exact wall_t2 200 rfl rfl
  | 5, _ => exact wall_t2 202 rfl rfl
  | 6, _ => exact wall_t2 204 rfl rfl
  | 7, _ => exact wall_t2 206 rfl rfl
  | 8, _ => exact wall_t2 208 rfl rfl
  | 9, _ => exact wall_t2 210 rfl rfl
  | 10, _ => exact wall_t2 212 rfl rfl
  | 11, _ => exact wall_t2 214 rfl rfl
  | 12, _ => exact wall_t2 216 rfl rfl
  | 13, _ => exact wall_t2 218 rfl rfl
  | 14, _ => exact wall_t2 220 rfl rfl
  | k + 15, hk => exact absurd hk (by omega)
theorem inX12 : ∀ w ∈ wsX120, w ∈ WALL := by
  intro w h
  obtain ⟨k, hk, rfl⟩ := List.mem_map.mp h
  have hk := List.mem_range.mp hk
  match k, hk with
  | 0, _ => exact wall_t6 235 rfl rfl
  | 1, _ => exact wall_t6 237 rfl rfl
  | 2, _ => exact wall_t6 239 rfl rfl
  | 3, _ => exact wall_t7 1 rfl rfl
  | 4, _ => exact wall_t7 3 rfl rfl
  | 5, _ => exact wall_t7 5 rfl rfl
  | 6, _ => exact wall_t7 7 rfl rfl
  | 7, _ => exact wall_t7 9 rfl rfl
  | 8, _ => exact wall_t7 11 rfl rfl
  | 9, _ => exact wall_t7 13 rfl rfl
  | 10, _ => exact wall_t7 15 rfl rfl
  | 11, _ => exact wall_t7 17 rfl rfl
  | 12, _ => exact wall_t7 19 rfl rfl
  | 13, _ => exact wall_t7 21 rfl rfl
  | 14, _ => exact wall_t7 23 rfl rfl
  | 15, _ => exact wall_t7 25 rfl rfl
  | 16, _ => exact wall_t7 27 rfl rfl
  | 17, _ => exact wall_t7 29 rfl rfl
  | 18, _ => exact wall_t7 31 rfl rfl
  | 19, _ => exact wall_t7 33 rfl rfl
  | 20, _ => exact wall_t7 35 rfl rfl
  | 21, _ => exact wall_t7 37 rfl rfl
  | 22, _ => exact wall_t7 39 rfl rfl
  | 23, _ => exact wall_t7 41 rfl rfl
  | 24, _ => exact wall_t7 43 rfl rfl
  | 25, _ => exact wall_t7 45 rfl rfl
  | 26, _ => exact wall_t7 47 rfl rfl
  | 27, _ => exact wall_t7 49 rfl rfl
  | 28, _ => exact wall_t7 51 rfl rfl
  | 29, _ => exact wall_t7 53 rfl rfl
  | 30, _ => exact wall_t7 55 rfl rfl
  | 31, _ => exact wall_t7 57 rfl rfl
  | 32, _ => exact wall_t7 59 rfl rfl
  | 33, _ => exact wall_t7 61 rfl rfl
  | 34, _ => exact wall_t7 63 rfl rfl
  | 35, _ => exact wall_t7 65 rfl rfl
  | 36, _ => exact wall_t7 67 rfl rfl
  | 37, _ => exact wall_t7 69 rfl rfl
  | 38, _ => exact wall_t7 71 rfl rfl
  | 39, _ => exact wall_t7 73 rfl rfl
  | 40, _ => exact wall_t7 75 rfl rfl
  | 41, _ => exact wall_t7 77 rfl rfl
  | 42, _ => exact wall_t7 79 rfl rfl
  | 43, _ => exact wall_t7 81 rfl rfl
  | 44, _ => exact wall_t7 83 rfl rfl
  | 45, _ => exact wall_t7 85 rfl rfl
  | 46, _ => exact wall_t7 87 rfl rfl
  | 47, _ => exact wall_t7 89 rfl rfl
  | 48, _ => exact wall_t7 91 rfl rfl
  | 49, _ => exact wall_t7 93 rfl rfl
  | 50, _ => exact wall_t7 95 rfl rfl
  | 51, _ => exact wall_t7 97 rfl rfl
  | 52, _ => exact wall_t7 99 rfl rfl
  | 53, _ => exact wall_t7 101 rfl rfl
  | 54, _ => exact wall_t7 103 rfl rfl
  | k + 55, hk => exact absurd hk (by omega)
