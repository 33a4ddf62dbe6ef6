/-! THE START: what stays, whole -/
theorem xFull_of : ∀ q ∈ xTab, ∃ bs, (RX11, q.1, q.2, bs) ∈ xFull := List.forall_mem_cons.mpr ⟨⟨_, List.mem_of_getElem? (i := 0) rfl⟩, List.forall_mem_cons.mpr ⟨⟨_, List.mem_of_getElem? (i := 1) rfl⟩, List.forall_mem_cons.mpr ⟨⟨_, List.mem_of_getElem? (i := 2) rfl⟩, List.forall_mem_cons.mpr ⟨⟨_, List.mem_of_getElem? (i := 3) rfl⟩, List.forall_mem_cons.mpr ⟨⟨_, List.mem_of_getElem? (i := 4) rfl⟩, List.forall_mem_cons.mpr ⟨⟨_, List.mem_of_getElem? (i := 5) rfl⟩, List.forall_mem_cons.mpr ⟨⟨_, List.mem_of_getElem? (i := 6) rfl⟩, List.forall_mem_cons.mpr ⟨⟨_, List.mem_of_getElem? (i := 7) rfl⟩, List.forall_mem_cons.mpr ⟨⟨_, List.mem_of_getElem? (i := 8) rfl⟩, List.forall_mem_cons.mpr ⟨⟨_, List.mem_of_getElem? (i := 9) rfl⟩, List.forall_mem_cons.mpr ⟨⟨_, List.mem_of_getElem? (i := 10) rfl⟩, List.forall_mem_cons.mpr ⟨⟨_, List.mem_of_getElem? (i := 11) rfl⟩, List.forall_mem_cons.mpr ⟨⟨_, List.mem_of_getElem? (i := 12) rfl⟩, List.forall_mem_cons.mpr ⟨⟨_, List.mem_of_getElem? (i := 13) rfl⟩, List.forall_mem_cons.mpr ⟨⟨_, List.mem_of_getElem? (i := 14) rfl⟩, List.forall_mem_cons.mpr ⟨⟨_, List.mem_of_getElem? (i := 15) rfl⟩, fun _ h => absurd h List.not_mem_nil⟩⟩⟩⟩⟩⟩⟩⟩⟩⟩⟩⟩⟩⟩⟩⟩
theorem st_sta {s : State} {b : Nat} (hgv : gvC.before #[Value.ref b] s = true) (hts : ∀ w ∈ lw_tbl, w.before #[Value.ref b] s = true) : ∃ (E : EE) (φ0 : Nat → Nat), E.1 = s.heap.size ∧ φ0 4000000 = b ∧ Sta E φ0 s s.heap := by
  have hf := flat_of_before _ hgv
  have hA : ∀ a : Nat, a < s.heap.size → ¬ (fun q => s.heap.size ≤ q) a := fun a h h2 => Nat.not_le.mpr h h2
  obtain ⟨c0, i0, hk0⟩ := u_known (C := RX0) (T := TX0) (N := 5) (n := 5) hts (fun w h => wall_tbl (inX0 w h)) (hts _ (wall_tbl q_625))
  obtain ⟨c1, i1, hk1⟩ := u_known (C := RX1) (T := TX1) (N := 7) (n := 7) hts (fun w h => wall_tbl (inX1 w h)) (hts _ (wall_tbl q_26))
  obtain ⟨c2, i2, hk2⟩ := u_known (C := RX2) (T := TX2) (N := 5) (n := 5) hts (fun w h => wall_tbl (inX2 w h)) (hts _ (wall_tbl q_88))
  obtain ⟨c3, i3, hk3⟩ := u_known (C := RX3) (T := TX3) (N := 6) (n := 6) hts (fun w h => wall_tbl (inX3 w h)) (hts _ (wall_tbl q_49))
  obtain ⟨c4, i4, hk4⟩ := u_known (C := RX4) (T := TX4) (N := 6) (n := 6) hts (fun w h => wall_tbl (inX4 w h)) (hts _ (wall_tbl q_22))
  obtain ⟨c5, i5, hk5⟩ := u_known (C := RX5) (T := TX5) (N := 13) (n := 13) hts (fun w h => wall_tbl (inX5 w h)) (hts _ (wall_tbl q_43))
  obtain ⟨c6, i6, hk6⟩ := u_known (C := RX6) (T := TX6) (N := 6) (n := 6) hts (fun w h => wall_tbl (inX6 w h)) (hts _ (wall_tbl q_18))
  obtain ⟨c7, i7, hk7⟩ := u_known (C := RX7) (T := TX7) (N := 6) (n := 6) hts (fun w h => wall_tbl (inX7 w h)) (hts _ (wall_tbl q_38))
  obtain ⟨c8, i8, hk8⟩ := u_known (C := RX8) (T := TX8) (N := 8) (n := 8) hts (fun w h => wall_tbl (inX8 w h)) (hts _ (wall_tbl q_30))
  obtain ⟨c9, i9, hk9⟩ := u_known (C := RX9) (T := TX9) (N := 6) (n := 6) hts (fun w h => wall_tbl (inX9 w h)) (hts _ (wall_tbl q_14))
  obtain ⟨c10, i10, hk10⟩ := u_known (C := RX10) (T := TX10) (N := 7) (n := 7) hts (fun w h => wall_tbl (inX10 w h)) (hts _ (wall_tbl q_34))
  obtain ⟨c11, i11, hk11⟩ := u_known (C := RX11) (T := TX11) (N := 15) (n := 15) hts (fun w h => wall_tbl (inX11 w h)) (hts _ (wall_tbl q_1))
  obtain ⟨c12, i12, hk12⟩ := u_known (C := RX12) (T := TX12) (N := 55) (n := 55) hts (fun w h => wall_tbl (inX12 w h)) (hts _ (wall_tbl q_4))
  obtain ⟨dC, dI, hKc⟩ : ∃ (dC : Nat → ClassId) (dI : Nat → Nat → Nat), ∀ (k : Nat) (q : vw_C), vwCl[k]? = some q → u_Kn s q.1 q.2.1 q.2.2 (dC k) (dI k) := by
    refine ⟨fun k => [c0, c1, c2, c3, c4, c5, c6, c7, c8, c9, c10, c11, c12].getD k c0, fun k => [i0, i1, i2, i3, i4, i5, i6, i7, i8, i9, i10, i11, i12].getD k i0, ?_⟩
    intro k q hq
    match k, hq with
    | 0, hq => cases hq; exact hk0
    | 1, hq => cases hq; exact hk1
    | 2, hq => cases hq; exact hk2
    | 3, hq => cases hq; exact hk3
    | 4, hq => cases hq; exact hk4
    | 5, hq => cases hq; exact hk5
    | 6, hq => cases hq; exact hk6
    | 7, hq => cases hq; exact hk7
    | 8, hq => cases hq; exact hk8
    | 9, hq => cases hq; exact hk9
    | 10, hq => cases hq; exact hk10
    | 11, hq => cases hq; exact hk11
    | 12, hq => cases hq; exact hk12
    | k + 13, hq => cases hq
  obtain ⟨a21, g21⟩ := st_arr (hts _ (wall_tbl wall_aint)) (fun _ h => by cases h)
  obtain ⟨a22, g22⟩ := st_arr (hts _ (wall_tbl wall_along)) (fun _ h => by cases h)
  have w23 : (Cond.arrayOver (.object RX2)).before #[Value.ref b] s = true := hts _ (List.mem_append_right _ (wall_c1 (List.mem_of_getElem? (i := 222) rfl)))
  obtain ⟨a23, g23⟩ := st_over w23
  have w24 : (Cond.arrayOver (.object RX0)).before #[Value.ref b] s = true := hts _ (List.mem_append_right _ (wall_c1 (List.mem_of_getElem? (i := 224) rfl)))
  obtain ⟨a24, g24⟩ := st_over w24
  have w26 : (Cond.arrayOver (.object "java/lang/String")).before #[Value.ref b] s = true := hts _ (List.mem_append_right _ (wall_c6 (List.mem_of_getElem? (i := 168) rfl)))
  obtain ⟨a26, g26⟩ := st_over w26
  have w25 : (Cond.arrayOver (.array .int)).before #[Value.ref b] s = true := hts _ (List.mem_append_right _ (wall_c1 (List.mem_of_getElem? (i := 158) rfl)))
  obtain ⟨a25, g25⟩ := st_over2 w25
  have hT : ∀ k : Nat, ∃ p : Nat × Nat, ∀ q, sTab[k]? = some q → vk_R q.1 q.2.1 q.2.2.1 p.1 s ∧ va_O "java/lang/String" p.1 (fun q => s.heap.size ≤ q) s s.heap ∧ va_OF "java/lang/String" "coder" "B" (.int 0) p.1 (fun q => s.heap.size ≤ q) s s.heap ∧ va_OF "java/lang/String" "value" "[B" (.ref p.2) p.1 (fun q => s.heap.size ≤ q) s s.heap ∧ va_T .byte p.2 q.2.2.2.length (fun j => .int (q.2.2.2.getD j 0)) (fun q => s.heap.size ≤ q) s s.heap := by
    intro k
    cases h : sTab[k]? with
    | none => exact ⟨(0, 0), fun q hq => by cases hq⟩
    | some q =>
      obtain ⟨ak, av, r⟩ := st_text hgv hts hA (List.mem_append_left xFull (List.mem_of_getElem? h))
      exact ⟨(ak, av), fun q' hq => by cases hq; exact r⟩
  obtain ⟨F, hF⟩ := Classical.axiomOfChoice hT
  have hZ := va_Zqof (A := fun q => s.heap.size ≤ q) (C := "jdk/internal/util/Preconditions") (n := "SIOOBE_FORMATTER") (d := "Ljava/util/function/BiFunction;") (hts _ (List.mem_append_right _ (wall_c4 (List.mem_of_getElem? (i := 61) rfl)))) (hts _ (wall_tbl wall_i_jdk_internal_util_Preconditions)) (hf _ (List.mem_of_getElem? (i := 7) (by decide +kernel))) hA
  obtain ⟨tS, hZ⟩ : ∃ tS : Nat, va_Z "jdk/internal/util/Preconditions" "SIOOBE_FORMATTER" "Ljava/util/function/BiFunction;" .null (fun q => s.heap.size ≤ q) s s.heap ∨ va_Z "jdk/internal/util/Preconditions" "SIOOBE_FORMATTER" "Ljava/util/function/BiFunction;" (.ref tS) (fun q => s.heap.size ≤ q) s s.heap := by
    rcases hZ with h | ⟨t, h⟩
    · exact ⟨0, Or.inl h⟩
    · exact ⟨t, Or.inr h⟩
  refine ⟨(s.heap.size, (dC, dI), fun t => if t = 21 then a21 else if t = 22 then a22 else if t = 23 then a23 else if t = 24 then a24 else if t = 25 then a25 else a26, fun k => (F k).2), fun r => if r = 4000000 then b else if r = 3000000 then tS else if 2000000 ≤ r then (F (r - 2000000)).2 else (F (r - 1000000)).1, rfl, rfl, ⟨hKc, ?_⟩, ?_, ?_, ?_, ?_, ⟨?_, ?_, ?_, ?_, ?_⟩, ?_, ?_, ?_⟩
  · intro k q hq
    match k, hq with
    | 0, hq => cases hq; exact g21
    | 1, hq => cases hq; exact g22
    | 2, hq => cases hq; exact g23
    | 3, hq => cases hq; exact g24
    | 4, hq => cases hq; exact g25
    | 5, hq => cases hq; exact g26
    | k + 6, hq => cases hq
  · intro k q hq
    have hlt : k < 20 := (List.getElem?_eq_some_iff.mp hq).1
    have e1 : (if 1000000 + k = 4000000 then b else if 1000000 + k = 3000000 then tS else if 2000000 ≤ 1000000 + k then (F (1000000 + k - 2000000)).2 else (F (1000000 + k - 1000000)).1) = (F k).1 := by
      rw [if_neg (by omega), if_neg (by omega), if_neg (by omega), show 1000000 + k - 1000000 = k by omega]
    dsimp only
    rw [e1]
    exact hF k q hq
  · intro q hq
    obtain ⟨i, hi⟩ := List.getElem?_of_mem hq
    have hx : ∃ bs, (RX11, q.1, q.2, bs) ∈ xFull := xFull_of q hq
    obtain ⟨bs, hx⟩ := hx
    obtain ⟨ak, av, r⟩ := st_text hgv hts hA (List.mem_append_right sTab hx)
    exact ⟨ak, r.1⟩
  · exact vx_Zqof (hts _ (List.mem_append_right _ (wall_c3 (List.mem_of_getElem? (i := 190) rfl)))) (hts _ (List.mem_append_right _ (wall_c1 (List.mem_of_getElem? (i := 13) rfl)))) (hf _ (List.mem_of_getElem? (i := 4) (by decide +kernel))) hA
  · exact vx_Zqof (hts _ (List.mem_append_right _ (wall_c3 (List.mem_of_getElem? (i := 192) rfl)))) (hts _ (List.mem_append_right _ (wall_c1 (List.mem_of_getElem? (i := 13) rfl)))) (hf _ (List.mem_of_getElem? (i := 5) (by decide +kernel))) hA
  · exact List.forall_mem_cons.mpr ⟨va_Nw.of rfl (hts _ (List.mem_append_right _ (wall_c1 (List.mem_of_getElem? (i := 36) rfl)))), List.forall_mem_cons.mpr ⟨va_Nw.of rfl (hts _ (List.mem_append_right _ (wall_c1 (List.mem_of_getElem? (i := 69) rfl)))), List.forall_mem_cons.mpr ⟨va_Nw.of rfl (hts _ (List.mem_append_right _ (wall_c1 (List.mem_of_getElem? (i := 94) rfl)))), List.forall_mem_cons.mpr ⟨va_Nw.of rfl (hts _ (List.mem_append_right _ (wall_c1 (List.mem_of_getElem? (i := 121) rfl)))), List.forall_mem_cons.mpr ⟨va_Nw.of rfl (hts _ (List.mem_append_right _ (wall_c1 (List.mem_of_getElem? (i := 153) rfl)))), List.forall_mem_cons.mpr ⟨va_Nw.of rfl (hts _ (List.mem_append_right _ (wall_c1 (List.mem_of_getElem? (i := 187) rfl)))), List.forall_mem_cons.mpr ⟨va_Nw.of rfl (hts _ (List.mem_append_right _ (wall_c1 (List.mem_of_getElem? (i := 226) rfl)))), List.forall_mem_cons.mpr ⟨va_Nw.of rfl (hts _ (List.mem_append_right _ (wall_c2 (List.mem_of_getElem? (i := 59) rfl)))), List.forall_mem_cons.mpr ⟨va_Nw.of rfl (hts _ (List.mem_append_right _ (wall_c2 (List.mem_of_getElem? (i := 152) rfl)))), List.forall_mem_cons.mpr ⟨va_Nw.of rfl (hts _ (List.mem_append_right _ (wall_c5 (List.mem_of_getElem? (i := 153) rfl)))), List.forall_mem_cons.mpr ⟨va_Nw.of rfl (hts _ (List.mem_append_right _ (wall_c5 (List.mem_of_getElem? (i := 190) rfl)))), fun _ h => absurd h List.not_mem_nil⟩⟩⟩⟩⟩⟩⟩⟩⟩⟩⟩
  · exact List.forall_mem_cons.mpr ⟨w23, List.forall_mem_cons.mpr ⟨w24, List.forall_mem_cons.mpr ⟨w26, List.forall_mem_cons.mpr ⟨w25, fun _ h => absurd h List.not_mem_nil⟩⟩⟩⟩
  · exact List.forall_mem_cons.mpr ⟨va_Nw.of rfl (hts _ (List.mem_append_right _ (wall_c3 (List.mem_of_getElem? (i := 165) rfl)))), List.forall_mem_cons.mpr ⟨va_Nw.of rfl (hts _ (List.mem_append_right _ (wall_c5 (List.mem_of_getElem? (i := 32) rfl)))), fun _ h => absurd h List.not_mem_nil⟩⟩
  · exact va_Nc.of (hf _ (List.mem_of_getElem? (i := 37) (by decide +kernel)))
  · exact List.forall_mem_cons.mpr ⟨va_Nw.of rfl (hts _ (List.mem_append_right _ (wall_c3 (List.mem_of_getElem? (i := 167) rfl)))), List.forall_mem_cons.mpr ⟨va_Nw.of rfl (hts _ (List.mem_append_right _ (wall_c3 (List.mem_of_getElem? (i := 169) rfl)))), List.forall_mem_cons.mpr ⟨va_Nw.of rfl (hts _ (List.mem_append_right _ (wall_c3 (List.mem_of_getElem? (i := 171) rfl)))), fun _ h => absurd h List.not_mem_nil⟩⟩⟩
  · intro k hk
    show (if 2000000 + k = 4000000 then b else if 2000000 + k = 3000000 then tS else if 2000000 ≤ 2000000 + k then (F (2000000 + k - 2000000)).2 else (F (2000000 + k - 1000000)).1) = (F k).2
    rw [if_neg (by omega), if_neg (by omega), if_pos (by omega), show 2000000 + k - 2000000 = k by omega]
  · exact va_Zof (hts _ (List.mem_append_right _ (wall_c4 (List.mem_of_getElem? (i := 41) rfl)))) (hts _ (wall_tbl wall_i_java_lang_String)) (va_eqi (hf _ (List.mem_of_getElem? (i := 6) (by decide +kernel)))) hA
  · exact hZ
