/-! ROWS of G: throws -/
theorem Dyn.kept {E : EE} {φ : Nat → Nat} {M : Mem} {H H1 : Heap} (h : Dyn E φ M H) (hq : ∀ q : Nat, q < H.size → H1[q]? = H[q]?) : Dyn E φ M H1 :=
  ⟨fun k q hk => (h.1 k q hk).kept (hq _ (h.1 k q hk).lt), h.2.1, h.2.2⟩
section ZG
variable {mi mi2 : MI} {fr fr2 : Nat} {o : OC} {M' M M1 : Mem} {pc pc' : Nat} {lv lv' : List (Option AV)} {st : List AV} {k u k' u' : Nat}
theorem atN_ok {p : Program} {l : Launch} {s : State} {m : MethodId} {args : Array Value} {meth : Method} {c : Code} {E : EE} {φ0 : Nat → Nat} (B : Bd mi p l s m args meth c E φ0) : ∀ w ∈ atNS, w.before args s = true := by
  intro w hw
  by_cases hg : goodWord w = true
  · exact B.2.2.2.2.2.1 w (List.mem_filter.mpr ⟨atNS_in w (List.mem_filter.mpr ⟨hw, hg⟩), hg⟩)
  · have h1 := atNS_no w (List.mem_filter.mpr ⟨hw, by simpa using hg⟩)
    have hN := B.2.2.2.2.2.2.2.2.2.2.2.nst
    rcases List.mem_cons.mp h1 with h2 | h2
    · subst h2
      exact va_Nw.use rfl (hN.2.2.1 (xNS, xNS) (List.mem_of_getElem? (i := 1) rfl))
    · unfold atDs at h2
      simp only [List.mem_cons, List.not_mem_nil, or_false] at h2
      rcases h2 with h2 | h2 | h2
      · subst h2; exact va_Nw.use rfl (hN.2.2.2.2 _ (List.mem_of_getElem? (i := 0) rfl))
      · subst h2; exact va_Nw.use rfl (hN.2.2.2.2 _ (List.mem_of_getElem? (i := 1) rfl))
      · subst h2; exact va_Nw.use rfl (hN.2.2.2.2 _ (List.mem_of_getElem? (i := 2) rfl))
theorem g_throwN {xi is : Nat} {tx : String} (hx : xTab[xi]? = some (is, tx)) (d0 : decode (miC mi) pc = .ok (.new 202, 3)) (d3 : decode (miC mi) (pc + 3) = .ok (.dup, 1)) (d4 : decode (miC mi) (pc + 4) = .ok (.ldc is, 2)) (d6 : decode (miC mi) (pc + 6) = .ok (.invokespecial 206, 3)) (d9 : decode (miC mi) (pc + 9) = .ok (.athrow, 1)) (hown : (miY mi).cls = RX11) (hh : miH mi = []) (hf : 6 ≤ fr) (hcs : csum st ≤ 8) (hk : k + 1 ≤ miMc mi) (hu : u + 6 ≤ miMs mi) : G mi fr (.inr xNS) M pc lv st M k u := by
  intro p l e s m args below meth c E φ0 n0 B φ H locs ls hE hn hD hS hl
  obtain ⟨sa, hsa⟩ := B.2.2.2.2.2.2.2.2.2.2.2.2.2.1 _ (List.mem_of_getElem? hx)
  have hc : s.vm.findClass RX11 = some m.cls := by rw [← hown]; exact B.2.2.2.2.1
  exact vz_throw (cc := miC mi) (own := RX11) (cls := xNS) (names := zNs) (rx := cNS) B.1 B.2.1 B.2.2.2.2.2.2.2.1 (by decide +kernel) (by decide +kernel) (by decide +kernel) (by decide +kernel) hc (by decide +kernel) (by decide +kernel) (B.2.2.2.2.2.1 _ q_831) (B.2.2.2.2.2.1 _ wall_i_java_util_NoSuchElementException) hsa (atN_ok B) atNS_ot B.2.2.2.2.2.2.2.2.2.2.2.2.2.2.1 B.2.2.2.2.2.2.2.2.2.2.2.2.2.2.2.1 hS (hl.1.trans B.2.2.1.symm) d0 d3 d4 d6 d9 (fun x hx => by rw [B.2.2.2.2.2.2.2.2.1, hh] at hx; cases hx) (by show 2 + 3 < fr; omega) (by rw [csum_eq]; show csum st + (13 * (2 + 1) + 43) ≤ 64 * fr; omega) hk hu B.2.2.2.2.2.2.1
    (fun t ha hz hq => ⟨⟨φ, rfl, hE, hD.kept hq, hn⟩, Nat.le_trans hS.1 hz, fun q h1 h2 => (hq q (Nat.lt_of_lt_of_le h1 hS.1)).trans (hS.2.1 q h1 h2)⟩) hS.2.2 hk hu
theorem g_throwNW {xi is : Nat} {tx : String} (hx : xTab[xi]? = some (is, tx)) (d0 : decode (miC mi) pc = .ok (.new 202, 3)) (d3 : decode (miC mi) (pc + 3) = .ok (.dup, 1)) (d4 : decode (miC mi) (pc + 4) = .ok (.ldc_w is, 3)) (d6 : decode (miC mi) (pc + 7) = .ok (.invokespecial 206, 3)) (d9 : decode (miC mi) (pc + 10) = .ok (.athrow, 1)) (hown : (miY mi).cls = RX11) (hh : miH mi = []) (hf : 6 ≤ fr) (hcs : csum st ≤ 8) (hk : k + 1 ≤ miMc mi) (hu : u + 6 ≤ miMs mi) : G mi fr (.inr xNS) M pc lv st M k u := by
  intro p l e s m args below meth c E φ0 n0 B φ H locs ls hE hn hD hS hl
  obtain ⟨sa, hsa⟩ := B.2.2.2.2.2.2.2.2.2.2.2.2.2.1 _ (List.mem_of_getElem? hx)
  have hc : s.vm.findClass RX11 = some m.cls := by rw [← hown]; exact B.2.2.2.2.1
  exact vz_throwW (cc := miC mi) (own := RX11) (cls := xNS) (names := zNs) (rx := cNS) B.1 B.2.1 B.2.2.2.2.2.2.2.1 (by decide +kernel) (by decide +kernel) (by decide +kernel) (by decide +kernel) hc (by decide +kernel) (by decide +kernel) (B.2.2.2.2.2.1 _ q_831) (B.2.2.2.2.2.1 _ wall_i_java_util_NoSuchElementException) hsa (atN_ok B) atNS_ot B.2.2.2.2.2.2.2.2.2.2.2.2.2.2.1 B.2.2.2.2.2.2.2.2.2.2.2.2.2.2.2.1 hS (hl.1.trans B.2.2.1.symm) d0 d3 d4 d6 d9 (fun x hx => by rw [B.2.2.2.2.2.2.2.2.1, hh] at hx; cases hx) (by show 2 + 3 < fr; omega) (by rw [csum_eq]; show csum st + (13 * (2 + 1) + 43) ≤ 64 * fr; omega) hk hu B.2.2.2.2.2.2.1
    (fun t ha hz hq => ⟨⟨φ, rfl, hE, hD.kept hq, hn⟩, Nat.le_trans hS.1 hz, fun q h1 h2 => (hq q (Nat.lt_of_lt_of_le h1 hS.1)).trans (hS.2.1 q h1 h2)⟩) hS.2.2 hk hu
theorem atA_ok {p : Program} {l : Launch} {s : State} {m : MethodId} {args : Array Value} {meth : Method} {c : Code} {E : EE} {φ0 : Nat → Nat} (B : Bd mi p l s m args meth c E φ0) : ∀ w ∈ atIA, w.before args s = true := by
  intro w hw
  by_cases hg : goodWord w = true
  · exact B.2.2.2.2.2.1 w (List.mem_filter.mpr ⟨atIA_in w (List.mem_filter.mpr ⟨hw, hg⟩), hg⟩)
  · have h1 := atIA_no w (List.mem_filter.mpr ⟨hw, by simpa using hg⟩)
    have hN := B.2.2.2.2.2.2.2.2.2.2.2.nst
    rcases List.mem_cons.mp h1 with h2 | h2
    · subst h2
      exact va_Nw.use rfl (hN.2.2.1 (xIA, xIA) (List.mem_of_getElem? (i := 0) rfl))
    · unfold atDs at h2
      simp only [List.mem_cons, List.not_mem_nil, or_false] at h2
      rcases h2 with h2 | h2 | h2
      · subst h2; exact va_Nw.use rfl (hN.2.2.2.2 _ (List.mem_of_getElem? (i := 0) rfl))
      · subst h2; exact va_Nw.use rfl (hN.2.2.2.2 _ (List.mem_of_getElem? (i := 1) rfl))
      · subst h2; exact va_Nw.use rfl (hN.2.2.2.2 _ (List.mem_of_getElem? (i := 2) rfl))
theorem g_throwA {xi is : Nat} {tx : String} (hx : xTab[xi]? = some (is, tx)) (d0 : decode (miC mi) pc = .ok (.new 260, 3)) (d3 : decode (miC mi) (pc + 3) = .ok (.dup, 1)) (d4 : decode (miC mi) (pc + 4) = .ok (.ldc is, 2)) (d6 : decode (miC mi) (pc + 6) = .ok (.invokespecial 264, 3)) (d9 : decode (miC mi) (pc + 9) = .ok (.athrow, 1)) (hown : (miY mi).cls = RX11) (hh : miH mi = []) (hf : 6 ≤ fr) (hcs : csum st ≤ 8) (hk : k + 1 ≤ miMc mi) (hu : u + 6 ≤ miMs mi) : G mi fr (.inr xIA) M pc lv st M k u := by
  intro p l e s m args below meth c E φ0 n0 B φ H locs ls hE hn hD hS hl
  obtain ⟨sa, hsa⟩ := B.2.2.2.2.2.2.2.2.2.2.2.2.2.1 _ (List.mem_of_getElem? hx)
  have hc : s.vm.findClass RX11 = some m.cls := by rw [← hown]; exact B.2.2.2.2.1
  exact vz_throw (cc := miC mi) (own := RX11) (cls := xIA) (names := zNs) (rx := cIA) B.1 B.2.1 B.2.2.2.2.2.2.2.1 (by decide +kernel) (by decide +kernel) (by decide +kernel) (by decide +kernel) hc (by decide +kernel) (by decide +kernel) (B.2.2.2.2.2.1 _ q_182) (B.2.2.2.2.2.1 _ wall_i_java_lang_IllegalArgumentException) hsa (atA_ok B) atIA_ot B.2.2.2.2.2.2.2.2.2.2.2.2.2.2.1 B.2.2.2.2.2.2.2.2.2.2.2.2.2.2.2.1 hS (hl.1.trans B.2.2.1.symm) d0 d3 d4 d6 d9 (fun x hx => by rw [B.2.2.2.2.2.2.2.2.1, hh] at hx; cases hx) (by show 2 + 3 < fr; omega) (by rw [csum_eq]; show csum st + (13 * (2 + 1) + 43) ≤ 64 * fr; omega) hk hu B.2.2.2.2.2.2.1
    (fun t ha hz hq => ⟨⟨φ, rfl, hE, hD.kept hq, hn⟩, Nat.le_trans hS.1 hz, fun q h1 h2 => (hq q (Nat.lt_of_lt_of_le h1 hS.1)).trans (hS.2.1 q h1 h2)⟩) hS.2.2 hk hu
theorem g_throwAW {xi is : Nat} {tx : String} (hx : xTab[xi]? = some (is, tx)) (d0 : decode (miC mi) pc = .ok (.new 260, 3)) (d3 : decode (miC mi) (pc + 3) = .ok (.dup, 1)) (d4 : decode (miC mi) (pc + 4) = .ok (.ldc_w is, 3)) (d6 : decode (miC mi) (pc + 7) = .ok (.invokespecial 264, 3)) (d9 : decode (miC mi) (pc + 10) = .ok (.athrow, 1)) (hown : (miY mi).cls = RX11) (hh : miH mi = []) (hf : 6 ≤ fr) (hcs : csum st ≤ 8) (hk : k + 1 ≤ miMc mi) (hu : u + 6 ≤ miMs mi) : G mi fr (.inr xIA) M pc lv st M k u := by
  intro p l e s m args below meth c E φ0 n0 B φ H locs ls hE hn hD hS hl
  obtain ⟨sa, hsa⟩ := B.2.2.2.2.2.2.2.2.2.2.2.2.2.1 _ (List.mem_of_getElem? hx)
  have hc : s.vm.findClass RX11 = some m.cls := by rw [← hown]; exact B.2.2.2.2.1
  exact vz_throwW (cc := miC mi) (own := RX11) (cls := xIA) (names := zNs) (rx := cIA) B.1 B.2.1 B.2.2.2.2.2.2.2.1 (by decide +kernel) (by decide +kernel) (by decide +kernel) (by decide +kernel) hc (by decide +kernel) (by decide +kernel) (B.2.2.2.2.2.1 _ q_182) (B.2.2.2.2.2.1 _ wall_i_java_lang_IllegalArgumentException) hsa (atA_ok B) atIA_ot B.2.2.2.2.2.2.2.2.2.2.2.2.2.2.1 B.2.2.2.2.2.2.2.2.2.2.2.2.2.2.2.1 hS (hl.1.trans B.2.2.1.symm) d0 d3 d4 d6 d9 (fun x hx => by rw [B.2.2.2.2.2.2.2.2.1, hh] at hx; cases hx) (by show 2 + 3 < fr; omega) (by rw [csum_eq]; show csum st + (13 * (2 + 1) + 43) ≤ 64 * fr; omega) hk hu B.2.2.2.2.2.2.1
    (fun t ha hz hq => ⟨⟨φ, rfl, hE, hD.kept hq, hn⟩, Nat.le_trans hS.1 hz, fun q h1 h2 => (hq q (Nat.lt_of_lt_of_le h1 hS.1)).trans (hS.2.1 q h1 h2)⟩) hS.2.2 hk hu
end ZG
