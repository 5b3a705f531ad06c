/-! ===== the start ===== -/
section ST
variable {s : State} {b : Nat}
theorem kn0 (hts : ∀ w ∈ lw_tbl, w.before #[Value.ref b] s = true) : ∃ (cC : ClassId) (iS : Nat → Nat), u_Kn s RX0 TX0 4 cC iS := u_known (ws := FT) (n := 4) (fun w hw => hts w (List.mem_filter.mp hw).1) uw_X0 (hts (.instantiable RX0 4) (List.mem_of_getElem? (i := 116) (by decide +kernel)))
theorem kn1 (hts : ∀ w ∈ lw_tbl, w.before #[Value.ref b] s = true) : ∃ (cC : ClassId) (iS : Nat → Nat), u_Kn s RX1 TX1 9 cC iS := u_known (ws := FT) (n := 9) (fun w hw => hts w (List.mem_filter.mp hw).1) uw_X1 (hts (.instantiable RX1 9) (List.mem_of_getElem? (i := 110) (by decide +kernel)))
theorem kn2 (hts : ∀ w ∈ lw_tbl, w.before #[Value.ref b] s = true) : ∃ (cC : ClassId) (iS : Nat → Nat), u_Kn s RX2 TX2 2 cC iS := u_known (ws := FT) (n := 2) (fun w hw => hts w (List.mem_filter.mp hw).1) uw_X2 (hts (.instantiable RX2 2) (List.mem_of_getElem? (i := 96) (by decide +kernel)))
theorem kn3 (hts : ∀ w ∈ lw_tbl, w.before #[Value.ref b] s = true) : ∃ (cC : ClassId) (iS : Nat → Nat), u_Kn s RX3 TX3 7 cC iS := u_known (ws := FT) (n := 7) (fun w hw => hts w (List.mem_filter.mp hw).1) uw_X3 (hts (.instantiable RX3 7) (List.mem_of_getElem? (i := 488) (by decide +kernel)))
theorem kn4 (hts : ∀ w ∈ lw_tbl, w.before #[Value.ref b] s = true) : ∃ (cC : ClassId) (iS : Nat → Nat), u_Kn s RX4 TX4 3 cC iS := u_known (ws := FT) (n := 3) (fun w hw => hts w (List.mem_filter.mp hw).1) uw_X4 (hts (.instantiable RX4 3) (List.mem_of_getElem? (i := 274) (by decide +kernel)))
theorem kn5 (hts : ∀ w ∈ lw_tbl, w.before #[Value.ref b] s = true) : ∃ (cC : ClassId) (iS : Nat → Nat), u_Kn s RX5 TX5 6 cC iS := u_known (ws := FT) (n := 6) (fun w hw => hts w (List.mem_filter.mp hw).1) uw_X5 (hts (.instantiable RX5 6) (List.mem_of_getElem? (i := 295) (by decide +kernel)))
theorem kn6 (hts : ∀ w ∈ lw_tbl, w.before #[Value.ref b] s = true) : ∃ (cC : ClassId) (iS : Nat → Nat), u_Kn s RX6 TX6 8 cC iS := u_known (ws := FT) (n := 8) (fun w hw => hts w (List.mem_filter.mp hw).1) uw_X6 (hts (.instantiable RX6 8) (List.mem_of_getElem? (i := 236) (by decide +kernel)))
theorem kn7 (hts : ∀ w ∈ lw_tbl, w.before #[Value.ref b] s = true) : ∃ (cC : ClassId) (iS : Nat → Nat), u_Kn s RX7 TX7 13 cC iS := u_known (ws := FT) (n := 13) (fun w hw => hts w (List.mem_filter.mp hw).1) uw_X7 (hts (.instantiable RX7 13) (List.mem_of_getElem? (i := 139) (by decide +kernel)))
theorem kn8 (hts : ∀ w ∈ lw_tbl, w.before #[Value.ref b] s = true) : ∃ (cC : ClassId) (iS : Nat → Nat), u_Kn s RX8 TX8 8 cC iS := u_known (ws := FT) (n := 8) (fun w hw => hts w (List.mem_filter.mp hw).1) uw_X8 (hts (.instantiable RX8 8) (List.mem_of_getElem? (i := 88) (by decide +kernel)))
theorem kn9 (hts : ∀ w ∈ lw_tbl, w.before #[Value.ref b] s = true) : ∃ (cC : ClassId) (iS : Nat → Nat), u_Kn s RX9 TX9 27 cC iS := u_known (ws := FT) (n := 27) (fun w hw => hts w (List.mem_filter.mp hw).1) uw_X9 (hts (.instantiable RX9 27) (List.mem_of_getElem? (i := 899) (by decide +kernel)))
theorem arr0 (h : (Cond.arrayClass .int).before #[Value.ref b] s = true) : ∃ c : ClassId, ArrOfT s c .int ∧ va_RA s c .int := by
  obtain ⟨c, k, comp, h1, h2, h3⟩ := Cond.arrayClass_spec h
  exact ⟨c, fun n z => ⟨fun q h => (by cases h), k, h2, comp, h3⟩, h1⟩
theorem arr1 (h : (Cond.arrayOver (.array .int)).before #[Value.ref b] s = true) : ∃ c : ClassId, ArrOfT s c (.array .int) ∧ va_RA s c (.array .int) := by
  obtain ⟨comp, c, k, h1, h2, h3, h4, h5⟩ := arrayOverA_spec h
  exact ⟨c, fun n z => ⟨fun q h => (by cases h), k, h3, comp, h4⟩, h5⟩
theorem arr2 (h : (Cond.arrayOver (.object RX7)).before #[Value.ref b] s = true) : ∃ c : ClassId, ArrOfT s c (.object RX7) ∧ va_RA s c (.object RX7) := by
  obtain ⟨comp, c, k, h1, h2, h3, h4, h5⟩ := Cond.arrayOver_spec h
  exact ⟨c, fun n z => ⟨fun q h => (by cases h), k, h3, comp, h4⟩, k, comp, h3, h4, h1, h5⟩
theorem stA (hgv : (Jvm.Cond.and given_1 narrow_1).before #[Value.ref b] s = true) : ∃ t : Nat, (Term.static "FourthFace" "ABOVE" "[I").eval #[Value.ref b] s none [] s = some (.ref t) ∧ va_T .int t 7 (fun j => .int (tabA j)) (fun q => s.heap.size ≤ q) s s.heap := by
  have hs := flat_of_before _ hgv
  refine va_Tof (by decide) (hs (Cond.arrayOf (.static "FourthFace" "ABOVE" "[I") .int) (by decide +kernel)) (va_eqt (z := Int32.ofNat 7) (hs _ (by decide +kernel))) (fun j hj => va_eqt (hs _ ((by decide +kernel : ∀ j, j < 7 → Cond.eq (.elem (.static "FourthFace" "ABOVE" "[I") (.int (Int32.ofNat j))) (.int (tabA j)) ∈ flatC (Jvm.Cond.and given_1 narrow_1)) j hj))) (fun a ha => Nat.not_le.mpr ha)
theorem stB (hgv : (Jvm.Cond.and given_1 narrow_1).before #[Value.ref b] s = true) : ∃ t : Nat, (Term.static "FourthFace$Voices" "BODIES" "[I").eval #[Value.ref b] s none [] s = some (.ref t) ∧ va_T .int t 28 (fun j => .int (tabB j)) (fun q => s.heap.size ≤ q) s s.heap := by
  have hs := flat_of_before _ hgv
  refine va_Tof (by decide) (hs (Cond.arrayOf (.static "FourthFace$Voices" "BODIES" "[I") .int) (by decide +kernel)) (va_eqt (z := Int32.ofNat 28) (hs _ (by decide +kernel))) (fun j hj => va_eqt (hs _ ((by decide +kernel : ∀ j, j < 28 → Cond.eq (.elem (.static "FourthFace$Voices" "BODIES" "[I") (.int (Int32.ofNat j))) (.int (tabB j)) ∈ flatC (Jvm.Cond.and given_1 narrow_1)) j hj))) (fun a ha => Nat.not_le.mpr ha)
theorem start_K (hts : ∀ w ∈ lw_tbl, w.before #[Value.ref b] s = true) (hgv : (Jvm.Cond.and given_1 narrow_1).before #[Value.ref b] s = true) : ∃ D : Dc, D.2.2.1 = s.heap.size ∧ Kk D s := by
  obtain ⟨c0, i0, h0⟩ := kn0 hts
  obtain ⟨c1, i1, h1⟩ := kn1 hts
  obtain ⟨c2, i2, h2⟩ := kn2 hts
  obtain ⟨c3, i3, h3⟩ := kn3 hts
  obtain ⟨c4, i4, h4⟩ := kn4 hts
  obtain ⟨c5, i5, h5⟩ := kn5 hts
  obtain ⟨c6, i6, h6⟩ := kn6 hts
  obtain ⟨c7, i7, h7⟩ := kn7 hts
  obtain ⟨c8, i8, h8⟩ := kn8 hts
  obtain ⟨c9, i9, h9⟩ := kn9 hts
  have hov1 := hts (.arrayOver (.array .int)) (List.mem_of_getElem? (i := 280) (by decide +kernel))
  have hov2 := hts (.arrayOver (.object RX7)) (List.mem_of_getElem? (i := 242) (by decide +kernel))
  obtain ⟨e0, f0⟩ := arr0 (hts (.arrayClass .int) (List.mem_of_getElem? (i := 108) (by decide +kernel)))
  obtain ⟨e1, f1⟩ := arr1 hov1
  obtain ⟨e2, f2⟩ := arr2 hov2
  obtain ⟨tA, ha, hA⟩ := stA hgv
  obtain ⟨tB, hb, hB⟩ := stB hgv
  refine ⟨((fun k => [c0, c1, c2, c3, c4, c5, c6, c7, c8, c9].getD k c0, fun k => [i0, i1, i2, i3, i4, i5, i6, i7, i8, i9].getD k i0), fun k => [e0, e1, e2].getD k e0, s.heap.size, tA, tB), rfl, ⟨fun k q hq => ?_, fun k q hq => ?_⟩, Nat.le_refl _, ⟨?_, hA⟩, ⟨?_, hB⟩, fun q hq => ?_, ?_, hov2, hov1, ?_⟩
  · rcases k with _ | _ | _ | _ | _ | _ | _ | _ | _ | _ | k
    · obtain rfl := Option.some.inj hq; exact h0
    · obtain rfl := Option.some.inj hq; exact h1
    · obtain rfl := Option.some.inj hq; exact h2
    · obtain rfl := Option.some.inj hq; exact h3
    · obtain rfl := Option.some.inj hq; exact h4
    · obtain rfl := Option.some.inj hq; exact h5
    · obtain rfl := Option.some.inj hq; exact h6
    · obtain rfl := Option.some.inj hq; exact h7
    · obtain rfl := Option.some.inj hq; exact h8
    · obtain rfl := Option.some.inj hq; exact h9
    · cases hq
  · rcases k with _ | _ | _ | k
    · obtain rfl := Option.some.inj hq; exact f0
    · obtain rfl := Option.some.inj hq; exact f1
    · obtain rfl := Option.some.inj hq; exact f2
    · cases hq
  · exact va_Zof (hts (.laysStatic "FourthFace" "ABOVE" "[I") (List.mem_of_getElem? (i := 460) (by decide +kernel))) (hts (.initialized "FourthFace") (List.mem_of_getElem? (i := 73) (by decide +kernel))) ha (fun a h => Nat.not_le.mpr h)
  · exact va_Zof (hts (.laysStatic "FourthFace$Voices" "BODIES" "[I") (List.mem_of_getElem? (i := 798) (by decide +kernel))) (hts (.initialized "FourthFace$Voices") (List.mem_of_getElem? (i := 80) (by decide +kernel))) hb (fun a h => Nat.not_le.mpr h)
  · exact va_Nw.of rfl (hts _ ((by decide +kernel : ∀ q ∈ nestM, Cond.methodLinkNest q.1 q.2.1 q.2.2 "FourthFace" ∈ lw_tbl) q hq))
  · exact va_Nw.of rfl (hts (.fieldLinkNest "FourthFace$Voices" 44 "FourthFace" "ABOVE" "[I" "FourthFace") (List.mem_of_getElem? (i := 799) (by decide +kernel)))
  · exact va_Nw.of rfl (hts (.castable "[I" "java/lang/Cloneable") (List.mem_of_getElem? (i := 575) (by decide +kernel)))
end ST
