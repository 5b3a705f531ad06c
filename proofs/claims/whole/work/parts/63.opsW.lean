/-! ===== sheet, put, move, crossings ===== -/
section OW
variable {b : Nat} {S S' S1 S2 S3 S5 S6 : Nat → Nat → Int32} {Q Q' Q1 : Nat → Nat → Nat} {g g' g1 h : Hp} {f k j p q n u c c0 c1 lo hi i e m : Nat} {x y z v r : Int32} {w : Wo} {T : Tx} {K K2 : Nat → Nat} {a a' : Fs} {s s' s0 : Nat → Int32} {t : Dt} {l : List Nat}

theorem c_isWidth1 {d : Nat} (hd : isWd d) : fX4_isWidth (E b S Q g) (b + 105) (nI d) = some (nI 1) := by
  unfold fX4_isWidth
  rw [(rV b S Q g).2.2.2.2.2.2.2.2.2.2.2.2.2.2.2.2.2.2.2.2.2.2.2.2.2.1]
  rcases hd with rfl | rfl | rfl | rfl <;> rfl
theorem c_isWidth0 (h0 : x ≠ nI 0) (h8 : x ≠ nI 8) (h16 : x ≠ nI 16) (h32 : x ≠ nI 32) : fX4_isWidth (E b S Q g) (b + 105) x = some (nI 0) := by
  unfold fX4_isWidth
  simp (disch := omega) only [rV, rN, h0, h8, h16, h32, if_false]
theorem wd_or (x : Int32) : (∃ d, isWd d ∧ x = nI d) ∨ (x ≠ nI 0 ∧ x ≠ nI 8 ∧ x ≠ nI 16 ∧ x ≠ nI 32) := by
  by_cases h0 : x = nI 0
  · exact Or.inl ⟨0, Or.inl rfl, h0⟩
  · by_cases h8 : x = nI 8
    · exact Or.inl ⟨8, Or.inr (Or.inl rfl), h8⟩
    · by_cases h16 : x = nI 16
      · exact Or.inl ⟨16, Or.inr (Or.inr (Or.inl rfl)), h16⟩
      · by_cases h32 : x = nI 32
        · exact Or.inl ⟨32, Or.inr (Or.inr (Or.inr rfl)), h32⟩
        · exact Or.inr ⟨h0, h8, h16, h32⟩
theorem m_sheet0 {d : Nat} (hj : j < 4) (hd : isWd d) : fX9_sheet (E b S Q g) (b + 116) (nI j) (nI d) z = fX9_sheet_35 (E b S Q g) (b + 116) (nI j) (nI d) z := by
  unfold fX9_sheet
  rw [(rM b S Q g).1, m_isSheet1 hj, bind_sm, if_neg (by decide)]
  rcases hd with rfl | rfl | rfl | rfl
  · rw [if_pos (by decide)]
  · rw [if_neg (by decide), if_pos (by decide)]
  · rw [if_neg (by decide), if_neg (by decide), if_pos (by decide)]
  · rw [if_neg (by decide), if_neg (by decide), if_neg (by decide), if_pos (by decide)]
theorem lay_out {d : Nat} (h : Sim b K S Q g) (hj : j < 4) (hd : isWd d) (hn : n ≤ 24) : ∃ S1 S2, fX4_layOut (E b S Q g) (b + 105) (nI j) (nI d) (nI n) = some (E b S1 Q g) ∧ fX9_sheet_90 1000 (E b (up2 (up2 S1 129 j (nI d)) 130 j (nI n)) Q g) (b + 116) (nI j) (nI 0) = some (nI 1, E b S2 Q g) ∧ Sim b K S2 Q g := by
  obtain ⟨-, -, -, -, hS, -⟩ := id h
  obtain ⟨S1, e1, o1, k1⟩ := c_fill (b := b) (S := up2 (up2 S 106 j (nI d)) 107 j (nI n)) (Q := Q) (g := g) hj
  obtain ⟨S2, e2, o2, k2⟩ := m_fill90 (b := b) (S := up2 (up2 S1 129 j (nI d)) 130 j (nI n)) (Q := Q) (g := g) hj
  have n1 : ∀ r, r ≠ 106 → r ≠ 107 → r ≠ 109 + j → S1 r = S r := fun r h1 h2 h3 => by rw [o1 r h3, up2_row (by omega), up2_row (by omega)]
  have n2 : ∀ r, r ≠ 106 → r ≠ 107 → r ≠ 109 + j → r ≠ 129 → r ≠ 130 → r ≠ 131 → S2 r = S r := fun r h1 h2 h3 h4 h5 h6 => by rw [o2 r (by simp; omega), up2_row (by omega), up2_row (by omega), n1 r h1 h2 h3]
  refine ⟨S1, S2, ?_, e2, h.sh (fun r h1 h2 h3 => n2 r (by omega) (by omega) (by omega) (by omega) (by omega) (by omega)) (fun i hi => ?_)⟩
  · unfold fX4_layOut
    simp (disch := omega) only [rV, rN, bind_sm, c_sheetR hj, e1]
  · obtain ⟨⟨d', hd', d1, d2⟩, ⟨n', hn', q1, q2⟩, hrow⟩ := hS i hi
    have a106 : S2 106 i = if i = j then nI d else S 106 i := by rw [o2 106 (by decide), up2_ne (by decide), up2_ne (by decide), o1 106 (by omega), up2_ne (by decide), up2_at]
    have a107 : S2 107 i = if i = j then nI n else S 107 i := by rw [o2 107 (by decide), up2_ne (by decide), up2_ne (by decide), o1 107 (by omega), up2_at, up2_ne (by decide)]
    have a129 : S2 129 i = if i = j then nI d else S 129 i := by rw [o2 129 (by decide), up2_ne (by decide), up2_at, n1 129 (by decide) (by decide) (by omega)]
    have a130 : S2 130 i = if i = j then nI n else S 130 i := by rw [o2 130 (by decide), up2_at, up2_ne (by decide), n1 130 (by decide) (by decide) (by omega)]
    have a131 : ∀ t, S2 131 t = if 24 * j ≤ t ∧ t < 24 * j + 24 then nI 0 else S 131 t := fun t => by rw [k2, up2_ne (by decide), up2_ne (by decide), n1 131 (by decide) (by decide) (by omega)]
    have a109 : S2 (109 + i) = S1 (109 + i) := by rw [o2 (109 + i) (by simp; omega), up2_row (by omega), up2_row (by omega)]
    rw [a106, a107, a129, a130]
    by_cases hij : i = j
    · subst hij
      rw [if_pos rfl, if_pos rfl, if_pos rfl, if_pos rfl]
      refine ⟨⟨d, hd, rfl, rfl⟩, ⟨n, hn, rfl, rfl⟩, fun t ht => ?_⟩
      rw [a109, k1 t ht, a131, if_pos (by omega)]
    · rw [if_neg hij, if_neg hij, if_neg hij, if_neg hij]
      refine ⟨⟨d', hd', d1, d2⟩, ⟨n', hn', q1, q2⟩, fun t ht => ?_⟩
      rw [a109, n1 (109 + i) (by omega) (by omega) (by omega), a131, if_neg (by omega)]
      exact hrow t ht
theorem op_sheet (h : Sim b K S Q g) : Both b S Q g (fun h => fX8_sheet h b x y z) (fun h => fX9_sheet h (b + 116) x y z) := by
  rcases isN_or x 4 with ⟨j, hj, rfl⟩ | hx
  · rcases wd_or y with ⟨d, hd, rfl⟩ | ⟨h0, h8, h16, h32⟩
    · have hd32 := hd.lt
      have c0 : fX8_sheet (E b S Q g) b (nI j) (nI d) z = if nI d = nI 0 then fX8_sheet_42 (E b S Q g) b (nI j) (nI d) z else if nI 0 ≤ z then fX8_sheet_42 (E b S Q g) b (nI j) (nI d) z else (fX8_refuse (E b S Q g) b (nI 3)).bind fun q38 => some (q38.1, q38.2) := by
        unfold fX8_sheet
        simp (disch := omega) only [rO, rN, bind_sm, c_isOne1, c_isWidth1 hd, z10, if_false]
      have done : ∀ n : Nat, n ≤ 24 → (fX8_sheet (E b S Q g) b (nI j) (nI d) z = (fX4_layOut (E b S Q g) (b + 105) (nI j) (nI d) (nI n)).bind fun q73 => some (nI 1, q73)) → (∀ S1 : Nat → Nat → Int32, fX9_sheet (E b S1 Q g) (b + 116) (nI j) (nI d) z = fX9_sheet_90 1000 (E b (up2 (up2 S1 129 j (nI d)) 130 j (nI n)) Q g) (b + 116) (nI j) (nI 0)) → Both b S Q g (fun h => fX8_sheet h b (nI j) (nI d) z) (fun h => fX9_sheet h (b + 116) (nI j) (nI d) z) := by
        intro n hn hF hG
        obtain ⟨S1, S2, e1, e2, hs⟩ := lay_out h hj hd hn
        exact ⟨nI 1, S1, Q, g, S2, K, hF.trans (by rw [e1, bind_sm]), (hG S1).trans e2, hs⟩
      by_cases h0 : d = 0
      · subst h0
        refine done 0 (by omega) ?_ (fun S1 => ?_)
        · rw [c0, if_pos rfl]
          unfold fX8_sheet_42 fX8_sheet_58
          simp (disch := omega) only [rO, rN, bind_sm, if_true]
        · rw [m_sheet0 hj hd]
          unfold fX9_sheet_35 fX9_sheet_49 fX9_sheet_65
          simp (disch := omega) only [rM, rN, bind_sm, if_true]
      · have n0 : ¬ nI d = nI 0 := fun q => h0 ((nI_eq (by omega) (by decide)).mp q)
        rw [if_neg n0] at c0
        have m0 : ∀ S1 : Nat → Nat → Int32, fX9_sheet (E b S1 Q g) (b + 116) (nI j) (nI d) z = if nI 0 ≤ z then fX9_sheet_49 (E b S1 Q g) (b + 116) (nI j) (nI d) z else (fX9_error (E b S1 Q g) (b + 116) (nI 3)).bind fun q45 => some (q45.1, q45.2) := by
          intro S1
          rw [m_sheet0 hj hd]
          unfold fX9_sheet_35
          simp only [rN, if_neg n0]
        rcases isN_or z 25 with ⟨n, hn, rfl⟩ | hz
        · have hle0 : nI 0 ≤ nI n := (nI_leI (by omega) (by omega)).mpr (Nat.zero_le _)
          have hle : nI n ≤ nI 24 := (nI_leI (by omega) (by omega)).mpr (by omega)
          rw [if_pos hle0] at c0
          refine done n (by omega) ?_ (fun S1 => ?_)
          · rw [c0]
            unfold fX8_sheet_42 fX8_sheet_58
            simp (disch := omega) only [rO, rN, bind_sm, n0, hle, if_true, if_false]
          · rw [m0, if_pos hle0]
            unfold fX9_sheet_49 fX9_sheet_65
            simp (disch := omega) only [rM, rN, bind_sm, n0, hle, if_true, if_false]
        · rcases notN hz (by decide) with q | ⟨q, q2, -⟩
          · have hn0 : ¬ nI 0 ≤ z := fun r => (i32_le_iff _ _).mp r q
            refine Both.err h 3 (by decide) ?_ (fun S1 hS => ?_)
            · rw [c0, if_neg hn0]
            · rw [m0, if_neg hn0]
          · have h0z : nI 0 ≤ z := (i32_le_iff _ _).mpr q
            have h24 : ¬ z ≤ nI 24 := by
              intro r
              rw [Int32.le_iff_toInt_le] at q2 r
              have : (nI 25).toInt = 25 := by decide
              have : (nI 24).toInt = 24 := by decide
              omega
            refine Both.err h 1 (by decide) ?_ (fun S1 hS => ?_)
            · rw [c0, if_pos h0z]
              unfold fX8_sheet_42
              simp only [rN, n0, h24, if_false]
            · rw [m0, if_pos h0z]
              unfold fX9_sheet_49
              simp only [rN, n0, h24, if_false]
    · refine Both.err h 1 (by decide) ?_ (fun S1 hS => ?_)
      · unfold fX8_sheet
        simp (disch := omega) only [rO, rN, bind_sm, c_isOne1, c_isWidth0 h0 h8 h16 h32, z10, if_false, if_true]
      · unfold fX9_sheet
        simp (disch := omega) only [rM, rN, bind_sm, m_isSheet1, z10, h0, h8, h16, h32, if_false]
  · refine Both.err h 1 (by decide) ?_ (fun S1 hS => ?_)
    · unfold fX8_sheet
      simp (disch := omega) only [rO, rN, bind_sm, c_isOne0 hx, if_true]
    · unfold fX9_sheet
      simp (disch := omega) only [rM, rN, bind_sm, m_isSheet0 hx, if_true]
theorem op_put (h : Sim b K S Q g) : Both b S Q g (fun h => fX8_put h b x y z) (fun h => fX9_put h (b + 116) x y z) := by
  obtain ⟨-, -, -, -, hS, -⟩ := id h
  rcases isN_or x 4 with ⟨j, hj, rfl⟩ | hx
  · obtain ⟨⟨d, hd, d1, d2⟩, ⟨n, hn, n1, n2⟩, hrow⟩ := hS j hj
    have hd32 := hd.lt
    by_cases h0 : d = 0
    · refine Both.err h 2 (by decide) ?_ (fun S1 hS => ?_)
      · unfold fX8_put
        simp (disch := omega) only [rO, rN, bind_sm, c_isOne1, z10, if_false, c_isMissing hj d1 (show d < 2 ^ 31 by omega), h0, if_true]
      · have e129 : S1 129 j = nI 0 := by rw [hS _ (by decide), d2, h0]
        unfold fX9_put
        simp (disch := omega) only [rM, rN, bind_sm, m_isSheet1, z10, if_false, e129, if_true]
    · have n0 : ¬ nI d = nI 0 := fun q => h0 ((nI_eq (by omega) (by decide)).mp q)
      rcases isN_or y n with ⟨i, hi, rfl⟩ | hy
      · have ci1 : ¬ nI i < nI 0 := fun q => absurd ((nI_ltI (by omega) (by decide)).mp q) (by omega)
        have ci2 : nI i < nI n := (nI_ltI (by omega) (by omega)).mpr hi
        generalize hv : (z <<< ((nI 32 - nI d) &&& nI 31)) >>> ((nI 32 - nI d) &&& nI 31) = v
        have wr : ∀ x, wrI (E b S Q g) (b + (109 + j)) (nI i) x = some (E b (up2 S (109 + j) i x) Q g) := fun x => E_wrI (lay_sheet hj) (by omega) (by decide)
        have cw : fX4_write (E b S Q g) (b + 105) (nI j) (nI i) z = some (E b (up2 S (109 + j) i v) Q g) := by
          unfold fX4_write
          rcases hd with rfl | rfl | rfl | rfl
          · exact absurd rfl h0
          · rw [put8] at hv
            simp (disch := omega) only [rV, rN, bind_sm, d1, if_true, c_sheetR hj, hv, wr]
          · rw [put16] at hv
            simp (disch := omega) only [rV, rN, bind_sm, d1, c_sheetR hj, hv, wr]
            rw [if_neg (by decide), if_true]
          · rw [put32] at hv
            simp (disch := omega) only [rV, rN, bind_sm, d1, c_sheetR hj, hv, wr]
            rw [if_neg (by decide), if_neg (by decide)]
        have ne : ∀ r, r ≠ 109 + j → up2 S (109 + j) i v r = S r := fun r hr => up2_row (fun q => hr q.symm)
        refine ⟨nI 1, up2 S (109 + j) i v, Q, g, up2 (up2 S (109 + j) i v) 131 (24 * j + i) v, K, ?_, ?_, h.sh (fun r h1 h2 h3 => by rw [up2_row (by omega), ne r (by omega)]) (fun t ht => ?_)⟩
        · unfold fX8_put
          simp (disch := omega) only [rO, rV, rN, bind_sm, c_isOne1, z10, if_false, c_isMissing hj d1 (show d < 2 ^ 31 by omega), h0, if_true, ci1, ci2, n1, cw]
        · have e1 : up2 S (109 + j) i v 129 j = nI d := by rw [ne _ (by omega), d2]
          have e2 : up2 S (109 + j) i v 130 j = nI n := by rw [ne _ (by omega), n2]
          unfold fX9_put
          simp (disch := omega) only [rM, rN, bind_sm, m_isSheet1, z10, if_false, e1, e2, n0, m_inS1, pk_mul, nI_add, hv]
        · obtain ⟨⟨d', hd', d1', d2'⟩, ⟨n', hn', q1', q2'⟩, hrow'⟩ := hS t ht
          rw [up2_ne (show 106 ≠ 131 by decide), up2_ne (show 106 ≠ 109 + j by omega), up2_ne (show 107 ≠ 131 by decide), up2_ne (show 107 ≠ 109 + j by omega), up2_ne (show 129 ≠ 131 by decide), up2_ne (show 129 ≠ 109 + j by omega), up2_ne (show 130 ≠ 131 by decide), up2_ne (show 130 ≠ 109 + j by omega)]
          refine ⟨⟨d', hd', d1', d2'⟩, ⟨n', hn', q1', q2'⟩, fun u hu => ?_⟩
          rw [up2_ne (show 109 + t ≠ 131 by omega), up2_at, ne 131 (by omega)]
          by_cases htj : t = j
          · subst htj
            rw [up2_at]
            by_cases hui : u = i
            · rw [if_pos hui, if_pos (by omega)]
            · rw [if_neg hui, if_neg (by omega)]
              exact hrow' u hu
          · rw [up2_ne (by omega), if_neg (by omega)]
            exact hrow' u hu
      · refine Both.err h 1 (by decide) ?_ (fun S1 hS => ?_)
        · unfold fX8_put
          simp (disch := omega) only [rO, rV, rN, bind_sm, c_isOne1, z10, if_false, c_isMissing hj d1 (show d < 2 ^ 31 by omega), h0, if_true, n1]
          rcases notN hy (by omega) with q | ⟨q, -, q2⟩
          · rw [if_pos q]
          · rw [if_neg q, if_neg q2]
        · have e1 : S1 129 j = nI d := by rw [hS _ (by decide), d2]
          have e2 : S1 130 j = nI n := by rw [hS _ (by decide), n2]
          unfold fX9_put
          simp (disch := omega) only [rM, rN, bind_sm, m_isSheet1, z10, if_false, e1, e2, n0, m_inS0 hy, if_true]
  · refine Both.err h 1 (by decide) ?_ (fun S1 hS => ?_)
    · unfold fX8_put
      simp (disch := omega) only [rO, rN, bind_sm, c_isOne0 hx, if_true]
    · unfold fX9_put
      simp (disch := omega) only [rM, rN, bind_sm, m_isSheet0 hx, if_true]
end OW
