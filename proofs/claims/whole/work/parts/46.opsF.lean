/-! ===== setMan ===== -/
section OF
variable {b : Nat} {S S' S1 S2 : Nat → Nat → Int32} {Q Q' Q1 : Nat → Nat → Nat} {g g' g1 h : Hp} {f k j p n u c c0 c1 lo hi i : Nat} {x y z v r : Int32} {w : Wo} {T : Tx} {K K2 : Nat → Nat} {a a' : Fs} {s s' : Nat → Int32}
theorem le9_10 (h : nI 10 ≤ x) : nI 9 < x := by
  rw [Int32.le_iff_toInt_le] at h
  rw [Int32.lt_iff_toInt_lt]
  have : (nI 10).toInt = 10 := by decide
  have : (nI 9).toInt = 9 := by decide
  omega
theorem op_setMan (h : Sim b K S Q g) : Both b S Q g (fun h => fX8_setMan h b x y z) (fun h => fX9_setMan h (b + 116) x y z) := by
  obtain ⟨⟨a, hI, hC, hM⟩, -⟩ := id h
  have c1 : RepW S 12 (fW a) := hC.1
  have m1 := hM.1
  have i1 := hI.1
  have i3 := i1.2.2.1
  have n117 : ∀ S1 : Nat → Nat → Int32, (∀ r, r ≠ 115 → S1 r = S r) → S1 117 = S 117 := fun S1 hS => hS _ (by decide)
  rcases isN_or x ((fW a).1 0 2) with ⟨k, hk, rfl⟩ | hx
  · have hk4 : k < 4 := Nat.lt_of_lt_of_le hk i3
    obtain ⟨q1, q2, q3, q4, q5, q6⟩ := c1.2.2.2.2 k hk
    obtain ⟨p1, p2, p3, p4, p5, p6⟩ := m1.2.2.2.2 k hk
    have cM := c_hasMan1 (b := b) (Q := Q) (g := g) w12 c1.2.2.1 (by omega) hk
    have mM : ∀ S1 : Nat → Nat → Int32, S1 117 = S 117 → fX9_isMan (E b S1 Q g) (b + 116) (nI k) = some (nI 1) := fun S1 hS => m_isMan1 (S := S1) (by rw [hS]; exact m1.2.1) (by omega) hk
    have e0 : 24 + 13 * k + 0 = 24 + 13 * k := rfl
    have n20 : (nI 2 = nI 0) = False := by rw [eq_iff_iff]; decide
    have n21 : (nI 2 = nI 1) = False := by rw [eq_iff_iff]; decide
    have n12 : (nI 1 = nI 2) = False := by rw [eq_iff_iff]; decide
    have n02 : (nI 0 = nI 2) = False := by rw [eq_iff_iff]; decide
    have bad : (y = nI 0 → ¬ isN z 7) → (y = nI 1 → ¬ isN z 10) → (y = nI 2 → ¬ isN z 2) → Both b S Q g (fun h => fX8_setMan h b (nI k) y z) (fun h => fX9_setMan h (b + 116) (nI k) y z) := by
      intro h0 h1 h2
      refine Both.err h 1 (by decide) ?_ (fun S1 hS => ?_)
      · have b72 : fX8_setMan_72 (E b S Q g) b (nI k) y z (b + 12) = (fX8_refuse (E b S Q g) b (nI 1)).bind fun q => some (q.1, q.2) := by
          unfold fX8_setMan_72
          simp only [rN]
          by_cases y2 : y = nI 2
          · rw [if_pos y2, c_isBank0 (h2 y2), bind_sm, if_pos rfl]
          · rw [if_neg y2]
        have b46 : fX8_setMan_46 (E b S Q g) b (nI k) y z (b + 12) = (fX8_refuse (E b S Q g) b (nI 1)).bind fun q => some (q.1, q.2) := by
          unfold fX8_setMan_46
          simp only [rN, b72]
          by_cases y1 : y = nI 1
          · rw [if_pos y1]
            rcases notN (h1 y1) (by decide) with q | ⟨q, q2, -⟩
            · rw [if_pos q]
            · rw [if_neg q, if_pos (le9_10 q2)]
          · rw [if_neg y1]
        unfold fX8_setMan
        simp (disch := omega) only [rO, rF, rN, bind_sm, cM, z10, if_false, b46]
        by_cases y0 : y = nI 0
        · rw [if_pos y0, c_isKind0 (h0 y0), bind_sm, if_pos rfl]
        · rw [if_neg y0]
      · unfold fX9_setMan fX9_setMan_39
        simp (disch := omega) only [rM, rN, bind_sm, mM S1 (n117 S1 hS), z10, if_false]
        by_cases y0 : y = nI 0
        · rw [y0]
          simp (disch := omega) only [m_in1, bind_sm, z10, if_false, if_true, m_in0 (hi := 6) (h0 y0)]
        · by_cases y1 : y = nI 1
          · rw [y1]
            simp (disch := omega) only [m_in1, bind_sm, z10, if_false, if_true, m_in0 (hi := 9) (h1 y1)]
          · by_cases y2 : y = nI 2
            · rw [y2]
              simp (disch := omega) only [m_in1, bind_sm, z10, n20, n21, if_false, if_true, m_in0 (hi := 1) (h2 y2)]
            · have hy : ¬ isN y (2 + 1) := by
                rintro ⟨j, hj, rfl⟩
                have : j = 0 ∨ j = 1 ∨ j = 2 := by omega
                rcases this with rfl | rfl | rfl
                · exact y0 rfl
                · exact y1 rfl
                · exact y2 rfl
              simp (disch := omega) only [m_in0 hy, bind_sm, if_true]
    by_cases y0 : y = nI 0
    · subst y0
      rcases isN_or z 7 with ⟨d, hd, rfl⟩ | hz
      · refine Both.upN h hI hC hM (q := 3) (i := k) (v := d) (by omega) (by rw [if_neg (by omega)]; exact hk) (by simp; omega) ?_ (fun S1 hS => ?_)
        · unfold fX8_setMan fX8_exchange
          simp (disch := omega) only [rO, rF, rW w12, rN, bind_sm, cM, z10, if_false, if_true, c_isKind1, q1]
        · unfold fX9_setMan fX9_setMan_39
          simp (disch := omega) only [rM, rN, bind_sm, mM S1 hS, z10, if_false, if_true, m_in1, m_its, m_lays1, e0]
          rw [hS, p1]
          rfl
      · exact bad (fun _ => hz) (fun e => absurd e (by decide)) (fun e => absurd e (by decide))
    · by_cases y1 : y = nI 1
      · subst y1
        rcases isN_or z 10 with ⟨d, hd, rfl⟩ | hz
        · refine Both.upN h hI hC hM (q := 4) (i := k) (v := d) (by omega) (by rw [if_neg (by omega)]; exact hk) (by simp; omega) ?_ (fun S1 hS => ?_)
          · unfold fX8_setMan fX8_setMan_46 fX8_exchange
            simp (disch := omega) only [rO, rF, rW w12, rN, bind_sm, cM, z10, if_false, if_true, nI_ltI, q2]
            rw [if_neg (by omega), if_neg (by omega)]
          · unfold fX9_setMan fX9_setMan_39
            simp (disch := omega) only [rM, rN, bind_sm, mM S1 hS, z10, if_false, if_true, m_in1, m_its, m_lays1]
            rw [hS, p2]
            rfl
        · exact bad (fun e => absurd e (by decide)) (fun _ => hz) (fun e => absurd e (by decide))
      · by_cases y2 : y = nI 2
        · subst y2
          rcases isN_or z 2 with ⟨d, hd, rfl⟩ | hz
          · refine Both.upN h hI hC hM (q := 5) (i := k) (v := d) (by omega) (by rw [if_neg (by omega)]; exact hk) (by simp; omega) ?_ (fun S1 hS => ?_)
            · unfold fX8_setMan fX8_setMan_46 fX8_setMan_72 fX8_exchange
              simp (disch := omega) only [rO, rF, rW w12, rN, bind_sm, cM, z10, n20, n21, if_false, if_true, c_isBank1, q3]
            · unfold fX9_setMan fX9_setMan_39
              simp (disch := omega) only [rM, rN, bind_sm, mM S1 hS, z10, n20, n21, if_false, if_true, m_in1, m_its, m_lays1]
              rw [hS, p3]
              rfl
          · exact bad (fun e => absurd e (by decide)) (fun e => absurd e (by decide)) (fun _ => hz)
        · exact bad (fun e => absurd e y0) (fun e => absurd e y1) (fun e => absurd e y2)
  · refine Both.err h 1 (by decide) ?_ (fun S1 hS => ?_)
    · unfold fX8_setMan
      simp (disch := omega) only [rO, rF, rN, bind_sm, c_hasMan0 w12 c1.2.2.1 (by omega) hx, if_true]
    · unfold fX9_setMan
      simp (disch := omega) only [rM, rN, bind_sm, m_isMan0 (S := S1) (by rw [n117 S1 hS]; exact m1.2.1) (by omega) hx, if_true]
end OF
