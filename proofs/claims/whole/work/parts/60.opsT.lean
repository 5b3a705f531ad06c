/-! ===== manIs, count ===== -/
section OT
variable {b : Nat} {S S' S1 S2 S3 S5 S6 : Nat → Nat → Int32} {Q Q' Q1 : Nat → Nat → Nat} {g g' g1 h : Hp} {f k j p q n u c c0 c1 lo hi i e m : Nat} {x y z v r : Int32} {w : Wo} {T : Tx} {K K2 : Nat → Nat} {a a' : Fs} {s s' s0 : Nat → Int32} {t : Dt} {l : List Nat}

theorem op_manIs (h : Sim b K S Q g) : Both b S Q g (fun h => fX8_manIs h b x y) (fun h => fX9_manIs h (b + 116) x y) := by
  obtain ⟨⟨a, hI, hC, hM⟩, -, -, -, -, hg⟩ := id h
  have c1 : RepW S 12 (fW a) := hC.1
  have m1 := hM.1
  have i1 := hI.1
  have i3 := i1.2.2.1
  have n117 : ∀ S1 : Nat → Nat → Int32, (∀ r, r ≠ 115 → S1 r = S r) → S1 117 = S 117 := fun S1 hS => hS _ (by decide)
  have ne : ∀ i j, i < 100 → j < 100 → i ≠ j → (nI i = nI j) = False := fun i j hi hj h => by rw [eq_iff_iff, nI_eq (by omega) (by omega)]; exact ⟨h, False.elim⟩
  rcases isN_or x ((fW a).1 0 2) with ⟨k, hk, rfl⟩ | hx
  · have cM := c_hasMan1 (b := b) (Q := Q) (g := g) w12 c1.2.2.1 (by omega) hk
    have mM := m_isMan1 (b := b) (S := S) (Q := Q) (g := g) m1.2.1 (by omega) hk
    obtain ⟨q1, q2, q3, q4, q5, q6⟩ := c1.2.2.2.2 k hk
    obtain ⟨p1, p2, p3, p4, p5, p6⟩ := m1.2.2.2.2 k hk
    have hlen := i1.len k
    have e0 : 24 + 13 * k + 0 = 24 + 13 * k := rfl
    rcases isN_or y 15 with ⟨d, hd, rfl⟩ | hy
    · by_cases h7 : d < 7
      · have d7 : d = 0 ∨ d = 1 ∨ d = 2 ∨ d = 3 ∨ d = 4 ∨ d = 5 ∨ d = 6 := by omega
        rcases d7 with rfl | rfl | rfl | rfl | rfl | rfl | rfl
        · refine Both.rd h (r := nI ((fW a).1 3 k)) ?_ ?_
          · unfold fX8_manIs
            simp (disch := omega) only [rO, rF, rW w12, rN, bind_sm, cM, nI_eq, Nat.one_ne_zero, if_false, if_true, q1]
          · unfold fX9_manIs
            simp (disch := omega) only [rM, rN, bind_sm, mM, m_in1, z10, if_false, nI_leI, m_its, e0, p1]
            rw [if_pos (by decide), if_neg (by decide), if_neg (by decide), if_neg (by decide)]
        · refine Both.rd h (r := nI ((fW a).1 4 k)) ?_ ?_
          · unfold fX8_manIs
            simp (disch := omega) only [rO, rF, rW w12, rN, bind_sm, cM, z10, if_false, if_true, q2]
          · unfold fX9_manIs
            simp (disch := omega) only [rM, rN, bind_sm, mM, m_in1, z10, if_false, nI_leI, m_its, p2]
            rw [if_pos (by decide), if_neg (by decide), if_neg (by decide), if_neg (by decide)]
        · refine Both.rd h (r := nI ((fW a).1 5 k)) ?_ ?_
          · unfold fX8_manIs
            simp (disch := omega) only [rO, rF, rW w12, rN, bind_sm, cM, z10, if_false, if_true, q3]
            rw [if_neg (by decide), if_neg (by decide)]
          · unfold fX9_manIs
            simp (disch := omega) only [rM, rN, bind_sm, mM, m_in1, z10, if_false, nI_leI, m_its, p3]
            rw [if_pos (by decide), if_neg (by decide), if_neg (by decide), if_neg (by decide)]
        · refine Both.rd h (r := nI ((fW a).1 6 k)) ?_ ?_
          · unfold fX8_manIs
            simp (disch := omega) only [rO, rF, rW w12, rN, bind_sm, cM, z10, if_false, if_true, q4]
            rw [if_neg (by decide), if_neg (by decide), if_neg (by decide)]
          · unfold fX9_manIs
            simp (disch := omega) only [rM, rN, bind_sm, mM, m_in1, z10, if_false, nI_leI, m_its, p4]
            rw [if_pos (by decide), if_neg (by decide), if_neg (by decide), if_neg (by decide)]
        · obtain ⟨g1, e1, l1⟩ := c_keeps (b := b) (S := S) (Q := Q) (g := g) (T := fT a) (K := K) w12 q2 q1 c1.1 c1.2.1 i1 (show k < 4 by omega) hC.2.1.1 hI.2.2.1
          obtain ⟨S2, e2, o2⟩ := m_keeps (b := b) (S := S) (Q := Q) (g := g1) m1 i1 hM.2.1 hI.2.2.1 hk
          refine Both.look h (r := nI (keepsP (fT a) (fW a) k)) ?_ (fun _ _ => rfl) l1 ⟨rfl, rfl⟩ ⟨S2, ?_, OffR.of o2 (by decide), o2 117 (by decide)⟩
          · unfold fX8_manIs
            simp (disch := omega) only [rO, rF, rN, bind_sm, cM, ne, if_false, if_true, e1]
          · unfold fX9_manIs
            simp (disch := omega) only [rM, rN, bind_sm, m_isMan1 (b := b) (S := S) (Q := Q) (g := g1) m1.2.1, m_in1, z10, if_false, nI_leI, e2]
            rw [if_pos (by decide), if_true]
        · obtain ⟨g1, e1, l1⟩ := c_fare (b := b) (S := S) (Q := Q) (g := g) (T := fT a) (K := K) w12 q2 q1 q3 q5 i1 (show k < 4 by omega) hC.2.1.2 hI.2.2.1
          obtain ⟨S2, e2, o2⟩ := m_fare (b := b) (S := S) (Q := Q) (g := g1) m1 i1 hM.2.1 hI.2.2.1 hk
          refine Both.look h (r := nI (fareP (fT a) (fW a) k)) ?_ (fun _ _ => rfl) l1 ⟨rfl, rfl⟩ ⟨S2, ?_, OffR.of o2 (by decide), o2 117 (by decide)⟩
          · unfold fX8_manIs
            simp (disch := omega) only [rO, rF, rN, bind_sm, cM, ne, if_false, if_true, e1]
          · unfold fX9_manIs
            simp (disch := omega) only [rM, rN, bind_sm, m_isMan1 (b := b) (S := S) (Q := Q) (g := g1) m1.2.1, m_in1, z10, if_false, nI_leI, e2]
            rw [if_pos (by decide), if_neg (by decide), if_true]
        · refine Both.rd h (r := nI ((fW a).2 k).length) ?_ ?_
          · unfold fX8_manIs
            simp (disch := omega) only [rO, rF, rW w12, rN, bind_sm, cM, ne, if_false, if_true, q5]
          · unfold fX9_manIs
            simp (disch := omega) only [rM, rN, bind_sm, mM, m_in1, z10, if_false, nI_leI, m_its, p5]
            rw [if_pos (by decide), if_neg (by decide), if_neg (by decide), if_true]
      · obtain ⟨j, rfl⟩ : ∃ j, d = 7 + j := ⟨d - 7, by omega⟩
        have nd : ∀ i, i < 7 → (nI (7 + j) = nI i) = False := fun i hi => by rw [eq_iff_iff, nI_eq (by omega) (by omega)]; exact ⟨fun q => by omega, False.elim⟩
        have cf := c_face (b := b) (S := S) (Q := Q) (g := g) w12 c1 i1 hk (j := j) (by omega)
        refine Both.rd h (r := match ((fW a).2 k)[j]? with | some q => nI q | none => -nI 1) ?_ ?_
        · unfold fX8_manIs
          simp (disch := omega) only [rO, rF, rW w12, rN, bind_sm, cM, z10, if_false, nd, nI_ltI, nI_subI]
          rw [if_neg (by omega), show (15 : Int32) = nI 15 from rfl, if_pos ((nI_ltI (by omega) (by omega)).mpr hd), show 7 + j - 7 = j by omega, cf, bind_sm]
          rfl
        · unfold fX9_manIs
          simp (disch := omega) only [rM, rN, bind_sm, mM, m_in1, z10, if_false, nI_leI, m_its, p5, nI_add, nI_subI]
          rw [if_neg (by omega), show 7 + j - 7 = j by omega, show 5 + (7 + j) - 7 = 5 + j by omega]
          by_cases hj : ((fW a).2 k).length ≤ j
          · rw [if_pos hj, List.getElem?_eq_none hj]
          · rw [if_neg hj, List.getElem?_eq_getElem (by omega), ← Nat.add_assoc, p6.at (by omega)]
    · have hy0 : ∀ d, d < 15 → (y = nI d) = False := fun d hd => by rw [eq_iff_iff]; exact ⟨fun q => hy ⟨d, hd, q⟩, False.elim⟩
      refine Both.err h 1 (by decide) ?_ (fun S1 hS => ?_)
      · unfold fX8_manIs
        simp (disch := omega) only [rO, rF, rN, bind_sm, cM, z10, if_false, hy0]
        rcases notN hy (by decide) with q | ⟨q, -, q2⟩
        · rw [if_pos]
          rw [Int32.lt_iff_toInt_lt] at q ⊢
          have : (nI 0).toInt = 0 := by decide
          have : (nI 7).toInt = 7 := by decide
          omega
        · rw [show (15 : Int32) = nI 15 from rfl, if_neg q2]
          split <;> rfl
      · unfold fX9_manIs
        simp (disch := omega) only [rM, rN, bind_sm, m_isMan1 (S := S1) (by rw [n117 S1 hS]; exact m1.2.1), m_in0 (hi := 14) hy, z10, if_false, if_true]
  · refine Both.err h 1 (by decide) ?_ (fun S1 hS => ?_)
    · unfold fX8_manIs
      have rr := rO b S Q g
      rw [rr.1, rr.2.2.1, bind_sm, show getR (E b S Q g) 1 (b + 4) 0 = some (b + 12) by simp only [rF], bind_sm, c_hasMan0 w12 c1.2.2.1 (by omega) hx, bind_sm, if_pos (by decide)]
      rfl
    · unfold fX9_manIs
      simp (disch := omega) only [rM, rN, bind_sm, m_isMan0 (S := S1) (by rw [n117 S1 hS]; exact m1.2.1) (by omega) hx, if_true]
theorem m_allCoins (hR : RepM (S 117) w) (hI : Winv w) : fX9_allCoins (E b S Q g) (b + 116) = some (nI (sumP (w.1 2) (w.1 0 1) + sumP (w.1 6) (w.1 0 2))) := by
  have hm4 := hI.2.2.1
  have hp8 := hI.2.1
  have men : ∀ (A m i : Nat), i ≤ w.1 0 2 → w.1 0 2 - i < m → fX9_allCoins_31 (E b S Q g) m (b + 116) (nI (A + sumP (w.1 6) i)) (nI i) = some (nI (A + sumP (w.1 6) (w.1 0 2))) := by
    intro A m
    induction m with
    | zero => intro i _ h; omega
    | succ m ih =>
      intro i hi hm
      rw [fX9_allCoins_31]
      simp (disch := omega) only [rM, rN, bind_sm, hR.2.1, nI_leI]
      by_cases hle : w.1 0 2 ≤ i
      · rw [if_pos hle, show i = w.1 0 2 by omega]
      · rw [if_neg hle]
        simp (disch := omega) only [m_its, bind_sm, (hR.2.2.2.2 i (by omega)).2.2.2.1, nI_add]
        rw [show A + sumP (w.1 6) i + w.1 6 i = A + sumP (w.1 6) (i + 1) from Nat.add_assoc _ _ _]
        exact ih (i + 1) (by omega) (by omega)
  have ppl : ∀ (m i : Nat), i ≤ w.1 0 1 → w.1 0 1 - i < m → fX9_allCoins_4 (E b S Q g) m (b + 116) (nI (sumP (w.1 2) i)) (nI i) = some (nI (sumP (w.1 2) (w.1 0 1) + sumP (w.1 6) (w.1 0 2))) := by
    intro m
    induction m with
    | zero => intro i _ h; omega
    | succ m ih =>
      intro i hi hm
      rw [fX9_allCoins_4]
      simp (disch := omega) only [rM, rN, bind_sm, hR.1, nI_leI]
      by_cases hle : w.1 0 1 ≤ i
      · rw [if_pos hle, show i = w.1 0 1 by omega]
        exact men _ 1000 0 (Nat.zero_le _) (by omega)
      · rw [if_neg hle]
        simp (disch := omega) only [m_of, bind_sm, (hR.2.2.2.1 i (by omega)).2, nI_add]
        exact ih (i + 1) (by omega) (by omega)
  unfold fX9_allCoins
  simp only [rM, rN]
  exact ppl 1000 0 (Nat.zero_le _) (by omega)
theorem op_count (h : Sim b K S Q g) : Both b S Q g (fun h => fX8_count h b x) (fun h => fX9_count h (b + 116) x) := by
  obtain ⟨⟨a, hI, hC, hM⟩, ⟨-, -⟩, -, ⟨n, hn, v1, v2, v3⟩, -, hg⟩ := id h
  have c1 : RepW S 12 (fW a) := hC.1
  have m1 := hM.1
  have i1 := hI.1
  obtain ⟨-, -, c4, c5, c6, c7, c8⟩ := id hC
  obtain ⟨-, -, m3, m4, m5, m6, m7⟩ := id hM
  have c8' : S 5 0 = nI (fDb a).length := c8.1
  have ne : ∀ i j, i < 100 → j < 100 → i ≠ j → (nI i = nI j) = False := fun i j hi hj h => by rw [eq_iff_iff, nI_eq (by omega) (by omega)]; exact ⟨h, False.elim⟩
  rcases isN_or x 11 with ⟨d, hd, rfl⟩ | hx
  · have d11 : d = 0 ∨ d = 1 ∨ d = 2 ∨ d = 3 ∨ d = 4 ∨ d = 5 ∨ d = 6 ∨ d = 7 ∨ d = 8 ∨ d = 9 ∨ d = 10 := by omega
    rcases d11 with rfl | rfl | rfl | rfl | rfl | rfl | rfl | rfl | rfl | rfl | rfl
    · refine Both.rd h (r := nI ((fW a).1 0 1)) ?_ ?_
      · unfold fX8_count
        simp (disch := omega) only [rO, rF, rW w12, rN, bind_sm, ne, if_false, if_true, c1.2.1]
      · unfold fX9_count
        simp (disch := omega) only [rM, rN, bind_sm, ne, if_false, if_true, m1.1]
    · refine Both.rd h (r := nI ((fW a).1 0 2)) ?_ ?_
      · unfold fX8_count
        simp (disch := omega) only [rO, rF, rW w12, rN, bind_sm, ne, if_false, if_true, c1.2.2.1]
      · unfold fX9_count
        simp (disch := omega) only [rM, rN, bind_sm, ne, if_false, if_true, m1.2.1]
    · refine Both.rd h (r := nI ((fW a).1 0 0)) ?_ ?_
      · unfold fX8_count
        simp (disch := omega) only [rO, rF, rW w12, rN, bind_sm, ne, if_false, if_true, c1.1]
      · unfold fX9_count
        simp (disch := omega) only [rM, rN, bind_sm, ne, if_false, if_true, m1.2.2.1]
    · refine Both.rd h (r := nI (fDb a).length) ?_ ?_
      · unfold fX8_count
        simp (disch := omega) only [rO, rF, rN, bind_sm, ne, if_false, if_true, c8']
      · unfold fX9_count
        simp (disch := omega) only [rM, rN, bind_sm, ne, if_false, if_true, m7.1]
    · have hh := c_holding (b := b) (Q := Q) (g := g) w12 c1 i1 c8 hI.2.2.2.2.2.2.1 hI.db
      obtain ⟨S2, f2, o2⟩ := m_holding (b := b) (S := S) (Q := Q) (g := g) m1 i1 m7 hI.2.2.2.2.2.2.1 hI.db
      refine Both.look h (r := nI ((fDb a).countP (holdsP (fW a)))) ?_ (fun _ _ => rfl) Lkg.rf ⟨rfl, rfl⟩ ⟨S2, ?_, OffR.of o2 (by decide), o2 117 (by decide)⟩
      · unfold fX8_count
        simp (disch := omega) only [rO, rF, rN, bind_sm, ne, if_false, if_true, hh]
      · unfold fX9_count
        simp (disch := omega) only [rM, rN, bind_sm, ne, if_false, if_true, f2]
    · refine Both.rd h (r := nI (sumP ((fW a).1 2) ((fW a).1 0 1) + sumP ((fW a).1 6) ((fW a).1 0 2))) ?_ ?_
      · unfold fX8_count
        simp (disch := omega) only [rO, rF, rN, bind_sm, ne, if_false, if_true, c_allCoins w12 c1 i1]
      · unfold fX9_count
        simp (disch := omega) only [rM, rN, bind_sm, ne, if_false, if_true, m_allCoins m1 i1]
    · refine Both.rd h (r := nI (fTp a).length) ?_ ?_
      · unfold fX8_count
        simp (disch := omega) only [rO, rF, rN, bind_sm, ne, if_false, if_true, c4.1]
      · unfold fX9_count
        simp (disch := omega) only [rM, rN, bind_sm, ne, if_false, if_true, m3.1]
    · refine Both.rd h (r := nI (fWt a).length) ?_ ?_
      · unfold fX8_count
        simp (disch := omega) only [rO, rF, rN, bind_sm, ne, if_false, if_true, c5.1]
      · unfold fX9_count
        simp (disch := omega) only [rM, rN, bind_sm, ne, if_false, if_true, m4.1]
    · refine Both.rd h (r := nI n) ?_ ?_
      · unfold fX8_count
        simp (disch := omega) only [rO, rV, rN, bind_sm, ne, if_false, if_true, v1]
      · unfold fX9_count
        simp (disch := omega) only [rM, rN, bind_sm, ne, if_false, if_true, v2]
    · refine Both.rd h (r := fZ a) ?_ ?_
      · unfold fX8_count
        simp (disch := omega) only [rO, rF, rN, bind_sm, ne, if_false, if_true, c7]
      · unfold fX9_count
        simp (disch := omega) only [rM, rN, bind_sm, ne, if_false, if_true, m6]
    · refine Both.rd h (r := nI (fBk a).length) ?_ ?_
      · unfold fX8_count
        simp (disch := omega) only [rO, rF, rN, bind_sm, ne, if_false, if_true, c6.1]
      · unfold fX9_count
        simp (disch := omega) only [rM, rN, bind_sm, ne, if_false, if_true, m5.1]
  · have hx0 : ∀ d, d < 11 → (x = nI d) = False := fun d hd => by rw [eq_iff_iff]; exact ⟨fun q => hx ⟨d, hd, q⟩, False.elim⟩
    refine Both.err h 1 (by decide) ?_ (fun S1 hS => ?_)
    · unfold fX8_count
      simp (disch := omega) only [rO, rN, hx0, if_false]
    · unfold fX9_count
      simp (disch := omega) only [rM, rN, hx0, if_false]
end OT
