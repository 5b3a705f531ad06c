/-! ===== rows ===== -/
section OZl
variable {b : Nat} {S S' S1 S2 S3 S5 S6 : Nat → Nat → Int32} {Q Q' Q1 Q2 : Nat → Nat → Nat} {g g' g1 g2 h : Hp} {f k j p q n u c c0 c1 lo hi i e m d bk L set gs : Nat} {x y z v r : Int32} {w to : Wo} {T : Tx} {K K2 : Nat → Nat} {a a' a2 : Fs} {s s' s0 : Nat → Int32} {t : Dt} {l l' : List Nat} {st : Nat × Nat}

theorem put5H {z : Int32} : putV (E b S Q g) 6 (b + 38) 5 (.int z) = some (E b (up2 S 38 5 z) Q g) := by simp only [rV]
theorem c_findRows (hC : FerC b K S Q g 4 a) (hI : Finv a) (hC2 : FerC b K S Q g 21 a2) (hI2 : Finv a2) (hn : n ≤ 3) : ∃ S' Q' g', fX6_findRows (E b S Q g) (b + 38) (b + 29) (b + 12) (nI n) = some (E b S' Q' g') ∧ S' 38 6 = nI (resR (fT a2) (fW a) n (fW a2) 0 (0, 0)).1 ∧ S' 38 7 = nI (resR (fT a2) (fW a) n (fW a2) 0 (0, 0)).2 ∧ (∀ r, r < 38 ∨ 105 ≤ r → S' r = S r) ∧ (Q' 12 = Q 12 ∧ Q' 29 = Q 29) ∧ Lkg K g g' := by
  obtain ⟨c1, -⟩ := hC
  obtain ⟨d1, ⟨d2, d3⟩, -⟩ := hC2
  have i1 := hI.1
  have j1 := hI2.1
  have hm1 := i1.2.2.1
  have hm2 := j1.2.2.1
  obtain ⟨S1, hS1⟩ : ∃ S1, S1 = up2 (up2 S 38 6 0) 38 7 0 := ⟨_, rfl⟩
  have n1 : ∀ r, r ≠ 38 → S1 r = S r := fun r hr => by rw [hS1, up2_row (by omega), up2_row (by omega)]
  have v6 : S1 38 6 = nI 0 := by rw [hS1, up2_at, if_neg (by decide), up2_at, if_pos rfl]; rfl
  have v7 : S1 38 7 = nI 0 := by rw [hS1, up2_at, if_pos rfl]; rfl
  have c1' : RepW S1 12 (fW a) := RepW.fr c1 (fun m hm => n1 _ (by omega))
  have d1' : RepW S1 29 (fW a2) := RepW.fr d1 (fun m hm => n1 _ (by omega))
  have e0 : fX6_findRows (E b S Q g) (b + 38) (b + 29) (b + 12) (nI n) = if nI ((fW a2).1 0 2) = nI ((fW a).1 0 2) then (fX7_copyFrom (E b S1 Q g) (b + 42) (b + 29)).bind fun q29 => (fX7_hasGossip q29 (b + 29)).bind fun q34 => (bz q34).bind fun b37 => (putV q29 6 (b + 38) 5 (.int b37)).bind fun h37 => (fX6_follow h37 (b + 38) (b + 12) (nI n) 0 0).bind fun q45 => some q45 else some (E b S1 Q g) := by
    unfold fX6_findRows
    rw [show gO (E b S Q g) 6 (b + 38) _ = _ from E_gO (c := 38) rfl, put6H, bind_sm, put7H, bind_sm, ← hS1, (rW w29 b S1 Q g).2.2.2.2.2.1, bind_sm, (rW w12 b S1 Q g).2.2.2.2.2.1, bind_sm, d1'.2.2.1, c1'.2.2.1, getR_H0, bind_sm, show (0 : Int32) = nI 0 from rfl, show rdR (E b S1 Q g) (b + 39) (nI 0) = some (b + 42) from c_behR (h := 0) (by omega), bind_sm]
  by_cases hmen : (fW a2).1 0 2 = (fW a).1 0 2
  · rw [if_pos (by rw [hmen])] at e0
    obtain ⟨S2, e2, o2, p2⟩ := c_copyFrom (b := b) (S := S1) (Q := Q) (g := g) w29 w42 (by decide)
    have r2 : RepW S2 42 (fW a2) := RepW.copy d1' j1 p2
    have d2' : RepW S2 29 (fW a2) := d1'.fr (fun m hm => o2 _ (by omega))
    obtain ⟨gs, eg, hg1, hg0⟩ := c_hasGossip (b := b) (Q := cpQ Q 29 42) (g := g) w29 d2' j1
    obtain ⟨S3, hS3⟩ : ∃ S3, S3 = up2 S2 38 5 (nI gs) := ⟨_, rfl⟩
    have n3 : ∀ r, r ≠ 38 → S3 r = S2 r := fun r hr => by rw [hS3, up2_row (by omega)]
    have t3 : Try b K (fT a2) S3 (cpQ Q 29 42) g (wc 0) (fW a2) := ⟨r2.fr (fun m hm => n3 _ (by omega)), by show LawQ K b g (cpQ Q 29 42 42 11) _; rw [cpQ_at (by omega) (by decide)]; exact d2, by show LawQ K b g (cpQ Q 29 42 42 12) _; rw [cpQ_at (by omega) (by decide)]; exact d3⟩
    have o3 : ∀ j, j ≠ 5 → S3 38 j = S1 38 j := fun j hj => by rw [hS3, up2_at, if_neg hj, o2 38 (by omega)]
    obtain ⟨S4, Q4, g4, e4, c4, o4, oq4, l4⟩ := c_follow (b := b) (K := K) (n := n) (gs := gs) (to := fW a) hI2.2.2.1 i1 hn 8 0 0 (fW a2) S3 (cpQ Q 29 42) g (0, 0) (by omega) (by omega) j1 (by have := hI2.2.1; omega) t3 (c1'.fr (fun m hm => by rw [n3 _ (by omega), o2 _ (by omega)])) hmen hg0 hg1 ⟨by rw [o3 6 (by decide)]; exact v6, by rw [o3 7 (by decide)]; exact v7, by rw [hS3, up2_at, if_pos rfl]⟩
    refine ⟨S4, Q4, g4, ?_, c4.1, c4.2.1, fun r hr => ?_, ⟨?_, ?_⟩, l4⟩
    · have hbz : bz (nI gs) = some (nI gs) := by
        have : gs = 0 ∨ gs = 1 := by omega
        rcases this with rfl | rfl <;> rfl
      rw [e0, e2, bind_sm, eg, bind_sm, hbz, bind_sm, put5H, ← hS3, bind_sm]
      unfold fX6_follow
      rw [show (0 : Int32) = nI 0 from rfl, e4, bind_sm]
    · rw [o4 r (by omega) (by omega), n3 r (by omega), o2 r (by omega), n1 r (by omega)]
    · rw [oq4 12 (by omega), cpQ_ne (c1 := 42) (by decide)]
    · rw [oq4 29 (by omega), cpQ_ne (c1 := 42) (by decide)]
  · rw [if_neg (fun q => hmen ((nI_eq (by omega) (by omega)).mp q))] at e0
    refine ⟨S1, Q, g, e0, ?_, ?_, fun r hr => n1 r (by omega), ⟨rfl, rfl⟩, Lkg.rf⟩
    · rw [noMen _ _ _ _ hmen]; exact v6
    · rw [noMen _ _ _ _ hmen]; exact v7
theorem m_rowsF (hM : FerM (S 117) a) (hI : Finv a) (hM2 : FerM (S 118) a2) (hI2 : Finv a2) (hn : n ≤ 3) (h4 : ¬ S 116 4 = 0) {d : Nat} (hd : d < 2) : ∃ S', fX9_rows (E b S Q g) (b + 116) (nI n) (nI d) = some (if nI d = nI 0 then nI (resR (fT a2) (fW a) n (fW a2) 0 (0, 0)).1 else nI (resR (fT a2) (fW a) n (fW a2) 0 (0, 0)).2, E b S' Q g) ∧ OffR S S' ∧ FerM (S' 117) a := by
  have i1 := hI.1
  have j1 := hI2.1
  obtain ⟨S1, hS1⟩ : ∃ S1, S1 = up2 (up2 S 116 17 0) 116 18 0 := ⟨_, rfl⟩
  have n1 : ∀ r, r ≠ 116 → S1 r = S r := fun r hr => by rw [hS1, up2_row (by omega), up2_row (by omega)]
  have n116 : ∀ j, j ≠ 17 → j ≠ 18 → S1 116 j = S 116 j := fun j h1 h2 => by rw [hS1, up2_at, if_neg h2, up2_at, if_neg h1]
  obtain ⟨S2, e2, o2, k2⟩ := m_carry (b := b) (S := S1) (Q := Q) (g := g) (c0 := 117) (c1 := 119) rfl rfl (by decide)
  obtain ⟨S3, e3, o3, k3⟩ := m_carry (b := b) (S := S2) (Q := Q) (g := g) (c0 := 118) (c1 := 117) rfl rfl (by decide)
  have hMk : FerM (S3 117) a2 := hM2.ext hI2 (fun j hj => by rw [k3 j hj, o2 118 (by decide), n1 118 (by decide)])
  have hP : FerM (S3 119) a := hM.ext hI (fun j hj => by rw [o3 119 (by decide), k2 j hj, n1 117 (by decide)])
  have MK : MW (fT a2) S3 (fW a2) := ⟨hMk.1, hMk.2.1, _, hMk.2.2.2.2.1.1, hI2.2.2.2.2.2.1.1⟩
  have cu : CU S3 (0, 0) := ⟨by rw [o3 116 (by decide), o2 116 (by decide), hS1, up2_at, if_neg (by decide), up2_at, if_pos rfl]; rfl, by rw [o3 116 (by decide), o2 116 (by decide), hS1, up2_at, if_pos rfl]; rfl⟩
  obtain ⟨S4, e4, c4, f4, o4, -⟩ := m_fits (b := b) (Q := Q) (g := g) (to := fW a) hI2.2.2.1 i1 8 n 0 0 (fW a2) S3 (0, 0) (by omega) (by omega) hn j1 (by have := hI2.2.1; omega) MK hP.1 cu
  obtain ⟨S5, e5, o5, k5⟩ := m_carry (b := b) (S := S4) (Q := Q) (g := g) (c0 := 119) (c1 := 117) rfl rfl (by decide)
  refine ⟨S5, ?_, ⟨fun r hr => ?_, ?_, ?_⟩, hP.ext hI (fun j hj => by rw [k5 j hj, o4.1 119 (by decide)])⟩
  · have g2 : ∀ S : Nat → Nat → Int32, getR (E b S Q g) 9 (b + 116) 2 = some (b + 119) := fun S => by simp only [rM]
    have g1 : ∀ S : Nat → Nat → Int32, getR (E b S Q g) 9 (b + 116) 1 = some (b + 118) := fun S => by simp only [rM]
    have w17 : S5 116 17 = nI (resR (fT a2) (fW a) n (fW a2) 0 (0, 0)).1 := by rw [o5 116 (by decide)]; exact c4.1
    have w18 : S5 116 18 = nI (resR (fT a2) (fW a) n (fW a2) 0 (0, 0)).2 := by rw [o5 116 (by decide)]; exact c4.2
    unfold fX9_rows fX9_fits
    rw [gO_M, show (0 : Int32) = nI 0 from rfl, show (3 : Int32) = nI 3 from rfl, m_in1 (Nat.zero_le _) hn (by decide), bind_sm, if_neg (by decide), show (1 : Int32) = nI 1 from rfl, m_in1 (Nat.zero_le _) (by omega) (by decide), bind_sm, if_neg (by decide), show getI (E b S Q g) 9 (b + 116) 4 = some (S 116 4) by simp only [rM], bind_sm, if_neg (show ¬ S 116 4 = nI 0 from h4), show putV (E b S Q g) 9 (b + 116) 17 (.int (nI 0)) = some (E b (up2 S 116 17 0) Q g) from put17M, bind_sm, show putV (E b (up2 S 116 17 0) Q g) 9 (b + 116) 18 (.int (nI 0)) = some (E b (up2 (up2 S 116 17 0) 116 18 0) Q g) from put18M, bind_sm, ← hS1, getR_M0, bind_sm, g2, bind_sm, e2, bind_sm, g1, bind_sm, getR_M0, bind_sm, e3, bind_sm, gO_M, e4, bind_sm, g2, bind_sm, getR_M0, bind_sm, e5, bind_sm, getI_M17, getI_M18, w17, w18, bind_sm, bind_sm]
    by_cases hd0 : nI d = nI 0
    · rw [if_pos hd0, if_pos hd0]
    · rw [if_neg hd0, if_neg hd0]
  · have hr' : r ∉ [116, 117, 120, 123, 124] ∨ r = 116 := by
      by_cases h : r = 116
      · exact Or.inr h
      · exact Or.inl (fun q => by simp at q; omega)
    rcases hr' with h | h
    · rw [o5 r (by simp; omega), o4.1 r h, o3 r (by simp; omega), o2 r (by simp; omega), n1 r (by omega)]
    · omega
  · rw [o5 116 (by decide), o4.2 4 (by decide) (by decide), o3 116 (by decide), o2 116 (by decide), n116 4 (by decide) (by decide)]
  · rw [o5 116 (by decide), o4.2 20 (by decide) (by decide), o3 116 (by decide), o2 116 (by decide), n116 20 (by decide) (by decide)]
theorem op_rows (h : Sim b K S Q g) : Both b S Q g (fun h => fX8_rows h b x y) (fun h => fX9_rows h (b + 116) x y) := by
  obtain ⟨⟨a, hI, hC, hM⟩, ⟨i1, i2⟩, -, -, -, hg⟩ := id h
  have g07 : getI (E b S Q g) 8 b 7 = some (S 0 7) := (rO b S Q g).2.2.2.2.2.2.2.2.1
  rcases isN_or x 4 with ⟨n, hn, rfl⟩ | hx
  · have cn1 : ¬ nI n < 0 := fun q => absurd ((nI_ltI (by omega) (by decide) : nI n < nI 0 ↔ n < 0).mp q) (by omega)
    have cn2 : ¬ (3 : Int32) < nI n := fun q => absurd ((nI_ltI (by decide) (by omega) : nI 3 < nI n ↔ 3 < n).mp q) (by omega)
    rcases isN_or y 2 with ⟨d, hd, rfl⟩ | hy
    · have cd1 : ¬ nI d < 0 := fun q => absurd ((nI_ltI (by omega) (by decide) : nI d < nI 0 ↔ d < 0).mp q) (by omega)
      have cd2 : nI d ≤ 1 := (nI_leI (by omega) (by decide) : nI d ≤ nI 1 ↔ d ≤ 1).mpr (by omega)
      by_cases h0 : S 116 4 = nI 0
      · refine Both.err h 2 (by decide) ?_ (fun S1 hS => ?_)
        · unfold fX8_rows
          rw [(rO b S Q g).1, if_neg cn1, if_neg cn2, if_neg cd1, if_pos cd2, g07, bind_sm, i1, h0, if_pos (by decide)]
          rfl
        · have e1 : S1 116 4 = nI 0 := by rw [hS _ (by decide), h0]
          unfold fX9_rows
          rw [gO_M, show (0 : Int32) = nI 0 from rfl, show (3 : Int32) = nI 3 from rfl, m_in1 (Nat.zero_le _) (by omega) (by decide), bind_sm, if_neg (by decide), show (1 : Int32) = nI 1 from rfl, m_in1 (Nat.zero_le _) (by omega) (by decide), bind_sm, if_neg (by decide), show getI (E b S1 Q g) 9 (b + 116) 4 = some (S1 116 4) by simp only [rM], bind_sm, e1, if_pos rfl]
          rfl
      · obtain ⟨a2, hI2, hC2, hM2⟩ := i2 h0
        obtain ⟨S1, Q1, g1, e1, v6, v7, o1, q1, l1⟩ := c_findRows (b := b) (K := K) (n := n) hC hI hC2 hI2 (by omega)
        have h07 : ¬ S 0 7 = 0 := by rw [i1]; exact h0
        have e17 : S1 117 = S 117 := o1 117 (by omega)
        have e18 : S1 118 = S 118 := o1 118 (by omega)
        obtain ⟨S2, e2, o2, m2⟩ := m_rowsF (b := b) (S := S1) (Q := Q1) (g := g1) (a := a) (a2 := a2) (n := n) (by rw [e17]; exact hM) hI (by rw [e18]; exact hM2) hI2 (by omega) (by rw [o1 116 (by omega)]; exact h0) hd
        refine Both.act h (a := a) (S1 := S1) (Q1 := Q1) (g1 := g1) ?_ (fun r hr => o1 r (by omega)) l1 q1.2 (hg.lk l1) hI (hC.fr (fun m hm => o1 _ (by omega)) q1.1 l1) ⟨S2, e2, o2, m2⟩
        unfold fX8_rows
        rw [(rO b S Q g).1, if_neg cn1, if_neg cn2, if_neg cd1, if_pos cd2, g07, bind_sm, if_neg h07, (rO b S Q g).2.2.2.2.1, bind_sm, (rO b S Q g).2.2.2.1, bind_sm, show getR (E b S Q g) 1 (b + 21) 0 = some (b + 29) by simp only [rF], bind_sm, (rO b S Q g).2.2.1, bind_sm, show getR (E b S Q g) 1 (b + 4) 0 = some (b + 12) by simp only [rF], bind_sm, e1, bind_sm, (rO b S1 Q1 g1).2.2.2.2.1, bind_sm, getI_H6, v6, bind_sm, bind_sm, getI_H7, v7, bind_sm]
        by_cases hd0 : nI d = nI 0
        · rw [if_pos (show nI d = 0 from hd0), if_pos hd0]
        · rw [if_neg (show ¬ nI d = 0 from hd0), if_neg hd0]
    · refine Both.err h 1 (by decide) ?_ (fun S1 hS => ?_)
      · unfold fX8_rows
        rw [(rO b S Q g).1, if_neg cn1, if_neg cn2]
        rcases notN hy (by decide) with q | ⟨q, q2, -⟩
        · rw [if_pos (show y < 0 from q)]; rfl
        · rw [if_neg (show ¬ y < 0 from q), if_neg]
          · rfl
          · intro h6
            rw [Int32.le_iff_toInt_le] at q2 h6
            have : (nI 2).toInt = 2 := by decide
            have : (1 : Int32).toInt = 1 := by decide
            omega
      · unfold fX9_rows
        rw [gO_M, show (0 : Int32) = nI 0 from rfl, show (3 : Int32) = nI 3 from rfl, m_in1 (Nat.zero_le _) (by omega) (by decide), bind_sm, if_neg (by decide), show (1 : Int32) = nI 1 from rfl, m_in0 (hi := 1) hy (by decide), bind_sm, if_pos rfl]
  · refine Both.err h 1 (by decide) ?_ (fun S1 hS => ?_)
    · unfold fX8_rows
      rw [(rO b S Q g).1]
      rcases notN hx (by decide) with q | ⟨q, q2, -⟩
      · rw [if_pos (show x < 0 from q)]; rfl
      · rw [if_neg (show ¬ x < 0 from q), if_pos]
        · rfl
        · rw [Int32.le_iff_toInt_le] at q2
          rw [Int32.lt_iff_toInt_lt]
          have : (nI 4).toInt = 4 := by decide
          have : (3 : Int32).toInt = 3 := by decide
          omega
    · unfold fX9_rows
      rw [gO_M, show (0 : Int32) = nI 0 from rfl, show (3 : Int32) = nI 3 from rfl, m_in0 (hi := 3) hx (by decide), bind_sm, if_pos rfl]
      rfl
end OZl
