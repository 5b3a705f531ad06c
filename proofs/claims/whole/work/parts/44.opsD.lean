/-! ===== acts on people and men ===== -/
section OD
variable {b : Nat} {S S' S1 S2 : Nat → Nat → Int32} {Q Q' Q1 : Nat → Nat → Nat} {g g' g1 h : Hp} {f k j p n u c c0 c1 lo hi i : Nat} {x y z v r : Int32} {w : Wo} {T : Tx} {K K2 : Nat → Nat} {a a' : Fs} {s s' : Nat → Int32}
theorem op_forget (h : Sim b K S Q g) : Both b S Q g (fun h => fX8_forget h b x) (fun h => fX9_forget h (b + 116) x) := by
  obtain ⟨⟨a, hI, hC, hM⟩, -⟩ := id h
  have c1 : RepW S 12 (fW a) := hC.1
  have m1 := hM.1
  have i1 := hI.1
  have i3 := i1.2.2.1
  rcases isN_or x ((fW a).1 0 2) with ⟨k, hk, rfl⟩ | hx
  · obtain ⟨q1, q2, q3, q4, q5, q6⟩ := c1.2.2.2.2 k hk
    obtain ⟨p1, p2, p3, p4, p5, p6⟩ := m1.2.2.2.2 k hk
    have eC : fX8_forget (E b S Q g) b (nI k) = some (nI ((fW a).2 k).length, E b (up2 S 19 k (nI 0)) Q g) := by
      unfold fX8_forget fX8_exchange
      simp (disch := omega) only [rO, rF, rW w12, rN, bind_sm, c_hasMan1 w12 c1.2.2.1, z10, if_false, q5]
    have hO : OffW 12 S (up2 S 19 k (nI 0)) := OffW.up (by omega) (by omega)
    have e117 : up2 S 19 k (nI 0) 117 = S 117 := hO 117 (by omega)
    refine Both.wo h hI hC hM (w' := setMind (fW a) k []) (r := nI ((fW a).2 k).length) eC hO Lkg.rf ?_ ?_ hI.2.1 (Nat.le_refl _) ⟨up2 (up2 S 19 k (nI 0)) 117 (24 + 13 * k + 4) (nI 0), ?_, OffR.of (X := [117]) (Off.up List.mem_cons_self) (by decide), ?_, ?_⟩
    · refine c1.mind i1 hk (fun r hr => up2_row (by omega)) (fun j hj => by rw [up2_at, if_neg hj]) (fun j hj => by rw [up2_ne (by omega)]) (by rw [up2_at, if_pos rfl]; rfl) (fun i v hv => by simp at hv)
    · obtain ⟨j1, j2, j3, j4, j5, j6, j7, j8, j9, j10⟩ := i1
      refine ⟨j1, j2, j3, j4, j5, j6, j7, j8, j9, fun q => ?_⟩
      have := j10 q
      simp only [setMind]
      split
      · exact ⟨List.nodup_nil, fun q hq => by cases hq⟩
      · exact this
    · unfold fX9_forget
      simp (disch := omega) only [rM, rN, bind_sm, m_isMan1 (S := up2 S 19 k (nI 0)) (by rw [e117]; exact m1.2.1), z10, if_false, m_its, m_lays1]
      rw [e117, p5]
    · refine RepM.mind m1 i1 hk (fun j hj => ?_) ?_ (fun i v hv => by simp at hv)
      · rw [up2_at, if_neg (by omega), e117]
      · rw [up2_at, if_pos rfl]; rfl
    · intro j hj
      rw [up2_at, if_neg (by omega)]
  · refine Both.err h 1 (by decide) ?_ (fun S1 hS => ?_)
    · unfold fX8_forget
      simp (disch := omega) only [rO, rF, rN, bind_sm, c_hasMan0 w12 c1.2.2.1 (by omega) hx, if_true]
    · unfold fX9_forget
      simp (disch := omega) only [rM, rN, bind_sm, m_isMan0 (S := S1) (by rw [hS _ (by decide)]; exact m1.2.1) (by omega) hx, if_true]
/-- a number of the world exchanged -/
theorem Both.upN {F G : Hp → Option (Int32 × Hp)} {q i v : Nat} (h : Sim b K S Q g) (hI : Finv a) (hC : FerC b K S Q g 4 a) (hM : FerM (S 117) a) (hq : 1 ≤ q ∧ q ≤ 6) (hi : i < if q ≤ 2 then (fW a).1 0 1 else (fW a).1 0 2) (hv : v ≤ if q = 1 then 1 else if q = 2 then 9999 else if q = 3 then 6 else if q = 4 then 9 else if q = 5 then 1 else 999999)
    (hF : F (E b S Q g) = some (nI ((fW a).1 q i), E b (up2 S (12 + q) i (nI v)) Q g)) (hG : ∀ S1 : Nat → Nat → Int32, S1 117 = S 117 → G (E b S1 Q g) = some (nI ((fW a).1 q i), E b (up2 S1 117 (pM q i) (nI v)) Q g)) : Both b S Q g F G := by
  have hO : OffW 12 S (up2 S (12 + q) i (nI v)) := OffW.up (by omega) (by omega)
  have e117 : up2 S (12 + q) i (nI v) 117 = S 117 := hO 117 (by omega)
  have i1 := hI.1
  have h2 := i1.2.1
  have h3 := i1.2.2.1
  have hpm : 8 ≤ pM q i ∧ pM q i < 76 := by
    unfold pM
    by_cases a1 : q = 1
    · rw [if_pos (by omega)] at hi; rw [if_pos a1]; omega
    · by_cases a2 : q = 2
      · rw [if_pos (by omega)] at hi; rw [if_neg a1, if_pos a2]; omega
      · rw [if_neg (by omega)] at hi; rw [if_neg a1, if_neg a2]; omega
  refine Both.wo h hI hC hM (w' := upW (fW a) q i v) hF hO Lkg.rf (RepW.up hC.1 hq (fun r hr => up2_row (fun e => hr e.symm)) (fun j => up2_at)) (i1.up hq hv) (by rw [upW_at, if_neg (by omega)]; exact hI.2.1) (by rw [upW_at, if_neg (by omega)]; exact Nat.le_refl _) ⟨_, hG _ e117, OffR.of (X := [117]) (Off.up List.mem_cons_self) (by decide), RepM.up hM.1 i1 hq hi (fun j => by rw [up2_at, e117]), fun j hj => by rw [up2_at, if_neg (by omega)]⟩
theorem op_setPerson (h : Sim b K S Q g) : Both b S Q g (fun h => fX8_setPerson h b x y z) (fun h => fX9_setPerson h (b + 116) x y z) := by
  obtain ⟨⟨a, hI, hC, hM⟩, -⟩ := id h
  have c1 : RepW S 12 (fW a) := hC.1
  have m1 := hM.1
  have i1 := hI.1
  have i2 := i1.2.1
  have n117 : ∀ S1 : Nat → Nat → Int32, (∀ r, r ≠ 115 → S1 r = S r) → S1 117 = S 117 := fun S1 hS => hS _ (by decide)
  rcases isN_or x ((fW a).1 0 1) with ⟨p, hp, rfl⟩ | hx
  · obtain ⟨q1, q2⟩ := c1.2.2.2.1 p hp
    obtain ⟨p1, p2⟩ := m1.2.2.2.1 p hp
    have cP := c_hasPerson1 (b := b) (Q := Q) (g := g) w12 c1.2.1 (by omega) hp
    have mP : ∀ S1 : Nat → Nat → Int32, S1 117 = S 117 → fX9_isPerson (E b S1 Q g) (b + 116) (nI p) = some (nI 1) := fun S1 hS => m_isPerson1 (S := S1) (by rw [hS]; exact m1.1) (by omega) hp
    have bad : (∀ z', y = nI 0 → z = z' → ¬ isN z' 2) → (∀ z', y = nI 1 → z = z' → ¬ isN z' 10000) → Both b S Q g (fun h => fX8_setPerson h b (nI p) y z) (fun h => fX9_setPerson h (b + 116) (nI p) y z) := by
      intro h0 h1
      refine Both.err h 1 (by decide) ?_ (fun S1 hS => ?_)
      · unfold fX8_setPerson fX8_setPerson_46
        simp (disch := omega) only [rO, rF, rN, bind_sm, cP, z10, if_false]
        by_cases y0 : y = nI 0
        · simp only [if_pos y0, c_isBank0 (h0 z y0 rfl), bind_sm, if_true]
          rw [if_neg (by rw [y0]; decide)]
        · rw [if_neg y0]
          by_cases y1 : y = nI 1
          · rw [if_pos y1]
            rcases notN (h1 z y1 rfl) (by decide) with q | ⟨q, q2, -⟩
            · rw [if_pos q]
            · rw [if_neg q, if_pos (by
                rw [Int32.le_iff_toInt_le] at q2
                rw [Int32.lt_iff_toInt_lt]
                have : (nI 10000).toInt = 10000 := by decide
                have : (nI 9999).toInt = 9999 := by decide
                omega)]
          · rw [if_neg y1]
      · unfold fX9_setPerson fX9_setPerson_30
        simp (disch := omega) only [rM, rN, bind_sm, mP S1 (n117 S1 hS), z10, if_false]
        by_cases y0 : y = nI 0
        · rw [y0]
          simp (disch := omega) only [m_in1, bind_sm, z10, if_false, if_true, m_in0 (hi := 1) (h0 z y0 rfl)]
        · by_cases y1 : y = nI 1
          · rw [y1]
            simp (disch := omega) only [m_in1, bind_sm, z10, if_false, if_true, m_in0 (hi := 9999) (h1 z y1 rfl)]
          · have hy : ¬ isN y (1 + 1) := by
              rintro ⟨j, hj, rfl⟩
              have : j = 0 ∨ j = 1 := by omega
              rcases this with rfl | rfl
              · exact y0 rfl
              · exact y1 rfl
            simp (disch := omega) only [m_in0 hy, bind_sm, if_true]
    by_cases y0 : y = nI 0
    · rcases isN_or z 2 with ⟨d, hd, rfl⟩ | hz
      · subst y0
        refine Both.upN h hI hC hM (q := 1) (i := p) (v := d) (by omega) (by rw [if_pos (by omega)]; exact hp) (by rw [if_pos rfl]; omega) ?_ (fun S1 hS => ?_)
        · unfold fX8_setPerson fX8_exchange
          simp (disch := omega) only [rO, rF, rW w12, rN, bind_sm, cP, z10, if_false, if_true, c_isBank1, q1]
        · unfold fX9_setPerson fX9_setPerson_30
          simp (disch := omega) only [rM, rN, bind_sm, mP S1 hS, z10, if_false, if_true, m_in1, m_of, nI_add, pk_mul]
          rw [hS]
          exact congrArg (fun q => some (q, _)) p1
      · exact bad (fun z' _ e => e ▸ hz) (fun z' e _ => absurd (y0.symm.trans e) (by decide))
    · by_cases y1 : y = nI 1
      · rcases isN_or z 10000 with ⟨d, hd, rfl⟩ | hz
        · subst y1
          refine Both.upN h hI hC hM (q := 2) (i := p) (v := d) (by omega) (by rw [if_pos (by omega)]; exact hp) (by rw [if_neg (by omega), if_pos rfl]; omega) ?_ (fun S1 hS => ?_)
          · unfold fX8_setPerson fX8_setPerson_46 fX8_exchange
            simp (disch := omega) only [rO, rF, rW w12, rN, bind_sm, cP, z10, if_false, if_true, nI_ltI, q2]
            rw [if_neg (by omega), if_neg (by omega)]
          · unfold fX9_setPerson fX9_setPerson_30
            simp (disch := omega) only [rM, rN, bind_sm, mP S1 hS, z10, if_false, if_true, m_in1, m_of, nI_add, pk_mul]
            rw [hS]
            exact congrArg (fun q => some (q, _)) p2
        · exact bad (fun z' e _ => absurd e y0) (fun z' _ e => e ▸ hz)
      · exact bad (fun z' e _ => absurd e y0) (fun z' e _ => absurd e y1)
  · refine Both.err h 1 (by decide) ?_ (fun S1 hS => ?_)
    · unfold fX8_setPerson
      simp (disch := omega) only [rO, rF, rN, bind_sm, c_hasPerson0 w12 c1.2.1 (by omega) hx, if_true]
    · unfold fX9_setPerson
      simp (disch := omega) only [rM, rN, bind_sm, m_isPerson0 (S := S1) (by rw [n117 S1 hS]; exact m1.1) (by omega) hx, if_true]
end OD
