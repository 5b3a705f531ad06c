/-! ===== refusals of meeting and crossing; cross ===== -/
section OJ
variable {b : Nat} {S S' S1 S2 : Nat → Nat → Int32} {Q Q' Q1 : Nat → Nat → Nat} {g g' g1 h : Hp} {f k j p n u c c0 c1 lo hi i d e : Nat} {x y z v r : Int32} {w : Wo} {T : Tx} {K K2 : Nat → Nat} {a a' : Fs} {s s' : Nat → Int32}
theorem mp_cases (w : Wo) (x y : Int32) : (∃ k p, k < w.1 0 2 ∧ p < w.1 0 1 ∧ x = nI k ∧ y = nI p) ∨ (¬ isN x (w.1 0 2) ∨ ((∃ k, k < w.1 0 2 ∧ x = nI k) ∧ ¬ isN y (w.1 0 1))) := by
  rcases isN_or x (w.1 0 2) with ⟨k, hk, rfl⟩ | hx
  · rcases isN_or y (w.1 0 1) with ⟨p, hp, rfl⟩ | hy
    · exact Or.inl ⟨k, p, hk, hp, rfl, rfl⟩
    · exact Or.inr (Or.inr ⟨⟨k, hk, rfl⟩, hy⟩)
  · exact Or.inr (Or.inl hx)
theorem c_meeting1 (hR : RepW S 12 w) (hI : Winv w) (hk : k < w.1 0 2) (hp : p < w.1 0 1) : fX8_refusalOfMeeting (E b S Q g) b (nI k) (nI p) = some (if metP w k p = true then nI 0 else nI 3) := by
  have h2 := hI.2.1
  have h3 := hI.2.2.1
  unfold fX8_refusalOfMeeting
  simp (disch := omega) only [rO, rF, rN, bind_sm, c_hasMan1 w12 hR.2.2.1, c_hasPerson1 w12 hR.2.1, z10, if_false, c_meet w12 hR hI hk hp]
  cases metP w k p <;> rfl
theorem c_meeting0 (hR : RepW S 12 w) (hI : Winv w) (h : ¬ isN x (w.1 0 2) ∨ ((∃ k, k < w.1 0 2 ∧ x = nI k) ∧ ¬ isN y (w.1 0 1))) : fX8_refusalOfMeeting (E b S Q g) b x y = some (nI 1) := by
  have h2 := hI.2.1
  have h3 := hI.2.2.1
  unfold fX8_refusalOfMeeting
  rcases h with hx | ⟨⟨k, hk, rfl⟩, hy⟩
  · simp (disch := omega) only [rO, rF, rN, bind_sm, c_hasMan0 w12 hR.2.2.1 (by omega) hx, if_true]
  · simp (disch := omega) only [rO, rF, rN, bind_sm, c_hasMan1 w12 hR.2.2.1, c_hasPerson0 w12 hR.2.1 (by omega) hy, z10, if_false, if_true]
theorem m_together (hR : RepM (S 117) w) (hI : Winv w) (hk : k < w.1 0 2) (hp : p < w.1 0 1) : fX9_areTogether (E b S Q g) (b + 116) (nI k) (nI p) = some (if metP w k p = true then nI 1 else nI 0) := by
  have h2 := hI.2.1
  have h3 := hI.2.2.1
  have a8 := hI.2.2.2.2.2.2.2.1 k
  have a4 := hI.2.2.2.1 p
  have e0 : 8 + 2 * p + 0 = 8 + 2 * p := rfl
  unfold fX9_areTogether metP
  simp (disch := omega) only [rM, rN, bind_sm, m_its, m_of, e0, (hR.2.2.2.1 p hp).1, (hR.2.2.2.2 k hk).2.2.1, nI_eq, decide_eq_true_eq]
  split <;> rfl
theorem m_whyNot1 (hR : RepM (S 117) w) (hI : Winv w) (hk : k < w.1 0 2) (hp : p < w.1 0 1) : fX9_whyNotCross (E b S Q g) (b + 116) (nI k) (nI p) = some (if metP w k p = true ∧ w.1 0 0 ≠ 9999 then nI 0 else nI 3) := by
  have h2 := hI.2.1
  have h3 := hI.2.2.1
  have ht := hI.1
  unfold fX9_whyNotCross
  simp (disch := omega) only [rM, rN, bind_sm, m_isMan1 hR.2.1, m_isPerson1 hR.1, z10, Nat.one_ne_zero, if_false, m_together hR hI hk hp, hR.2.2.1, nI_eq]
  by_cases h9 : w.1 0 0 = 9999
  · simp only [h9, if_true]
    cases metP w k p <;> simp
  · simp only [h9, if_false]
    cases metP w k p <;> simp [z10, h9]
theorem m_whyNot0 (hR : RepM (S 117) w) (hI : Winv w) (h : ¬ isN x (w.1 0 2) ∨ ((∃ k, k < w.1 0 2 ∧ x = nI k) ∧ ¬ isN y (w.1 0 1))) : fX9_whyNotCross (E b S Q g) (b + 116) x y = some (nI 1) := by
  have h2 := hI.2.1
  have h3 := hI.2.2.1
  unfold fX9_whyNotCross
  rcases h with hx | ⟨⟨k, hk, rfl⟩, hy⟩
  · simp (disch := omega) only [rM, rN, bind_sm, m_isMan0 hR.2.1 (by omega) hx, if_true]
  · simp (disch := omega) only [rM, rN, bind_sm, m_isMan1 hR.2.1, m_isPerson0 hR.1 (by omega) hy, z10, if_false, if_true]
theorem c_crossing1 (hR : RepW S 12 w) (hI : Winv w) (h9 : w.1 0 0 ≤ 9999) (hk : k < w.1 0 2) (hp : p < w.1 0 1) : fX8_refusalOfCrossing (E b S Q g) b (nI k) (nI p) = some (if metP w k p = true ∧ w.1 0 0 ≠ 9999 then nI 0 else nI 3) := by
  have n30 : (nI 3 = nI 0) = False := by rw [eq_iff_iff]; decide
  unfold fX8_refusalOfCrossing
  rw [(rO b S Q g).1, c_meeting1 hR hI hk hp, bind_sm]
  by_cases hm : metP w k p = true
  · simp (disch := omega) only [hm, if_true, rO, rF, rW w12, rN, bind_sm, hR.1, nI_ltI, true_and]
    by_cases h : w.1 0 0 = 9999
    · rw [if_neg (by omega), if_neg (fun q => q h)]
    · rw [if_pos (by omega), if_pos h]
  · have e2 : ¬ (metP w k p = true ∧ w.1 0 0 ≠ 9999) := fun q => hm q.1
    rw [if_neg hm, if_neg e2]
    exact if_neg (by decide)
theorem c_crossing0 (hR : RepW S 12 w) (hI : Winv w) (h : ¬ isN x (w.1 0 2) ∨ ((∃ k, k < w.1 0 2 ∧ x = nI k) ∧ ¬ isN y (w.1 0 1))) : fX8_refusalOfCrossing (E b S Q g) b x y = some (nI 1) := by
  unfold fX8_refusalOfCrossing
  rw [(rO b S Q g).1, c_meeting0 hR hI h, bind_sm]
  simp only [rN, z10, if_false]
theorem op_cross (h : Sim b K S Q g) : Both b S Q g (fun h => fX8_cross h b x y) (fun h => fX9_cross h (b + 116) x y) := by
  obtain ⟨⟨a, hI, hC, hM⟩, -, -, -, -, hg⟩ := id h
  have c1 : RepW S 12 (fW a) := hC.1
  have m1 := hM.1
  have i1 := hI.1
  have n30 : (nI 3 = nI 0) = False := by rw [eq_iff_iff]; decide
  have n117 : ∀ S1 : Nat → Nat → Int32, (∀ r, r ≠ 115 → S1 r = S r) → S1 117 = S 117 := fun S1 hS => hS _ (by decide)
  rcases mp_cases (fW a) x y with ⟨k, p, hk, hp, rfl, rfl⟩ | hb
  · have cE := c_crossing1 (b := b) (Q := Q) (g := g) c1 i1 hI.2.1 hk hp
    have mE : ∀ S1 : Nat → Nat → Int32, S1 117 = S 117 → ∀ g, fX9_whyNotCross (E b S1 Q g) (b + 116) (nI k) (nI p) = some (if metP (fW a) k p = true ∧ (fW a).1 0 0 ≠ 9999 then nI 0 else nI 3) := fun S1 hS g => m_whyNot1 (S := S1) (by rw [hS]; exact m1) i1 hk hp
    by_cases hm : metP (fW a) k p = true ∧ (fW a).1 0 0 ≠ 9999
    · rw [if_pos hm] at cE
      simp only [if_pos hm] at mE
      obtain ⟨S1, g1, e1, o1, l1, f1⟩ := c_carryAndBook (b := b) (K := K) hC hI hk hp hm.1
      have e117 : S1 117 = S 117 := o1 117 (by omega)
      obtain ⟨S2, e2, o2, f2, -⟩ := m_cross (b := b) (Q := Q) (g := g1) (S := S1) (by rw [e117]; exact hM) hI hk hp
      refine Both.act h (a := crossA a k p) (S1 := S1) (Q1 := Q) (g1 := g1) (r := nI (paysP (fT a) (fW a) k p)) ?_ o1 l1 rfl (hg.lk l1) (crossA_inv hI hk hp (by have := hI.2.1; omega)) f1 ⟨S2, ?_, OffR.of o2 (by decide), f2⟩
      · unfold fX8_cross
        simp only [rO, rN, cE, bind_sm, if_true, e1]
      · unfold fX9_cross
        simp only [rM, rN, mE S1 e117, bind_sm]
        rw [if_pos (by decide), e2, bind_sm]
    · rw [if_neg hm] at cE
      simp only [if_neg hm] at mE
      refine Both.err h 3 (by decide) ?_ (fun S1 hS => ?_)
      · unfold fX8_cross
        simp only [rO, rN, cE, bind_sm, n30, if_false]
      · unfold fX9_cross
        simp only [rM, rN, mE S1 (n117 S1 hS), bind_sm]
        rw [if_neg (by decide)]
  · refine Both.err h 1 (by decide) ?_ (fun S1 hS => ?_)
    · unfold fX8_cross
      simp only [rO, rN, c_crossing0 c1 i1 hb, bind_sm, z10, if_false]
    · unfold fX9_cross
      simp only [rM, rN, m_whyNot0 (S := S1) (by rw [n117 S1 hS]; exact m1) i1 hb, bind_sm]
      rw [if_neg (by decide)]
end OJ
