/-! ===== a debt comes ===== -/
section OK
variable {b : Nat} {S S' S1 S2 : Nat → Nat → Int32} {Q Q' Q1 : Nat → Nat → Nat} {g g' g1 h : Hp} {f k j p q n u c c0 c1 lo hi i d e : Nat} {x y z v r : Int32} {w : Wo} {T : Tx} {K K2 : Nat → Nat} {a a' : Fs} {s s' : Nat → Int32}
theorem debtC.snoc {l : List Dt} {t : Dt} (h : debtC S f l) (e1 : S' (f + 1) 0 = nI (l.length + 1)) (e2 : ∀ j, S' (f + 2) j = if j = l.length then nI t.1 else S (f + 2) j) (e3 : ∀ j, S' (f + 3) j = if j = l.length then nI t.2.1 else S (f + 3) j) (e4 : ∀ j, S' (f + 4) j = if j = l.length then nI t.2.2 else S (f + 4) j) : debtC S' f (l ++ [t]) := by
  refine ⟨by rw [e1, List.length_append]; rfl, fun i v hv => ?_⟩
  rw [e2, e3, e4]
  by_cases hi : i < l.length
  · rw [List.getElem?_append_left hi] at hv
    rw [if_neg (by omega), if_neg (by omega), if_neg (by omega)]
    exact h.2 i v hv
  · rw [List.getElem?_append_right (by omega)] at hv
    have hi2 : i - l.length = 0 := by
      have := (List.getElem?_eq_some_iff.mp hv).1
      simp at this; omega
    rw [hi2] at hv
    simp at hv
    rw [if_pos (by omega), if_pos (by omega), if_pos (by omega), hv]
    exact ⟨rfl, rfl, rfl⟩
theorem debtM.snoc {l : List Dt} {t : Dt} (h : debtM s l) (e : ∀ j, s' j = if j = 3 then nI (l.length + 1) else if j = 76 + 3 * l.length then nI t.1 else if j = 76 + 3 * l.length + 1 then nI t.2.1 else if j = 76 + 3 * l.length + 2 then nI t.2.2 else s j) : debtM s' (l ++ [t]) := by
  refine ⟨by rw [e, if_pos rfl, List.length_append]; rfl, fun i v hv => ?_⟩
  by_cases hi : i < l.length
  · rw [List.getElem?_append_left hi] at hv
    rw [e, e, e, if_neg (by omega), if_neg (by omega), if_neg (by omega), if_neg (by omega), if_neg (by omega), if_neg (by omega), if_neg (by omega), if_neg (by omega), if_neg (by omega), if_neg (by omega), if_neg (by omega), if_neg (by omega)]
    exact h.2 i v hv
  · rw [List.getElem?_append_right (by omega)] at hv
    have hi2 : i - l.length = 0 := by
      have := (List.getElem?_eq_some_iff.mp hv).1
      simp at this; omega
    rw [hi2] at hv
    simp at hv
    have hi3 : i = l.length := by omega
    subst hi3
    rw [e, e, e, if_neg (by omega), if_pos rfl, if_neg (by omega), if_neg (by omega), if_pos rfl, if_neg (by omega), if_neg (by omega), if_neg (by omega), if_pos rfl, hv]
    exact ⟨rfl, rfl, rfl⟩
theorem op_debt (h : Sim b K S Q g) : Both b S Q g (fun h => fX8_debt h b x y z) (fun h => fX9_debt h (b + 116) x y z) := by
  obtain ⟨⟨a, hI, hC, hM⟩, -, -, -, -, hg⟩ := id h
  have c1 : RepW S 12 (fW a) := hC.1
  have m1 := hM.1
  have i1 := hI.1
  have i2 := i1.2.1
  have n117 : ∀ S1 : Nat → Nat → Int32, (∀ r, r ≠ 115 → S1 r = S r) → S1 117 = S 117 := fun S1 hS => hS _ (by decide)
  rcases isN_or x ((fW a).1 0 1) with ⟨p, hp, rfl⟩ | hx
  · rcases isN_or y ((fW a).1 0 1) with ⟨q, hq, rfl⟩ | hy
    · have cP := c_hasPerson1 (b := b) (Q := Q) (g := g) w12 c1.2.1 (by omega) hp
      have cQ := c_hasPerson1 (b := b) (Q := Q) (g := g) w12 c1.2.1 (by omega) hq
      have mP : ∀ S1 : Nat → Nat → Int32, S1 117 = S 117 → fX9_isPerson (E b S1 Q g) (b + 116) (nI p) = some (nI 1) := fun S1 hS => m_isPerson1 (S := S1) (by rw [hS]; exact m1.1) (by omega) hp
      have mQ : ∀ S1 : Nat → Nat → Int32, S1 117 = S 117 → fX9_isPerson (E b S1 Q g) (b + 116) (nI q) = some (nI 1) := fun S1 hS => m_isPerson1 (S := S1) (by rw [hS]; exact m1.1) (by omega) hq
      by_cases hpq : p = q
      · refine Both.err h 1 (by decide) ?_ (fun S1 hS => ?_)
        · unfold fX8_debt
          simp (disch := omega) only [rO, rF, rN, bind_sm, cP, cQ, z10, if_false, hpq, if_true]
        · unfold fX9_debt
          simp (disch := omega) only [rM, rN, bind_sm, mP S1 (n117 S1 hS), mQ S1 (n117 S1 hS), z10, if_false, hpq, if_true]
      · have npq : (nI p = nI q) = False := by rw [eq_iff_iff, nI_eq (by omega) (by omega)]; simp [hpq]
        have bad : (z < nI 1 ∨ (¬ z < nI 1 ∧ ¬ z ≤ nI 999)) → Both b S Q g (fun h => fX8_debt h b (nI p) (nI q) z) (fun h => fX9_debt h (b + 116) (nI p) (nI q) z) := by
          intro hz
          refine Both.err h 1 (by decide) ?_ (fun S1 hS => ?_)
          · unfold fX8_debt
            simp (disch := omega) only [rO, rF, rN, bind_sm, cP, cQ, z10, if_false, npq]
            rcases hz with q | ⟨q, q2⟩
            · rw [if_pos q]
            · rw [if_neg q, if_neg q2]
          · have mz : fX9_in z (nI 1) (nI 999) = some (nI 0) := by
              rw [m_in, if_pos]
              rcases hz with q | ⟨q, q2⟩
              · exact Or.inl q
              · exact Or.inr (Classical.byContradiction (fun q3 => q2 ((i32_le_iff _ _).mpr q3)))
            unfold fX9_debt
            simp (disch := omega) only [rM, rN, bind_sm, mP S1 (n117 S1 hS), mQ S1 (n117 S1 hS), z10, if_false, npq, mz, if_true]
        rcases isN_or z 1000 with ⟨d, hd, rfl⟩ | hz
        · by_cases hd0 : d = 0
          · exact bad (Or.inl (by rw [hd0]; decide))
          · obtain ⟨_, c2, c4, c5, c6, c7, c8⟩ := hC
            obtain ⟨_, m2, m3, m4, m5, m6, m7⟩ := hM
            obtain ⟨_, j2, j3, j4, j5, j6, j7, j8⟩ := id hI
            generalize hn : (fDb a).length = n at *
            have cn : S 5 0 = nI n := by rw [c8.1, hn]
            have mn : S 117 3 = nI n := by rw [m7.1, hn]
            by_cases h8 : n < 8
            · generalize hS1 : up2 (up2 (up2 (up2 S 6 n (nI p)) 7 n (nI q)) 8 n (nI d)) 5 0 (nI (n + 1)) = S1
              have ne : ∀ r, (r < 5 ∨ 9 ≤ r) → S1 r = S r := fun r a1 => by rw [← hS1, up2_row (by omega), up2_row (by omega), up2_row (by omega), up2_row (by omega)]
              have e117 : S1 117 = S 117 := ne _ (by omega)
              have eA : fX0_add (E b S Q g) (b + 5) (nI p) (nI q) (nI d) = some (nI n, E b S1 Q g) := by
                unfold fX0_add
                simp (disch := omega) only [rF, rN, bind_sm, cn]
                rw [up2_ne (show 5 ≠ 8 by omega), up2_ne (show 5 ≠ 7 by omega), up2_ne (show 5 ≠ 6 by omega), cn, nI_add, ← hS1]
              refine Both.act h (a := (fW a, fT a, fTp a, fWt a, fBk a, fZ a, fDb a ++ [(p, q, d)])) (S1 := S1) (Q1 := Q) (g1 := g) (r := nI n) ?_ (fun r hr => ne r (by omega)) Lkg.rf rfl hg ⟨i1, j2, j3, j4, j5, j6, by show (fDb a ++ [(p, q, d)]).length ≤ 8; rw [List.length_append, hn]; simp; omega, fun t ht => ?_⟩ ⟨c1.fr (fun m hm => ne _ (by omega)), c2, c4.fr (by rw [ne _ (by omega)]) (ne _ (by omega)), c5.fr (by rw [ne _ (by omega)]) (ne _ (by omega)), c6.fr (by rw [ne _ (by omega)]) (ne _ (by omega)), by rw [ne _ (by omega)]; exact c7, ?_⟩ ⟨up2 (up2 (up2 (up2 S1 117 (76 + 3 * n) (nI p)) 117 (76 + 3 * n + 1) (nI q)) 117 (76 + 3 * n + 2) (nI d)) 117 3 (nI (n + 1)), ?_, OffR.of (X := [117]) ((((Off.up List.mem_cons_self).tr (Off.up List.mem_cons_self)).tr (Off.up List.mem_cons_self)).tr (Off.up List.mem_cons_self)) (by decide), ?_⟩
              · unfold fX8_debt
                simp (disch := omega) only [rO, rF, rN, bind_sm, cP, cQ, z10, if_false, npq, cn, eA, nI_ltI, nI_leI]
                rw [if_neg (by omega), if_pos (by omega), if_pos h8]
              · have ht' : t ∈ fDb a ++ [(p, q, d)] := ht
                rw [List.mem_append, List.mem_singleton] at ht'
                rcases ht' with ht' | rfl
                · exact j8 t ht'
                · exact ⟨hp, hq, by show d ≤ 999; omega⟩
              · refine c8.snoc ?_ (fun j => ?_) (fun j => ?_) (fun j => ?_)
                · rw [← hS1, up2_at, if_pos rfl, hn]
                · rw [← hS1, up2_ne (by omega), up2_ne (by omega), up2_ne (by omega), up2_at, hn]
                · rw [← hS1, up2_ne (by omega), up2_ne (by omega), up2_at, up2_ne (by omega), hn]
                · rw [← hS1, up2_ne (by omega), up2_at, up2_ne (by omega), up2_ne (by omega), hn]
              · have e5 : ∀ (q : Nat) (z : Int32) (S : Nat → Nat → Int32), q ≠ 3 → S 117 3 = nI n → up2 S 117 q z 117 3 = nI n := fun q z S hr hS => by rw [up2_at, if_neg (by omega)]; exact hS
                have e6 := e5 (76 + 3 * n + 2) (nI d) _ (by omega) (e5 (76 + 3 * n + 1) (nI q) _ (by omega) (e5 (76 + 3 * n) (nI p) S1 (by omega) (by rw [e117]; exact mn)))
                have e7 : up2 (up2 (up2 (up2 S1 117 (76 + 3 * n) (nI p)) 117 (76 + 3 * n + 1) (nI q)) 117 (76 + 3 * n + 2) (nI d)) 117 3 (nI (n + 1)) 117 3 = nI (n + 1) := by rw [up2_at, if_pos rfl]
                unfold fX9_debt
                simp (disch := omega) only [rM, rN, bind_sm, mP S1 e117, mQ S1 e117, z10, if_false, npq, m_in1, e117, mn, nI_eq, Nat.one_ne_zero, hpq]
                rw [if_neg (by omega)]
                simp (disch := omega) only [rM, bind_sm, pk_mul, nI_add, e6, e7, nI_subI, Nat.add_sub_cancel]
              · have e : ∀ j, j ≠ 3 → (j < 76 ∨ 100 ≤ j) → up2 (up2 (up2 (up2 S1 117 (76 + 3 * n) (nI p)) 117 (76 + 3 * n + 1) (nI q)) 117 (76 + 3 * n + 2) (nI d)) 117 3 (nI (n + 1)) 117 j = S 117 j := fun j h1 h2 => by rw [up2_at, if_neg h1, up2_at, if_neg (by omega), up2_at, if_neg (by omega), up2_at, if_neg (by omega), e117]
                refine ⟨m1.fr i1 (fun j hj => e j (by omega) (by omega)), m2.fr j3 (fun j hj => e j (by omega) (by omega)), m3.fr j4.1 (fun j hj => e j (by omega) (by omega)), m4.fr j5 (fun j hj => e j (by omega) (by omega)), m5.fr j6.1 (fun j hj => e j (by omega) (by omega)), by rw [e _ (by omega) (by omega)]; exact m6, m7.snoc (fun j => ?_)⟩
                rw [up2_at, up2_at, up2_at, up2_at, e117, hn]
                by_cases a0 : j = 3
                · rw [if_pos a0, if_pos a0]
                · rw [if_neg a0, if_neg a0]
                  by_cases a1 : j = 76 + 3 * n
                  · rw [if_neg (by omega), if_neg (by omega), if_pos a1, if_pos a1]
                  · by_cases a2 : j = 76 + 3 * n + 1
                    · rw [if_neg (by omega), if_pos a2, if_neg a1, if_pos a2]
                    · by_cases a3 : j = 76 + 3 * n + 2
                      · rw [if_pos a3, if_neg a1, if_neg a2, if_pos a3]
                      · rw [if_neg a3, if_neg a2, if_neg a1, if_neg a1, if_neg a2, if_neg a3]
            · have h8' : n = 8 := by omega
              subst h8'
              refine Both.err h 4 (by decide) ?_ (fun S1 hS => ?_)
              · unfold fX8_debt
                simp (disch := omega) only [rO, rF, rN, bind_sm, cP, cQ, z10, if_false, npq, cn, nI_ltI, nI_leI]
                rw [if_neg (by omega), if_pos (by omega), if_neg (by omega)]
              · have e1 : S1 117 3 = nI 8 := by rw [n117 S1 hS]; exact mn
                unfold fX9_debt
                simp (disch := omega) only [rM, rN, bind_sm, mP S1 (n117 S1 hS), mQ S1 (n117 S1 hS), z10, if_false, npq, m_in1, e1, if_true]
        · rcases notN hz (by decide) with q0 | ⟨q0, q2, q3⟩
          · exact bad (Or.inl (lt01 q0))
          · refine bad ?_
            by_cases h1 : z < nI 1
            · exact Or.inl h1
            · refine Or.inr ⟨h1, fun h6 => ?_⟩
              rw [Int32.le_iff_toInt_le] at q2 h6
              have : (nI 999).toInt = 999 := by decide
              have : (nI 1000).toInt = 1000 := by decide
              omega
    · refine Both.err h 1 (by decide) ?_ (fun S1 hS => ?_)
      · unfold fX8_debt
        simp (disch := omega) only [rO, rF, rN, bind_sm, c_hasPerson1 w12 c1.2.1, c_hasPerson0 w12 c1.2.1 (by omega) hy, z10, if_false, if_true]
      · unfold fX9_debt
        simp (disch := omega) only [rM, rN, bind_sm, m_isPerson1 (S := S1) (by rw [n117 S1 hS]; exact m1.1), m_isPerson0 (S := S1) (by rw [n117 S1 hS]; exact m1.1) (by omega) hy, z10, if_false, if_true]
  · refine Both.err h 1 (by decide) ?_ (fun S1 hS => ?_)
    · unfold fX8_debt
      simp (disch := omega) only [rO, rF, rN, bind_sm, c_hasPerson0 w12 c1.2.1 (by omega) hx, if_true]
    · unfold fX9_debt
      simp (disch := omega) only [rM, rN, bind_sm, m_isPerson0 (S := S1) (by rw [n117 S1 hS]; exact m1.1) (by omega) hx, if_true]
end OK
