/-! ===== simple acts ===== -/
section OC
variable {b : Nat} {S S' S1 S2 : Nat → Nat → Int32} {Q Q' Q1 : Nat → Nat → Nat} {g g' g1 h : Hp} {f k j p n u c c0 c1 lo hi i : Nat} {x y z v r : Int32} {w : Wo} {T : Tx} {K K2 : Nat → Nat} {a a' : Fs} {s s' : Nat → Int32}
theorem rowV.snoc {f f' : Nat → Int32} {o : Nat} {l : List Int32} (h : rowV f o l) (h1 : f' (o + l.length) = x) (h2 : ∀ i < l.length, f' (o + i) = f (o + i)) : rowV f' o (l ++ [x]) := by
  intro i v hv
  by_cases hi : i < l.length
  · rw [List.getElem?_append_left hi] at hv
    rw [h2 i hi]; exact h i v hv
  · rw [List.getElem?_append_right (by omega)] at hv
    have hi2 : i - l.length = 0 := by
      have := (List.getElem?_eq_some_iff.mp hv).1
      simp at this; omega
    rw [hi2] at hv
    simp at hv
    rw [show i = l.length by omega, h1, hv]
theorem rowIs.snoc {f f' : Nat → Int32} {o : Nat} {l : List Nat} (h : rowIs f o l) (h1 : f' (o + l.length) = nI n) (h2 : ∀ i < l.length, f' (o + i) = f (o + i)) : rowIs f' o (l ++ [n]) := by
  intro i v hv
  by_cases hi : i < l.length
  · rw [List.getElem?_append_left hi] at hv
    rw [h2 i hi]; exact h i v hv
  · rw [List.getElem?_append_right (by omega)] at hv
    have hi2 : i - l.length = 0 := by
      have := (List.getElem?_eq_some_iff.mp hv).1
      simp at this; omega
    rw [hi2] at hv
    simp at hv
    rw [show i = l.length by omega, h1, hv]
theorem op_tell (h : Sim b K S Q g) : Both b S Q g (fun h => fX8_tell h b x) (fun h => fX9_tell h (b + 116) x) := by
  obtain ⟨⟨a, hI, hC, hM⟩, -, -, -, -, hg⟩ := id h
  obtain ⟨c1, c2, c4, c5, c6, c7, c8⟩ := hC
  obtain ⟨m1, m2, m3, m4, m5, m6, m7⟩ := hM
  obtain ⟨i1, i2, i3, i4, i5, i6, i7, i8⟩ := id hI
  generalize hn : (fWt a).length = n at *
  obtain ⟨c5a, c5b⟩ := c5
  obtain ⟨m4a, m4b⟩ := m4
  rw [hn] at c5a m4a
  by_cases h24 : n < 24
  · generalize hS1 : up2 (up2 S 10 n x) 4 5 (nI (n + 1)) = S1
    have ne : ∀ r, r ≠ 4 → r ≠ 10 → S1 r = S r := fun r h1 h2 => by rw [← hS1, up2_row (by omega), up2_row (by omega)]
    have n4 : ∀ j, j ≠ 5 → S1 4 j = S 4 j := fun j hj => by rw [← hS1, up2_at, if_neg hj, up2_ne (by omega)]
    have e117 : S1 117 = S 117 := ne _ (by omega) (by omega)
    have eC : fX8_tell (E b S Q g) b x = some (nI (n + 1), E b S1 Q g) := by
      unfold fX8_tell
      simp (disch := omega) only [rO, rF, rN, bind_sm, c5a, nI_ltI]
      rw [if_pos h24]
      rw [up2_ne (show 4 ≠ 10 by omega), c5a, nI_add, up2_at, if_pos rfl, hS1]
    refine Both.act h (a := (fW a, fT a, fTp a, fWt a ++ [x], fBk a, fZ a, fDb a)) (S1 := S1) (Q1 := Q) (g1 := g) (r := nI (n + 1)) eC (fun r hr => ne r (by omega) (by omega)) Lkg.rf rfl hg ⟨i1, i2, i3, i4, by show (fWt a ++ [x]).length ≤ 24; rw [List.length_append, hn]; simp; omega, i6, i7, i8⟩ ⟨c1.fr (fun m hm => ne _ (by omega) (by omega)), c2, c4.fr (n4 _ (by omega)) (ne _ (by omega) (by omega)), ⟨?_, ?_⟩, c6.fr (n4 _ (by omega)) (ne _ (by omega) (by omega)), by rw [n4 _ (by omega)]; exact c7, c8.fr (by rw [ne _ (by omega) (by omega)]) (ne _ (by omega) (by omega)) (ne _ (by omega) (by omega)) (ne _ (by omega) (by omega))⟩ ⟨up2 (up2 S1 117 (434 + n) x) 117 6 (nI (n + 1)), ?_, OffR.of (X := [117]) ((Off.up List.mem_cons_self).tr (Off.up List.mem_cons_self)) (by decide), ?_⟩
    · show S1 4 5 = nI (fWt a ++ [x]).length
      rw [← hS1, up2_at, if_pos rfl, List.length_append, hn]; rfl
    · refine c5b.snoc ?_ (fun i hi => ?_)
      · rw [hn, Nat.zero_add, ← hS1, up2_ne (by omega), up2_at, if_pos rfl]
      · rw [← hS1, up2_ne (by omega), up2_at, if_neg (by omega)]
    · unfold fX9_tell
      simp (disch := omega) only [rM, rN, bind_sm, e117, m4a, nI_eq]
      rw [if_neg (by omega)]
      have e6 : up2 S1 117 (434 + n) x 117 6 = nI n := by rw [up2_at, if_neg (by omega), e117, m4a]
      simp (disch := omega) only [rM, bind_sm, nI_add, e6]
      rw [up2_at, if_pos rfl]
    · have e : ∀ j, j ≠ 6 → j ≠ 434 + n → up2 (up2 S1 117 (434 + n) x) 117 6 (nI (n + 1)) 117 j = S 117 j := fun j h1 h2 => by rw [up2_at, if_neg h1, up2_at, if_neg h2, e117]
      refine ⟨m1.fr i1 (fun j hj => e j (by omega) (by omega)), m2.fr i3 (fun j hj => e j (by omega) (by omega)), m3.fr i4.1 (fun j hj => e j (by omega) (by omega)), ⟨?_, ?_⟩, m5.fr i6.1 (fun j hj => e j (by omega) (by omega)), by rw [e _ (by omega) (by omega)]; exact m6, m7.fr i7 (fun j hj => e j (by omega) (by omega))⟩
      · show _ = nI (fWt a ++ [x]).length
        rw [up2_at, if_pos rfl, List.length_append, hn]; rfl
      · refine m4b.snoc ?_ (fun i hi => e _ (by omega) (by omega))
        rw [hn, up2_at, if_neg (by omega), up2_at, if_pos rfl]
  · have h24' : n = 24 := by omega
    subst h24'
    refine Both.err h 4 (by decide) ?_ (fun S1 hS => ?_)
    · unfold fX8_tell
      simp (disch := omega) only [rO, rF, rN, bind_sm, c5a, nI_ltI]
      rw [if_neg (by omega)]
    · unfold fX9_tell
      have e1 : S1 117 6 = nI 24 := by rw [hS _ (by decide)]; exact m4a
      simp (disch := omega) only [rM, rN, bind_sm, e1, if_true]
theorem lt01 (h : x < nI 0) : x < nI 1 := by
  rw [Int32.lt_iff_toInt_lt] at *
  have : (nI 0).toInt = 0 := by decide
  have : (nI 1).toInt = 1 := by decide
  omega
theorem op_told (h : Sim b K S Q g) : Both b S Q g (fun h => fX8_told h b x) (fun h => fX9_told h (b + 116) x) := by
  obtain ⟨-, -, hE, -⟩ := id h
  have bad : (x < nI 1 ∨ (¬ x < nI 1 ∧ ¬ x ≤ nI 6)) → Both b S Q g (fun h => fX8_told h b x) (fun h => fX9_told h (b + 116) x) := by
    intro hx
    refine Both.err h 1 (by decide) ?_ (fun S1 hS => ?_)
    · unfold fX8_told
      simp only [rO, rN]
      rcases hx with q | ⟨q, q2⟩
      · rw [if_pos q]
      · rw [if_neg q, if_neg q2]
    · unfold fX9_told
      simp only [rM, rN, m_in]
      rw [if_pos (by
        rcases hx with q | ⟨q, q2⟩
        · exact Or.inl q
        · exact Or.inr (Classical.byContradiction (fun q3 => q2 ((i32_le_iff _ _).mpr q3)))), bind_sm]
      simp only [if_true]
  rcases isN_or x 7 with ⟨j, hj, rfl⟩ | hx
  · by_cases h0 : j = 0
    · exact bad (Or.inl (by rw [h0]; decide))
    · refine Both.rd h (r := S 115 j) ?_ ?_
      · unfold fX8_told
        simp (disch := omega) only [rO, rN, nI_ltI, nI_leI]
        rw [if_neg (by omega), if_pos (by omega)]
        simp (disch := omega) only [rV, bind_sm]
      · unfold fX9_told
        simp (disch := omega) only [rM, rN, m_in1, bind_sm, z10, if_false]
        rw [hE j hj]
  · rcases notN hx (by decide) with q | ⟨q, q2, q3⟩
    · exact bad (Or.inl (lt01 q))
    · refine bad ?_
      by_cases h1 : x < nI 1
      · exact Or.inl h1
      · refine Or.inr ⟨h1, fun h6 => ?_⟩
        rw [Int32.le_iff_toInt_le] at q2 h6
        have : (nI 6).toInt = 6 := by decide
        have : (nI 7).toInt = 7 := by decide
        omega
theorem op_body (h : Sim b K S Q g) : Both b S Q g (fun h => fX8_body h b x) (fun h => fX9_body h (b + 116) x) := by
  obtain ⟨-, -, -, ⟨n, hn, v1, v2, v3⟩, -⟩ := id h
  rcases isN_or x n with ⟨j, hj, rfl⟩ | hx
  · refine Both.rd h (r := S 114 j) ?_ ?_
    · unfold fX8_body
      simp (disch := omega) only [rO, rV, rN, bind_sm, v1, nI_ltI]
      rw [if_neg (by omega), if_pos hj]
    · unfold fX9_body
      simp (disch := omega) only [rM, rN, bind_sm, v2, m_inS1, z10, if_false]
      rw [v3 j hj]
  · refine Both.err h 2 (by decide) ?_ (fun S1 hS => ?_)
    · unfold fX8_body
      simp (disch := omega) only [rO, rV, rN, bind_sm, v1]
      rcases notN hx (by omega) with q | ⟨q, -, q2⟩
      · rw [if_pos q]
      · rw [if_neg q, if_neg q2]
    · unfold fX9_body
      have e1 : S1 116 20 = nI n := by rw [hS _ (by decide)]; exact v2
      simp (disch := omega) only [rM, rN, bind_sm, e1, m_inS0 hx, if_true]
/-- one number of a world changed -/
def upW (w : Wo) (r i v : Nat) : Wo := (fun r' i' => if r' = r ∧ i' = i then v else w.1 r' i', w.2)
theorem upW_at {r i v r' i' : Nat} : (upW w r i v).1 r' i' = if r' = r ∧ i' = i then v else w.1 r' i' := rfl
theorem RepW.up {r i v : Nat} (h : RepW S c w) (hr : 1 ≤ r ∧ r ≤ 6) (e : ∀ q, q ≠ c + r → S' q = S q) (e2 : ∀ j, S' (c + r) j = if j = i then nI v else S (c + r) j) : RepW S' c (upW w r i v) := by
  obtain ⟨r1, r2, r3, r4, r5⟩ := h
  have key : ∀ m, 1 ≤ m → m ≤ 6 → ∀ j, S (c + m) j = nI (w.1 m j) → S' (c + m) j = nI ((upW w r i v).1 m j) := by
    intro m h1 h2 j hj
    rw [upW_at]
    by_cases hm : m = r
    · subst hm
      rw [e2]
      by_cases hji : j = i
      · simp [hji]
      · simp [hji, hj]
    · rw [e _ (by omega), if_neg (fun q => hm q.1)]; exact hj
  refine ⟨by rw [e _ (by omega), r1, upW_at, if_neg (by omega)], by rw [e _ (by omega), r2, upW_at, if_neg (by omega)], by rw [e _ (by omega), r3, upW_at, if_neg (by omega)], fun p hp => ?_, fun k hk => ?_⟩
  · rw [upW_at, if_neg (by omega)] at hp
    exact ⟨key 1 (by omega) (by omega) p (r4 p hp).1, key 2 (by omega) (by omega) p (r4 p hp).2⟩
  · rw [upW_at, if_neg (by omega)] at hk
    obtain ⟨q1, q2, q3, q4, q5, q6⟩ := r5 k hk
    refine ⟨key 3 (by omega) (by omega) k q1, key 4 (by omega) (by omega) k q2, key 5 (by omega) (by omega) k q3, key 6 (by omega) (by omega) k q4, ?_, ?_⟩
    · rw [e _ (by omega)]; exact q5
    · rw [e _ (by omega)]; exact q6
/-- where the reference's row has a number of a world -/
def pM (r i : Nat) : Nat := if r = 1 then 8 + 2 * i else if r = 2 then 8 + 2 * i + 1 else 24 + 13 * i + (r - 3)
theorem RepM.up {r i v : Nat} (h : RepM s w) (hI : Winv w) (hr : 1 ≤ r ∧ r ≤ 6) (hi : i < if r ≤ 2 then w.1 0 1 else w.1 0 2) (e : ∀ j, s' j = if j = pM r i then nI v else s j) : RepM s' (upW w r i v) := by
  obtain ⟨r1, r2, r3, r4, r5⟩ := h
  have i2 := hI.2.1
  have i3 := hI.2.2.1
  have hi1 : r ≤ 2 → i < 8 := fun h => by rw [if_pos h] at hi; omega
  have hi2 : ¬ r ≤ 2 → i < 4 := fun h => by rw [if_neg h] at hi; omega
  have hp : (r = 1 ∧ pM r i = 8 + 2 * i) ∨ (r = 2 ∧ pM r i = 8 + 2 * i + 1) ∨ (3 ≤ r ∧ pM r i = 24 + 13 * i + (r - 3)) := by unfold pM; split <;> (try split) <;> omega
  have key : ∀ m j, (1 ≤ m ∧ m ≤ 2 ∧ j < 8) ∨ (3 ≤ m ∧ m ≤ 6 ∧ j < 4) → s (pM m j) = nI (w.1 m j) → s' (pM m j) = nI ((upW w r i v).1 m j) := by
    intro m j hm hj
    have hq : (m = 1 ∧ pM m j = 8 + 2 * j) ∨ (m = 2 ∧ pM m j = 8 + 2 * j + 1) ∨ (3 ≤ m ∧ pM m j = 24 + 13 * j + (m - 3)) := by unfold pM; split <;> (try split) <;> omega
    rw [upW_at, e]
    by_cases hmr : m = r ∧ j = i
    · rw [if_pos hmr, hmr.1, hmr.2, if_pos rfl]
    · rw [if_neg hmr, if_neg (by omega)]; exact hj
  have ne : ∀ j, j < 3 ∨ (∃ k d, k < 4 ∧ 4 ≤ d ∧ d < 13 ∧ j = 24 + 13 * k + d) → s' j = s j := fun j hj => by
    rw [e, if_neg]
    rcases hj with hj | ⟨k, d, hj⟩ <;> omega
  have m0 : (upW w r i v).1 0 2 = w.1 0 2 := by rw [upW_at, if_neg (by omega)]
  have p0 : (upW w r i v).1 0 1 = w.1 0 1 := by rw [upW_at, if_neg (by omega)]
  refine ⟨by rw [ne _ (by omega), r1, p0], by rw [ne _ (by omega), r2, m0], by rw [ne _ (by omega), r3, upW_at, if_neg (by omega)], fun p hp => ?_, fun k hk => ?_⟩
  · rw [p0] at hp
    exact ⟨key 1 p (Or.inl ⟨by omega, by omega, by omega⟩) (r4 p hp).1, key 2 p (Or.inl ⟨by omega, by omega, by omega⟩) (r4 p hp).2⟩
  · rw [m0] at hk
    obtain ⟨q1, q2, q3, q4, q5, q6⟩ := r5 k hk
    have hl := hI.len k
    refine ⟨key 3 k (Or.inr ⟨by omega, by omega, by omega⟩) q1, key 4 k (Or.inr ⟨by omega, by omega, by omega⟩) q2, key 5 k (Or.inr ⟨by omega, by omega, by omega⟩) q3, key 6 k (Or.inr ⟨by omega, by omega, by omega⟩) q4, ?_, q6.fr (fun j hj => ne _ (Or.inr ⟨k, 5 + j, by omega, by omega, by omega, by omega⟩))⟩
    rw [ne _ (Or.inr ⟨k, 4, by omega, by omega, by omega, rfl⟩)]; exact q5
theorem Winv.up {r i v : Nat} (h : Winv w) (hr : 1 ≤ r ∧ r ≤ 6) (hv : v ≤ if r = 1 then 1 else if r = 2 then 9999 else if r = 3 then 6 else if r = 4 then 9 else if r = 5 then 1 else 999999) : Winv (upW w r i v) := by
  obtain ⟨i1, i2, i3, i4, i5, i6, i7, i8, i9, i10⟩ := h
  have z : ∀ j, (upW w r i v).1 0 j = w.1 0 j := fun j => by rw [upW_at, if_neg (by omega)]
  refine ⟨by rw [z]; exact i1, by rw [z]; exact i2, by rw [z]; exact i3, fun q => ?_, fun q => ?_, fun q => ?_, fun q => ?_, fun q => ?_, fun q => ?_, fun q => by rw [z]; exact i10 q⟩
  all_goals
    rw [upW_at]
    split
    next e => rw [← e.1] at hv; simpa using hv
    next => first | exact i4 q | exact i5 q | exact i6 q | exact i7 q | exact i8 q | exact i9 q
end OC
