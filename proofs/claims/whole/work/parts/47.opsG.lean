/-! ===== one comes, a man comes ===== -/
section OG
variable {b : Nat} {S S' S1 S2 : Nat → Nat → Int32} {Q Q' Q1 : Nat → Nat → Nat} {g g' g1 h : Hp} {f k j p n u c c0 c1 lo hi i : Nat} {x y z v r : Int32} {w : Wo} {T : Tx} {K K2 : Nat → Nat} {a a' : Fs} {s s' : Nat → Int32}
def addPw (w : Wo) (bk : Nat) : Wo := (fun r i => if r = 0 ∧ i = 1 then w.1 0 1 + 1 else if r = 1 ∧ i = w.1 0 1 then bk else if r = 2 ∧ i = w.1 0 1 then 20 else w.1 r i, w.2)
theorem addP_inv (h : Winv w) (hb : p < 2) (hn : w.1 0 1 < 8) : Winv (addPw w p) := by
  obtain ⟨i1, i2, i3, i4, i5, i6, i7, i8, i9, i10⟩ := h
  refine ⟨by simpa [addPw] using i1, by simp [addPw]; omega, by simpa [addPw] using i3, fun q => ?_, fun q => ?_, fun q => by simpa [addPw] using i6 q, fun q => by simpa [addPw] using i7 q, fun q => by simpa [addPw] using i8 q, fun q => by simpa [addPw] using i9 q, fun q => ?_⟩
  · have := i4 q
    simp only [addPw]; simp; split <;> omega
  · have := i5 q
    simp only [addPw]; simp; split <;> omega
  · obtain ⟨a1, a2⟩ := i10 q
    exact ⟨a1, fun t ht => by have := a2 t ht; simp [addPw]; omega⟩
theorem RepW.addP (h : RepW S c w) (h0 : ∀ j, S' c j = if j = 1 then nI (w.1 0 1 + 1) else S c j) (h1 : ∀ j, S' (c + 1) j = if j = w.1 0 1 then nI p else S (c + 1) j) (h2 : ∀ j, S' (c + 2) j = if j = w.1 0 1 then nI 20 else S (c + 2) j) (h3 : ∀ m, 3 ≤ m → m < 9 → S' (c + m) = S (c + m)) : RepW S' c (addPw w p) := by
  obtain ⟨r1, r2, r3, r4, r5⟩ := h
  refine ⟨by rw [h0, if_neg (by decide), r1]; rfl, by rw [h0, if_pos rfl]; rfl, by rw [h0, if_neg (by decide), r3]; rfl, fun q hq => ?_, fun k hk => ?_⟩
  · have hq' : q < w.1 0 1 + 1 := hq
    rw [h1, h2]
    by_cases hqn : q = w.1 0 1
    · simp [addPw, hqn]
    · have := r4 q (by omega)
      simp [addPw, hqn, this.1, this.2]
  · rw [h3 3 (by omega) (by omega), h3 4 (by omega) (by omega), h3 5 (by omega) (by omega), h3 6 (by omega) (by omega), h3 7 (by omega) (by omega), h3 8 (by omega) (by omega)]
    have hk' : k < w.1 0 2 := hk
    have := r5 k hk'
    simpa [addPw] using this
theorem RepM.addP (h : RepM s w) (hn : w.1 0 1 < 8) (h3 : w.1 0 2 ≤ 4) (hl : ∀ k, (w.2 k).length ≤ 8) (e : ∀ j, s' j = if j = 0 then nI (w.1 0 1 + 1) else if j = 8 + 2 * w.1 0 1 then nI p else if j = 8 + 2 * w.1 0 1 + 1 then nI 20 else s j) : RepM s' (addPw w p) := by
  obtain ⟨r1, r2, r3, r4, r5⟩ := h
  have ne : ∀ j, j ≠ 0 → j ≠ 8 + 2 * w.1 0 1 → j ≠ 8 + 2 * w.1 0 1 + 1 → s' j = s j := fun j a1 a2 a3 => by rw [e, if_neg a1, if_neg a2, if_neg a3]
  refine ⟨by rw [e, if_pos rfl]; rfl, by rw [ne _ (by omega) (by omega) (by omega), r2]; rfl, by rw [ne _ (by omega) (by omega) (by omega), r3]; rfl, fun q hq => ?_, fun k hk => ?_⟩
  · have hq' : q < w.1 0 1 + 1 := hq
    by_cases hqn : q = w.1 0 1
    · subst hqn
      rw [e, if_neg (by omega), if_pos rfl, e, if_neg (by omega), if_neg (by omega), if_pos rfl]
      simp [addPw]
    · have := r4 q (by omega)
      rw [ne _ (by omega) (by omega) (by omega), ne _ (by omega) (by omega) (by omega)]
      simpa [addPw, hqn] using this
  · have hk' : k < w.1 0 2 := hk
    obtain ⟨q1, q2, q3, q4, q5, q6⟩ := r5 k hk'
    rw [ne _ (by omega) (by omega) (by omega), ne _ (by omega) (by omega) (by omega), ne _ (by omega) (by omega) (by omega), ne _ (by omega) (by omega) (by omega), ne _ (by omega) (by omega) (by omega)]
    exact ⟨by simpa [addPw] using q1, by simpa [addPw] using q2, by simpa [addPw] using q3, by simpa [addPw] using q4, q5, q6.fr (fun i hi => ne _ (by omega) (by omega) (by omega))⟩
theorem op_person (h : Sim b K S Q g) : Both b S Q g (fun h => fX8_person h b x) (fun h => fX9_person h (b + 116) x) := by
  obtain ⟨⟨a, hI, hC, hM⟩, -⟩ := id h
  have c1 : RepW S 12 (fW a) := hC.1
  have m1 := hM.1
  have i1 := hI.1
  have i2 := i1.2.1
  have i3 := i1.2.2.1
  generalize hn : (fW a).1 0 1 = n at *
  have cn : S 12 1 = nI n := by rw [c1.2.1, hn]
  have mn : S 117 0 = nI n := by rw [m1.1, hn]
  rcases isN_or x 2 with ⟨d, hd, rfl⟩ | hx
  · by_cases h8 : n < 8
    · generalize hS1 : up2 (up2 (up2 S 13 n (nI d)) 14 n (nI 20)) 12 1 (nI (n + 1)) = S1
      have ne : ∀ r, r ≠ 12 → r ≠ 13 → r ≠ 14 → S1 r = S r := fun r a1 a2 a3 => by rw [← hS1, up2_row (by omega), up2_row (by omega), up2_row (by omega)]
      have e117 : S1 117 = S 117 := ne _ (by omega) (by omega) (by omega)
      have eC : fX8_person (E b S Q g) b (nI d) = some (nI n, E b S1 Q g) := by
        unfold fX8_person fX7_addPerson
        simp (disch := omega) only [rO, rF, rW w12, rN, bind_sm, c_isBank1, z10, if_false, cn, nI_ltI]
        rw [if_pos h8, up2_ne (show 12 ≠ 12 + 2 by omega), up2_ne (show 12 ≠ 12 + 1 by omega), cn, nI_add]
        rw [← hS1]
      refine Both.wo h hI hC hM (w' := addPw (fW a) d) eC (fun r hr => ne r (by omega) (by omega) (by omega)) Lkg.rf ?_ (addP_inv i1 hd (by omega)) (by simpa [addPw] using hI.2.1) (by simp [addPw]) ⟨up2 (up2 (up2 S1 117 (8 + 2 * n) (nI d)) 117 (8 + 2 * n + 1) (nI 20)) 117 0 (nI (n + 1)), ?_, OffR.of (X := [117]) (((Off.up List.mem_cons_self).tr (Off.up List.mem_cons_self)).tr (Off.up List.mem_cons_self)) (by decide), ?_, ?_⟩
      · refine c1.addP (fun j => ?_) (fun j => ?_) (fun j => ?_) (fun m a1 a2 => ne _ (by omega) (by omega) (by omega))
        · rw [← hS1, up2_at, up2_ne (by omega), up2_ne (by omega), hn]
        · rw [← hS1, up2_ne (by omega), up2_ne (by omega), up2_at, hn]
        · rw [← hS1, up2_ne (by omega), up2_at, up2_ne (by omega), hn]
      · have e1 : up2 S1 117 (8 + 2 * n) (nI d) 117 0 = nI n := by rw [up2_at, if_neg (by omega), e117, mn]
        have e2 : up2 (up2 S1 117 (8 + 2 * n) (nI d)) 117 (8 + 2 * n + 1) (nI 20) 117 0 = nI n := by rw [up2_at, if_neg (by omega), e1]
        have e3 : up2 (up2 (up2 S1 117 (8 + 2 * n) (nI d)) 117 (8 + 2 * n + 1) (nI 20)) 117 0 (nI (n + 1)) 117 0 = nI (n + 1) := by rw [up2_at, if_pos rfl]
        unfold fX9_person
        simp (disch := omega) only [rM, rN, bind_sm, m_in1, z10, if_false, e117, mn, nI_eq, Nat.one_ne_zero]
        rw [if_neg (by omega)]
        simp (disch := omega) only [rM, bind_sm, pk_mul, nI_add, e1, e2, e3, nI_subI, Nat.add_sub_cancel]
      · refine m1.addP (by omega) i3 (fun k => i1.len k) (fun j => ?_)
        rw [up2_at, up2_at, up2_at, e117, hn]
        by_cases a0 : j = 0
        · rw [if_pos a0, if_pos a0]
        · rw [if_neg a0, if_neg a0]
          by_cases a1 : j = 8 + 2 * n
          · rw [if_neg (by omega), if_pos a1, if_pos a1]
          · rw [if_neg a1, if_neg a1]
      · intro j hj
        rw [up2_at, if_neg (by omega), up2_at, if_neg (by omega), up2_at, if_neg (by omega)]
    · have h8' : n = 8 := by omega
      subst h8'
      refine Both.err h 4 (by decide) ?_ (fun S1 hS => ?_)
      · unfold fX8_person
        simp (disch := omega) only [rO, rF, rW w12, rN, bind_sm, c_isBank1, z10, if_false, cn, nI_ltI]
        rw [if_neg (by omega)]
      · unfold fX9_person
        have e1 : S1 117 0 = nI 8 := by rw [hS _ (by decide)]; exact mn
        simp (disch := omega) only [rM, rN, bind_sm, m_in1, z10, if_false, e1, if_true]
  · refine Both.err h 1 (by decide) ?_ (fun S1 hS => ?_)
    · unfold fX8_person
      simp (disch := omega) only [rO, rF, rN, bind_sm, c_isBank0 hx, if_true]
    · unfold fX9_person
      simp (disch := omega) only [rM, rN, bind_sm, m_in0 (hi := 1) hx, if_true]
end OG
