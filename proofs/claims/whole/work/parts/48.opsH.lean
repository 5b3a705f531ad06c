/-! ===== a man comes ===== -/
section OH
variable {b : Nat} {S S' S1 S2 : Nat → Nat → Int32} {Q Q' Q1 : Nat → Nat → Nat} {g g' g1 h : Hp} {f k j p n u c c0 c1 lo hi i d e : Nat} {x y z v r : Int32} {w : Wo} {T : Tx} {K K2 : Nat → Nat} {a a' : Fs} {s s' : Nat → Int32}
def addKw (w : Wo) (d e : Nat) : Wo := (fun r i => if r = 0 ∧ i = 2 then w.1 0 2 + 1 else if r = 3 ∧ i = w.1 0 2 then d / 10 else if r = 4 ∧ i = w.1 0 2 then d % 10 else if r = 5 ∧ i = w.1 0 2 then e else if r = 6 ∧ i = w.1 0 2 then 0 else w.1 r i, fun i => if i = w.1 0 2 then [] else w.2 i)
theorem addK_inv (h : Winv w) (hd : d < 70) (he : e < 2) (hn : w.1 0 2 < 4) : Winv (addKw w d e) := by
  obtain ⟨i1, i2, i3, i4, i5, i6, i7, i8, i9, i10⟩ := h
  refine ⟨by simpa [addKw] using i1, by simpa [addKw] using i2, by simp [addKw]; omega, fun q => by simpa [addKw] using i4 q, fun q => by simpa [addKw] using i5 q, fun q => ?_, fun q => ?_, fun q => ?_, fun q => ?_, fun q => ?_⟩
  · have := i6 q
    simp only [addKw]; simp; split <;> omega
  · have := i7 q
    simp only [addKw]; simp; split <;> omega
  · have := i8 q
    simp only [addKw]; simp; split <;> omega
  · have := i9 q
    simp only [addKw]; simp; split <;> omega
  · obtain ⟨a1, a2⟩ := i10 q
    have e1 : (addKw w d e).1 0 1 = w.1 0 1 := by simp [addKw]
    rw [e1]
    simp only [addKw]
    split
    · exact ⟨List.nodup_nil, fun t ht => by cases ht⟩
    · exact ⟨a1, a2⟩
theorem RepW.addK (h : RepW S c w) (h0 : ∀ j, S' c j = if j = 2 then nI (w.1 0 2 + 1) else S c j) (h3 : ∀ j, S' (c + 3) j = if j = w.1 0 2 then nI (d / 10) else S (c + 3) j) (h4 : ∀ j, S' (c + 4) j = if j = w.1 0 2 then nI (d % 10) else S (c + 4) j) (h5 : ∀ j, S' (c + 5) j = if j = w.1 0 2 then nI e else S (c + 5) j) (h6 : ∀ j, S' (c + 6) j = if j = w.1 0 2 then nI 0 else S (c + 6) j) (h7 : ∀ j, S' (c + 7) j = if j = w.1 0 2 then nI 0 else S (c + 7) j) (h12 : ∀ m, m = 1 ∨ m = 2 ∨ m = 8 → S' (c + m) = S (c + m)) : RepW S' c (addKw w d e) := by
  obtain ⟨r1, r2, r3, r4, r5⟩ := h
  refine ⟨by rw [h0, if_neg (by decide), r1]; rfl, by rw [h0, if_neg (by decide), r2]; rfl, by rw [h0, if_pos rfl]; rfl, fun q hq => ?_, fun k hk => ?_⟩
  · have hq' : q < w.1 0 1 := hq
    rw [h12 1 (by omega), h12 2 (by omega)]
    exact r4 q hq'
  · have hk' : k < w.1 0 2 + 1 := hk
    rw [h3, h4, h5, h6, h7, h12 8 (by omega)]
    by_cases hkn : k = w.1 0 2
    · subst hkn
      simp only [if_true]
      refine ⟨by simp [addKw], by simp [addKw], by simp [addKw], by simp [addKw], by simp [addKw], fun i v hv => by simp [addKw] at hv⟩
    · have := r5 k (by omega)
      simpa [addKw, hkn] using this
theorem RepM.addK (h : RepM s w) (h2 : w.1 0 1 ≤ 8) (hl : ∀ k, (w.2 k).length ≤ 8) (e' : ∀ j, s' j = if j = 1 then nI (w.1 0 2 + 1) else if j = 24 + 13 * w.1 0 2 then nI (d / 10) else if j = 24 + 13 * w.1 0 2 + 1 then nI (d % 10) else if j = 24 + 13 * w.1 0 2 + 2 then nI e else if j = 24 + 13 * w.1 0 2 + 3 then nI 0 else if j = 24 + 13 * w.1 0 2 + 4 then nI 0 else s j) : RepM s' (addKw w d e) := by
  obtain ⟨r1, r2, r3, r4, r5⟩ := h
  have ne : ∀ j, j ≠ 1 → (j < 24 + 13 * w.1 0 2 ∨ 24 + 13 * w.1 0 2 + 5 ≤ j) → s' j = s j := fun j a1 a2 => by rw [e', if_neg a1, if_neg (by omega), if_neg (by omega), if_neg (by omega), if_neg (by omega), if_neg (by omega)]
  refine ⟨by rw [ne _ (by omega) (by omega), r1]; rfl, by rw [e', if_pos rfl]; rfl, by rw [ne _ (by omega) (by omega), r3]; rfl, fun q hq => ?_, fun k hk => ?_⟩
  · have hq' : q < w.1 0 1 := hq
    rw [ne _ (by omega) (by omega), ne _ (by omega) (by omega)]
    exact r4 q hq'
  · have hk' : k < w.1 0 2 + 1 := hk
    by_cases hkn : k = w.1 0 2
    · subst hkn
      refine ⟨?_, ?_, ?_, ?_, ?_, fun i v hv => by simp [addKw] at hv⟩
      · rw [e', if_neg (by omega), if_pos rfl]; simp [addKw]
      · rw [e', if_neg (by omega), if_neg (by omega), if_pos rfl]; simp [addKw]
      · rw [e', if_neg (by omega), if_neg (by omega), if_neg (by omega), if_pos rfl]; simp [addKw]
      · rw [e', if_neg (by omega), if_neg (by omega), if_neg (by omega), if_neg (by omega), if_pos rfl]; simp [addKw]
      · rw [e', if_neg (by omega), if_neg (by omega), if_neg (by omega), if_neg (by omega), if_neg (by omega), if_pos rfl]; simp [addKw]
    · obtain ⟨q1, q2, q3, q4, q5, q6⟩ := r5 k (by omega)
      have hlk := hl k
      rw [ne _ (by omega) (by omega), ne _ (by omega) (by omega), ne _ (by omega) (by omega), ne _ (by omega) (by omega), ne _ (by omega) (by omega)]
      have em : (addKw w d e).2 k = w.2 k := by simp [addKw, hkn]
      rw [em]
      exact ⟨by simpa [addKw, hkn] using q1, by simpa [addKw, hkn] using q2, by simpa [addKw, hkn] using q3, by simpa [addKw, hkn] using q4, q5, q6.fr (fun i hi => ne _ (by omega) (by omega))⟩
theorem dv10 : ∀ d < 70, dvz (nI d) (nI 10) = some (nI (d / 10)) := by decide +kernel
theorem rm10 : ∀ d < 70, rmz (nI d) (nI 10) = some (nI (d % 10)) := by decide +kernel
theorem op_man (h : Sim b K S Q g) : Both b S Q g (fun h => fX8_man h b x y) (fun h => fX9_man h (b + 116) x y) := by
  obtain ⟨⟨a, hI, hC, hM⟩, -⟩ := id h
  have c1 : RepW S 12 (fW a) := hC.1
  have m1 := hM.1
  have i1 := hI.1
  have i2 := i1.2.1
  have i3 := i1.2.2.1
  generalize hn : (fW a).1 0 2 = n at *
  have cn : S 12 2 = nI n := by rw [c1.2.2.1, hn]
  have mn : S 117 1 = nI n := by rw [m1.2.1, hn]
  rcases isN_or x 70 with ⟨d, hd, rfl⟩ | hx
  · rcases isN_or y 2 with ⟨e, he, rfl⟩ | hy
    · by_cases h8 : n < 4
      · generalize hS1 : up2 (up2 (up2 (up2 (up2 (up2 S 15 n (nI (d / 10))) 16 n (nI (d % 10))) 17 n (nI e)) 18 n (nI 0)) 19 n (nI 0)) 12 2 (nI (n + 1)) = S1
        have ne : ∀ r, r ≠ 12 → (r < 15 ∨ 20 ≤ r) → S1 r = S r := fun r a1 a2 => by rw [← hS1, up2_row (by omega), up2_row (by omega), up2_row (by omega), up2_row (by omega), up2_row (by omega), up2_row (by omega)]
        have e117 : S1 117 = S 117 := ne _ (by omega) (by omega)
        have eC : fX8_man (E b S Q g) b (nI d) (nI e) = some (nI n, E b S1 Q g) := by
          have eA : fX7_addMan (E b S Q g) (b + 12) (nI (d / 10)) (nI (d % 10)) (nI e) = some (nI n, E b S1 Q g) := by
            have w5 : ∀ (r : Nat) (z : Int32) (S : Nat → Nat → Int32), r ≠ 12 → S 12 2 = nI n → up2 S r n z 12 2 = nI n := fun r z S hr hS => by rw [up2_ne (by omega)]; exact hS
            unfold fX7_addMan
            rw [(rW w12 b S Q g).1]
            simp (disch := omega) only [rW w12, rN, bind_sm, cn]
            rw [up2_ne (show 12 ≠ 12 + 7 by omega), up2_ne (show 12 ≠ 12 + 6 by omega), up2_ne (show 12 ≠ 12 + 5 by omega), up2_ne (show 12 ≠ 12 + 4 by omega), up2_ne (show 12 ≠ 12 + 3 by omega), cn, nI_add, ← hS1]
          unfold fX8_man
          simp (disch := omega) only [rO, rF, rW w12, rN, bind_sm, nI_ltI, nI_leI, c_isBank1, z10, if_false, cn, dv10, rm10, eA, Nat.one_ne_zero, nI_eq]
          rw [if_neg (by omega), if_neg (by omega), if_pos h8]
        refine Both.wo h hI hC hM (w' := addKw (fW a) d e) eC (fun r hr => ne r (by omega) (by omega)) Lkg.rf ?_ (addK_inv i1 hd he (by omega)) (by simpa [addKw] using hI.2.1) (by simp [addKw]) ⟨up2 (up2 (up2 (up2 (up2 (up2 S1 117 (24 + 13 * n) (nI (d / 10))) 117 (24 + 13 * n + 1) (nI (d % 10))) 117 (24 + 13 * n + 2) (nI e)) 117 (24 + 13 * n + 3) (nI 0)) 117 (24 + 13 * n + 4) (nI 0)) 117 1 (nI (n + 1)), ?_, OffR.of (X := [117]) ((((((Off.up List.mem_cons_self).tr (Off.up List.mem_cons_self)).tr (Off.up List.mem_cons_self)).tr (Off.up List.mem_cons_self)).tr (Off.up List.mem_cons_self)).tr (Off.up List.mem_cons_self)) (by decide), ?_, ?_⟩
        · refine c1.addK (fun j => ?_) (fun j => ?_) (fun j => ?_) (fun j => ?_) (fun j => ?_) (fun j => ?_) (fun m hm => ne _ (by omega) (by omega))
          · rw [← hS1, up2_at, up2_ne (by omega), up2_ne (by omega), up2_ne (by omega), up2_ne (by omega), up2_ne (by omega), hn]
          · rw [← hS1, up2_ne (by omega), up2_ne (by omega), up2_ne (by omega), up2_ne (by omega), up2_ne (by omega), up2_at, hn]
          · rw [← hS1, up2_ne (by omega), up2_ne (by omega), up2_ne (by omega), up2_ne (by omega), up2_at, up2_ne (by omega), hn]
          · rw [← hS1, up2_ne (by omega), up2_ne (by omega), up2_ne (by omega), up2_at, up2_ne (by omega), up2_ne (by omega), hn]
          · rw [← hS1, up2_ne (by omega), up2_ne (by omega), up2_at, up2_ne (by omega), up2_ne (by omega), up2_ne (by omega), hn]
          · rw [← hS1, up2_ne (by omega), up2_at, up2_ne (by omega), up2_ne (by omega), up2_ne (by omega), up2_ne (by omega), hn]
        · have e0 : 24 + 13 * n + 0 = 24 + 13 * n := rfl
          have e5 : ∀ (q : Nat) (z : Int32) (S : Nat → Nat → Int32), q ≠ 1 → S 117 1 = nI n → up2 S 117 q z 117 1 = nI n := fun q z S hr hS => by rw [up2_at, if_neg (by omega)]; exact hS
          unfold fX9_man
          simp (disch := omega) only [rM, rN, bind_sm, m_in1, z10, if_false, e117, mn, nI_eq, Nat.one_ne_zero]
          rw [if_neg (by omega)]
          simp (disch := omega) only [rM, bind_sm, dv10, rm10, m_lays1, e0]
          rw [e5 _ _ _ (by omega) (e5 _ _ _ (by omega) (e5 _ _ _ (by omega) (e5 _ _ _ (by omega) (e5 _ _ _ (by omega) (by rw [e117]; exact mn))))), nI_add]
        · refine m1.addK i2 (fun k => i1.len k) (fun j => ?_)
          rw [up2_at, up2_at, up2_at, up2_at, up2_at, up2_at, e117, hn]
          by_cases a0 : j = 1
          · rw [if_pos a0, if_pos a0]
          · rw [if_neg a0, if_neg a0]
            by_cases a1 : j = 24 + 13 * n
            · rw [if_neg (by omega), if_neg (by omega), if_neg (by omega), if_neg (by omega), if_pos a1, if_pos a1]
            · by_cases a2 : j = 24 + 13 * n + 1
              · rw [if_neg (by omega), if_neg (by omega), if_neg (by omega), if_pos a2, if_neg a1, if_pos a2]
              · by_cases a3 : j = 24 + 13 * n + 2
                · rw [if_neg (by omega), if_neg (by omega), if_pos a3, if_neg a1, if_neg a2, if_pos a3]
                · by_cases a4 : j = 24 + 13 * n + 3
                  · rw [if_neg (by omega), if_pos a4, if_neg a1, if_neg a2, if_neg a3, if_pos a4]
                  · by_cases a5 : j = 24 + 13 * n + 4
                    · rw [if_pos a5, if_neg a1, if_neg a2, if_neg a3, if_neg a4, if_pos a5]
                    · rw [if_neg a5, if_neg a4, if_neg a3, if_neg a2, if_neg a1, if_neg a1, if_neg a2, if_neg a3, if_neg a4, if_neg a5]
        · intro j hj
          rw [up2_at, if_neg (by omega), up2_at, if_neg (by omega), up2_at, if_neg (by omega), up2_at, if_neg (by omega), up2_at, if_neg (by omega), up2_at, if_neg (by omega)]
      · have h8' : n = 4 := by omega
        subst h8'
        refine Both.err h 4 (by decide) ?_ (fun S1 hS => ?_)
        · unfold fX8_man
          simp (disch := omega) only [rO, rF, rW w12, rN, bind_sm, nI_ltI, nI_leI, c_isBank1, z10, if_false, cn]
          rw [if_neg (by omega), if_neg (by omega), if_neg (by omega)]
        · unfold fX9_man
          have e1 : S1 117 1 = nI 4 := by rw [hS _ (by decide)]; exact mn
          simp (disch := omega) only [rM, rN, bind_sm, m_in1, z10, if_false, e1, if_true]
    · refine Both.err h 1 (by decide) ?_ (fun S1 hS => ?_)
      · unfold fX8_man
        simp (disch := omega) only [rO, rF, rN, bind_sm, nI_ltI, nI_leI, c_isBank0 hy, if_true]
        rw [if_neg (by omega), if_neg (by omega)]
      · unfold fX9_man
        simp (disch := omega) only [rM, rN, bind_sm, m_in1, z10, if_false, m_in0 (hi := 1) hy, if_true]
  · refine Both.err h 1 (by decide) ?_ (fun S1 hS => ?_)
    · unfold fX8_man
      simp (disch := omega) only [rO, rF, rN, bind_sm]
      rcases notN hx (by decide) with q | ⟨q, q2, -⟩
      · rw [if_pos q]
      · rw [if_neg q, if_pos q2]
    · unfold fX9_man
      simp (disch := omega) only [rM, rN, bind_sm, m_in0 (hi := 69) hx, if_true]
end OH
