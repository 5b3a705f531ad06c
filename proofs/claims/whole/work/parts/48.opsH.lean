/-! ===== a man comes ===== -/
section OH
variable {b : Nat} {S S' S1 S2 : Nat → Nat → Int32} {Q Q' Q1 : Nat → Nat → Nat} {g g' g1 h : Hp} {f k j p n u c c0 c1 lo hi i d e : Nat} {x y z v r : Int32} {w : Wo} {T : Tx} {K K2 : Nat → Nat} {a a' : Fs} {s s' : Nat → Int32}
def addKw (w : Wo) (d e : Nat) : Wo := (fun r i => if r = 0 ∧ i = 2 then w.1 0 2 + 1 else if r = 3 ∧ i = w.1 0 2 then d / 10 else if r = 4 ∧ i = w.1 0 2 then d % 10 else if r = 5 ∧ i = w.1 0 2 then e else if r = 6 ∧ i = w.1 0 2 then 0 else w.1 r i, fun i => if i = w.1 0 2 then [] else w.2 i)
theorem addK_inv (h : Winv w) (hd : d < 70) (he : e < 2) (hn : w.1 0 2 < 4) : Winv (addKw w d e) := by
  obtain ⟨i1, i2, i3, i4, i5, i6, i7, i8, i9, i10⟩ := h
  refine ⟨by simpa [addKw] using i1, by simpa [addKw] using i2, by simp [addKw]; omega, fun q => by simpa [addKw] using i4 q, fun q => by simpa [addKw] using i5 q, fun q => ?_, fun q => ?_, fun q => ?_, fun q => ?_, fun q => ?_⟩
  · have := i6 q
    simp only [addKw]; simp; split <;> omega
  · have := i7 q
    simp only [addKw]; simp; split <;> omega
  · have := i8 q
    simp only [addKw]; simp; split <;> omega
  · have := i9 q
    simp only [addKw]; simp; split <;> omega
  · obtain ⟨a1, a2⟩ := i10 q
    have e1 : (addKw w d e).1 0 1 = w.1 0 1 := by simp [addKw]
    rw [e1]
    simp only [addKw]
    split
    · exact ⟨List.nodup_nil, fun t ht => by cases ht⟩
    · exact ⟨a1, a2⟩
theorem RepW.addK (h : RepW S c w) (h0 : ∀ j, S' c j = if j = 2 then nI (w.1 0 2 + 1) else S c j) (h3 : ∀ j, S' (c + 3) j = if j = w.1 0 2 then nI (d / 10) else S (c + 3) j) (h4 : ∀ j, S' (c + 4) j = if j = w.1 0 2 then nI (d % 10) else S (c + 4) j) (h5 : ∀ j, S' (c + 5) j = if j = w.1 0 2 then nI e else S (c + 5) j) (h6 : ∀ j, S' (c + 6) j = if j = w.1 0 2 then nI 0 else S (c + 6) j) (h7 : ∀ j, S' (c + 7) j = if j = w.1 0 2 then nI 0 else S (c + 7) j) (h12 : ∀ m, m = 1 ∨ m = 2 ∨ m = 8 → S' (c + m) = S (c + m)) : RepW S' c (addKw w d e) := by
  obtain ⟨r1, r2, r3, r4, r5⟩ := h
  refine ⟨by rw [h0, if_neg (by decide), r1]; rfl, by rw [h0, if_neg (by decide), r2]; rfl, by rw [h0, if_pos rfl]; rfl, fun q hq => ?_, fun k hk => ?_⟩
  · have hq' : q < w.1 0 1 := hq
    rw [h12 1 (by omega), h12 2 (by omega)]
    exact r4 q hq'
  · have hk' : k < w.1 0 2 + 1 := hk
    rw [h3, h4, h5, h6, h7, h12 8 (by omega)]
    by_cases hkn : k = w.1 0 2
    · subst hkn
      simp only [if_true]
      refine ⟨by simp [addKw], by simp [addKw], by simp [addKw], by simp [addKw], by simp [addKw], fun i v hv => by simp [addKw] at hv⟩
    · have := r5 k (by omega)
      simpa [addKw, hkn] using this
theorem RepM.addK (h : RepM s w) (h2 : w.1 0 1 ≤ 8) (hl : ∀ k, (w.2 k).length ≤ 8) (e' : ∀ j, s' j = if j = 1 then nI (w.1 0 2 + 1) else if j = 24 + 13 * w.1 0 2 then nI (d / 10) else if j = 24 + 13 * w.1 0 2 + 1 then nI (d % 10) else if j = 24 + 13 * w.1 0 2 + 2 then nI e else if j = 24 + 13 * w.1 0 2 + 3 then nI 0 else if j = 24 + 13 * w.1 0 2 + 4 then nI 0 else s j) : RepM s' (addKw w d e) := by
  obtain ⟨r1, r2, r3, r4, r5⟩ := h
  have ne : ∀ j, j ≠ 1 → (j < 24 + 13 * w.1 0 2 ∨ 24 + 13 * w.1 0 2 + 5 ≤ j) → s' j = s j := fun j a1 a2 => by rw [e', if_neg a1, if_neg (by omega), if_neg (by omega), if_neg (by omega), if_neg (by omega), if_neg (by omega)]
  refine ⟨by rw [ne _ (by omega) (by omega), r1]; rfl, by rw [e', if_pos rfl]; rfl, by rw [ne _ (by omega) (by omega), r3]; rfl, fun q hq => ?_, fun k hk => ?_⟩
  · have hq' : q < w.1 0 1 := hq
    rw [ne _ (by omega) (by omega), ne _ (by omega) (by omega)]
    exact r4 q hq'
  · have hk' : k < w.1 0 2 + 1 := hk
    by_cases hkn : k = w.1 0 2
    · subst hkn
      refine ⟨?_, ?_, ?_, ?_, ?_, fun i v hv => by simp [addKw] at hv⟩
      · rw [e', if_neg (by omega), if_pos rfl]; simp [addKw]
      · rw [e', if_neg (by omega), if_neg (by omega), if_pos rfl]; simp [addKw]
      · rw [e', if_neg (by omega), if_neg (by omega), if_neg (by omega), if_pos rfl]; simp [addKw]
      · rw [e', if_neg (by omega), if_neg (by omega), if_neg (by omega), if_neg (by omega), if_pos rfl]; simp [addKw]
      · rw [e', if_neg (by omega), if_neg (by omega), if_neg (by omega), if_neg (by omega), if_neg (by omega), if_pos rfl]; simp [addKw]
    · obtain ⟨q1, q2, q3, q4, q5, q6⟩ := r5 k (by omega)
      have hlk := hl k
      rw [ne _ (by omega) (by omega), ne _ (by omega) (by omega), ne _ (by omega) (by omega), ne _ (by omega) (by omega), ne _ (by omega) (by omega)]
      have em : (addKw w d e).2 k = w.2 k := by simp [addKw, hkn]
      rw [em]
      exact ⟨by simpa [addKw, hkn] using q1, by simpa [addKw, hkn] using q2, by simpa [addKw, hkn] using q3, by simpa [addKw, hkn] using q4, q5, q6.fr (fun i hi => ne _ (by omega) (by omega))⟩
theorem dv10 : ∀ d < 70, dvz (nI d) (nI 10) = some (nI (d / 10)) := by decide +kernel
theorem rm10 : ∀ d < 70, rmz (nI d) (nI 10) = some (nI (d % 10)) := by decide +kernel
end OH
