/-! ===== draws: the reference's loops ===== -/
section OM
variable {b : Nat} {S S' S1 S2 : Nat → Nat → Int32} {Q Q' Q1 : Nat → Nat → Nat} {g g' g1 h : Hp} {k p m n : Nat} {x y z v r : Int32} {w : Wo}
theorem m_seek (hR : RepM (S 117) w) (hI : Winv w) (hk : k < w.1 0 2) {j : Nat} (hj : j < cntP (metP w k) (w.1 0 1)) : ∃ p, p < w.1 0 1 ∧ metP w k p = true ∧ cntP (metP w k) p = j ∧ fX9_crossByDraws_69 1000 (E b S Q g) (b + 116) (nI k) (nI j) (nI 0) = (fX9_crosses (E b S Q g) (b + 116) (nI k) (nI p)).bind fun q => some q.2 := by
  have hp8 := hI.2.1
  have hcl := cntP_le (metP w k) (w.1 0 1)
  have loop : ∀ (m i : Nat), i ≤ w.1 0 1 → w.1 0 1 - i < m → cntP (metP w k) i ≤ j → ∃ p, p < w.1 0 1 ∧ metP w k p = true ∧ cntP (metP w k) p = j ∧ fX9_crossByDraws_69 m (E b S Q g) (b + 116) (nI k) (nI (j - cntP (metP w k) i)) (nI i) = (fX9_crosses (E b S Q g) (b + 116) (nI k) (nI p)).bind fun q => some q.2 := by
    intro m
    induction m with
    | zero => intro i _ h; omega
    | succ m ih =>
      intro i hi hm hij
      by_cases hle : i = w.1 0 1
      · rw [hle] at hij; omega
      · have hlt : i < w.1 0 1 := by omega
        have tg := m_together (b := b) (Q := Q) (g := g) hR hI hk hlt
        have e : cntP (metP w k) (i + 1) = if metP w k i = true then cntP (metP w k) i + 1 else cntP (metP w k) i := rfl
        rw [fX9_crossByDraws_69, tg, bind_sm]
        unfold fX9_crossByDraws_83
        rw [tg, bind_sm]
        by_cases h0 : metP w k i = true
        · simp only [rN, h0, if_true, z10, if_false]
          rw [if_pos h0] at e
          by_cases h1 : j - cntP (metP w k) i = 0
          · rw [h1, if_pos (by decide)]
            exact ⟨i, hlt, h0, by omega, rfl⟩
          · rw [if_neg (fun q => absurd ((nI_leI (by omega) (by decide)).mp q) (by omega)), nI_subI (by omega), nI_add, show j - cntP (metP w k) i - 1 = j - cntP (metP w k) (i + 1) by omega]
            exact ih (i + 1) (by omega) (by omega) (by omega)
        · rw [if_neg h0] at e
          simp only [rN, h0, if_true, if_false]
          rw [nI_subI (Nat.zero_le _), nI_add, Nat.sub_zero, ← e]
          exact ih (i + 1) (by omega) (by omega) (by omega)
  exact loop 1000 0 (Nat.zero_le _) (by omega) (Nat.zero_le _)
end OM
