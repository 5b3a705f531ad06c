/-! ===== draws: the reference counts who is there ===== -/
section ON
variable {b : Nat} {S S' S1 S2 : Nat → Nat → Int32} {Q Q' Q1 : Nat → Nat → Nat} {g g' g1 h : Hp} {k p m n : Nat} {x y z v r : Int32} {w : Wo}
theorem rmz_nI {m n : Nat} (hm : m < 2 ^ 31) (hn : 0 < n ∧ n < 2 ^ 31) : rmz (nI m) (nI n) = some (nI (m % n)) := by
  unfold rmz
  rw [show (0 : Int32) = nI 0 from rfl, if_neg (fun q => absurd ((nI_eq hn.2 (by decide : (0 : Nat) < 2 ^ 31)).mp q) (by omega))]
  congr 1
  have h1 : (nI m).toInt = m := nI_toInt hm
  have h2 : (nI n).toInt = n := nI_toInt hn.2
  have h3 : (nI m / nI n) = nI (m / n) := pk_div hm hn.1 hn.2
  rw [h3, pk_mul, nI_subI (by rw [Nat.mul_comm]; exact Nat.mul_div_le m n)]
  congr 1
  have := Nat.div_add_mod m n
  rw [Nat.mul_comm] at this
  omega
theorem m_there (hR : RepM (S 117) w) (hI : Winv w) (hk : k < w.1 0 2) : fX9_crossByDraws_16 1000 (E b S Q g) (b + 116) (nI k) (nI 0) (nI 0) = if nI (cntP (metP w k) (w.1 0 1)) = 0 then (fX9_goesAlone (E b S Q g) (b + 116) (nI k)).bind fun q => some q else (fX9_draw (E b S Q g) (b + 116)).bind fun q60 => (rmz q60.1 (nI (cntP (metP w k) (w.1 0 1)))).bind fun v64 => fX9_crossByDraws_69 1000 q60.2 (b + 116) (nI k) v64 0 := by
  have hp8 := hI.2.1
  have loop : ∀ (m i : Nat), i ≤ w.1 0 1 → w.1 0 1 - i < m → fX9_crossByDraws_16 m (E b S Q g) (b + 116) (nI k) (nI (cntP (metP w k) i)) (nI i) = if nI (cntP (metP w k) (w.1 0 1)) = 0 then (fX9_goesAlone (E b S Q g) (b + 116) (nI k)).bind fun q => some q else (fX9_draw (E b S Q g) (b + 116)).bind fun q60 => (rmz q60.1 (nI (cntP (metP w k) (w.1 0 1)))).bind fun v64 => fX9_crossByDraws_69 1000 q60.2 (b + 116) (nI k) v64 0 := by
    intro m
    induction m with
    | zero => intro i _ h; omega
    | succ m ih =>
      intro i hi hm
      have e : cntP (metP w k) (i + 1) = if metP w k i = true then cntP (metP w k) i + 1 else cntP (metP w k) i := rfl
      have r0 := rM b S Q g
      rw [fX9_crossByDraws_16]
      by_cases hle : w.1 0 1 ≤ i
      · have hi' : i = w.1 0 1 := by omega
        subst hi'
        rw [show getR (E b S Q g) 9 (b + 116) 0 = some (b + 117) by simp only [rM], bind_sm, show rdI (E b S Q g) (b + 117) 0 = some (S 117 0) by simp (disch := omega) only [rM, rN], bind_sm, hR.1, if_pos ((nI_leI (by omega) (by omega)).mpr (Nat.le_refl _))]
      · rw [show getR (E b S Q g) 9 (b + 116) 0 = some (b + 117) by simp only [rM], bind_sm, show rdI (E b S Q g) (b + 117) 0 = some (S 117 0) by simp (disch := omega) only [rM, rN], bind_sm, hR.1, if_neg (fun q => hle ((nI_leI (by omega) (by omega)).mp q)), m_together hR hI hk (by omega), bind_sm]
        by_cases h0 : metP w k i = true
        · rw [if_pos h0] at e ⊢
          rw [if_neg (by decide)]
          have := ih (i + 1) (by omega) (by omega)
          rw [e] at this
          rw [← this, ← nI_add, ← nI_add]
          rfl
        · rw [if_neg h0] at e ⊢
          rw [if_pos (show nI 0 = 0 from rfl)]
          have := ih (i + 1) (by omega) (by omega)
          rw [e] at this
          rw [← this, show nI (cntP (metP w k) i) + 0 = nI (cntP (metP w k) i) from nI_add .. |>.trans (by rw [Nat.add_zero]), ← nI_add]
          rfl
  exact loop 1000 0 (Nat.zero_le _) (by omega)
end ON
