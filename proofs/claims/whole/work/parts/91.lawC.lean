/-! ===== the loop from the first call on ===== -/
section LC
variable {b L : Nat} {K : Nat → Nat} {S : Nat → Nat → Int32} {Q : Nat → Nat → Nat} {g : Hp} {xs : Nat → Int32}
theorem loop_all (hL : L ≤ 3072) (h : Sim b K S Q g) : ∃ h', fXL L xs 513 (E b S Q g) b (b + 116) 0 = some (1, h') := by
  by_cases h6 : 6 ≤ L
  · exact loop_ok h6 hL 513 K S Q g 0 h (Nat.zero_le _) (by omega)
  · have e : ∀ L < 6, nI L - 6 < 0 := by decide
    rw [fXL, if_pos (e L (by omega))]
    exact ⟨_, rfl⟩
end LC
