/-! ===== draws: the number ===== -/
section OL
variable {b : Nat} {S S' S1 S2 : Nat → Nat → Int32} {Q Q' Q1 : Nat → Nat → Nat} {g g' g1 h : Hp} {m n : Nat} {x y z v r : Int32}
def nextZ (z : Int32) : Int32 := z * 1103515245 + nI 12345
theorem c_draw : fX1_draw (E b S Q g) (b + 4) = some (ushr (nextZ (S 4 8)) (nI 8), E b (up2 S 4 8 (nextZ (S 4 8))) Q g) := by
  unfold fX1_draw nextZ
  simp only [rF, rN, bind_sm, up2_at, if_true]
theorem m_draw : fX9_draw (E b S Q g) (b + 116) = some (ushr (nextZ (S 117 7)) (nI 8), E b (up2 S 117 7 (nextZ (S 117 7))) Q g) := by
  unfold fX9_draw nextZ
  simp (disch := omega) only [rM, rN, bind_sm, up2_at, if_true]
theorem ush8 (z : Int32) : ∃ m, m < 2 ^ 24 ∧ ushr z (nI 8) = nI m := by
  refine ⟨z.toUInt32.toNat / 256, ?_, ?_⟩
  · have := z.toUInt32.toNat_lt
    omega
  · unfold ushr
    have e : (nI 8).toUInt32 &&& Int32.toUInt32 31 = 8 := by decide
    rw [e]
    apply Int32.toBitVec_inj.mp
    apply BitVec.eq_of_toNat_eq
    have h1 : (z.toUInt32 >>> 8).toNat = z.toUInt32.toNat / 256 := by
      rw [UInt32.toNat_shiftRight, Nat.shiftRight_eq_div_pow]
      rfl
    have h2 : z.toUInt32.toNat / 256 < 2 ^ 32 := by have := z.toUInt32.toNat_lt; omega
    show (z.toUInt32 >>> 8).toNat = (BitVec.ofNat 32 (z.toUInt32.toNat / 256)).toNat
    rw [h1, BitVec.toNat_ofNat, Nat.mod_eq_of_lt h2]
end OL
