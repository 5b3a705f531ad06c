/-! ===== the loop answers true ===== -/
section LB
variable {b L i : Nat} {K : Nat → Nat} {S : Nat → Nat → Int32} {Q : Nat → Nat → Nat} {g : Hp} {xs : Nat → Int32}
theorem rdT_nI {j : Nat} (hj : j < L) (hL : L ≤ 3072) : rdT L xs (nI j) = some (xs j) := by
  unfold rdT
  rw [if_neg (nI_in hj (by omega)), nI_clamp (by omega)]
/-- what both answer, and what stands then -/
theorem Both.go {F G : Hp → Option (Int32 × Hp)} {k : Hp → Option (Int32 × Hp)} {w : Option (Int32 × Hp)} (hB : Both b S Q g F G) (hk : ∀ K2 S2 Q2 g2, Sim b K2 S2 Q2 g2 → k (E b S2 Q2 g2) = w) : ((F (E b S Q g)).bind fun q => (G q.2).bind fun q' => if q.1 = q'.1 then k q'.2 else some (0, q'.2)) = w := by
  obtain ⟨r, S1, Q1, g1, S2, K2, e1, e2, hs⟩ := hB
  rw [e1, bind_sm]
  dsimp only
  rw [e2, bind_sm, if_pos rfl]
  exact hk K2 S2 Q1 g1 hs
theorem loop_ok (h6 : 6 ≤ L) (hL : L ≤ 3072) : ∀ (m : Nat) (K : Nat → Nat) (S : Nat → Nat → Int32) (Q : Nat → Nat → Nat) (g : Hp) (i : Nat), Sim b K S Q g → i ≤ L → L - i < 6 * m → ∃ h', fXL L xs m (E b S Q g) b (b + 116) (nI i) = some (1, h') := by
  intro m
  induction m with
  | zero => intro K S Q g i h hi hm; omega
  | succ m ih =>
    intro K S Q g i h hi hm
    rw [fXL, show (nI L) - 6 = nI (L - 6) from nI_subI (a := L) (b := 6) h6]
    by_cases hd : L - 6 < i
    · rw [if_pos ((nI_ltI (by omega) (by omega)).mpr hd)]
      exact ⟨_, rfl⟩
    · rw [if_neg (fun q => hd ((nI_ltI (by omega) (by omega)).mp q))]
      have R0 : rdT L xs (nI i) = some (xs i) := rdT_nI (by omega) hL
      have R1 : rdT L xs (nI i + 1) = some (xs (i + 1)) := by rw [show nI i + 1 = nI (i + 1) from nI_add i 1]; exact rdT_nI (by omega) hL
      have R2 : rdT L xs (nI i + 2) = some (xs (i + 2)) := by rw [show nI i + 2 = nI (i + 2) from nI_add i 2]; exact rdT_nI (by omega) hL
      have R3 : rdT L xs (nI i + 3) = some (xs (i + 3)) := by rw [show nI i + 3 = nI (i + 3) from nI_add i 3]; exact rdT_nI (by omega) hL
      have R4 : rdT L xs (nI i + 4) = some (xs (i + 4)) := by rw [show nI i + 4 = nI (i + 4) from nI_add i 4]; exact rdT_nI (by omega) hL
      have R5 : rdT L xs (nI i + 5) = some (xs (i + 5)) := by rw [show nI i + 5 = nI (i + 5) from nI_add i 5]; exact rdT_nI (by omega) hL
      have nx : ∀ (K2 : Nat → Nat) (S2 : Nat → Nat → Int32) (Q2 : Nat → Nat → Nat) (g2 : Hp), Sim b K2 S2 Q2 g2 → ∃ h', fXL L xs m (E b S2 Q2 g2) b (b + 116) (nI i + 6) = some (1, h') := fun K2 S2 Q2 g2 hs => by
        rw [show nI i + 6 = nI (i + 6) from nI_add i 6]
        exact ih K2 S2 Q2 g2 (i + 6) hs (by omega) (by omega)
      rw [R0, bind_sm]
      generalize xs i &&& 63 = v
      by_cases hc0 : v = 0
      · rw [if_pos hc0]
        simp only [R1, R2, R3, R4, R5, bind_sm]
        obtain ⟨r, S1, Q1, g1, S2, K2, e1, e2, hs⟩ : Both b S Q g (fun h => fX8_person h b (xs (i + 1))) (fun h => fX9_person h (b + 116) (xs (i + 1))) := op_person h
        dsimp only at e1 e2
        rw [e1, bind_sm]
        dsimp only
        rw [e2, bind_sm, if_pos rfl]
        exact nx K2 S2 Q1 g1 hs
      rw [if_neg hc0]
      by_cases hc1 : v = 1
      · rw [if_pos hc1]
        simp only [R1, R2, R3, R4, R5, bind_sm]
        obtain ⟨r, S1, Q1, g1, S2, K2, e1, e2, hs⟩ : Both b S Q g (fun h => fX8_personIs h b (xs (i + 1)) (xs (i + 2))) (fun h => fX9_personIs h (b + 116) (xs (i + 1)) (xs (i + 2))) := op_personIs h
        dsimp only at e1 e2
        rw [e1, bind_sm]
        dsimp only
        rw [e2, bind_sm, if_pos rfl]
        exact nx K2 S2 Q1 g1 hs
      rw [if_neg hc1]
      by_cases hc2 : v = 2
      · rw [if_pos hc2]
        simp only [R1, R2, R3, R4, R5, bind_sm]
        obtain ⟨r, S1, Q1, g1, S2, K2, e1, e2, hs⟩ : Both b S Q g (fun h => fX8_man h b (xs (i + 1)) (xs (i + 2))) (fun h => fX9_man h (b + 116) (xs (i + 1)) (xs (i + 2))) := op_man h
        dsimp only at e1 e2
        rw [e1, bind_sm]
        dsimp only
        rw [e2, bind_sm, if_pos rfl]
        exact nx K2 S2 Q1 g1 hs
      rw [if_neg hc2]
      by_cases hc3 : v = 3
      · rw [if_pos hc3]
        simp only [R1, R2, R3, R4, R5, bind_sm]
        obtain ⟨r, S1, Q1, g1, S2, K2, e1, e2, hs⟩ : Both b S Q g (fun h => fX8_manIs h b (xs (i + 1)) (xs (i + 2))) (fun h => fX9_manIs h (b + 116) (xs (i + 1)) (xs (i + 2))) := op_manIs h
        dsimp only at e1 e2
        rw [e1, bind_sm]
        dsimp only
        rw [e2, bind_sm, if_pos rfl]
        exact nx K2 S2 Q1 g1 hs
      rw [if_neg hc3]
      by_cases hc4 : v = 4
      · rw [if_pos hc4]
        simp only [R1, R2, R3, R4, R5, bind_sm]
        obtain ⟨r, S1, Q1, g1, S2, K2, e1, e2, hs⟩ : Both b S Q g (fun h => fX8_as h b (xs (i + 1)) (xs (i + 2))) (fun h => fX9_as h (b + 116) (xs (i + 1)) (xs (i + 2))) := op_as h
        dsimp only at e1 e2
        rw [e1, bind_sm]
        dsimp only
        rw [e2, bind_sm, if_pos rfl]
        exact nx K2 S2 Q1 g1 hs
      rw [if_neg hc4]
      by_cases hc5 : v = 5
      · rw [if_pos hc5]
        simp only [R1, R2, R3, R4, R5, bind_sm]
        obtain ⟨r, S1, Q1, g1, S2, K2, e1, e2, hs⟩ : Both b S Q g (fun h => fX8_setMan h b (xs (i + 1)) (xs (i + 2)) (xs (i + 3))) (fun h => fX9_setMan h (b + 116) (xs (i + 1)) (xs (i + 2)) (xs (i + 3))) := op_setMan h
        dsimp only at e1 e2
        rw [e1, bind_sm]
        dsimp only
        rw [e2, bind_sm, if_pos rfl]
        exact nx K2 S2 Q1 g1 hs
      rw [if_neg hc5]
      by_cases hc6 : v = 6
      · rw [if_pos hc6]
        simp only [R1, R2, R3, R4, R5, bind_sm]
        obtain ⟨r, S1, Q1, g1, S2, K2, e1, e2, hs⟩ : Both b S Q g (fun h => fX8_setPerson h b (xs (i + 1)) (xs (i + 2)) (xs (i + 3))) (fun h => fX9_setPerson h (b + 116) (xs (i + 1)) (xs (i + 2)) (xs (i + 3))) := op_setPerson h
        dsimp only at e1 e2
        rw [e1, bind_sm]
        dsimp only
        rw [e2, bind_sm, if_pos rfl]
        exact nx K2 S2 Q1 g1 hs
      rw [if_neg hc6]
      by_cases hc7 : v = 7
      · rw [if_pos hc7]
        simp only [R1, R2, R3, R4, R5, bind_sm]
        obtain ⟨r, S1, Q1, g1, S2, K2, e1, e2, hs⟩ : Both b S Q g (fun h => fX8_forget h b (xs (i + 1))) (fun h => fX9_forget h (b + 116) (xs (i + 1))) := op_forget h
        dsimp only at e1 e2
        rw [e1, bind_sm]
        dsimp only
        rw [e2, bind_sm, if_pos rfl]
        exact nx K2 S2 Q1 g1 hs
      rw [if_neg hc7]
      by_cases hc8 : v = 8
      · rw [if_pos hc8]
        simp only [R1, R2, R3, R4, R5, bind_sm]
        obtain ⟨r, S1, Q1, g1, S2, K2, e1, e2, hs⟩ := op_feed (x := xs (i + 3)) ((lshl (xs (i + 1)).toInt64 32) ||| ((xs (i + 2)).toInt64 &&& 4294967295)) h
        dsimp only at e1 e2
        rw [e1, bind_sm]
        dsimp only
        rw [e2, bind_sm, if_pos rfl]
        exact nx K2 S2 Q1 g1 hs
      rw [if_neg hc8]
      by_cases hc9 : v = 9
      · rw [if_pos hc9]
        simp only [R1, R2, R3, R4, R5, bind_sm]
        obtain ⟨r, S1, Q1, g1, S2, K2, e1, e2, hs⟩ : Both b S Q g (fun h => fX8_text h b (xs (i + 1))) (fun h => fX9_text h (b + 116) (xs (i + 1))) := op_text h
        dsimp only at e1 e2
        rw [e1, bind_sm]
        dsimp only
        rw [e2, bind_sm, if_pos rfl]
        exact nx K2 S2 Q1 g1 hs
      rw [if_neg hc9]
      by_cases hc10 : v = 10
      · rw [if_pos hc10]
        simp only [R1, R2, R3, R4, R5, bind_sm]
        obtain ⟨r, S1, Q1, g1, S2, K2, e1, e2, hs⟩ : Both b S Q g (fun h => fX8_untell h b (xs (i + 1))) (fun h => fX9_untell h (b + 116) (xs (i + 1))) := op_untell h
        dsimp only at e1 e2
        rw [e1, bind_sm]
        dsimp only
        rw [e2, bind_sm, if_pos rfl]
        exact nx K2 S2 Q1 g1 hs
      rw [if_neg hc10]
      by_cases hc11 : v = 11
      · rw [if_pos hc11]
        simp only [R1, R2, R3, R4, R5, bind_sm]
        obtain ⟨r, S1, Q1, g1, S2, K2, e1, e2, hs⟩ : Both b S Q g (fun h => fX8_cross h b (xs (i + 1)) (xs (i + 2))) (fun h => fX9_cross h (b + 116) (xs (i + 1)) (xs (i + 2))) := op_cross h
        dsimp only at e1 e2
        rw [e1, bind_sm]
        dsimp only
        rw [e2, bind_sm, if_pos rfl]
        exact nx K2 S2 Q1 g1 hs
      rw [if_neg hc11]
      by_cases hc12 : v = 12
      · rw [if_pos hc12]
        simp only [R1, R2, R3, R4, R5, bind_sm]
        obtain ⟨r, S1, Q1, g1, S2, K2, e1, e2, hs⟩ : Both b S Q g (fun h => fX8_alone h b (xs (i + 1))) (fun h => fX9_alone h (b + 116) (xs (i + 1))) := op_alone h
        dsimp only at e1 e2
        rw [e1, bind_sm]
        dsimp only
        rw [e2, bind_sm, if_pos rfl]
        exact nx K2 S2 Q1 g1 hs
      rw [if_neg hc12]
      by_cases hc13 : v = 13
      · rw [if_pos hc13]
        simp only [R1, R2, R3, R4, R5, bind_sm]
        obtain ⟨r, S1, Q1, g1, S2, K2, e1, e2, hs⟩ : Both b S Q g (fun h => fX8_draws h b (xs (i + 1))) (fun h => fX9_draws h (b + 116) (xs (i + 1))) := op_draws h
        dsimp only at e1 e2
        rw [e1, bind_sm]
        dsimp only
        rw [e2, bind_sm, if_pos rfl]
        exact nx K2 S2 Q1 g1 hs
      rw [if_neg hc13]
      by_cases hc14 : v = 14
      · rw [if_pos hc14]
        simp only [R1, R2, R3, R4, R5, bind_sm]
        obtain ⟨r, S1, Q1, g1, S2, K2, e1, e2, hs⟩ : Both b S Q g (fun h => fX8_seed h b (xs (i + 1))) (fun h => fX9_seed h (b + 116) (xs (i + 1))) := op_seed h
        dsimp only at e1 e2
        rw [e1, bind_sm]
        dsimp only
        rw [e2, bind_sm, if_pos rfl]
        exact nx K2 S2 Q1 g1 hs
      rw [if_neg hc14]
      by_cases hc15 : v = 15
      · rw [if_pos hc15]
        simp only [R1, R2, R3, R4, R5, bind_sm]
        obtain ⟨r, S1, Q1, g1, S2, K2, e1, e2, hs⟩ : Both b S Q g (fun h => fX8_book h b (xs (i + 1))) (fun h => fX9_book h (b + 116) (xs (i + 1))) := op_book h
        dsimp only at e1 e2
        rw [e1, bind_sm]
        dsimp only
        rw [e2, bind_sm, if_pos rfl]
        exact nx K2 S2 Q1 g1 hs
      rw [if_neg hc15]
      by_cases hc16 : v = 16
      · rw [if_pos hc16]
        simp only [R1, R2, R3, R4, R5, bind_sm]
        obtain ⟨r, S1, Q1, g1, S2, K2, e1, e2, hs⟩ : Both b S Q g (fun h => fX8_debt h b (xs (i + 1)) (xs (i + 2)) (xs (i + 3))) (fun h => fX9_debt h (b + 116) (xs (i + 1)) (xs (i + 2)) (xs (i + 3))) := op_debt h
        dsimp only at e1 e2
        rw [e1, bind_sm]
        dsimp only
        rw [e2, bind_sm, if_pos rfl]
        exact nx K2 S2 Q1 g1 hs
      rw [if_neg hc16]
      by_cases hc17 : v = 17
      · rw [if_pos hc17]
        simp only [R1, R2, R3, R4, R5, bind_sm]
        obtain ⟨r, S1, Q1, g1, S2, K2, e1, e2, hs⟩ : Both b S Q g (fun h => fX8_debtIs h b (xs (i + 1)) (xs (i + 2))) (fun h => fX9_debtIs h (b + 116) (xs (i + 1)) (xs (i + 2))) := op_debtIs h
        dsimp only at e1 e2
        rw [e1, bind_sm]
        dsimp only
        rw [e2, bind_sm, if_pos rfl]
        exact nx K2 S2 Q1 g1 hs
      rw [if_neg hc17]
      by_cases hc18 : v = 18
      · rw [if_pos hc18]
        simp only [R1, R2, R3, R4, R5, bind_sm]
        obtain ⟨r, S1, Q1, g1, S2, K2, e1, e2, hs⟩ : Both b S Q g (fun h => fX8_pay h b (xs (i + 1))) (fun h => fX9_pay h (b + 116) (xs (i + 1))) := op_pay h
        dsimp only at e1 e2
        rw [e1, bind_sm]
        dsimp only
        rw [e2, bind_sm, if_pos rfl]
        exact nx K2 S2 Q1 g1 hs
      rw [if_neg hc18]
      by_cases hc19 : v = 19
      · rw [if_pos hc19]
        simp only [R1, R2, R3, R4, R5, bind_sm]
        obtain ⟨r, S1, Q1, g1, S2, K2, e1, e2, hs⟩ : Both b S Q g (fun h => fX8_loses h b (xs (i + 1)) (xs (i + 2))) (fun h => fX9_loses h (b + 116) (xs (i + 1)) (xs (i + 2))) := op_loses h
        dsimp only at e1 e2
        rw [e1, bind_sm]
        dsimp only
        rw [e2, bind_sm, if_pos rfl]
        exact nx K2 S2 Q1 g1 hs
      rw [if_neg hc19]
      by_cases hc20 : v = 20
      · rw [if_pos hc20]
        simp only [R1, R2, R3, R4, R5, bind_sm]
        obtain ⟨r, S1, Q1, g1, S2, K2, e1, e2, hs⟩ : Both b S Q g (fun h => fX8_stranger h b (xs (i + 1)) (xs (i + 2)) (xs (i + 3))) (fun h => fX9_stranger h (b + 116) (xs (i + 1)) (xs (i + 2)) (xs (i + 3))) := op_stranger h
        dsimp only at e1 e2
        rw [e1, bind_sm]
        dsimp only
        rw [e2, bind_sm, if_pos rfl]
        exact nx K2 S2 Q1 g1 hs
      rw [if_neg hc20]
      by_cases hc21 : v = 21
      · rw [if_pos hc21]
        simp only [R1, R2, R3, R4, R5, bind_sm]
        obtain ⟨r, S1, Q1, g1, S2, K2, e1, e2, hs⟩ : Both b S Q g (fun h => fX8_way h b (xs (i + 1)) (xs (i + 2)) (xs (i + 3))) (fun h => fX9_way h (b + 116) (xs (i + 1)) (xs (i + 2)) (xs (i + 3))) := op_way h
        dsimp only at e1 e2
        rw [e1, bind_sm]
        dsimp only
        rw [e2, bind_sm, if_pos rfl]
        exact nx K2 S2 Q1 g1 hs
      rw [if_neg hc21]
      by_cases hc22 : v = 22
      · rw [if_pos hc22]
        simp only [R1, R2, R3, R4, R5, bind_sm]
        obtain ⟨r, S1, Q1, g1, S2, K2, e1, e2, hs⟩ : Both b S Q g (fun h => fX8_memory h b (xs (i + 1)) (xs (i + 2))) (fun h => fX9_memory h (b + 116) (xs (i + 1)) (xs (i + 2))) := op_memory h
        dsimp only at e1 e2
        rw [e1, bind_sm]
        dsimp only
        rw [e2, bind_sm, if_pos rfl]
        exact nx K2 S2 Q1 g1 hs
      rw [if_neg hc22]
      by_cases hc23 : v = 23
      · rw [if_pos hc23]
        simp only [R1, R2, R3, R4, R5, bind_sm]
        obtain ⟨r, S1, Q1, g1, S2, K2, e1, e2, hs⟩ : Both b S Q g (fun h => fX8_hearsay h b (xs (i + 1)) (xs (i + 2))) (fun h => fX9_hearsay h (b + 116) (xs (i + 1)) (xs (i + 2))) := op_hearsay h
        dsimp only at e1 e2
        rw [e1, bind_sm]
        dsimp only
        rw [e2, bind_sm, if_pos rfl]
        exact nx K2 S2 Q1 g1 hs
      rw [if_neg hc23]
      by_cases hc24 : v = 24
      · rw [if_pos hc24]
        simp only [R1, R2, R3, R4, R5, bind_sm]
        obtain ⟨r, S1, Q1, g1, S2, K2, e1, e2, hs⟩ : Both b S Q g (fun h => fX8_rows h b (xs (i + 1)) (xs (i + 2))) (fun h => fX9_rows h (b + 116) (xs (i + 1)) (xs (i + 2))) := op_rows h
        dsimp only at e1 e2
        rw [e1, bind_sm]
        dsimp only
        rw [e2, bind_sm, if_pos rfl]
        exact nx K2 S2 Q1 g1 hs
      rw [if_neg hc24]
      by_cases hc25 : v = 25
      · rw [if_pos hc25]
        simp only [R1, R2, R3, R4, R5, bind_sm]
        obtain ⟨r, S1, Q1, g1, S2, K2, e1, e2, hs⟩ : Both b S Q g (fun h => fX8_voice h b (xs (i + 1)) (xs (i + 2)) (xs (i + 3))) (fun h => fX9_voice h (b + 116) (xs (i + 1)) (xs (i + 2)) (xs (i + 3))) := op_voice h
        dsimp only at e1 e2
        rw [e1, bind_sm]
        dsimp only
        rw [e2, bind_sm, if_pos rfl]
        exact nx K2 S2 Q1 g1 hs
      rw [if_neg hc25]
      by_cases hc26 : v = 26
      · rw [if_pos hc26]
        simp only [R1, R2, R3, R4, R5, bind_sm]
        obtain ⟨r, S1, Q1, g1, S2, K2, e1, e2, hs⟩ : Both b S Q g (fun h => fX8_body h b (xs (i + 1))) (fun h => fX9_body h (b + 116) (xs (i + 1))) := op_body h
        dsimp only at e1 e2
        rw [e1, bind_sm]
        dsimp only
        rw [e2, bind_sm, if_pos rfl]
        exact nx K2 S2 Q1 g1 hs
      rw [if_neg hc26]
      by_cases hc27 : v = 27
      · rw [if_pos hc27]
        simp only [R1, R2, R3, R4, R5, bind_sm]
        obtain ⟨r, S1, Q1, g1, S2, K2, e1, e2, hs⟩ : Both b S Q g (fun h => fX8_sheet h b (xs (i + 1)) (xs (i + 2)) (xs (i + 3))) (fun h => fX9_sheet h (b + 116) (xs (i + 1)) (xs (i + 2)) (xs (i + 3))) := op_sheet h
        dsimp only at e1 e2
        rw [e1, bind_sm]
        dsimp only
        rw [e2, bind_sm, if_pos rfl]
        exact nx K2 S2 Q1 g1 hs
      rw [if_neg hc27]
      by_cases hc28 : v = 28
      · rw [if_pos hc28]
        simp only [R1, R2, R3, R4, R5, bind_sm]
        obtain ⟨r, S1, Q1, g1, S2, K2, e1, e2, hs⟩ : Both b S Q g (fun h => fX8_put h b (xs (i + 1)) (xs (i + 2)) (xs (i + 3))) (fun h => fX9_put h (b + 116) (xs (i + 1)) (xs (i + 2)) (xs (i + 3))) := op_put h
        dsimp only at e1 e2
        rw [e1, bind_sm]
        dsimp only
        rw [e2, bind_sm, if_pos rfl]
        exact nx K2 S2 Q1 g1 hs
      rw [if_neg hc28]
      by_cases hc29 : v = 29
      · rw [if_pos hc29]
        simp only [R1, R2, R3, R4, R5, bind_sm]
        obtain ⟨r, S1, Q1, g1, S2, K2, e1, e2, hs⟩ : Both b S Q g (fun h => fX8_move h b (xs (i + 1)) (xs (i + 2)) (xs (i + 3)) (xs (i + 4)) (xs (i + 5))) (fun h => fX9_move h (b + 116) (xs (i + 1)) (xs (i + 2)) (xs (i + 3)) (xs (i + 4)) (xs (i + 5))) := op_move h
        dsimp only at e1 e2
        rw [e1, bind_sm]
        dsimp only
        rw [e2, bind_sm, if_pos rfl]
        exact nx K2 S2 Q1 g1 hs
      rw [if_neg hc29]
      by_cases hc30 : v = 30
      · rw [if_pos hc30]
        simp only [R1, R2, R3, R4, R5, bind_sm]
        obtain ⟨r, S1, Q1, g1, S2, K2, e1, e2, hs⟩ : Both b S Q g (fun h => fX8_crossings h b (xs (i + 1))) (fun h => fX9_crossings h (b + 116) (xs (i + 1))) := op_crossings h
        dsimp only at e1 e2
        rw [e1, bind_sm]
        dsimp only
        rw [e2, bind_sm, if_pos rfl]
        exact nx K2 S2 Q1 g1 hs
      rw [if_neg hc30]
      by_cases hc31 : v = 31
      · rw [if_pos hc31]
        simp only [R1, R2, R3, R4, R5, bind_sm]
        obtain ⟨r, S1, Q1, g1, S2, K2, e1, e2, hs⟩ : Both b S Q g (fun h => fX8_judge h b (xs (i + 1)) (xs (i + 2))) (fun h => fX9_judge h (b + 116) (xs (i + 1)) (xs (i + 2))) := op_judge h
        dsimp only at e1 e2
        rw [e1, bind_sm]
        dsimp only
        rw [e2, bind_sm, if_pos rfl]
        exact nx K2 S2 Q1 g1 hs
      rw [if_neg hc31]
      by_cases hc32 : v = 32
      · rw [if_pos hc32]
        obtain ⟨r, S1, Q1, g1, S2, K2, e1, e2, hs⟩ := op_image h
        dsimp only at e1 e2
        rw [e1, bind_sm]
        dsimp only
        rw [e2, bind_sm, if_pos rfl]
        exact nx K2 S2 Q1 g1 hs
      rw [if_neg hc32]
      by_cases hc33 : v = 33
      · rw [if_pos hc33]
        obtain ⟨r, S1, Q1, g1, S2, K2, e1, e2, hs⟩ := op_restore h
        dsimp only at e1 e2
        rw [e1, bind_sm]
        dsimp only
        rw [e2, bind_sm, if_pos rfl]
        exact nx K2 S2 Q1 g1 hs
      rw [if_neg hc33]
      by_cases hc34 : v = 34
      · rw [if_pos hc34]
        simp only [R1, R2, R3, R4, R5, bind_sm]
        obtain ⟨r, S1, Q1, g1, S2, K2, e1, e2, hs⟩ : Both b S Q g (fun h => fX8_tell h b (xs (i + 1))) (fun h => fX9_tell h (b + 116) (xs (i + 1))) := op_tell h
        dsimp only at e1 e2
        rw [e1, bind_sm]
        dsimp only
        rw [e2, bind_sm, if_pos rfl]
        exact nx K2 S2 Q1 g1 hs
      rw [if_neg hc34]
      by_cases hc35 : v = 35
      · rw [if_pos hc35]
        simp only [R1, R2, R3, R4, R5, bind_sm]
        obtain ⟨r, S1, Q1, g1, S2, K2, e1, e2, hs⟩ : Both b S Q g (fun h => fX8_check h b (xs (i + 1))) (fun h => fX9_check h (b + 116) (xs (i + 1))) := op_check h
        dsimp only at e1 e2
        rw [e1, bind_sm]
        dsimp only
        rw [e2, bind_sm, if_pos rfl]
        exact nx K2 S2 Q1 g1 hs
      rw [if_neg hc35]
      by_cases hc36 : v = 36
      · rw [if_pos hc36]
        simp only [R1, R2, R3, R4, R5, bind_sm]
        obtain ⟨r, S1, Q1, g1, S2, K2, e1, e2, hs⟩ : Both b S Q g (fun h => fX8_count h b (xs (i + 1))) (fun h => fX9_count h (b + 116) (xs (i + 1))) := op_count h
        dsimp only at e1 e2
        rw [e1, bind_sm]
        dsimp only
        rw [e2, bind_sm, if_pos rfl]
        exact nx K2 S2 Q1 g1 hs
      rw [if_neg hc36]
      by_cases hc37 : v = 37
      · rw [if_pos hc37]
        simp only [R1, R2, R3, R4, R5, bind_sm]
        obtain ⟨r, S1, Q1, g1, S2, K2, e1, e2, hs⟩ : Both b S Q g (fun h => fX8_told h b (xs (i + 1))) (fun h => fX9_told h (b + 116) (xs (i + 1))) := op_told h
        dsimp only at e1 e2
        rw [e1, bind_sm]
        dsimp only
        rw [e2, bind_sm, if_pos rfl]
        exact nx K2 S2 Q1 g1 hs
      rw [if_neg hc37]
      exact nx K S Q g h
end LB
