/-! ===== image, restore, untell, feed ===== -/
section OY
variable {b : Nat} {S S' S1 S2 S3 S5 S6 : Nat → Nat → Int32} {Q Q' Q1 : Nat → Nat → Nat} {g g' g1 h : Hp} {f k j p q n u c c0 c1 lo hi i e m : Nat} {x y z v r : Int32} {w : Wo} {T : Tx} {K K2 : Nat → Nat} {a a' : Fs} {s s' s0 : Nat → Int32} {t : Dt} {l : List Nat}
theorem c_ferKeep (hC : FerC b K S Q g 4 a) (hI : Finv a) : ∃ S' Q', fX1_copyFrom (E b S Q g) (b + 21) (b + 4) = some (E b S' Q' g) ∧ (∀ r, r < 21 ∨ 38 ≤ r → S' r = S r) ∧ (∀ r, r ≠ 29 → Q' r = Q r) ∧ FerC b K S' Q' g 21 a := by
  obtain ⟨c1, ⟨c2, c3⟩, c4, c5, c6, c7, c8⟩ := hC
  obtain ⟨i1, i2, i3, i4, i5, i6, i7, i8⟩ := hI
  obtain ⟨S1, e1, o1, p1⟩ := c_copyFrom (b := b) (S := S) (Q := Q) (g := g) (c0 := 12) (c1 := 29) w12 w29 (by decide)
  have cpa : ∀ (c c' n : Nat) (S : Nat → Nat → Int32) (Q : Nat → Nat → Nat), (c = 6 ∧ c' = 23 ∧ n = 8) ∨ (c = 7 ∧ c' = 24 ∧ n = 8) ∨ (c = 8 ∧ c' = 25 ∧ n = 8) ∨ (c = 9 ∧ c' = 26 ∧ n = 60) ∨ (c = 10 ∧ c' = 27 ∧ n = 24) ∨ (c = 11 ∧ c' = 28 ∧ n = 24) → acopy (E b S Q g) (b + c) (nI 0) (b + c') (nI 0) (nI n) = some (E b (cpR S c c' 0 0 n) Q g) := by
    intro c c' n S Q h
    rcases h with ⟨rfl, rfl, rfl⟩ | ⟨rfl, rfl, rfl⟩ | ⟨rfl, rfl, rfl⟩ | ⟨rfl, rfl, rfl⟩ | ⟨rfl, rfl, rfl⟩ | ⟨rfl, rfl, rfl⟩ <;> exact E_acopy rfl rfl (by decide) (by decide) (by decide) (by decide)
  have cp2 := fun S Q => cpa 6 23 8 S Q (by omega)
  have cp3 := fun S Q => cpa 7 24 8 S Q (by omega)
  have cp4 := fun S Q => cpa 8 25 8 S Q (by omega)
  have cp5 := fun S Q => cpa 9 26 60 S Q (by omega)
  have cp6 := fun S Q => cpa 10 27 24 S Q (by omega)
  have cp7 := fun S Q => cpa 11 28 24 S Q (by omega)
  obtain ⟨S2, hS2⟩ : ∃ S2, S2 = up2 S1 22 0 (S1 5 0) := ⟨_, rfl⟩
  obtain ⟨S3, hS3⟩ : ∃ S3, S3 = cpR S2 6 23 0 0 8 := ⟨_, rfl⟩
  obtain ⟨S4, hS4⟩ : ∃ S4, S4 = cpR S3 7 24 0 0 8 := ⟨_, rfl⟩
  obtain ⟨S5, hS5⟩ : ∃ S5, S5 = cpR S4 8 25 0 0 8 := ⟨_, rfl⟩
  obtain ⟨S6, hS6⟩ : ∃ S6, S6 = cpR S5 9 26 0 0 60 := ⟨_, rfl⟩
  obtain ⟨S7, hS7⟩ : ∃ S7, S7 = up2 S6 21 3 (S6 4 3) := ⟨_, rfl⟩
  obtain ⟨S8, hS8⟩ : ∃ S8, S8 = cpR S7 10 27 0 0 24 := ⟨_, rfl⟩
  obtain ⟨S9, hS9⟩ : ∃ S9, S9 = up2 S8 21 5 (S8 4 5) := ⟨_, rfl⟩
  obtain ⟨S10, hS10⟩ : ∃ S10, S10 = cpR S9 11 28 0 0 24 := ⟨_, rfl⟩
  obtain ⟨S11, hS11⟩ : ∃ S11, S11 = up2 S10 21 7 (S10 4 7) := ⟨_, rfl⟩
  obtain ⟨S12, hS12⟩ : ∃ S12, S12 = up2 S11 21 8 (S11 4 8) := ⟨_, rfl⟩
  have d0 : fX0_copyFrom (E b S1 (cpQ Q 12 29) g) (b + 22) (b + 5) = some (E b S5 (cpQ Q 12 29) g) := by
    unfold fX0_copyFrom
    simp (disch := omega) only [rF, rN, bind_sm, ← hS2, cp2, ← hS3, cp3, ← hS4, cp4, ← hS5]
  have a1 : ∀ r, r < 29 ∨ 38 ≤ r → S1 r = S r := fun r hr => o1 r (by omega)
  have a2 : ∀ r, r ≠ 22 → S2 r = S1 r := fun r hr => by rw [hS2, up2_row (by omega)]
  have a3 : ∀ r, r ≠ 23 → S3 r = S2 r := fun r hr => by rw [hS3, cpR_ne hr]
  have a4 : ∀ r, r ≠ 24 → S4 r = S3 r := fun r hr => by rw [hS4, cpR_ne hr]
  have a5 : ∀ r, r ≠ 25 → S5 r = S4 r := fun r hr => by rw [hS5, cpR_ne hr]
  have a6 : ∀ r, r ≠ 26 → S6 r = S5 r := fun r hr => by rw [hS6, cpR_ne hr]
  have a7 : ∀ r, r ≠ 21 → S7 r = S6 r := fun r hr => by rw [hS7, up2_row (by omega)]
  have a8 : ∀ r, r ≠ 27 → S8 r = S7 r := fun r hr => by rw [hS8, cpR_ne hr]
  have a9 : ∀ r, r ≠ 21 → S9 r = S8 r := fun r hr => by rw [hS9, up2_row (by omega)]
  have a10 : ∀ r, r ≠ 28 → S10 r = S9 r := fun r hr => by rw [hS10, cpR_ne hr]
  have a11 : ∀ r, r ≠ 21 → S11 r = S10 r := fun r hr => by rw [hS11, up2_row (by omega)]
  have a12 : ∀ r, r ≠ 21 → S12 r = S11 r := fun r hr => by rw [hS12, up2_row (by omega)]
  have b6 : ∀ r, r < 21 ∨ 38 ≤ r → S6 r = S r := fun r hr => by rw [a6 r (by omega), a5 r (by omega), a4 r (by omega), a3 r (by omega), a2 r (by omega), a1 r (by omega)]
  have b8 : ∀ r, r < 21 ∨ 38 ≤ r → S8 r = S r := fun r hr => by rw [a8 r (by omega), a7 r (by omega), b6 r hr]
  have b10 : ∀ r, r < 21 ∨ 38 ≤ r → S10 r = S r := fun r hr => by rw [a10 r (by omega), a9 r (by omega), b8 r hr]
  have b11 : ∀ r, r < 21 ∨ 38 ≤ r → S11 r = S r := fun r hr => by rw [a11 r (by omega), b10 r hr]
  have b12 : ∀ r, r < 21 ∨ 38 ≤ r → S12 r = S r := fun r hr => by rw [a12 r (by omega), b11 r hr]
  have f8 : S12 21 8 = S 4 8 := by rw [hS12, up2_at, if_pos rfl, b11 _ (by omega)]
  have f7 : S12 21 7 = S 4 7 := by rw [hS12, up2_at, if_neg (by decide), hS11, up2_at, if_pos rfl, b10 _ (by omega)]
  have f5 : S12 21 5 = S 4 5 := by rw [hS12, up2_at, if_neg (by decide), hS11, up2_at, if_neg (by decide), a10 _ (by omega), hS9, up2_at, if_pos rfl, b8 _ (by omega)]
  have f3 : S12 21 3 = S 4 3 := by rw [hS12, up2_at, if_neg (by decide), hS11, up2_at, if_neg (by decide), a10 _ (by omega), hS9, up2_at, if_neg (by decide), a8 _ (by omega), hS7, up2_at, if_pos rfl, b6 _ (by omega)]
  have r7 : ∀ i < 24, S12 28 i = S 11 i := fun i hi => by rw [a12 _ (by omega), a11 _ (by omega), hS10, cpR_at, if_pos (by omega), Nat.zero_add, Nat.sub_zero, a9 _ (by omega), b8 _ (by omega)]
  have r6 : ∀ i < 24, S12 27 i = S 10 i := fun i hi => by rw [a12 _ (by omega), a11 _ (by omega), a10 _ (by omega), a9 _ (by omega), hS8, cpR_at, if_pos (by omega), Nat.zero_add, Nat.sub_zero, a7 _ (by omega), b6 _ (by omega)]
  have t6 : ∀ r, r ≠ 21 → r ≠ 27 → r ≠ 28 → S12 r = S6 r := fun r h1 h2 h3 => by rw [a12 r h1, a11 r h1, a10 r h3, a9 r h1, a8 r h2, a7 r h1]
  have r5 : ∀ i < 60, S12 26 i = S 9 i := fun i hi => by rw [t6 _ (by omega) (by omega) (by omega), hS6, cpR_at, if_pos (by omega), Nat.zero_add, Nat.sub_zero, a5 _ (by omega), a4 _ (by omega), a3 _ (by omega), a2 _ (by omega), a1 _ (by omega)]
  have r4 : ∀ i < 8, S12 25 i = S 8 i := fun i hi => by rw [t6 _ (by omega) (by omega) (by omega), a6 _ (by omega), hS5, cpR_at, if_pos (by omega), Nat.zero_add, Nat.sub_zero, a4 _ (by omega), a3 _ (by omega), a2 _ (by omega), a1 _ (by omega)]
  have r3 : ∀ i < 8, S12 24 i = S 7 i := fun i hi => by rw [t6 _ (by omega) (by omega) (by omega), a6 _ (by omega), a5 _ (by omega), hS4, cpR_at, if_pos (by omega), Nat.zero_add, Nat.sub_zero, a3 _ (by omega), a2 _ (by omega), a1 _ (by omega)]
  have r2 : ∀ i < 8, S12 23 i = S 6 i := fun i hi => by rw [t6 _ (by omega) (by omega) (by omega), a6 _ (by omega), a5 _ (by omega), a4 _ (by omega), hS3, cpR_at, if_pos (by omega), Nat.zero_add, Nat.sub_zero, a2 _ (by omega), a1 _ (by omega)]
  have r1 : S12 22 0 = S 5 0 := by rw [t6 _ (by omega) (by omega) (by omega), a6 _ (by omega), a5 _ (by omega), a4 _ (by omega), a3 _ (by omega), hS2, up2_at, if_pos rfl, a1 _ (by omega)]
  have rw8 : RepW S12 29 (fW a) := (RepW.copy c1 i1 p1).fr (fun m hm => by rw [t6 _ (by omega) (by omega) (by omega), a6 _ (by omega), a5 _ (by omega), a4 _ (by omega), a3 _ (by omega), a2 _ (by omega)])
  refine ⟨S12, cpQ Q 12 29, ?_, b12, fun r hr => cpQ_ne hr, rw8, ⟨?_, ?_⟩, ⟨?_, ?_⟩, ⟨?_, ?_⟩, ⟨?_, ?_⟩, ?_, ⟨?_, fun i d hd => ?_⟩⟩
  · unfold fX1_copyFrom
    simp (disch := omega) only [rF, rN, bind_sm, e1, d0, cp5, ← hS6, ← hS7, cp6, ← hS8, ← hS9, cp7, ← hS10, ← hS11, ← hS12]
  · show LawQ K b g (cpQ Q 12 29 29 11) (fT a 0)
    rw [cpQ_at (by omega) (by decide)]; exact c2
  · show LawQ K b g (cpQ Q 12 29 29 12) (fT a 1)
    rw [cpQ_at (by omega) (by decide)]; exact c3
  · rw [f3]; exact c4.1
  · exact c4.2.fr (fun i hi => by rw [Nat.zero_add]; exact r5 i (by omega))
  · rw [f5]; exact c5.1
  · exact c5.2.fr (fun i hi => by rw [Nat.zero_add]; exact r6 i (by omega))
  · rw [f7]; exact c6.1
  · exact c6.2.fr (fun i hi => by rw [Nat.zero_add]; exact r7 i (by omega))
  · rw [f8]; exact c7
  · show S12 22 0 = _
    rw [r1]; exact c8.1
  · have hi := (List.getElem?_eq_some_iff.mp hd).1
    show S12 23 i = _ ∧ S12 24 i = _ ∧ S12 25 i = _
    rw [r2 i (by omega), r3 i (by omega), r4 i (by omega)]
    exact c8.2 i d hd
theorem c_ferBack (hC : FerC b K S Q g 21 a) (hI : Finv a) : ∃ S' Q', fX1_copyFrom (E b S Q g) (b + 4) (b + 21) = some (E b S' Q' g) ∧ (∀ r, r < 4 ∨ 21 ≤ r → S' r = S r) ∧ (∀ r, r ≠ 12 → Q' r = Q r) ∧ FerC b K S' Q' g 4 a := by
  obtain ⟨c1, ⟨c2, c3⟩, c4, c5, c6, c7, c8⟩ := hC
  obtain ⟨i1, i2, i3, i4, i5, i6, i7, i8⟩ := hI
  obtain ⟨S1, e1, o1, p1⟩ := c_copyFrom (b := b) (S := S) (Q := Q) (g := g) (c0 := 29) (c1 := 12) w29 w12 (by decide)
  have cpa : ∀ (c c' n : Nat) (S : Nat → Nat → Int32) (Q : Nat → Nat → Nat), (c = 23 ∧ c' = 6 ∧ n = 8) ∨ (c = 24 ∧ c' = 7 ∧ n = 8) ∨ (c = 25 ∧ c' = 8 ∧ n = 8) ∨ (c = 26 ∧ c' = 9 ∧ n = 60) ∨ (c = 27 ∧ c' = 10 ∧ n = 24) ∨ (c = 28 ∧ c' = 11 ∧ n = 24) → acopy (E b S Q g) (b + c) (nI 0) (b + c') (nI 0) (nI n) = some (E b (cpR S c c' 0 0 n) Q g) := by
    intro c c' n S Q h
    rcases h with ⟨rfl, rfl, rfl⟩ | ⟨rfl, rfl, rfl⟩ | ⟨rfl, rfl, rfl⟩ | ⟨rfl, rfl, rfl⟩ | ⟨rfl, rfl, rfl⟩ | ⟨rfl, rfl, rfl⟩ <;> exact E_acopy rfl rfl (by decide) (by decide) (by decide) (by decide)
  have cp2 := fun S Q => cpa 23 6 8 S Q (by omega)
  have cp3 := fun S Q => cpa 24 7 8 S Q (by omega)
  have cp4 := fun S Q => cpa 25 8 8 S Q (by omega)
  have cp5 := fun S Q => cpa 26 9 60 S Q (by omega)
  have cp6 := fun S Q => cpa 27 10 24 S Q (by omega)
  have cp7 := fun S Q => cpa 28 11 24 S Q (by omega)
  obtain ⟨S2, hS2⟩ : ∃ S2, S2 = up2 S1 5 0 (S1 22 0) := ⟨_, rfl⟩
  obtain ⟨S3, hS3⟩ : ∃ S3, S3 = cpR S2 23 6 0 0 8 := ⟨_, rfl⟩
  obtain ⟨S4, hS4⟩ : ∃ S4, S4 = cpR S3 24 7 0 0 8 := ⟨_, rfl⟩
  obtain ⟨S5, hS5⟩ : ∃ S5, S5 = cpR S4 25 8 0 0 8 := ⟨_, rfl⟩
  obtain ⟨S6, hS6⟩ : ∃ S6, S6 = cpR S5 26 9 0 0 60 := ⟨_, rfl⟩
  obtain ⟨S7, hS7⟩ : ∃ S7, S7 = up2 S6 4 3 (S6 21 3) := ⟨_, rfl⟩
  obtain ⟨S8, hS8⟩ : ∃ S8, S8 = cpR S7 27 10 0 0 24 := ⟨_, rfl⟩
  obtain ⟨S9, hS9⟩ : ∃ S9, S9 = up2 S8 4 5 (S8 21 5) := ⟨_, rfl⟩
  obtain ⟨S10, hS10⟩ : ∃ S10, S10 = cpR S9 28 11 0 0 24 := ⟨_, rfl⟩
  obtain ⟨S11, hS11⟩ : ∃ S11, S11 = up2 S10 4 7 (S10 21 7) := ⟨_, rfl⟩
  obtain ⟨S12, hS12⟩ : ∃ S12, S12 = up2 S11 4 8 (S11 21 8) := ⟨_, rfl⟩
  have d0 : fX0_copyFrom (E b S1 (cpQ Q 29 12) g) (b + 5) (b + 22) = some (E b S5 (cpQ Q 29 12) g) := by
    unfold fX0_copyFrom
    simp (disch := omega) only [rF, rN, bind_sm, ← hS2, cp2, ← hS3, cp3, ← hS4, cp4, ← hS5]
  have a1 : ∀ r, r < 12 ∨ 21 ≤ r → S1 r = S r := fun r hr => o1 r (by omega)
  have a2 : ∀ r, r ≠ 5 → S2 r = S1 r := fun r hr => by rw [hS2, up2_row (by omega)]
  have a3 : ∀ r, r ≠ 6 → S3 r = S2 r := fun r hr => by rw [hS3, cpR_ne hr]
  have a4 : ∀ r, r ≠ 7 → S4 r = S3 r := fun r hr => by rw [hS4, cpR_ne hr]
  have a5 : ∀ r, r ≠ 8 → S5 r = S4 r := fun r hr => by rw [hS5, cpR_ne hr]
  have a6 : ∀ r, r ≠ 9 → S6 r = S5 r := fun r hr => by rw [hS6, cpR_ne hr]
  have a7 : ∀ r, r ≠ 4 → S7 r = S6 r := fun r hr => by rw [hS7, up2_row (by omega)]
  have a8 : ∀ r, r ≠ 10 → S8 r = S7 r := fun r hr => by rw [hS8, cpR_ne hr]
  have a9 : ∀ r, r ≠ 4 → S9 r = S8 r := fun r hr => by rw [hS9, up2_row (by omega)]
  have a10 : ∀ r, r ≠ 11 → S10 r = S9 r := fun r hr => by rw [hS10, cpR_ne hr]
  have a11 : ∀ r, r ≠ 4 → S11 r = S10 r := fun r hr => by rw [hS11, up2_row (by omega)]
  have a12 : ∀ r, r ≠ 4 → S12 r = S11 r := fun r hr => by rw [hS12, up2_row (by omega)]
  have b6 : ∀ r, r < 4 ∨ 21 ≤ r → S6 r = S r := fun r hr => by rw [a6 r (by omega), a5 r (by omega), a4 r (by omega), a3 r (by omega), a2 r (by omega), a1 r (by omega)]
  have b8 : ∀ r, r < 4 ∨ 21 ≤ r → S8 r = S r := fun r hr => by rw [a8 r (by omega), a7 r (by omega), b6 r hr]
  have b10 : ∀ r, r < 4 ∨ 21 ≤ r → S10 r = S r := fun r hr => by rw [a10 r (by omega), a9 r (by omega), b8 r hr]
  have b11 : ∀ r, r < 4 ∨ 21 ≤ r → S11 r = S r := fun r hr => by rw [a11 r (by omega), b10 r hr]
  have b12 : ∀ r, r < 4 ∨ 21 ≤ r → S12 r = S r := fun r hr => by rw [a12 r (by omega), b11 r hr]
  have f8 : S12 4 8 = S 21 8 := by rw [hS12, up2_at, if_pos rfl, b11 _ (by omega)]
  have f7 : S12 4 7 = S 21 7 := by rw [hS12, up2_at, if_neg (by decide), hS11, up2_at, if_pos rfl, b10 _ (by omega)]
  have f5 : S12 4 5 = S 21 5 := by rw [hS12, up2_at, if_neg (by decide), hS11, up2_at, if_neg (by decide), a10 _ (by omega), hS9, up2_at, if_pos rfl, b8 _ (by omega)]
  have f3 : S12 4 3 = S 21 3 := by rw [hS12, up2_at, if_neg (by decide), hS11, up2_at, if_neg (by decide), a10 _ (by omega), hS9, up2_at, if_neg (by decide), a8 _ (by omega), hS7, up2_at, if_pos rfl, b6 _ (by omega)]
  have r7 : ∀ i < 24, S12 11 i = S 28 i := fun i hi => by rw [a12 _ (by omega), a11 _ (by omega), hS10, cpR_at, if_pos (by omega), Nat.zero_add, Nat.sub_zero, a9 _ (by omega), b8 _ (by omega)]
  have r6 : ∀ i < 24, S12 10 i = S 27 i := fun i hi => by rw [a12 _ (by omega), a11 _ (by omega), a10 _ (by omega), a9 _ (by omega), hS8, cpR_at, if_pos (by omega), Nat.zero_add, Nat.sub_zero, a7 _ (by omega), b6 _ (by omega)]
  have t6 : ∀ r, r ≠ 4 → r ≠ 10 → r ≠ 11 → S12 r = S6 r := fun r h1 h2 h3 => by rw [a12 r h1, a11 r h1, a10 r h3, a9 r h1, a8 r h2, a7 r h1]
  have r5 : ∀ i < 60, S12 9 i = S 26 i := fun i hi => by rw [t6 _ (by omega) (by omega) (by omega), hS6, cpR_at, if_pos (by omega), Nat.zero_add, Nat.sub_zero, a5 _ (by omega), a4 _ (by omega), a3 _ (by omega), a2 _ (by omega), a1 _ (by omega)]
  have r4 : ∀ i < 8, S12 8 i = S 25 i := fun i hi => by rw [t6 _ (by omega) (by omega) (by omega), a6 _ (by omega), hS5, cpR_at, if_pos (by omega), Nat.zero_add, Nat.sub_zero, a4 _ (by omega), a3 _ (by omega), a2 _ (by omega), a1 _ (by omega)]
  have r3 : ∀ i < 8, S12 7 i = S 24 i := fun i hi => by rw [t6 _ (by omega) (by omega) (by omega), a6 _ (by omega), a5 _ (by omega), hS4, cpR_at, if_pos (by omega), Nat.zero_add, Nat.sub_zero, a3 _ (by omega), a2 _ (by omega), a1 _ (by omega)]
  have r2 : ∀ i < 8, S12 6 i = S 23 i := fun i hi => by rw [t6 _ (by omega) (by omega) (by omega), a6 _ (by omega), a5 _ (by omega), a4 _ (by omega), hS3, cpR_at, if_pos (by omega), Nat.zero_add, Nat.sub_zero, a2 _ (by omega), a1 _ (by omega)]
  have r1 : S12 5 0 = S 22 0 := by rw [t6 _ (by omega) (by omega) (by omega), a6 _ (by omega), a5 _ (by omega), a4 _ (by omega), a3 _ (by omega), hS2, up2_at, if_pos rfl, a1 _ (by omega)]
  have rw8 : RepW S12 12 (fW a) := (RepW.copy c1 i1 p1).fr (fun m hm => by rw [t6 _ (by omega) (by omega) (by omega), a6 _ (by omega), a5 _ (by omega), a4 _ (by omega), a3 _ (by omega), a2 _ (by omega)])
  refine ⟨S12, cpQ Q 29 12, ?_, b12, fun r hr => cpQ_ne hr, rw8, ⟨?_, ?_⟩, ⟨?_, ?_⟩, ⟨?_, ?_⟩, ⟨?_, ?_⟩, ?_, ⟨?_, fun i d hd => ?_⟩⟩
  · unfold fX1_copyFrom
    simp (disch := omega) only [rF, rN, bind_sm, e1, d0, cp5, ← hS6, ← hS7, cp6, ← hS8, ← hS9, cp7, ← hS10, ← hS11, ← hS12]
  · show LawQ K b g (cpQ Q 29 12 12 11) (fT a 0)
    rw [cpQ_at (by omega) (by decide)]; exact c2
  · show LawQ K b g (cpQ Q 29 12 12 12) (fT a 1)
    rw [cpQ_at (by omega) (by decide)]; exact c3
  · rw [f3]; exact c4.1
  · exact c4.2.fr (fun i hi => by rw [Nat.zero_add]; exact r5 i (by omega))
  · rw [f5]; exact c5.1
  · exact c5.2.fr (fun i hi => by rw [Nat.zero_add]; exact r6 i (by omega))
  · rw [f7]; exact c6.1
  · exact c6.2.fr (fun i hi => by rw [Nat.zero_add]; exact r7 i (by omega))
  · rw [f8]; exact c7
  · show S12 5 0 = _
    rw [r1]; exact c8.1
  · have hi := (List.getElem?_eq_some_iff.mp hd).1
    show S12 6 i = _ ∧ S12 7 i = _ ∧ S12 8 i = _
    rw [r2 i (by omega), r3 i (by omega), r4 i (by omega)]
    exact c8.2 i d hd

theorem m_carry (h0 : lay[c0]? = some (.inr (.inl 458))) (h1 : lay[c1]? = some (.inr (.inl 458))) (hne : c0 ≠ c1) : ∃ S', fX9_carry (E b S Q g) (b + c0) (b + c1) = some (E b S' Q g) ∧ Off [c1] S S' ∧ ∀ j < 458, S' c1 j = S c0 j := by
  have loop : ∀ (m i : Nat) (S1 : Nat → Nat → Int32), i ≤ 458 → 458 - i < m → Off [c1] S S1 → (∀ j < i, S1 c1 j = S c0 j) → ∃ S', fX9_carry_2 m (E b S1 Q g) (b + c0) (b + c1) (nI i) = some (E b S' Q g) ∧ Off [c1] S S' ∧ ∀ j < 458, S' c1 j = S c0 j := by
    intro m
    induction m with
    | zero => intro i _ _ h; omega
    | succ m ih =>
      intro i S1 hi hm hO hS
      have e0 : S1 c0 = S c0 := hO c0 (by simp; omega)
      rw [fX9_carry_2]
      simp (disch := omega) only [rN, nI_leI]
      by_cases hle : 458 ≤ i
      · rw [if_pos hle]
        exact ⟨S1, rfl, hO, fun j hj => hS j (by omega)⟩
      · rw [if_neg hle, E_rdI h0 (by omega) (by decide), bind_sm, E_wrI h1 (by omega) (by decide), bind_sm, nI_add]
        refine ih (i + 1) _ (by omega) (by omega) (hO.tr (Off.up List.mem_cons_self)) (fun j hj => ?_)
        rw [up2_at, e0]
        by_cases hji : j = i
        · rw [if_pos hji, hji]
        · rw [if_neg hji]; exact hS j (by omega)
  unfold fX9_carry
  exact loop 1000 0 S (by omega) (by omega) Off.rf (fun j hj => by omega)
theorem FerM.ext (h : FerM s a) (hI : Finv a) (e : ∀ j < 458, s' j = s j) : FerM s' a := by
  obtain ⟨m1, m2, m3, m4, m5, m6, m7⟩ := h
  obtain ⟨i1, i2, i3, i4, i5, i6, i7, i8⟩ := hI
  exact ⟨m1.fr i1 (fun j hj => e j (by omega)), m2.fr i3 (fun j hj => e j (by omega)), m3.fr i4.1 (fun j hj => e j (by omega)), m4.fr i5 (fun j hj => e j (by omega)), m5.fr i6.1 (fun j hj => e j (by omega)), by rw [e _ (by omega)]; exact m6, m7.fr i7 (fun j hj => e j (by omega))⟩
theorem i32_wrap (x : Int32) : x + nI 1 = x + nI 1 := rfl
theorem op_image (h : Sim b K S Q g) : Both b S Q g (fun h => fX8_image h b) (fun h => fX9_image h (b + 116)) := by
  obtain ⟨⟨a, hI, hC, hM⟩, ⟨i1, i2⟩, i3, i4, i5, i6⟩ := id h
  obtain ⟨S1, Q1, e1, o1, oq, f1⟩ := c_ferKeep (b := b) hC hI
  obtain ⟨S2, hS2⟩ : ∃ S2, S2 = up2 S1 0 7 (S1 0 7 + nI 1) := ⟨_, rfl⟩
  have n2 : ∀ r, r ≠ 0 → S2 r = S1 r := fun r hr => by rw [hS2, up2_row (by omega)]
  obtain ⟨S3, e3, o3, k3⟩ := m_carry (b := b) (S := S2) (Q := Q1) (g := g) (c0 := 117) (c1 := 118) rfl rfl (by decide)
  obtain ⟨S4, hS4⟩ : ∃ S4, S4 = up2 S3 116 4 (S3 116 4 + nI 1) := ⟨_, rfl⟩
  have n4 : ∀ r, r ≠ 116 → S4 r = S3 r := fun r hr => by rw [hS4, up2_row (by omega)]
  have nn : ∀ r, r ≠ 0 → (r < 21 ∨ 38 ≤ r) → r ≠ 116 → r ≠ 118 → S4 r = S r := fun r h0 h1 h2 h3 => by rw [n4 r h2, o3 r (by simp; omega), n2 r h0, o1 r (by omega)]
  have a0 : S4 0 7 = S 0 7 + nI 1 := by rw [n4 0 (by decide), o3 0 (by decide), hS2, up2_at, if_pos rfl, o1 0 (by omega)]
  have a116 : S4 116 4 = S 0 7 + nI 1 := by rw [hS4, up2_at, if_pos rfl, o3 116 (by decide), n2 116 (by decide), o1 116 (by omega), i1]
  have a20 : S4 116 20 = S 116 20 := by rw [hS4, up2_at, if_neg (by decide), o3 116 (by decide), n2 116 (by decide), o1 116 (by omega)]
  have v2 : S2 0 7 = S 0 7 + nI 1 := by rw [hS2, up2_at, if_pos rfl, o1 0 (by omega)]
  refine ⟨S 0 7 + nI 1, S2, Q1, g, S4, K, ?_, ?_, ⟨a, hI, hC.fr (fun m hm => nn _ (by omega) (by omega) (by omega) (by omega)) (oq _ (by decide)) Lkg.rf, by rw [nn 117 (by omega) (by omega) (by omega) (by omega)]; exact hM⟩, ⟨by rw [a0, a116], fun _ => ⟨a, hI, f1.fr (fun m hm => by rw [n4 _ (by omega), o3 _ (by simp; omega), n2 _ (by omega)]) rfl Lkg.rf, ?_⟩⟩, fun j hj => ?_, ?_, ?_, i6⟩
  · unfold fX8_image
    simp (disch := omega) only [rO, rN, bind_sm, e1, ← hS2, v2]
  · have v4 : S3 116 4 + nI 1 = S 0 7 + nI 1 := by rw [← a116, hS4, up2_at, if_pos rfl]
    unfold fX9_image
    simp (disch := omega) only [rM, rN, bind_sm, e3, ← hS4, a116]
  · rw [n4 118 (by decide)]
    refine hM.ext hI (fun j hj => ?_)
    rw [k3 j hj, n2 117 (by decide), o1 117 (by omega)]
  · rw [nn 115 (by omega) (by omega) (by omega) (by omega), nn 121 (by omega) (by omega) (by omega) (by omega)]; exact i3 j hj
  · unfold SimV
    rw [nn 113 (by omega) (by omega) (by omega) (by omega), a20, nn 114 (by omega) (by omega) (by omega) (by omega), nn 128 (by omega) (by omega) (by omega) (by omega)]
    exact i4
  · intro k hk
    rw [nn 106 (by omega) (by omega) (by omega) (by omega), nn 107 (by omega) (by omega) (by omega) (by omega), nn 129 (by omega) (by omega) (by omega) (by omega), nn 130 (by omega) (by omega) (by omega) (by omega), nn 131 (by omega) (by omega) (by omega) (by omega), nn (109 + k) (by omega) (by omega) (by omega) (by omega)]
    exact i5 k hk
theorem op_restore (h : Sim b K S Q g) : Both b S Q g (fun h => fX8_restore h b) (fun h => fX9_restore h (b + 116)) := by
  obtain ⟨-, ⟨i1, i2⟩, i3, i4, i5, hg⟩ := id h
  by_cases h0 : S 116 4 = nI 0
  · refine Both.err h 2 (by decide) ?_ (fun S1 hS => ?_)
    · unfold fX8_restore
      rw [(rO b S Q g).1, (rO b S Q g).2.2.2.2.2.2.2.2.1, bind_sm, i1, h0, if_pos (by decide)]
      rfl
    · have e1 : S1 116 4 = nI 0 := by rw [hS _ (by decide), h0]
      unfold fX9_restore
      rw [(rM b S1 Q g).1, show getI (E b S1 Q g) 9 (b + 116) 4 = some (S1 116 4) by simp only [rM], bind_sm, e1, if_pos (by decide)]
      rfl
  · obtain ⟨a, hI, hC, hM⟩ := i2 h0
    obtain ⟨S1, Q1, e1, o1, oq, f1⟩ := c_ferBack (b := b) hC hI
    have w1 : RepW S1 12 (fW a) := f1.1
    have h07 : ¬ S 0 7 = 0 := by rw [i1]; exact h0
    obtain ⟨S3, e3, o3, k3⟩ := m_carry (b := b) (S := S1) (Q := Q1) (g := g) (c0 := 118) (c1 := 117) rfl rfl (by decide)
    have hM3 : FerM (S3 117) a := hM.ext hI (fun j hj => by rw [k3 j hj, o1 118 (by omega)])
    refine Both.act h (a := a) (S1 := S1) (Q1 := Q1) (g1 := g) (r := nI ((fW a).1 0 0)) ?_ (fun r hr => o1 r (by omega)) Lkg.rf (oq _ (by decide)) hg hI f1 ⟨S3, ?_, OffR.of o3 (by decide), hM3⟩
    · unfold fX8_restore
      rw [(rO b S Q g).1, (rO b S Q g).2.2.2.2.2.2.2.2.1, bind_sm, if_neg h07]
      simp (disch := omega) only [rO, rF, rW w12, rN, bind_sm, e1, w1.1]
    · have e4 : S1 116 4 = S 116 4 := by rw [o1 116 (by omega)]
      have h16 : ¬ S1 116 4 = 0 := by rw [e4]; exact h0
      unfold fX9_restore
      rw [(rM b S1 Q1 g).1, show getI (E b S1 Q1 g) 9 (b + 116) 4 = some (S1 116 4) by simp only [rM], bind_sm, if_neg h16]
      simp (disch := omega) only [rM, rN, bind_sm, e3, hM3.1.2.2.1]
theorem op_untell (h : Sim b K S Q g) : Both b S Q g (fun h => fX8_untell h b x) (fun h => fX9_untell h (b + 116) x) := by
  obtain ⟨⟨a, hI, hC, hM⟩, -, -, -, -, hg⟩ := id h
  obtain ⟨c1, ⟨c2, c3⟩, c4, c5, c6, c7, c8⟩ := id hC
  obtain ⟨m1, m2, m3, m4, m5, m6, m7⟩ := id hM
  obtain ⟨i1, i2, i3, i4, i5, i6, i7, i8⟩ := id hI
  rcases isN_or x 2 with ⟨u, hu, rfl⟩ | hx
  · have hlen := (i3 u).1
    have hq : LawQ K b g (Q 12 (11 + u)) (fT a u) := by
      have : u = 0 ∨ u = 1 := by omega
      rcases this with rfl | rfl
      · exact c2
      · exact c3
    obtain ⟨Q1, hQ1⟩ : ∃ Q1, Q1 = up2 Q 12 (11 + u) (b + 1) := ⟨_, rfl⟩
    have pq : ∀ i, i = 11 ∨ i = 12 → putV (E b S Q g) 7 (b + 12) i (.ref (b + 1)) = some (E b S (up2 Q 12 i (b + 1)) g) := by
      intro i hi
      rcases hi with rfl | rfl <;> exact E_putQ (c := 12) rfl rfl
    have it := c_isTold (b := b) (S := S) (Q := Q) (g := g) hq hlen
    have eC : fX8_untell (E b S Q g) b (nI u) = some (if fT a u = [] then nI 0 else nI 1, E b S Q1 g) := by
      have : u = 0 ∨ u = 1 := by omega
      have hlaw : fX7_law (E b S Q g) (b + 12) (nI u) = some (Q 12 (11 + u)) := by
        unfold fX7_law
        rcases this with rfl | rfl
        · simp (disch := omega) only [rW w12, rN, bind_sm, if_true]
        · simp (disch := omega) only [rW w12, rN, bind_sm, z10, if_false]
      have hset : fX7_setLaw (E b S Q g) (b + 12) (nI u) (b + 1) = some (E b S Q1 g) := by
        rw [hQ1]
        unfold fX7_setLaw
        rcases this with rfl | rfl
        · simp (disch := omega) only [rW w12, rN, bind_sm, if_true, pq 11 (Or.inl rfl)]
        · simp (disch := omega) only [rW w12, rN, bind_sm, z10, if_false, pq 12 (Or.inr rfl)]
      unfold fX8_untell
      simp (disch := omega) only [rO, rF, rN, bind_sm, c_isUse1, z10, if_false, hlaw, it, hset]
      by_cases ht : fT a u = []
      · simp only [if_pos ht, if_true]
      · simp only [if_neg ht, z10, if_false]
    have T' : Tx := fT a
    have hI' : Finv (fW a, (fun v => if v = u then [] else fT a v), fTp a, fWt a, fBk a, fZ a, fDb a) := by
      refine ⟨i1, i2, fun v => ?_, i4, i5, i6, i7, i8⟩
      show txOk (if v = u then [] else fT a v)
      split
      · exact ⟨Nat.zero_le _, fun t ht => (List.not_mem_nil ht).elim, fun q => absurd rfl q⟩
      · exact i3 v
    have hL : ∀ v, v < 2 → LawQ K b g (Q1 12 (11 + v)) (if v = u then [] else fT a v) := by
      intro v hv
      rw [hQ1, up2_at]
      by_cases hvu : v = u
      · rw [if_pos (by omega), if_pos hvu]; exact Or.inl ⟨rfl, rfl⟩
      · rw [if_neg (by omega), if_neg hvu]
        have : v = 0 ∨ v = 1 := by omega
        rcases this with rfl | rfl
        · exact c2
        · exact c3
    refine Both.act h (a := (fW a, (fun v => if v = u then [] else fT a v), fTp a, fWt a, fBk a, fZ a, fDb a)) (S1 := S) (Q1 := Q1) (g1 := g) eC OffC.rf Lkg.rf (by rw [hQ1, up2_row (by decide)]) hg hI' ⟨c1, ⟨hL 0 (by omega), hL 1 (by omega)⟩, c4, c5, c6, c7, c8⟩ ⟨up2 S 117 (124 + 125 * u) (nI 0), ?_, OffR.of (X := [117]) (Off.up List.mem_cons_self) (by decide), ?_⟩
    · have mt := m_hasText (b := b) (S := S) (Q := Q1) (g := g) m2 hu hlen
      unfold fX9_untell fX9_untell_28
      rw [(rM b S Q1 g).1]
      simp (disch := omega) only [rM, rN, bind_sm, m_in1, z10, if_false, mt, pk_mul, nI_add]
      by_cases ht : fT a u = []
      · simp only [if_pos ht, if_true]
      · simp only [if_neg ht, z10, if_false]
    · have e : ∀ j, j ≠ 124 + 125 * u → up2 S 117 (124 + 125 * u) (nI 0) 117 j = S 117 j := fun j hj => by rw [up2_at, if_neg hj]
      refine ⟨m1.fr i1 (fun j hj => e j (by omega)), fun v hv => ?_, m3.fr i4.1 (fun j hj => e j (by omega)), m4.fr i5 (fun j hj => e j (by omega)), m5.fr i6.1 (fun j hj => e j (by omega)), by rw [e _ (by omega)]; exact m6, m7.fr i7 (fun j hj => e j (by omega))⟩
      show up2 S 117 (124 + 125 * u) (nI 0) 117 (124 + 125 * v) = nI (if v = u then [] else fT a v).length ∧ ∀ i t, (if v = u then [] else fT a v)[i]? = some t → _
      by_cases hvu : v = u
      · rw [if_pos hvu, hvu, up2_at, if_pos rfl]
        exact ⟨rfl, fun i t ht => by simp at ht⟩
      · rw [if_neg hvu, e _ (by omega)]
        obtain ⟨q1, q2⟩ := m2 v hv
        have hlv := (i3 v).1
        refine ⟨q1, fun i t ht => ?_⟩
        have := (List.getElem?_eq_some_iff.mp ht).1
        rw [e _ (by omega), e _ (by omega)]
        exact q2 i t ht
  · refine Both.err h 1 (by decide) ?_ (fun S1 hS => ?_)
    · unfold fX8_untell
      rw [(rO b S Q g).1, c_isUse0 hx, bind_sm, if_pos (by decide)]
      rfl
    · unfold fX9_untell
      rw [(rM b S1 Q g).1, show (0 : Int32) = nI 0 from rfl, show (1 : Int32) = nI 1 from rfl, m_in0 (hi := 1) hx (by decide), bind_sm, if_pos rfl]
/-- a byte of a word -/
theorem byte_and (x : Int32) : ∃ m, m < 256 ∧ x &&& nI 255 = nI m := by
  refine ⟨(x.toBitVec &&& 255#32).toNat, ?_, ?_⟩
  · rw [BitVec.toNat_and]
    exact Nat.lt_of_le_of_lt Nat.and_le_right (by decide)
  · apply Int32.toBitVec_inj.mp
    show x.toBitVec &&& 255#32 = BitVec.ofNat 32 ((x.toBitVec &&& 255#32).toNat)
    rw [BitVec.ofNat_toNat, BitVec.setWidth_eq]
theorem feed_byte (l : Int64) (hi : i < 8) : ((lshr l (nI (8 * i))) &&& 255).toInt32 = (lushr l (nI (8 * i))).toInt32 &&& nI 255 := by
  have h8 : ∀ i < 8, ((nI (8 * i)).toInt64.toUInt64 &&& Int64.toUInt64 63) = UInt64.ofNat (8 * i) ∧ ((nI (8 * i)).toInt64 &&& 63) = Int64.ofNat (8 * i) := by decide +kernel
  unfold lshr lushr
  rw [(h8 i hi).1, (h8 i hi).2]
  apply Int32.toBitVec_inj.mp
  have hm : ∀ i < 8, ((Int64.ofNat (8 * i)).toBitVec.smod 64#64).toNat = 8 * i ∧ ((UInt64.ofNat (8 * i)).toBitVec % 64#64).toNat = 8 * i := by decide +kernel
  show BitVec.signExtend 32 ((BitVec.sshiftRight l.toBitVec ((Int64.ofNat (8 * i)).toBitVec.smod 64#64).toNat) &&& 255#64) = BitVec.signExtend 32 (l.toBitVec >>> ((UInt64.ofNat (8 * i)).toBitVec % 64#64).toNat) &&& 255#32
  rw [(hm i hi).1, (hm i hi).2]
  apply BitVec.eq_of_getLsbD_eq
  intro j hj
  rw [BitVec.getLsbD_signExtend, BitVec.getLsbD_and, BitVec.getLsbD_and, BitVec.getLsbD_signExtend, if_pos (by omega), if_pos (by omega), BitVec.getLsbD_sshiftRight, BitVec.getLsbD_ushiftRight]
  by_cases h : j < 8
  · rw [if_pos (by omega)]
    have e64 : (255#64).getLsbD j = (255#32).getLsbD j := by
      have : ∀ j < 8, (255#64).getLsbD j = (255#32).getLsbD j := by decide +kernel
      exact this j h
    rw [e64]
    simp [hj, show ¬ 64 ≤ j by omega]
  · have e64 : (255#64).getLsbD j = false := by
      have : ∀ j < 32, ¬ j < 8 → (255#64).getLsbD j = false := by decide +kernel
      exact this j hj h
    have e32 : (255#32).getLsbD j = false := by
      have : ∀ j < 32, ¬ j < 8 → (255#32).getLsbD j = false := by decide +kernel
      exact this j hj h
    rw [e64, e32, Bool.and_false, Bool.and_false, Bool.and_false]
def tpA (a : Fs) (m : Nat) : Fs := (fW a, fT a, fTp a ++ [m], fWt a, fBk a, fZ a, fDb a)
theorem tpA_inv (hI : Finv a) (hl : (fTp a).length < 60) (hm : m < 256) : Finv (tpA a m) := by
  obtain ⟨i1, i2, i3, i4, i5, i6, i7, i8⟩ := hI
  refine ⟨i1, i2, i3, ⟨?_, fun x hx => ?_⟩, i5, i6, i7, i8⟩
  · show (fTp a ++ [m]).length ≤ 60
    rw [List.length_append]; simp; omega
  · rcases List.mem_append.mp (show x ∈ fTp a ++ [m] from hx) with h | h
    · exact i4.2 x h
    · rw [List.mem_singleton.mp h]; exact hm
theorem FerC.tp (hC : FerC b K S Q g 4 a) (hn : (fTp a).length = n) : FerC b K (up2 (up2 S 9 n (nI m)) 4 3 (nI (n + 1))) Q g 4 (tpA a m) := by
  obtain ⟨c1, c2, c4, c5, c6, c7, c8⟩ := hC
  have ne : ∀ r, r ≠ 4 → r ≠ 9 → up2 (up2 S 9 n (nI m)) 4 3 (nI (n + 1)) r = S r := fun r h1 h2 => by rw [up2_row (by omega), up2_row (by omega)]
  have n4 : ∀ j, j ≠ 3 → up2 (up2 S 9 n (nI m)) 4 3 (nI (n + 1)) 4 j = S 4 j := fun j hj => by rw [up2_at, if_neg hj, up2_ne (by omega)]
  refine ⟨c1.fr (fun m hm => ne _ (by omega) (by omega)), c2, ⟨?_, ?_⟩, c5.fr (n4 _ (by omega)) (ne _ (by omega) (by omega)), c6.fr (n4 _ (by omega)) (ne _ (by omega) (by omega)), by rw [n4 _ (by omega)]; exact c7, c8.fr (by rw [ne _ (by omega) (by omega)]) (ne _ (by omega) (by omega)) (ne _ (by omega) (by omega)) (ne _ (by omega) (by omega))⟩
  · show _ = nI (fTp a ++ [m]).length
    rw [up2_at, if_pos rfl, List.length_append, hn]; rfl
  · show rowIs _ 0 (fTp a ++ [m])
    refine c4.2.snoc ?_ (fun i hi => ?_)
    · rw [hn, Nat.zero_add, up2_ne (by omega), up2_at, if_pos rfl]
    · rw [up2_ne (by omega), up2_at, if_neg (by omega)]
theorem FerM.tp (hM : FerM (S 117) a) (hI : Finv a) (hn : (fTp a).length = n) (hl : n < 60) : FerM (up2 (up2 S 117 (374 + n) (nI m)) 117 5 (nI (n + 1)) 117) (tpA a m) := by
  obtain ⟨m1, m2, m3, m4, m5, m6, m7⟩ := hM
  obtain ⟨i1, i2, i3, i4, i5, i6, i7, i8⟩ := hI
  have e : ∀ j, j ≠ 5 → j ≠ 374 + n → up2 (up2 S 117 (374 + n) (nI m)) 117 5 (nI (n + 1)) 117 j = S 117 j := fun j h1 h2 => by rw [up2_at, if_neg h1, up2_at, if_neg h2]
  refine ⟨m1.fr i1 (fun j hj => e j (by omega) (by omega)), m2.fr i3 (fun j hj => e j (by omega) (by omega)), ⟨?_, ?_⟩, m4.fr i5 (fun j hj => e j (by omega) (by omega)), m5.fr i6.1 (fun j hj => e j (by omega) (by omega)), by rw [e _ (by omega) (by omega)]; exact m6, m7.fr i7 (fun j hj => e j (by omega) (by omega))⟩
  · show _ = nI (fTp a ++ [m]).length
    rw [up2_at, if_pos rfl, List.length_append, hn]; rfl
  · show rowIs _ 374 (fTp a ++ [m])
    refine m3.2.snoc ?_ (fun i hi => e _ (by omega) (by omega))
    rw [hn, up2_at, if_neg (by omega), up2_at, if_pos rfl]
theorem feed_both (l : Int64) (hn : n ≤ 8) : ∀ (d : Nat) (a : Fs), Finv a → (fTp a).length + d ≤ 60 → d ≤ n → ∃ a', Finv a' ∧ (∀ (S : Nat → Nat → Int32) (g : Hp) (i m : Nat), i + d = n → d < m → FerC b K S Q g 4 a → ∃ S', fX8_feed_40 m (E b S Q g) b l (nI n) (nI i) = some (nI (fTp a').length, E b S' Q g) ∧ OffC S S' ∧ FerC b K S' Q g 4 a') ∧ ∀ (S : Nat → Nat → Int32) (g : Hp) (i m : Nat), i + d = n → d < m → FerM (S 117) a → ∃ S', fX9_feed_38 m (E b S Q g) (b + 116) l (nI n) (nI i) = some (nI (fTp a').length, E b S' Q g) ∧ Off [117] S S' ∧ FerM (S' 117) a' := by
  intro d
  induction d with
  | zero =>
    intro a hI hl hd
    refine ⟨a, hI, fun S g i m hi hd hC => ?_, fun S g i m hi hd hM => ?_⟩
    · obtain ⟨m, rfl⟩ : ∃ m', m = m' + 1 := ⟨m - 1, by omega⟩
      refine ⟨S, ?_, OffC.rf, hC⟩
      rw [fX8_feed_40, if_pos ((nI_leI (by omega) (by omega)).mpr (by omega))]
      simp (disch := omega) only [rO, rF, bind_sm, hC.2.2.1.1]
    · obtain ⟨m, rfl⟩ : ∃ m', m = m' + 1 := ⟨m - 1, by omega⟩
      refine ⟨S, ?_, Off.rf, hM⟩
      rw [fX9_feed_38, if_pos ((nI_leI (by omega) (by omega)).mpr (by omega))]
      simp (disch := omega) only [rM, rN, bind_sm, hM.2.2.1.1]
  | succ d ih =>
    intro a hI hl hdn
    obtain ⟨t, ht, hb⟩ := byte_and ((lushr l (nI (8 * (n - (d + 1))))).toInt32)
    have hb2 := feed_byte l (i := n - (d + 1)) (by omega)
    rw [hb] at hb2
    obtain ⟨L, hL⟩ : ∃ L, (fTp a).length = L := ⟨_, rfl⟩
    have hlt : (fTp (tpA a t)).length = L + 1 := by
      show (fTp a ++ [t]).length = L + 1
      rw [List.length_append, hL]; rfl
    obtain ⟨a', k1, kC, kM⟩ := ih (tpA a t) (tpA_inv hI (by omega) ht) (by omega) (by omega)
    refine ⟨a', k1, fun S g i m hi hd hC => ?_, fun S g i m hi hd hM => ?_⟩
    · obtain ⟨m, rfl⟩ : ∃ m', m = m' + 1 := ⟨m - 1, by omega⟩
      have hin : n - (d + 1) = i := by omega
      rw [hin] at hb
      have c4 : S 4 3 = nI L := by rw [← hL]; exact hC.2.2.1.1
      have f1 := hC.tp (m := t) hL
      obtain ⟨S2, e2, o2, f2⟩ := kC _ g (i + 1) m (by omega) (by omega) f1
      refine ⟨S2, ?_, fun r hr => by rw [o2 r hr, up2_row (by omega), up2_row (by omega)], f2⟩
      rw [fX8_feed_40, if_neg (fun q => absurd ((nI_leI (by omega) (by omega)).mp q) (by omega))]
      simp (disch := omega) only [rO, rF, rN, bind_sm, c4, pk_mul, hb, nI_add]
      rw [up2_ne (show 4 ≠ 9 by decide), c4, nI_add]
      exact e2
    · obtain ⟨m, rfl⟩ : ∃ m', m = m' + 1 := ⟨m - 1, by omega⟩
      have hin : n - (d + 1) = i := by omega
      rw [hin] at hb2
      have m3 : S 117 5 = nI L := by rw [← hL]; exact hM.2.2.1.1
      have f1 := hM.tp (m := t) hI hL (by omega)
      obtain ⟨S2, e2, o2, f2⟩ := kM _ g (i + 1) m (by omega) (by omega) f1
      refine ⟨S2, ?_, ((Off.up List.mem_cons_self).tr (Off.up List.mem_cons_self)).tr o2, f2⟩
      rw [fX9_feed_38, if_neg (fun q => absurd ((nI_leI (by omega) (by omega)).mp q) (by omega))]
      simp (disch := omega) only [rM, rN, bind_sm, m3, pk_mul, hb2, nI_add]
      rw [up2_at, if_neg (by omega), m3, nI_add]
      exact e2
theorem op_feed (l : Int64) (h : Sim b K S Q g) : Both b S Q g (fun h => fX8_feed h b l x) (fun h => fX9_feed h (b + 116) l x) := by
  obtain ⟨⟨a, hI, hC, hM⟩, -, -, -, -, hg⟩ := id h
  have c4 : S 4 3 = nI (fTp a).length := hC.2.2.1.1
  have m3 : S 117 5 = nI (fTp a).length := hM.2.2.1.1
  have hl := hI.2.2.2.1.1
  rcases rng1 8 (by decide) x with ⟨n, hn1, hn, rfl⟩ | hx
  · have cl1 : ¬ nI n < nI 1 := fun q => absurd ((nI_ltI (by omega) (by decide)).mp q) (by omega)
    have cl2 : nI n ≤ nI 8 := (nI_leI (by omega) (by decide)).mpr hn
    by_cases h60 : (fTp a).length + n ≤ 60
    · obtain ⟨a', j1, jC, jM⟩ := feed_both (b := b) (K := K) (Q := Q) l hn n a hI h60 (Nat.le_refl _)
      obtain ⟨S1, e1, o1, f1⟩ := jC S g 0 1000 (by omega) (by omega) hC
      have e117 : S1 117 = S 117 := o1 117 (by omega)
      obtain ⟨S2, e2, o2, f2⟩ := jM S1 g 0 1000 (by omega) (by omega) (by rw [e117]; exact hM)
      refine Both.act h (a := a') (S1 := S1) (Q1 := Q) (g1 := g) (r := nI (fTp a').length) ?_ o1 Lkg.rf rfl hg j1 f1 ⟨S2, ?_, OffR.of o2 (by decide), f2⟩
      · unfold fX8_feed
        simp (disch := omega) only [rO, rF, rN, bind_sm, c4, cl1, cl2, if_true, if_false, nI_add, nI_leI, h60]
        exact e1
      · unfold fX9_feed
        simp (disch := omega) only [rM, rN, bind_sm, m_in1, z10, if_false, e117, m3, nI_add, nI_leI, h60, if_true]
        exact e2
    · refine Both.err h 4 (by decide) ?_ (fun S1 hS => ?_)
      · unfold fX8_feed
        simp (disch := omega) only [rO, rF, rN, bind_sm, c4, cl1, cl2, if_true, if_false, nI_add, nI_leI, h60]
      · have q2 : S1 117 5 = nI (fTp a).length := by rw [hS _ (by decide), m3]
        unfold fX9_feed
        simp (disch := omega) only [rM, rN, bind_sm, m_in1, z10, if_false, q2, nI_add, nI_leI, h60]
  · refine Both.err h 1 (by decide) ?_ (fun S1 hS => ?_)
    · unfold fX8_feed
      simp only [rO, rN]
      rcases hx with q | ⟨q, q2⟩
      · rw [if_pos q]
      · rw [if_neg q, if_neg q2]
    · unfold fX9_feed
      simp only [rM, rN, m_inR0 hx, bind_sm, if_true]
end OY
