/-! ===== acts on people and men, on ===== -/
section OE
variable {b : Nat} {S S' S1 S2 : Nat → Nat → Int32} {Q Q' Q1 : Nat → Nat → Nat} {g g' g1 h : Hp} {f k j p n u c c0 c1 lo hi i : Nat} {x y z v r : Int32} {w : Wo} {T : Tx} {K K2 : Nat → Nat} {a a' : Fs} {s s' : Nat → Int32}
theorem op_alone (h : Sim b K S Q g) : Both b S Q g (fun h => fX8_alone h b x) (fun h => fX9_alone h (b + 116) x) := by
  obtain ⟨⟨a, hI, hC, hM⟩, -⟩ := id h
  have c1 : RepW S 12 (fW a) := hC.1
  have m1 := hM.1
  have i1 := hI.1
  have i3 := i1.2.2.1
  have ht := hI.2.1
  rcases isN_or x ((fW a).1 0 2) with ⟨k, hk, rfl⟩ | hx
  · have hk4 : k < 4 := Nat.lt_of_lt_of_le hk i3
    have a8 := i1.2.2.2.2.2.2.2.1 k
    by_cases h99 : (fW a).1 0 0 = 9999
    · refine Both.err h 3 (by decide) ?_ (fun S1 hS => ?_)
      · unfold fX8_alone
        simp (disch := omega) only [rO, rF, rW w12, rN, bind_sm, c_hasMan1 w12 c1.2.2.1, z10, if_false, c1.1, nI_ltI]
        rw [if_neg (by omega)]
      · have e117 : S1 117 = S 117 := hS _ (by decide)
        unfold fX9_alone
        simp (disch := omega) only [rM, rN, bind_sm, m_isMan1 (S := S1) (by rw [e117]; exact m1.2.1), z10, Nat.one_ne_zero, if_false, e117, m1.2.2.1, nI_eq]
        rw [if_pos h99]
    · obtain ⟨S1, e1, o1, r1⟩ := c_rowOver (b := b) (Q := Q) (g := g) w12 c1 i1 hk
      have e117 : S1 117 = S 117 := o1 117 (by omega)
      obtain ⟨p1, p2, p3, p4, p5, p6⟩ := m1.2.2.2.2 k hk
      have hw : Winv (aloneP (fW a) k) := by
        obtain ⟨j1, j2, j3, j4, j5, j6, j7, j8, j9, j10⟩ := i1
        refine ⟨by simp [aloneP]; omega, by simpa [aloneP] using j2, by simpa [aloneP] using j3, fun q => by simpa [aloneP] using j4 q, fun q => by simpa [aloneP] using j5 q, fun q => by simpa [aloneP] using j6 q, fun q => by simpa [aloneP] using j7 q, fun q => ?_, fun q => by simpa [aloneP] using j9 q, fun q => by simpa [aloneP] using j10 q⟩
        have := j8 q
        simp only [aloneP]
        simp
        split <;> omega
      have b5 : (aloneP (fW a) k).1 5 k = 1 - (fW a).1 5 k := by simp [aloneP]
      have m2k : (aloneP (fW a) k).1 0 2 = (fW a).1 0 2 := by simp [aloneP]
      have v5 : S1 (12 + 5) k = nI (1 - (fW a).1 5 k) := by rw [(r1.2.2.2.2 k (by rw [m2k]; exact hk)).2.2.1, b5]
      have eC : fX8_alone (E b S Q g) b (nI k) = some (nI (1 - (fW a).1 5 k), E b S1 Q g) := by
        unfold fX8_alone
        simp (disch := omega) only [rO, rF, rW w12, rN, bind_sm, c_hasMan1 w12 c1.2.2.1, z10, if_false, c1.1, nI_ltI]
        rw [if_pos (by omega), e1]
        simp (disch := omega) only [rO, rF, rW w12, bind_sm, v5]
      refine Both.wo h hI hC hM (w' := aloneP (fW a) k) eC o1 Lkg.rf r1 hw (by simp [aloneP]; omega) (by simp [aloneP]) ⟨up2 (up2 S1 117 (24 + 13 * k + 2) (nI (1 - (fW a).1 5 k))) 117 2 (nI ((fW a).1 0 0 + 1)), ?_, OffR.of (X := [117]) ((Off.up List.mem_cons_self).tr (Off.up List.mem_cons_self)) (by decide), ?_, ?_⟩
      · have e2 : up2 S1 117 (24 + 13 * k + 2) (nI (1 - (fW a).1 5 k)) 117 2 = nI ((fW a).1 0 0) := by rw [up2_at, if_neg (by omega), e117]; exact m1.2.2.1
        unfold fX9_alone fX9_goesAlone
        simp (disch := omega) only [rM, rN, bind_sm, m_isMan1 (S := S1) (by rw [e117]; exact m1.2.1), z10, Nat.one_ne_zero, if_false, e117, m1.2.2.1, nI_eq]
        rw [if_neg h99]
        simp (disch := omega) only [rM, bind_sm, m_its, m_lays1, e117, p3, nI_subI, e2, nI_add]
        rw [up2_at, if_neg (by omega), up2_at, if_pos rfl]
      · have e : ∀ j, j ≠ 2 → j ≠ 24 + 13 * k + 2 → up2 (up2 S1 117 (24 + 13 * k + 2) (nI (1 - (fW a).1 5 k))) 117 2 (nI ((fW a).1 0 0 + 1)) 117 j = S 117 j := fun j h1 h2 => by rw [up2_at, if_neg h1, up2_at, if_neg h2, e117]
        have q : ∀ r i, ¬ (r = 0 ∧ i = 0) → r ≠ 5 → (aloneP (fW a) k).1 r i = (fW a).1 r i := fun r i h h2 => by simp [aloneP, h, h2]
        have i2 := i1.2.1
        obtain ⟨t1, t2, t3, t4, t5⟩ := m1
        refine ⟨by rw [e _ (by omega) (by omega), t1, q _ _ (by omega) (by omega)], by rw [e _ (by omega) (by omega), t2, q _ _ (by omega) (by omega)], by rw [up2_at, if_pos rfl]; simp [aloneP], fun p hp => ?_, fun i hi => ?_⟩
        · rw [q _ _ (by omega) (by omega)] at hp
          rw [e _ (by omega) (by omega), e _ (by omega) (by omega), q _ _ (by omega) (by omega), q _ _ (by omega) (by omega)]
          exact t4 p hp
        · rw [m2k] at hi
          obtain ⟨u1, u2, u3, u4, u5, u6⟩ := t5 i hi
          have hl := i1.len i
          rw [e (24 + 13 * i) (by omega) (by omega), e (24 + 13 * i + 1) (by omega) (by omega), e (24 + 13 * i + 3) (by omega) (by omega), e (24 + 13 * i + 4) (by omega) (by omega), q 3 _ (by omega) (by omega), q 4 _ (by omega) (by omega), q 6 _ (by omega) (by omega)]
          refine ⟨u1, u2, ?_, u4, u5, u6.fr (fun j hj => e _ (by omega) (by have : j < ((fW a).2 i).length := hj; omega))⟩
          rw [up2_at, if_neg (by omega), up2_at, e117]
          by_cases hik : i = k
          · subst hik; rw [if_pos rfl, b5]
          · rw [if_neg (by omega), u3]; simp [aloneP, hik]
      · intro j hj
        rw [up2_at, if_neg (by omega), up2_at, if_neg (by omega)]
  · refine Both.err h 1 (by decide) ?_ (fun S1 hS => ?_)
    · unfold fX8_alone
      simp (disch := omega) only [rO, rF, rN, bind_sm, c_hasMan0 w12 c1.2.2.1 (by omega) hx, if_true]
    · unfold fX9_alone
      simp (disch := omega) only [rM, rN, bind_sm, m_isMan0 (S := S1) (by rw [hS _ (by decide)]; exact m1.2.1) (by omega) hx, if_true]
theorem under_tab2 : ∀ a < 7, ∀ c < 7, fX9_isUnder (nI a) (nI c) = some (if undP a c then nI 1 else nI 0) := by decide +kernel
theorem op_as (h : Sim b K S Q g) : Both b S Q g (fun h => fX8_as h b x y) (fun h => fX9_as h (b + 116) x y) := by
  obtain ⟨⟨a, hI, hC, hM⟩, -⟩ := id h
  have c1 : RepW S 12 (fW a) := hC.1
  have m1 := hM.1
  have i1 := hI.1
  have i3 := i1.2.2.1
  rcases isN_or x ((fW a).1 0 2) with ⟨k, hk, rfl⟩ | hx
  · have hk4 : k < 4 := Nat.lt_of_lt_of_le hk i3
    have a6 := i1.2.2.2.2.2.1 k
    obtain ⟨q1, q2, q3, q4, q5, q6⟩ := c1.2.2.2.2 k hk
    obtain ⟨p1, p2, p3, p4, p5, p6⟩ := m1.2.2.2.2 k hk
    have cM := c_hasMan1 (b := b) (Q := Q) (g := g) w12 c1.2.2.1 (by omega) hk
    have mM : ∀ S1 : Nat → Nat → Int32, S1 117 = S 117 → fX9_isMan (E b S1 Q g) (b + 116) (nI k) = some (nI 1) := fun S1 hS => m_isMan1 (S := S1) (by rw [hS]; exact m1.2.1) (by omega) hk
    have e0 : 24 + 13 * k + 0 = 24 + 13 * k := rfl
    rcases isN_or y 7 with ⟨d, hd, rfl⟩ | hy
    · have cU := c_isUnder (E b S Q g) (a := (fW a).1 3 k) (c := d) (by omega) hd
      have mU := under_tab2 ((fW a).1 3 k) (by omega) d hd
      cases hu : undP ((fW a).1 3 k) d
      · rw [hu] at cU mU
        refine Both.err h 5 (by decide) ?_ (fun S1 hS => ?_)
        · unfold fX8_as
          simp (disch := omega) only [rO, rF, rW w12, rN, bind_sm, cM, z10, if_false, c_isKind1, q1, cU]
          simp
        · have e117 : S1 117 = S 117 := hS _ (by decide)
          unfold fX9_as
          simp (disch := omega) only [rM, rN, bind_sm, mM S1 e117, z10, if_false, m_in1, m_its, e117, e0, p1, mU]
          simp
      · rw [hu] at cU mU
        refine Both.rd h (r := nI ((fW a).1 6 k)) ?_ ?_
        · unfold fX8_as
          simp (disch := omega) only [rO, rF, rW w12, rN, bind_sm, cM, z10, if_false, c_isKind1, q1, cU, if_true, q4]
        · unfold fX9_as
          simp (disch := omega) only [rM, rN, bind_sm, mM S rfl, z10, if_false, m_in1, m_its, e0, p1, mU, if_true, p4]
    · refine Both.err h 1 (by decide) ?_ (fun S1 hS => ?_)
      · unfold fX8_as
        simp (disch := omega) only [rO, rF, rN, bind_sm, cM, z10, if_false, c_isKind0 hy, if_true]
      · unfold fX9_as
        simp (disch := omega) only [rM, rN, bind_sm, mM S1 (hS _ (by decide)), z10, if_false, m_in0 (hi := 6) hy, if_true]
  · refine Both.err h 1 (by decide) ?_ (fun S1 hS => ?_)
    · unfold fX8_as
      simp (disch := omega) only [rO, rF, rN, bind_sm, c_hasMan0 w12 c1.2.2.1 (by omega) hx, if_true]
    · unfold fX9_as
      simp (disch := omega) only [rM, rN, bind_sm, m_isMan0 (S := S1) (by rw [hS _ (by decide)]; exact m1.2.1) (by omega) hx, if_true]
end OE
