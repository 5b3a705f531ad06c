/-! ===== frames of the state's pieces ===== -/
section OB
variable {b : Nat} {S S' S1 S2 : Nat → Nat → Int32} {Q Q' Q1 : Nat → Nat → Nat} {g g' g1 h : Hp} {f k j p n u c c0 c1 lo hi : Nat} {x y z v r : Int32} {w : Wo} {T : Tx} {K K2 : Nat → Nat} {a a' : Fs} {s s' : Nat → Int32}
theorem tapeC.fr {l : List Nat} (h : tapeC S f l) (e : S' f 3 = S f 3) (e' : S' (f + 5) = S (f + 5)) : tapeC S' f l := by unfold tapeC; rw [e, e']; exact h
theorem waitC.fr {l : List Int32} (h : waitC S f l) (e : S' f 5 = S f 5) (e' : S' (f + 6) = S (f + 6)) : waitC S' f l := by unfold waitC; rw [e, e']; exact h
theorem bookC.fr {l : List Nat} (h : bookC S f l) (e : S' f 7 = S f 7) (e' : S' (f + 7) = S (f + 7)) : bookC S' f l := by unfold bookC; rw [e, e']; exact h
theorem debtC.fr {l : List Dt} (h : debtC S f l) (e1 : S' (f + 1) 0 = S (f + 1) 0) (e2 : S' (f + 2) = S (f + 2)) (e3 : S' (f + 3) = S (f + 3)) (e4 : S' (f + 4) = S (f + 4)) : debtC S' f l := by unfold debtC; rw [e1, e2, e3, e4]; exact h
theorem tapeM.fr {l : List Nat} (h : tapeM s l) (hl : l.length ≤ 60) (e : ∀ j, j = 5 ∨ (374 ≤ j ∧ j < 434) → s' j = s j) : tapeM s' l := ⟨by rw [e _ (by omega)]; exact h.1, h.2.fr (fun i hi => e _ (by omega))⟩
theorem waitM.fr {l : List Int32} (h : waitM s l) (hl : l.length ≤ 24) (e : ∀ j, j = 6 ∨ (434 ≤ j ∧ j < 458) → s' j = s j) : waitM s' l := ⟨by rw [e _ (by omega)]; exact h.1, h.2.fr (fun i hi => e _ (by omega))⟩
theorem bookM.fr {l : List Nat} (h : bookM s l) (hl : l.length ≤ 24) (e : ∀ j, j = 4 ∨ (100 ≤ j ∧ j < 124) → s' j = s j) : bookM s' l := ⟨by rw [e _ (by omega)]; exact h.1, h.2.fr (fun i hi => e _ (by omega))⟩
theorem debtM.fr {l : List Dt} (h : debtM s l) (hl : l.length ≤ 8) (e : ∀ j, j = 3 ∨ (76 ≤ j ∧ j < 100) → s' j = s j) : debtM s' l := ⟨by rw [e _ (by omega)]; exact h.1, fun i d hd => by
  have := (List.getElem?_eq_some_iff.mp hd).1
  rw [e _ (by omega), e _ (by omega), e _ (by omega)]
  exact h.2 i d hd⟩
theorem RepM.fr (h : RepM s w) (hI : Winv w) (e : ∀ j, j < 3 ∨ (8 ≤ j ∧ j < 76) → s' j = s j) : RepM s' w := by
  obtain ⟨r1, r2, r3, r4, r5⟩ := h
  have i2 := hI.2.1
  have i3 := hI.2.2.1
  refine ⟨by rw [e _ (by omega)]; exact r1, by rw [e _ (by omega)]; exact r2, by rw [e _ (by omega)]; exact r3, fun p hp => ?_, fun k hk => ?_⟩
  · rw [e _ (by omega), e _ (by omega)]; exact r4 p hp
  · obtain ⟨q1, q2, q3, q4, q5, q6⟩ := r5 k hk
    have hl := hI.len k
    rw [e _ (by omega), e _ (by omega), e _ (by omega), e _ (by omega), e _ (by omega)]
    exact ⟨q1, q2, q3, q4, q5, q6.fr (fun i hi => e _ (by omega))⟩
theorem RepT.fr (h : RepT s T) (hok : ∀ u, txOk (T u)) (e : ∀ j, 124 ≤ j ∧ j < 374 → s' j = s j) : RepT s' T := by
  intro u hu
  obtain ⟨h1, h2⟩ := h u hu
  have hl := (hok u).1
  refine ⟨by rw [e _ (by omega)]; exact h1, fun i t hi => ?_⟩
  have := (List.getElem?_eq_some_iff.mp hi).1
  rw [e _ (by omega), e _ (by omega)]
  exact h2 i t hi
/-- the reference's row, only its world and book and turn changed -/
theorem FerM.wo (h : FerM s a) (hI : Finv a) (e : ∀ j, j = 3 ∨ j = 4 ∨ j = 5 ∨ j = 6 ∨ j = 7 ∨ 76 ≤ j → s' j = s j) {w : Wo} (hw : RepM s' w) : FerM s' (w, a.2) := by
  obtain ⟨m1, m2, m3, m4, m5, m6, m7⟩ := h
  obtain ⟨i1, i2, i3, i4, i5, i6, i7, i8⟩ := hI
  exact ⟨hw, m2.fr i3 (fun j hj => e j (by omega)), m3.fr i4.1 (fun j hj => e j (by omega)), m4.fr i5 (fun j hj => e j (by omega)), m5.fr i6.1 (fun j hj => e j (by omega)), by rw [e _ (by omega)]; exact m6, m7.fr i7 (fun j hj => e j (by omega))⟩
/-- the class's Ferry, only its world changed -/
theorem FerC.wo (h : FerC b K S Q g f a) (e : ∀ r, r < f + 8 → S' r = S r) (hk : Lkg K g g') {w : Wo} (hw : RepW S' (f + 8) w) : FerC b K S' Q g' f (w, a.2) := by
  obtain ⟨c1, ⟨c2, c3⟩, c4, c5, c6, c7, c8⟩ := h
  exact ⟨hw, ⟨c2.lk hk, c3.lk hk⟩, c4.fr (by rw [e _ (by omega)]) (e _ (by omega)), c5.fr (by rw [e _ (by omega)]) (e _ (by omega)), c6.fr (by rw [e _ (by omega)]) (e _ (by omega)), by rw [e _ (by omega)]; exact c7, c8.fr (by rw [e _ (by omega)]) (e _ (by omega)) (e _ (by omega)) (e _ (by omega))⟩
theorem Finv.wo (h : Finv a) {w : Wo} (hw : Winv w) (ht : w.1 0 0 ≤ 9999) (hp : (fW a).1 0 1 ≤ w.1 0 1) : Finv (w, a.2) := by
  obtain ⟨i1, i2, i3, i4, i5, i6, i7, i8⟩ := h
  exact ⟨hw, ht, i3, i4, i5, i6, i7, fun d hd => ⟨Nat.lt_of_lt_of_le (i8 d hd).1 hp, Nat.lt_of_lt_of_le (i8 d hd).2.1 hp, (i8 d hd).2.2⟩⟩
/-- an act that changes the world alone (its book, its turn aside) -/
theorem Both.wo {F G : Hp → Option (Int32 × Hp)} {w' : Wo} (h : Sim b K S Q g) (hI : Finv a) (hC : FerC b K S Q g 4 a) (hM : FerM (S 117) a) (hF : F (E b S Q g) = some (r, E b S1 Q g1)) (hO : OffW 12 S S1) (hk : Lkg K g g1) (hR : RepW S1 12 w') (hw : Winv w') (ht : w'.1 0 0 ≤ 9999) (hp : (fW a).1 0 1 ≤ w'.1 0 1) (hG : ∃ S2, G (E b S1 Q g1) = some (r, E b S2 Q g1) ∧ OffR S1 S2 ∧ RepM (S2 117) w' ∧ ∀ j, j = 3 ∨ j = 4 ∨ j = 5 ∨ j = 6 ∨ j = 7 ∨ 76 ≤ j → S2 117 j = S1 117 j) : Both b S Q g F G := by
  obtain ⟨S2, e2, o2, m2, k2⟩ := hG
  have hO' : OffC S S1 := fun r hr => hO r (by omega)
  exact Both.act h hF hO' hk rfl (h.2.2.2.2.2.lk hk) (hI.wo hw ht hp) (hC.wo (fun r hr => hO r (by omega)) hk hR) ⟨S2, e2, o2, hM.wo hI (fun j hj => by rw [k2 j hj, hO' 117 (by omega)]) m2⟩
theorem rowIs.at0 {f : Nat → Int32} {i : Nat} {l : List Nat} (h : rowIs f 0 l) (hi : i < l.length) : f i = nI l[i] := by
  have := h.at hi
  rwa [Nat.zero_add] at this
theorem c_seed : fX8_seed (E b S Q g) b x = some (S 4 8, E b (up2 S 4 8 x) Q g) := by
  unfold fX8_seed
  simp only [rO, rF, bind_sm]
theorem m_seed : fX9_seed (E b S Q g) (b + 116) x = some (S 117 7, E b (up2 S 117 7 x) Q g) := by
  unfold fX9_seed
  simp (disch := omega) only [rM, rN, bind_sm]
theorem op_seed (h : Sim b K S Q g) : Both b S Q g (fun h => fX8_seed h b x) (fun h => fX9_seed h (b + 116) x) := by
  obtain ⟨⟨a, hI, hC, hM⟩, -, -, -, -, hg⟩ := id h
  obtain ⟨c1, c2, c4, c5, c6, c7, c8⟩ := hC
  obtain ⟨m1, m2, m3, m4, m5, m6, m7⟩ := hM
  obtain ⟨i1, i2, i3, i4, i5, i6, i7, i8⟩ := id hI
  have ne : ∀ r, r ≠ 4 → up2 S 4 8 x r = S r := fun r hr => up2_row (fun q => hr q.symm)
  have e1 : up2 S 4 8 x 117 = S 117 := ne _ (by decide)
  refine Both.act h (a := (fW a, fT a, fTp a, fWt a, fBk a, x, fDb a)) (S1 := up2 S 4 8 x) (Q1 := Q) (g1 := g) (r := S 4 8) c_seed (fun r hr => ne r (by omega)) Lkg.rf rfl hg hI ⟨c1.fr (fun m hm => ne _ (by omega)), c2, c4.fr (by rw [up2_at, if_neg (by decide)]) (ne _ (by omega)), c5.fr (by rw [up2_at, if_neg (by decide)]) (ne _ (by omega)), c6.fr (by rw [up2_at, if_neg (by decide)]) (ne _ (by omega)), by rw [up2_at, if_pos rfl]; rfl, c8.fr (by rw [ne _ (by omega)]) (ne _ (by omega)) (ne _ (by omega)) (ne _ (by omega))⟩ ⟨up2 (up2 S 4 8 x) 117 7 x, ?_, OffR.of (X := [117]) (Off.up List.mem_cons_self) (by decide), ?_⟩
  · rw [m_seed, e1, c7, m6]
  · have e : ∀ j, j ≠ 7 → up2 (up2 S 4 8 x) 117 7 x 117 j = S 117 j := fun j hj => by rw [up2_at, if_neg hj, e1]
    exact ⟨m1.fr i1 (fun j hj => e j (by omega)), m2.fr i3 (fun j hj => e j (by omega)), m3.fr i4.1 (fun j hj => e j (by omega)), m4.fr i5 (fun j hj => e j (by omega)), m5.fr i6.1 (fun j hj => e j (by omega)), by rw [up2_at, if_pos rfl]; rfl, m7.fr i7 (fun j hj => e j (by omega))⟩
theorem op_book (h : Sim b K S Q g) : Both b S Q g (fun h => fX8_book h b x) (fun h => fX9_book h (b + 116) x) := by
  obtain ⟨⟨a, hI, hC, hM⟩, -, -, -, -, hg⟩ := id h
  obtain ⟨c6a, c6b⟩ := hC.2.2.2.2.1
  obtain ⟨m5a, m5b⟩ := hM.2.2.2.2.1
  have hl := hI.2.2.2.2.2.1.1
  rcases isN_or x (fBk a).length with ⟨j, hj, rfl⟩ | hx
  · refine Both.rd h (r := nI (fBk a)[j]) ?_ ?_
    · unfold fX8_book
      simp (disch := omega) only [rO, rF, rN, bind_sm, c6a, nI_ltI]
      rw [if_neg (by omega), if_pos hj, c6b.at0 hj]
    · unfold fX9_book
      simp (disch := omega) only [rM, rN, bind_sm, m5a, m_inS1, nI_add, z10, if_false]
      rw [m5b.at hj]
  · refine Both.err h 2 (by decide) ?_ (fun S1 hS => ?_)
    · unfold fX8_book
      simp (disch := omega) only [rO, rF, rN, bind_sm, c6a]
      rcases notN hx (by omega) with q | ⟨q, -, q2⟩
      · rw [if_pos q]
      · rw [if_neg q, if_neg q2]
    · unfold fX9_book
      have e1 : S1 117 4 = nI (fBk a).length := by rw [hS _ (by decide)]; exact m5a
      simp (disch := omega) only [rM, rN, bind_sm, e1, m_inS0 hx, if_true]
end OB
