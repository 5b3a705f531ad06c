/-! ===== the reference: keeps, fares, faces, a crossing ===== -/
theorem heldP_le (v : Int32) (n : Nat) (hn : n < 2 ^ 31) : heldP v n ≤ n := by
  unfold heldP
  split
  · omega
  · split
    · exact Nat.le_refl _
    · next h0 h1 =>
      obtain ⟨j, hj, rfl⟩ := nI_of h0
      rw [nI_clamp hj]
      have h9 : ¬ n < j := fun q => h1 ((nI_ltI hn hj).mpr q)
      omega
theorem nI_heldP (v : Int32) (n : Nat) : ¬ v < 0 → ¬ nI n < v → nI v.toNatClampNeg = v := by
  intro h0 h1
  obtain ⟨j, hj, rfl⟩ := nI_of h0
  rw [nI_clamp hj]
def setMind (w : Wo) (k : Nat) (l : List Nat) : Wo := (w.1, fun i => if i = k then l else w.2 i)
/-- what a crossing leaves of the row but its world, and its book -/
def Kw (s s' : Nat → Int32) : Prop := ∀ j, (3 ≤ j ∧ j < 8) ∨ 76 ≤ j → s' j = s j
theorem Kw.rf {s : Nat → Int32} : Kw s s := fun _ _ => rfl
theorem Kw.tr {s s' s'' : Nat → Int32} (h : Kw s s') (h' : Kw s' s'') : Kw s s'' := fun j hj => (h' j hj).trans (h j hj)
theorem RepT.kw {s s' : Nat → Int32} {T : Tx} (h : RepT s T) (hk : ∀ j, 124 ≤ j → s' j = s j) : RepT s' T := by
  intro u hu
  refine ⟨by rw [hk _ (by omega)]; exact (h u hu).1, fun i t ht => ?_⟩
  have := (h u hu).2 i t ht
  exact ⟨by rw [hk _ (by omega)]; exact this.1, by rw [hk _ (by omega)]; exact this.2⟩
theorem RepM.mind {s s' : Nat → Int32} {w : Wo} {k : Nat} {l : List Nat} (hR : RepM s w) (hI : Winv w) (hk : k < w.1 0 2) (hout : ∀ j, j < 24 + 13 * k + 4 ∨ 24 + 13 * k + 13 ≤ j → s' j = s j) (h4 : s' (24 + 13 * k + 4) = nI l.length) (h5 : rowIs s' (24 + 13 * k + 5) l) : RepM s' (setMind w k l) := by
  have h42 := hI.2.2.1
  obtain ⟨r1, r2, r3, r4, r5⟩ := hR
  refine ⟨by rw [hout _ (by omega)]; exact r1, by rw [hout _ (by omega)]; exact r2, by rw [hout _ (by omega)]; exact r3, fun p hp => ?_, fun i hi => ?_⟩
  · have h8 : p < 8 := Nat.lt_of_lt_of_le hp hI.2.1
    rw [hout _ (by omega), hout _ (by omega)]
    exact r4 p hp
  · have hi' : i < w.1 0 2 := hi
    obtain ⟨q1, q2, q3, q4, q5, q6⟩ := r5 i hi'
    by_cases hik : i = k
    · subst hik
      refine ⟨by rw [hout _ (by omega)]; exact q1, by rw [hout _ (by omega)]; exact q2, by rw [hout _ (by omega)]; exact q3, by rw [hout _ (by omega)]; exact q4, ?_, ?_⟩
      · simp only [setMind, if_true]; exact h4
      · simp only [setMind, if_true]; exact h5
    · have hl := hI.len i
      refine ⟨by rw [hout _ (by omega)]; exact q1, by rw [hout _ (by omega)]; exact q2, by rw [hout _ (by omega)]; exact q3, by rw [hout _ (by omega)]; exact q4, ?_, ?_⟩
      · simp only [setMind, if_neg hik]; rw [hout _ (by omega)]; exact q5
      · simp only [setMind, if_neg hik]
        intro j v hj
        have := (List.getElem?_eq_some_iff.mp hj).1
        rw [hout _ (by omega)]
        exact q6 j v hj
theorem comesP_nodup {n p : Nat} {l : List Nat} (h : l.Nodup) : (comesP n p l).Nodup :=
  List.Nodup.sublist (List.take_sublist _ _) (List.nodup_cons.mpr ⟨h.not_mem_erase, h.erase p⟩)
theorem comesP_mem {n p q : Nat} {l : List Nat} (h : q ∈ comesP n p l) : q = p ∨ q ∈ l := by
  have h1 := List.mem_of_mem_take h
  rcases List.mem_cons.mp h1 with h2 | h2
  · exact Or.inl h2
  · exact Or.inr (List.mem_of_mem_erase h2)
theorem Winv.mind {w : Wo} {k : Nat} {l : List Nat} (h : Winv w) (h1 : l.Nodup) (h2 : ∀ p ∈ l, p < w.1 0 1) : Winv (setMind w k l) := by
  obtain ⟨i1, i2, i3, i4, i5, i6, i7, i8, i9, i10⟩ := h
  refine ⟨i1, i2, i3, i4, i5, i6, i7, i8, i9, fun i => ?_⟩
  by_cases hik : i = k
  · simp only [setMind, if_pos hik]; exact ⟨h1, h2⟩
  · simp only [setMind, if_neg hik]; exact i10 i
section RC
variable {b : Nat} {S : Nat → Nat → Int32} {Q : Nat → Nat → Nat} {g : Hp} {k j p n u : Nat} {x z : Int32} {w : Wo} {T : Tx}
theorem m_heldP (v : Int32) (n : Nat) (hn : n < 2 ^ 31) : fX9_held v (nI 0) (nI n) = some (nI (heldP v n)) := by
  rw [m_held]
  unfold heldP
  by_cases h0 : v < 0
  · rw [if_neg (fun q => (i32_le_iff (nI 0) v).mp q (by rw [nI_0]; exact h0)), if_pos h0]
  · rw [if_pos ((i32_le_iff (nI 0) v).mpr (by rw [nI_0]; exact h0)), if_neg h0]
    by_cases h1 : nI n < v
    · rw [if_neg (fun q => (i32_le_iff v (nI n)).mp q h1), if_pos h1]
    · rw [if_pos ((i32_le_iff v (nI n)).mpr h1), if_neg h1, nI_heldP v n h0 h1]
theorem m_keeps (hR : RepM (S 117) w) (hI : Winv w) (hT : RepT (S 117) T) (hok : ∀ u, txOk (T u)) (hk : k < w.1 0 2) : ∃ S', fX9_keeps (E b S Q g) (b + 116) (nI k) = some (nI (keepsP T w k), E b S' Q g) ∧ Off [123, 124] S S' := by
  obtain ⟨i1, i2, i3, i4, i5, i6, i7, i8, i9, i10⟩ := hI
  obtain ⟨q1, q2, q3, q4, q5, q6⟩ := hR.2.2.2.2 k hk
  have hk4 : k < 4 := by omega
  have hkd := i6 k
  have hm := i7 k
  have e0 : 24 + 13 * k + 0 = 24 + 13 * k := rfl
  unfold fX9_keeps fX9_keeps_86
  simp (disch := omega) only [rM, rN, bind_sm, m_its, e0, q1, q2, nI_eq, nI_add]
  unfold keepsP
  by_cases h1 : w.1 3 k = 1
  · simp (disch := omega) only [h1, if_true, m_heldN, bind_sm]
    exact ⟨S, rfl, Off.rf⟩
  · by_cases h3 : w.1 3 k = 3
    · simp (disch := omega) only [h3, if_true, if_false, m_heldN, bind_sm]
      rw [if_neg (by decide), if_neg (by decide)]
      exact ⟨S, rfl, Off.rf⟩
    · by_cases h4 : w.1 3 k = 4
      · simp (disch := omega) only [h4, if_true, if_false, m_heldN, bind_sm]
        rw [if_neg (by decide), if_neg (by decide), if_neg (by decide), if_neg (by decide)]
        exact ⟨S, rfl, Off.rf⟩
      · by_cases h6 : w.1 3 k = 6
        · simp only [h1, h3, h4, if_false, if_pos h6]
          unfold fX9_keepsTold
          have hl60 := (hok 0).1
          simp only [rM, rN, bind_sm, m_hasText hT (show 0 < 2 by decide) hl60]
          by_cases hT0 : T 0 = []
          · simp (disch := omega) only [hT0, if_true, m_its, q2, bind_sm, m_heldN]
            exact ⟨S, rfl, Off.rf⟩
          · simp only [hT0, if_false]
            rw [if_neg (by decide)]
            simp (disch := omega) only [rM, rN, bind_sm, m_its, q2]
            have s1 : ∀ (c i : Nat) (v : Int32) (S : Nat → Nat → Int32), c ≠ 117 → up2 S c i v 117 = S 117 := fun c i v S h => up2_row h
            simp only [s1 123 _ _ _ (by decide), hR.1, hR.2.2.1]
            obtain ⟨S', h5, h6'⟩ := m_worked (b := b) (Q := Q) (g := g) (S := up2 (up2 (up2 S 123 109 (nI (w.1 4 k))) 123 116 (nI (w.1 0 0))) 123 112 (nI (w.1 0 1))) (u := 0) (nm3 (nI (w.1 4 k)) (nI (w.1 0 0)) (nI (w.1 0 1))) (T := T) (by simp only [s1 123 _ _ _ (by decide)]; exact hT) (by decide) (hok 0) hT0 (fun i hi => by
              match i, hi with
              | 0, _ => simp [up2, nmc, nm3]
              | 1, _ => simp [up2, nmc, nm3]
              | 2, _ => simp [up2, nmc, nm3])
            rw [h5]
            simp only [bind_sm, m_heldP _ 8 (by decide)]
            refine ⟨S', ?_, ?_⟩
            · rw [Nat.min_eq_left (heldP_le _ 8 (by decide))]
            · exact ((((Off.up (by decide)).tr (Off.up (by decide))).tr (Off.up (by decide))).mono (fun c hc => hc)).tr (h6'.mono (fun c hc => by simp at hc ⊢; omega))
        · simp (disch := omega) only [h1, h3, h4, h6, if_false, m_heldN, bind_sm]
          exact ⟨S, rfl, Off.rf⟩
theorem m_fare (hR : RepM (S 117) w) (hI : Winv w) (hT : RepT (S 117) T) (hok : ∀ u, txOk (T u)) (hk : k < w.1 0 2) : ∃ S', fX9_fare (E b S Q g) (b + 116) (nI k) = some (nI (fareP T w k), E b S' Q g) ∧ Off [123, 124] S S' := by
  have hlen := hI.len k
  obtain ⟨i1, i2, i3, i4, i5, i6, i7, i8, i9, i10⟩ := hI
  obtain ⟨q1, q2, q3, q4, q5, q6⟩ := hR.2.2.2.2 k hk
  have hk4 : k < 4 := by omega
  have hkd := i6 k
  have hm := i7 k
  have e0 : 24 + 13 * k + 0 = 24 + 13 * k := rfl
  have hdv : dvz (nI (2 + w.1 4 k)) (nI 2) = some (nI ((2 + w.1 4 k) / 2)) := by
    unfold dvz
    rw [if_neg (by decide), pk_div (by omega) (by decide) (by decide)]
  unfold fX9_fare fX9_fare_80
  simp (disch := omega) only [rM, rN, bind_sm, m_its, e0, q1, q2, nI_eq, nI_add, hdv]
  unfold fareP
  by_cases h1 : w.1 3 k = 2
  · simp (disch := omega) only [h1, if_true, m_heldN, bind_sm, true_or]
    exact ⟨S, rfl, Off.rf⟩
  · by_cases h3 : w.1 3 k = 3
    · simp (disch := omega) only [h3, if_true, if_false, m_heldN, bind_sm]
      rw [if_neg (by decide), if_neg (by decide)]
      exact ⟨S, rfl, Off.rf⟩
    · by_cases h4 : w.1 3 k = 4
      · simp (disch := omega) only [h4, if_true, if_false, m_heldN, bind_sm]
        rw [if_neg (by decide), if_neg (by decide), if_neg (by decide), if_neg (by decide)]
        exact ⟨S, rfl, Off.rf⟩
      · by_cases h5 : w.1 3 k = 5
        · simp (disch := omega) only [h5, if_true, if_false, m_heldN, bind_sm, or_true]
          rw [if_neg (by decide), if_neg (by decide), if_neg (by decide)]
          exact ⟨S, rfl, Off.rf⟩
        · by_cases h6 : w.1 3 k = 6
          · simp only [h1, h3, h4, h5, if_false, if_pos h6, or_self]
            unfold fX9_fareTold
            have hl60 := (hok 1).1
            simp only [rM, rN, bind_sm, m_hasText hT (show 1 < 2 by decide) hl60]
            by_cases hT0 : T 1 = []
            · simp (disch := omega) only [hT0, if_true, m_its, q2, q5, bind_sm, nI_add, m_heldN]
              exact ⟨S, rfl, Off.rf⟩
            · simp only [hT0, if_false]
              rw [if_neg (by decide)]
              have s1 : ∀ (c i : Nat) (v : Int32) (S : Nat → Nat → Int32), c ≠ 117 → up2 S c i v 117 = S 117 := fun c i v S h => up2_row h
              simp (disch := omega) only [rM, rN, bind_sm, m_its, q2, s1 123 _ _ _ (by decide), q5, q3]
              obtain ⟨S', h5', h6'⟩ := m_worked (b := b) (Q := Q) (g := g) (S := up2 (up2 (up2 S 123 109 (nI (w.1 4 k))) 123 107 (nI (w.2 k).length)) 123 98 (nI (w.1 5 k))) (u := 1) (nm3 (nI (w.1 4 k)) (nI (w.2 k).length) (nI (w.1 5 k))) (T := T) (by simp only [s1 123 _ _ _ (by decide)]; exact hT) (by decide) (hok 1) hT0 (fun i hi => by
                match i, hi with
                | 0, _ => simp [up2, nmc, nm3]
                | 1, _ => simp [up2, nmc, nm3]
                | 2, _ => simp [up2, nmc, nm3])
              rw [h5']
              simp only [bind_sm, m_heldP _ 99 (by decide)]
              refine ⟨S', ?_, ?_⟩
              · rw [Nat.min_eq_left (heldP_le _ 99 (by decide))]
              · exact ((((Off.up (by decide)).tr (Off.up (by decide))).tr (Off.up (by decide))).mono (fun c hc => hc)).tr (h6'.mono (fun c hc => by simp at hc ⊢; omega))
          · simp (disch := omega) only [h1, h3, h4, h5, h6, if_false, m_heldN, bind_sm, or_self]
            exact ⟨S, rfl, Off.rf⟩
end RC
