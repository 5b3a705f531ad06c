/-! ===== the reference: a face goes, a face comes, a crossing ===== -/
theorem up2_117 {S : Nat → Nat → Int32} {i j : Nat} {x : Int32} : up2 S 117 i x 117 j = if j = i then x else S 117 j := by
  unfold up2
  simp
section RD
variable {b : Nat} {S : Nat → Nat → Int32} {Q : Nat → Nat → Nat} {g : Hp} {k j p n u : Nat} {x z : Int32} {w : Wo} {T : Tx}
theorem m_forgets_loop (hk : k < 4) (at_ L : Nat) (hL : L ≤ 8) (hat : at_ < L) (h4 : S 117 (24 + 13 * k + 4) = nI L) :
    ∀ (m i : Nat) (S1 : Nat → Nat → Int32), at_ ≤ i → i < L → L - i < m + 1 → Off [117] S S1 → (∀ j, S1 117 j = if 24 + 13 * k + 5 + at_ ≤ j ∧ j < 24 + 13 * k + 5 + i then S 117 (j + 1) else S 117 j) →
      ∃ S', fX9_forgets_15 (m + 1) (E b S1 Q g) (b + 116) (nI k) (nI i) = some (E b S' Q g) ∧ Off [117] S S' ∧ ∀ j, S' 117 j = if j = 24 + 13 * k + 4 then nI (L - 1) else if 24 + 13 * k + 5 + at_ ≤ j ∧ j < 24 + 13 * k + 5 + (L - 1) then S 117 (j + 1) else S 117 j := by
  intro m
  induction m with
  | zero => intro i S1 h1 h2 h3; omega
  | succ m ih =>
    intro i S1 h1 h2 h3 hO hS
    have e4 : S1 117 (24 + 13 * k + 4) = nI L := by rw [hS, if_neg (by omega), h4]
    rw [fX9_forgets_15]
    simp (disch := omega) only [m_its, rN, bind_sm, e4, nI_leI, nI_add, nI_subI, m_lays1]
    by_cases hle : L ≤ i + 1
    · rw [if_pos hle]
      refine ⟨_, rfl, hO.tr (Off.up (by decide)), fun j => ?_⟩
      rw [up2_117, hS]
      by_cases hj : j = 24 + 13 * k + 4
      · rw [if_pos hj, if_pos hj]
      · rw [if_neg hj, if_neg hj, show L - 1 = i by omega]
    · rw [if_neg hle]
      refine ih (i + 1) _ (by omega) (by omega) (by omega) (hO.tr (Off.up (by decide))) (fun j => ?_)
      rw [up2_117, hS, hS]
      by_cases hj : j = 24 + 13 * k + (5 + i)
      · rw [if_pos hj, if_neg (by omega), if_pos (by omega)]
        congr 1; omega
      · rw [if_neg hj]
        by_cases hz : 24 + 13 * k + 5 + at_ ≤ j ∧ j < 24 + 13 * k + 5 + i
        · rw [if_pos hz, if_pos (by omega)]
        · rw [if_neg hz, if_neg (by omega)]
theorem m_forgets (hR : RepM (S 117) w) (hI : Winv w) (hk : k < w.1 0 2) (hp : p < 8) : ∃ S', fX9_forgets (E b S Q g) (b + 116) (nI k) (nI p) = some (E b S' Q g) ∧ Off [117] S S' ∧ RepM (S' 117) (setMind w k ((w.2 k).erase p)) ∧ Kw (S 117) (S' 117) := by
  have hlen := hI.len k
  have hk4 : k < 4 := Nat.lt_of_lt_of_le hk hI.2.2.1
  obtain ⟨q1, q2, q3, q4, q5, q6⟩ := hR.2.2.2.2 k hk
  unfold fX9_forgets
  simp only [rM, rN, bind_sm, m_placeOf hR hI hk hp]
  by_cases h : p ∈ w.2 k
  · have hx := List.idxOf_lt_length_of_mem h
    simp only [h, if_true]
    rw [if_neg (nI_m1 (by omega))]
    obtain ⟨S', e1, e2, e3⟩ := m_forgets_loop (b := b) (S := S) (Q := Q) (g := g) (k := k) hk4 ((w.2 k).idxOf p) (w.2 k).length hlen hx q5 999 ((w.2 k).idxOf p) S (Nat.le_refl _) hx (by omega) Off.rf (fun j => by rw [if_neg (by omega)])
    refine ⟨S', e1, e2, hR.mind hI hk (fun j hj => ?_) ?_ ?_, fun j hj => ?_⟩
    · rw [e3, if_neg (by omega), if_neg (by omega)]
    · rw [e3, if_pos rfl, List.length_erase_of_mem h]
    · intro i v hv
      rw [List.erase_eq_eraseIdx_of_idxOf (l := w.2 k) (a := p) rfl, List.getElem?_eraseIdx] at hv
      rw [e3, if_neg (by omega)]
      by_cases hi : i < (w.2 k).idxOf p
      · rw [if_pos hi] at hv
        rw [if_neg (by omega)]
        exact q6 i v hv
      · rw [if_neg hi] at hv
        have := (List.getElem?_eq_some_iff.mp hv).1
        rw [if_pos (by omega)]
        exact q6 (i + 1) v hv
    · rw [e3, if_neg (by omega), if_neg (by omega)]
  · simp only [h, if_false, if_true]
    rw [List.erase_of_not_mem h]
    refine ⟨S, rfl, Off.rf, ?_, Kw.rf⟩
    have : setMind w k (w.2 k) = w := by
      unfold setMind
      refine Prod.ext rfl (funext fun i => ?_)
      dsimp only
      split
      next e => rw [e]
      next => rfl
    rw [this]
    exact hR
theorem m_comes_loop (hk : k < 4) (hp : p < 8) (L n : Nat) (hL : L ≤ 7) (hn : n ≤ 8) (h4 : S 117 (24 + 13 * k + 4) = nI L) :
    ∀ (m i : Nat) (S1 : Nat → Nat → Int32), i ≤ L → i < m → Off [117] S S1 → (∀ j, S1 117 j = if 24 + 13 * k + 5 + i < j ∧ j ≤ 24 + 13 * k + 5 + L then S 117 (j - 1) else S 117 j) →
      ∃ S', fX9_comes_20 m (E b S1 Q g) (b + 116) (nI k) (nI p) (nI n) (nI i) = some (E b S' Q g) ∧ Off [117] S S' ∧ ∀ j, S' 117 j = if j = 24 + 13 * k + 4 then nI (min (L + 1) n) else if j = 24 + 13 * k + 5 then nI p else if 24 + 13 * k + 5 < j ∧ j ≤ 24 + 13 * k + 5 + L then S 117 (j - 1) else S 117 j := by
  intro m
  induction m with
  | zero => intro i S1 h1 h2; omega
  | succ m ih =>
    intro i S1 h1 h2 hO hS
    have e4 : S1 117 (24 + 13 * k + 4) = nI L := by rw [hS, if_neg (by omega), h4]
    rw [fX9_comes_20]
    simp only [rN]
    by_cases hi : i = 0
    · subst hi
      rw [if_pos (by simp)]
      have e5 : up2 S1 117 (24 + 13 * k + 5) (nI p) 117 (24 + 13 * k + 4) = nI L := by rw [up2_117, if_neg (by omega), e4]
      simp (disch := omega) only [m_lays1, bind_sm, m_its, e5, nI_add, m_heldN]
      refine ⟨_, rfl, (hO.tr (Off.up (by decide))).tr (Off.up (by decide)), fun j => ?_⟩
      rw [up2_117, up2_117, hS]
    · rw [if_neg (by rw [nI_leI (by omega) (by decide)]; omega)]
      simp (disch := omega) only [nI_add, nI_subI, m_its, bind_sm, m_lays1, nI_addm1]
      refine ih (i - 1) _ (by omega) (by omega) (hO.tr (Off.up (by decide))) (fun j => ?_)
      rw [up2_117, hS, hS]
      by_cases hj : j = 24 + 13 * k + (5 + i)
      · rw [if_pos hj, if_neg (by omega), if_pos (by omega)]
        congr 1; omega
      · rw [if_neg hj]
        by_cases hz : 24 + 13 * k + 5 + i < j ∧ j ≤ 24 + 13 * k + 5 + L
        · rw [if_pos hz, if_pos (by omega)]
        · rw [if_neg hz, if_neg (by omega)]
theorem keepsP_le (T : Tx) (w : Wo) (k : Nat) : keepsP T w k ≤ 8 := by unfold keepsP; exact Nat.min_le_right _ _
theorem m_comes (hR : RepM (S 117) w) (hI : Winv w) (hT : RepT (S 117) T) (hok : ∀ u, txOk (T u)) (hk : k < w.1 0 2) (hp : p < w.1 0 1) : ∃ S', fX9_comes (E b S Q g) (b + 116) (nI k) (nI p) = some (E b S' Q g) ∧ Off [117, 123, 124] S S' ∧ RepM (S' 117) (setMind w k (comesP (keepsP T w k) p (w.2 k))) ∧ Kw (S 117) (S' 117) := by
  have hlen := hI.len k
  have hp8 : p < 8 := Nat.lt_of_lt_of_le hp hI.2.1
  have hk4 : k < 4 := Nat.lt_of_lt_of_le hk hI.2.2.1
  have hkp := keepsP_le T w k
  unfold fX9_comes
  simp only [rM]
  obtain ⟨S1, e1, o1⟩ := m_keeps (b := b) (Q := Q) (g := g) hR hI hT hok hk
  have s1 : S1 117 = S 117 := o1 117 (by decide)
  simp only [e1, bind_sm]
  obtain ⟨S2, e2, o2, r2, kw2⟩ := m_forgets (b := b) (Q := Q) (g := g) (S := S1) (p := p) (by rw [s1]; exact hR) hI hk hp8
  simp only [e2, bind_sm]
  have hnd := hI.2.2.2.2.2.2.2.2.2 k
  have hI2 : Winv (setMind w k ((w.2 k).erase p)) := hI.mind (hnd.1.erase p) (fun q hq => hnd.2 q (List.mem_of_mem_erase hq))
  obtain ⟨-, -, -, -, q5, q6⟩ := r2.2.2.2.2 k hk
  have hl2 : ((setMind w k ((w.2 k).erase p)).2 k) = (w.2 k).erase p := by simp [setMind]
  rw [hl2] at q5 q6
  have hL7 : ((w.2 k).erase p).length ≤ 7 := by
    by_cases h : p ∈ w.2 k
    · rw [List.length_erase_of_mem h]; omega
    · rw [List.erase_of_not_mem h]
      have h9 := nodup_len 8 (p :: w.2 k) (List.nodup_cons.mpr ⟨h, hnd.1⟩) (fun q hq => by
        rcases List.mem_cons.mp hq with rfl | hq
        · exact hp8
        · exact Nat.lt_of_lt_of_le (hnd.2 q hq) hI.2.1)
      simp at h9
      omega
  simp (disch := omega) only [rN, m_its, bind_sm, q5]
  obtain ⟨S3, e3, o3, p3⟩ := m_comes_loop (b := b) (Q := Q) (g := g) (S := S2) (k := k) (p := p) hk4 hp8 ((w.2 k).erase p).length (keepsP T w k) hL7 hkp q5 1000 _ S2 (Nat.le_refl _) (by omega) Off.rf (fun j => by rw [if_neg (by omega)])
  refine ⟨S3, e3, ((o1.mono (fun c hc => by simp at hc ⊢; omega)).tr (o2.mono (fun c hc => by simp at hc ⊢; omega))).tr (o3.mono (fun c hc => by simp at hc ⊢; omega)), ?_, fun j hj => ?_⟩
  · have h9 := r2.mind (s' := S3 117) (l := comesP (keepsP T w k) p (w.2 k)) hI2 hk (fun j hj => ?_) ?_ ?_
    · have : setMind (setMind w k ((w.2 k).erase p)) k (comesP (keepsP T w k) p (w.2 k)) = setMind w k (comesP (keepsP T w k) p (w.2 k)) := by
        unfold setMind
        refine Prod.ext rfl (funext fun i => ?_)
        dsimp only
        split <;> rfl
      rw [this] at h9
      exact h9
    · rw [p3, if_neg (by omega), if_neg (by omega), if_neg (by omega)]
    · rw [p3, if_pos rfl]
      unfold comesP
      rw [List.length_take, List.length_cons, Nat.min_comm]
    · intro i v hv
      unfold comesP at hv
      rw [List.getElem?_take] at hv
      split at hv
      next hlt =>
        rw [p3, if_neg (by omega)]
        cases i with
        | zero =>
          simp at hv
          rw [if_pos (by omega), hv]
        | succ i =>
          simp at hv
          have := (List.getElem?_eq_some_iff.mp hv).1
          rw [if_neg (by omega), if_pos (by omega)]
          exact q6 i v hv
      next => cases hv
  · rw [p3, if_neg (by omega), if_neg (by omega), if_neg (by omega), kw2 j hj, s1]
end RD
