/-! ===== the reference: a crossing whole ===== -/
/-- the numbers of a crossing, minds and turn aside -/
def scP (w : Wo) (k p P : Nat) : Wo := (fun r i => if r = 1 ∧ i = p then 1 - w.1 1 p else if r = 2 ∧ i = p then w.1 2 p - P else if r = 5 ∧ i = k then 1 - w.1 1 p else if r = 6 ∧ i = k then min (w.1 6 k + P) 999999 else w.1 r i, w.2)
theorem keepsP_sc {T : Tx} {w : Wo} {k p P i : Nat} : keepsP T (scP w k p P) i = keepsP T w i := by
  unfold keepsP scP
  simp
theorem keepsP_mind {T : Tx} {w : Wo} {k i : Nat} {l : List Nat} : keepsP T (setMind w k l) i = keepsP T w i := rfl
theorem scP_inv {w : Wo} {k p P : Nat} (h : Winv w) : Winv (scP w k p P) := by
  obtain ⟨i1, i2, i3, i4, i5, i6, i7, i8, i9, i10⟩ := h
  have a4 := i4 p
  have a5 := i5 p
  refine ⟨by simpa [scP] using i1, by simpa [scP] using i2, by simpa [scP] using i3, fun q => ?_, fun q => ?_, fun q => by simpa [scP] using i6 q, fun q => by simpa [scP] using i7 q, fun q => ?_, fun q => ?_, fun q => by simpa [scP] using i10 q⟩
  · have := i4 q
    simp only [scP]
    split
    · omega
    · simpa using this
  · have := i5 q
    simp only [scP]
    simp
    split <;> omega
  · have := i8 q
    simp only [scP]
    simp
    split <;> omega
  · have := i9 q
    simp only [scP]
    simp
    split <;> omega
/-- the minds while gossip goes: those of men below i are told -/
def gosP (T : Tx) (w : Wo) (k p i : Nat) (mk : List Nat) : Wo := ((scP w k p (paysP T w k p)).1, fun j => if j = k then mk else if w.1 3 k = 4 ∧ j < i ∧ w.1 5 j = 1 - w.1 1 p then comesP (keepsP T w j) p (w.2 j) else w.2 j)
def mkP (T : Tx) (w : Wo) (k p : Nat) : List Nat := if losesB T w k p = true then (w.2 k).erase p else comesP (keepsP T w k) p (w.2 k)
theorem mkP_ok {T : Tx} {w : Wo} {k p : Nat} (hI : Winv w) (hp : p < w.1 0 1) : (mkP T w k p).Nodup ∧ ∀ q ∈ mkP T w k p, q < w.1 0 1 := by
  have h := hI.2.2.2.2.2.2.2.2.2 k
  unfold mkP
  split
  · exact ⟨h.1.erase p, fun q hq => h.2 q (List.mem_of_mem_erase hq)⟩
  · refine ⟨comesP_nodup h.1, fun q hq => ?_⟩
    rcases comesP_mem hq with rfl | hq
    · exact hp
    · exact h.2 q hq
theorem gosP_inv {T : Tx} {w : Wo} {k p i : Nat} (hI : Winv w) (hp : p < w.1 0 1) : Winv (gosP T w k p i (mkP T w k p)) := by
  obtain ⟨i1, i2, i3, i4, i5, i6, i7, i8, i9, i10⟩ := scP_inv (k := k) (p := p) (P := paysP T w k p) hI
  refine ⟨i1, i2, i3, i4, i5, i6, i7, i8, i9, fun j => ?_⟩
  have e : (scP w k p (paysP T w k p)).1 0 1 = w.1 0 1 := by simp [scP]
  have h := hI.2.2.2.2.2.2.2.2.2 j
  have e2 : (gosP T w k p i (mkP T w k p)).1 0 1 = w.1 0 1 := e
  rw [e2]
  simp only [gosP]
  split
  · exact mkP_ok hI hp
  · split
    · refine ⟨comesP_nodup h.1, fun q hq => ?_⟩
      rcases comesP_mem hq with rfl | hq
      · exact hp
      · exact h.2 q hq
    · exact h
theorem crossP_inv {T : Tx} {w : Wo} {k p : Nat} (hI : Winv w) (hp : p < w.1 0 1) (ht : w.1 0 0 < 10020) : Winv (crossP T w k p) := by
  obtain ⟨i1, i2, i3, i4, i5, i6, i7, i8, i9, i10⟩ := gosP_inv (T := T) (k := k) (p := p) (i := w.1 0 2) hI hp
  have e : ∀ r i, ¬ (r = 0 ∧ i = 0) → (crossP T w k p).1 r i = (gosP T w k p (w.1 0 2) (mkP T w k p)).1 r i := by
    intro r i h
    simp only [crossP, gosP, scP, if_neg h]
  refine ⟨by simp [crossP]; omega, by rw [e _ _ (by omega)]; exact i2, by rw [e _ _ (by omega)]; exact i3, fun q => by rw [e _ _ (by omega)]; exact i4 q, fun q => by rw [e _ _ (by omega)]; exact i5 q, fun q => by rw [e _ _ (by omega)]; exact i6 q, fun q => by rw [e _ _ (by omega)]; exact i7 q, fun q => by rw [e _ _ (by omega)]; exact i8 q, fun q => by rw [e _ _ (by omega)]; exact i9 q, fun j => ?_⟩
  rw [e _ _ (by omega)]
  exact i10 j
/-- the book, and what a crossing leaves of the row -/
def Bk (k p bk : Nat) (s s' : Nat → Int32) : Prop := s' 4 = nI (min (bk + 1) 24) ∧ s' 100 = nI (10 * k + p) ∧ (∀ i, i < 23 → s' (101 + i) = s (100 + i)) ∧ ∀ j, j = 3 ∨ (5 ≤ j ∧ j < 8) ∨ (76 ≤ j ∧ j < 100) ∨ 124 ≤ j → s' j = s j
section RE
variable {b : Nat} {S : Nat → Nat → Int32} {Q : Nat → Nat → Nat} {g : Hp} {k j p n u : Nat} {x z : Int32} {w : Wo} {T : Tx}
theorem m_book_loop (hk : k < 4) (hp : p < 8) (bk t : Nat) (hbk : S 117 4 = nI bk) (h24 : bk ≤ 24) (ht : S 117 2 = nI t) (ht2 : t ≤ 10020) (r : Int32) :
    ∀ (m i : Nat) (S1 : Nat → Nat → Int32), i ≤ 23 → i < m → Off [117] S S1 → (∀ j, S1 117 j = if 100 + i < j ∧ j ≤ 123 then S 117 (j - 1) else S 117 j) →
      ∃ S', fX9_crosses_216 m (E b S1 Q g) (b + 116) (nI k) (nI p) r (nI i) = some (r, E b S' Q g) ∧ Off [117] S S' ∧ ∀ j, S' 117 j = if j = 2 then nI (t + 1) else if j = 4 then nI (min (bk + 1) 24) else if j = 100 then nI (10 * k + p) else if 100 < j ∧ j ≤ 123 then S 117 (j - 1) else S 117 j := by
  intro m
  induction m with
  | zero => intro i S1 h1 h2; omega
  | succ m ih =>
    intro i S1 h1 h2 hO hS
    rw [fX9_crosses_216]
    simp only [rN]
    by_cases hi : i = 0
    · subst hi
      rw [if_pos (by simp)]
      have e4 : up2 S1 117 100 (nI (10 * k + p)) 117 4 = nI bk := by rw [up2_117, if_neg (by omega), hS, if_neg (by omega), hbk]
      have e2 : up2 (up2 S1 117 100 (nI (10 * k + p))) 117 4 (nI (min (bk + 1) 24)) 117 2 = nI t := by rw [up2_117, if_neg (by omega), up2_117, if_neg (by omega), hS, if_neg (by omega), ht]
      simp (disch := omega) only [rM, bind_sm, pk_mul, nI_add, e4, m_heldN, e2]
      refine ⟨_, rfl, ((hO.tr (Off.up (by decide))).tr (Off.up (by decide))).tr (Off.up (by decide)), fun j => ?_⟩
      rw [up2_117, up2_117, up2_117, hS]
    · rw [if_neg (by rw [nI_leI (by omega) (by decide)]; omega)]
      simp (disch := omega) only [rM, nI_add, nI_subI, bind_sm, nI_addm1]
      refine ih (i - 1) _ (by omega) (by omega) (hO.tr (Off.up (by decide))) (fun j => ?_)
      rw [up2_117, hS, hS]
      by_cases hj : j = 100 + i
      · rw [if_pos hj, if_neg (by omega), if_pos (by omega)]
        congr 1; omega
      · rw [if_neg hj]
        by_cases hz : 100 + i < j ∧ j ≤ 123
        · rw [if_pos hz, if_pos (by omega)]
        · rw [if_neg hz, if_neg (by omega)]
theorem RepM.ext {s : Nat → Int32} {w w' : Wo} (h : RepM s w) (h0 : w'.1 0 1 = w.1 0 1 ∧ w'.1 0 2 = w.1 0 2 ∧ w'.1 0 0 = w.1 0 0) (h1 : ∀ p, p < w.1 0 1 → w'.1 1 p = w.1 1 p ∧ w'.1 2 p = w.1 2 p) (h2 : ∀ k, k < w.1 0 2 → w'.1 3 k = w.1 3 k ∧ w'.1 4 k = w.1 4 k ∧ w'.1 5 k = w.1 5 k ∧ w'.1 6 k = w.1 6 k ∧ w'.2 k = w.2 k) : RepM s w' := by
  obtain ⟨r1, r2, r3, r4, r5⟩ := h
  refine ⟨by rw [h0.1]; exact r1, by rw [h0.2.1]; exact r2, by rw [h0.2.2]; exact r3, fun p hp => ?_, fun k hk => ?_⟩
  · rw [h0.1] at hp
    rw [(h1 p hp).1, (h1 p hp).2]
    exact r4 p hp
  · rw [h0.2.1] at hk
    obtain ⟨a, b, c, d, e⟩ := h2 k hk
    rw [a, b, c, d, e]
    exact r5 k hk
theorem RepM.sc {s s' : Nat → Int32} (h : RepM s w) (hI : Winv w) (hk : k < w.1 0 2) (hp : p < w.1 0 1) (P : Nat) (hs : ∀ j, s' j = if j = 24 + 13 * k + 2 then nI (1 - w.1 1 p) else if j = 8 + 2 * p then nI (1 - w.1 1 p) else if j = 24 + 13 * k + 3 then nI (min (w.1 6 k + P) 999999) else if j = 8 + 2 * p + 1 then nI (w.1 2 p - P) else s j) : RepM s' (scP w k p P) := by
  have hp8 : p < 8 := Nat.lt_of_lt_of_le hp hI.2.1
  have hk4 : k < 4 := Nat.lt_of_lt_of_le hk hI.2.2.1
  have i2 := hI.2.1
  have i3 := hI.2.2.1
  obtain ⟨r1, r2, r3, r4, r5⟩ := h
  have keep : ∀ j, j ≠ 24 + 13 * k + 2 → j ≠ 8 + 2 * p → j ≠ 24 + 13 * k + 3 → j ≠ 8 + 2 * p + 1 → s' j = s j := fun j a b c d => by rw [hs, if_neg a, if_neg b, if_neg c, if_neg d]
  have e0 : (scP w k p P).1 0 = w.1 0 := funext fun i => by simp [scP]
  have e3 : (scP w k p P).1 3 = w.1 3 := funext fun i => by simp [scP]
  have e4 : (scP w k p P).1 4 = w.1 4 := funext fun i => by simp [scP]
  refine ⟨by rw [e0, keep _ (by omega) (by omega) (by omega) (by omega)]; exact r1, by rw [e0, keep _ (by omega) (by omega) (by omega) (by omega)]; exact r2, by rw [e0, keep _ (by omega) (by omega) (by omega) (by omega)]; exact r3, fun q hq => ?_, fun i hi => ?_⟩
  · rw [e0] at hq
    by_cases hqp : q = p
    · subst hqp
      refine ⟨?_, ?_⟩
      · rw [hs, if_neg (by omega), if_pos rfl]; simp [scP]
      · rw [hs, if_neg (by omega), if_neg (by omega), if_neg (by omega), if_pos rfl]; simp [scP]
    · rw [keep _ (by omega) (by omega) (by omega) (by omega), keep _ (by omega) (by omega) (by omega) (by omega)]
      simp only [scP, hqp, and_false, if_false]
      simp
      exact r4 q hq
  · rw [e0] at hi
    obtain ⟨q1, q2, q3, q4, q5, q6⟩ := r5 i hi
    have hl := hI.len i
    rw [e3, e4]
    refine ⟨by rw [keep _ (by omega) (by omega) (by omega) (by omega)]; exact q1, by rw [keep _ (by omega) (by omega) (by omega) (by omega)]; exact q2, ?_, ?_, by rw [keep _ (by omega) (by omega) (by omega) (by omega)]; exact q5, fun j v hj => ?_⟩
    · by_cases hik : i = k
      · subst hik
        rw [hs, if_pos rfl]; simp [scP]
      · rw [keep _ (by omega) (by omega) (by omega) (by omega), q3]; simp [scP, hik]
    · by_cases hik : i = k
      · subst hik
        rw [hs, if_neg (by omega), if_neg (by omega), if_pos rfl]; simp [scP]
      · rw [keep _ (by omega) (by omega) (by omega) (by omega), q4]; simp [scP, hik]
    · have hj' : (w.2 i)[j]? = some v := hj
      have := (List.getElem?_eq_some_iff.mp hj').1
      rw [keep _ (by omega) (by omega) (by omega) (by omega)]
      exact q6 j v hj'
end RE
