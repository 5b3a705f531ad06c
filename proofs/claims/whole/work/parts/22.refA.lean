/-! ===== the reference: its reads, writes, minds ===== -/
section RA
variable {b : Nat} {S : Nat → Nat → Int32} {Q : Nat → Nat → Nat} {g : Hp} {k j p n : Nat} {x z : Int32} {w : Wo}
theorem m_its (h : 24 + 13 * k + j < 458) : fX9_its (E b S Q g) (b + 116) (nI k) (nI j) = some (S 117 (24 + 13 * k + j)) := by
  unfold fX9_its
  simp (disch := omega) only [rM, rN, pk_mul, nI_add, bind_sm]
theorem m_of (h : 8 + 2 * p + j < 458) : fX9_of (E b S Q g) (b + 116) (nI p) (nI j) = some (S 117 (8 + 2 * p + j)) := by
  unfold fX9_of
  simp (disch := omega) only [rM, rN, pk_mul, nI_add, bind_sm]
theorem m_lays1 (h : 24 + 13 * k + j < 458) : fX9_lays1 (E b S Q g) (b + 116) (nI k) (nI j) x = some (E b (up2 S 117 (24 + 13 * k + j) x) Q g) := by
  unfold fX9_lays1
  simp (disch := omega) only [rM, rN, pk_mul, nI_add, bind_sm]
theorem m_in {lo hi : Int32} : fX9_in x lo hi = some (if x < lo ∨ hi < x then nI 0 else nI 1) := by
  unfold fX9_in
  by_cases h1 : x < lo
  · simp only [h1, if_true, true_or]; rfl
  · by_cases h2 : hi < x
    · simp only [h1, h2, if_true, if_false, or_true]; rfl
    · simp only [h1, h2, if_false, or_self]; rfl
theorem m_bzif {c : Prop} [Decidable c] : bz (if c then nI 0 else nI 1) = some (if c then nI 0 else nI 1) := by
  split <;> rfl
theorem m_isPerson (hS : S 117 0 = nI n) (hn : n < 2 ^ 31) [Decidable (isN x n)] : fX9_isPerson (E b S Q g) (b + 116) x = some (if isN x n then nI 1 else nI 0) := by
  unfold fX9_isPerson
  simp (disch := omega) only [rM, rN, bind_sm, m_in, m_bzif, hS]
  congr 1
  by_cases h : isN x n
  · rw [if_pos h]
    have := (isN_iff' hn).mp h
    rw [if_neg (by rintro (q | q); exact this.1 q; exact this.2 q)]
  · rw [if_neg h]
    have h2 : ¬ (¬ x < nI 0 ∧ ¬ nI n - 1 < x) := fun q => h ((isN_iff' hn).mpr q)
    rw [if_pos (by
      by_cases h3 : x < nI 0
      · exact Or.inl h3
      · right
        by_cases h4 : nI n - 1 < x
        · exact h4
        · exact absurd ⟨h3, h4⟩ h2)]
theorem m_isMan (hS : S 117 1 = nI n) (hn : n < 2 ^ 31) [Decidable (isN x n)] : fX9_isMan (E b S Q g) (b + 116) x = some (if isN x n then nI 1 else nI 0) := by
  have h := @m_isPerson b (fun r i => if r = 117 ∧ i = 0 then S 117 1 else S r i) Q g n x (by simpa using hS) hn _
  rw [← h]
  unfold fX9_isMan fX9_isPerson
  simp (disch := omega) only [rM, rN, bind_sm]
  simp
theorem m_held {lo hi : Int32} : fX9_held x lo hi = some (if lo ≤ x then (if x ≤ hi then x else hi) else lo) := by
  unfold fX9_held
  split
  · split <;> rfl
  · rfl
theorem m_heldN (a n : Nat) (ha : a < 2 ^ 31) (hn : n < 2 ^ 31) : fX9_held (nI a) (nI 0) (nI n) = some (nI (min a n)) := by
  rw [m_held, if_pos ((nI_leI (by omega) ha).mpr (Nat.zero_le _))]
  by_cases h : a ≤ n
  · rw [if_pos ((nI_leI ha hn).mpr h), Nat.min_eq_left h]
  · rw [if_neg (fun q => h ((nI_leI ha hn).mp q)), Nat.min_eq_right (by omega)]
/-- the place of a face, as the reference seeks it: the last that fits -/
theorem m_placeOf_loop (l : List Nat) (hk : k < 4) (hl : l.length ≤ 8) (hn : S 117 (24 + 13 * k + 4) = nI l.length) (hf : rowIs (S 117) (24 + 13 * k + 5) l) (hnd : l.Nodup) (hb : ∀ q ∈ l, q < 8) (hp : p < 8) :
    ∀ (m i : Nat) (a1 : Int32), i ≤ l.length → l.length - i < m → (p ∈ l.take i → a1 = nI (l.idxOf p)) → (p ∉ l.take i → a1 = -nI 1) →
      fX9_placeOf_5 (E b S Q g) m (b + 116) (nI k) (nI p) a1 (nI i) = some (if p ∈ l then nI (l.idxOf p) else -nI 1) := by
  intro m
  induction m with
  | zero => intro i a1 _ h; omega
  | succ m ih =>
    intro i a1 hi hm h1 h2
    rw [fX9_placeOf_5]
    simp (disch := omega) only [m_its, rN, bind_sm, hn, nI_leI, nI_add]
    by_cases hle : l.length ≤ i
    · rw [if_pos hle]
      have hi2 : i = l.length := by omega
      subst hi2
      rw [List.take_length] at h1 h2
      by_cases hm : p ∈ l
      · rw [if_pos hm, h1 hm]
      · rw [if_neg hm, h2 hm]
    · rw [if_neg hle]
      have hlt : i < l.length := by omega
      have hv : S 117 (24 + 13 * k + (5 + i)) = nI l[i] := by rw [← Nat.add_assoc]; exact hf.at hlt
      have hb2 := hb _ (List.getElem_mem hlt)
      rw [hv]
      simp (disch := omega) only [nI_eq]
      have htk : l.take (i + 1) = l.take i ++ [l[i]] := by rw [List.take_succ_eq_append_getElem hlt]
      by_cases hq : l[i] = p
      · rw [if_pos hq]
        refine ih (i + 1) _ (by omega) (by omega) (fun _ => ?_) (fun h => absurd ?_ h)
        · rw [← hq, hnd.idxOf_getElem i hlt]
        · rw [htk, hq]; simp
      · rw [if_neg hq]
        refine ih (i + 1) _ (by omega) (by omega) (fun h => h1 ?_) (fun h => h2 ?_)
        · rw [htk, List.mem_append] at h
          rcases h with h | h
          · exact h
          · exact absurd (List.mem_singleton.mp h).symm hq
        · intro h3; exact h (by rw [htk]; exact List.mem_append_left _ h3)
theorem m_placeOf (hR : RepM (S 117) w) (hI : Winv w) (hk : k < w.1 0 2) (hp : p < 8) : fX9_placeOf (E b S Q g) (b + 116) (nI k) (nI p) = some (if p ∈ w.2 k then nI ((w.2 k).idxOf p) else -nI 1) := by
  unfold fX9_placeOf
  obtain ⟨i1, i2, i3, i4, i5, i6, i7, i8, i9, i10⟩ := hI
  obtain ⟨-, -, -, -, h5, h6⟩ := hR.2.2.2.2 k hk
  simp only [rM, rN]
  exact m_placeOf_loop (w.2 k) (by omega) (Winv.len ⟨i1, i2, i3, i4, i5, i6, i7, i8, i9, i10⟩ k) h5 h6 (i10 k).1 (fun q hq => by have := (i10 k).2 q hq; omega) hp 1000 0 _ (Nat.zero_le _) (by have := Winv.len ⟨i1, i2, i3, i4, i5, i6, i7, i8, i9, i10⟩ k; omega) (fun h => by simp at h) (fun _ => rfl)
theorem m_knows (hR : RepM (S 117) w) (hI : Winv w) (hk : k < w.1 0 2) (hp : p < 8) : fX9_knows (E b S Q g) (b + 116) (nI k) (nI p) = some (if p ∈ w.2 k then nI 1 else nI 0) := by
  unfold fX9_knows
  have hlen := hI.len k
  simp only [rM, rN, bind_sm, m_placeOf hR hI hk hp]
  by_cases h : p ∈ w.2 k
  · have := List.idxOf_lt_length_of_mem h
    simp only [h, if_true]
    rw [if_neg (nI_m1 (by omega))]
  · simp only [h, if_false, if_true]
end RA
