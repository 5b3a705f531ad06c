/-! ===== the reference: heaps, layers ===== -/
section RG
variable {b : Nat} {S : Nat → Nat → Int32} {Q : Nat → Nat → Nat} {g : Hp} {k j p n u : Nat} {x z : Int32} {w : Wo} {T : Tx}
def Lb (S : Nat → Nat → Int32) (L : Nat → Nat) : Prop := ∀ p < 8, S 125 p = nI (L p)
theorem m_hp93 (k23 : Hp → Nat → Int32 → Option Hp) (k35 : Hp → Nat → Int32 → Int32 → Option Hp) (x1 x2 : Int32) (L : Nat → Nat) (hL : ∀ p, L p ≤ p) {a c : Nat} (ha : a < 8) (hc : c < 8) :
    ∀ (m i : Nat) (S1 : Nat → Nat → Int32), i ≤ 8 → 8 - i < m → (∀ p < 8, S1 125 p = nI (if p < i then labM L a c p else L p)) → Off [125] S S1 →
      ∃ S', fX9_findHeaps_93 k23 k35 m (E b S1 Q g) (b + 116) x1 x2 (nI (L a)) (nI (L c)) (nI (min (L a) (L c))) (nI i) = k35 (E b S' Q g) (b + 116) x1 (x2 + nI 1) ∧ Off [125] S S' ∧ Lb S' (labM L a c) := by
  have la := hL a
  have lc := hL c
  intro m
  induction m with
  | zero => intro i _ _ h; omega
  | succ m ih =>
    intro i S1 hi hm hS hO
    rw [fX9_findHeaps_93]
    simp (disch := omega) only [rN, nI_leI]
    by_cases hle : 8 ≤ i
    · rw [if_pos hle]
      exact ⟨S1, rfl, hO, fun p hp => by rw [hS p hp, if_pos (by omega)]⟩
    · rw [if_neg hle]
      have hv := hS i (by omega)
      rw [if_neg (by omega)] at hv
      have li := hL i
      simp (disch := omega) only [rM, bind_sm, hv, nI_eq, nI_add]
      have go : ∀ v : Nat, v = labM L a c i → ∃ S', fX9_findHeaps_93 k23 k35 m (E b (up2 S1 125 i (nI v)) Q g) (b + 116) x1 x2 (nI (L a)) (nI (L c)) (nI (min (L a) (L c))) (nI (i + 1)) = k35 (E b S' Q g) (b + 116) x1 (x2 + nI 1) ∧ Off [125] S S' ∧ Lb S' (labM L a c) := by
        intro v hv2
        refine ih (i + 1) _ (by omega) (by omega) (fun p hp => ?_) (hO.tr (Off.up (by decide)))
        rw [up2_at]
        by_cases hpi : p = i
        · rw [if_pos hpi, if_pos (by omega), hv2, hpi]
        · rw [if_neg hpi, hS p hp]
          by_cases h2 : p < i
          · rw [if_pos h2, if_pos (by omega)]
          · rw [if_neg h2, if_neg (by omega)]
      have e : labM L a c i = if L i = L a ∨ L i = L c then min (L a) (L c) else L i := rfl
      unfold fX9_findHeaps_129
      simp (disch := omega) only [rN, rM, bind_sm, nI_add]
      by_cases h1 : L i = L a
      · rw [if_pos h1]
        exact go _ (by rw [e, if_pos (Or.inl h1)])
      · rw [if_neg h1]
        by_cases h2 : L i = L c
        · rw [if_pos h2]
          exact go _ (by rw [e, if_pos (Or.inr h2)])
        · rw [if_neg h2]
          exact go _ (by rw [e, if_neg (by rintro (q | q); exact h1 q; exact h2 q)])
theorem m_hp35 (hR : RepM (S 117) w) (hI : Winv w) (k23 : Hp → Nat → Int32 → Option Hp) (hk : k < w.1 0 2) :
    ∀ (m i : Nat) (S1 : Nat → Nat → Int32) (L : Nat → Nat), 1 ≤ i ∧ i ≤ 9 → (w.2 k).length - i < m → (∀ p, L p ≤ p) → Lb S1 L → Off [125] S S1 →
      ∃ S', fX9_findHeaps_35 k23 m (E b S1 Q g) (b + 116) (nI k) (nI i) = k23 (E b S' Q g) (b + 116) (nI (k + 1)) ∧ Off [125] S S' ∧ Lb S' (labG ((w.2 k).drop (i - 1)) L) := by
  have hk4 : k < 4 := Nat.lt_of_lt_of_le hk hI.2.2.1
  have hl := hI.len k
  obtain ⟨q1, q2, q3, q4, q5, q6⟩ := hR.2.2.2.2 k hk
  intro m
  induction m with
  | zero => intro i _ _ _ h; omega
  | succ m ih =>
    intro i S1 L ⟨h1, h9⟩ hm hL hS hO
    have e117 : S1 117 = S 117 := hO 117 (by decide)
    rw [fX9_findHeaps_35]
    by_cases hle : (w.2 k).length ≤ i
    · simp (disch := omega) only [rN, rM, bind_sm, m_its, e117, q5, nI_leI]
      rw [if_pos hle]
      refine ⟨S1, by rw [nI_add], hO, ?_⟩
      have : ((w.2 k).drop (i - 1)).length ≤ 1 := by rw [List.length_drop]; omega
      match hd : (w.2 k).drop (i - 1), this with
      | [], _ => exact hS
      | [a], _ => exact hS
    · have hlt : i < (w.2 k).length := by omega
      simp (disch := omega) only [rN, rM, bind_sm, m_its, e117, q5, nI_leI]
      rw [if_neg hle]
      have v1 : S 117 (24 + 13 * k + (5 + i - 1)) = nI (w.2 k)[i - 1] := by
        have := q6.at (i := i - 1) (by omega)
        rw [show 24 + 13 * k + (5 + i - 1) = 24 + 13 * k + 5 + (i - 1) by omega]
        exact this
      have v2 : S 117 (24 + 13 * k + (5 + i)) = nI (w.2 k)[i] := by rw [← Nat.add_assoc]; exact q6.at hlt
      have b1 := hI.lt8 k _ (List.getElem_mem (l := w.2 k) (n := i - 1) (by omega))
      have b2 := hI.lt8 k _ (List.getElem_mem (l := w.2 k) (n := i) hlt)
      simp (disch := omega) only [nI_add, nI_subI, m_its, e117, v1, v2, bind_sm, rM, hS _ b1, hS _ b2]
      have l1 := hL (w.2 k)[i - 1]
      have l2 := hL (w.2 k)[i]
      simp (disch := omega) only [nI_leI]
      have key := m_hp93 (b := b) (S := S) (Q := Q) (g := g) k23 (fX9_findHeaps_35 k23 m) (nI k) (nI i) L hL b1 b2 1000 0 S1 (by omega) (by omega) (fun p hp => by rw [if_neg (by omega)]; exact hS p hp) hO
      obtain ⟨S2, e2, o2, l2'⟩ := key
      obtain ⟨S3, e3, o3, l3⟩ := ih (i + 1) S2 _ ⟨by omega, by omega⟩ (by omega) (labM_le hL) l2' o2
      have hd : (w.2 k).drop (i - 1) = (w.2 k)[i - 1] :: (w.2 k)[i] :: (w.2 k).drop (i + 1) := by
        rw [List.drop_eq_getElem_cons (by omega : i - 1 < (w.2 k).length)]
        congr 1
        rw [show i - 1 + 1 = i by omega, List.drop_eq_getElem_cons hlt]
      have hd2 : (w.2 k).drop (i + 1 - 1) = (w.2 k)[i] :: (w.2 k).drop (i + 1) := by
        rw [show i + 1 - 1 = i by omega, List.drop_eq_getElem_cons hlt]
      rw [hd2] at l3
      refine ⟨S3, ?_, o3, by rw [hd]; exact l3⟩
      rw [← e3, ← nI_add, ← e2]
      by_cases hmin : L (w.2 k)[i] ≤ L (w.2 k)[i - 1]
      · rw [if_pos hmin, Nat.min_eq_right hmin]
      · rw [if_neg hmin, Nat.min_eq_left (by omega)]
theorem m_findHeaps (hR : RepM (S 117) w) (hI : Winv w) : ∃ S', fX9_findHeaps (E b S Q g) (b + 116) = some (E b S' Q g) ∧ Off [125] S S' ∧ Lb S' (labW w) := by
  have hm4 := hI.2.2.1
  have o23 : ∀ (m k : Nat) (S1 : Nat → Nat → Int32), k ≤ w.1 0 2 → w.1 0 2 - k < m → Lb S1 (labN w k) → Off [125] S S1 → ∃ S', fX9_findHeaps_23 m (E b S1 Q g) (b + 116) (nI k) = some (E b S' Q g) ∧ Off [125] S S' ∧ Lb S' (labW w) := by
    intro m
    induction m with
    | zero => intro k _ _ h; omega
    | succ m ih =>
      intro k S1 hk hm hS hO
      have e117 : S1 117 = S 117 := hO 117 (by decide)
      rw [fX9_findHeaps_23]
      simp (disch := omega) only [rN, rM, bind_sm, e117, hR.2.1, nI_leI]
      by_cases hle : w.1 0 2 ≤ k
      · rw [if_pos hle]
        exact ⟨S1, rfl, hO, by rw [show labW w = labN w k by unfold labW; rw [show k = w.1 0 2 by omega]]; exact hS⟩
      · rw [if_neg hle]
        have hl := hI.len k
        obtain ⟨S2, e2, o2, l2⟩ := m_hp35 (b := b) (S := S) (Q := Q) (g := g) hR hI (fX9_findHeaps_23 m) (k := k) (by omega) 1000 1 S1 (labN w k) (by omega) (by omega) (labN_le w k) hS hO
        obtain ⟨S3, e3, o3, l3⟩ := ih (k + 1) S2 (by omega) (by omega) l2 o2
        exact ⟨S3, by rw [e2, e3], o3, l3⟩
  have o2 : ∀ (m i : Nat) (S1 : Nat → Nat → Int32), i ≤ 8 → 8 - i < m → (∀ p < i, S1 125 p = nI p) → Off [125] S S1 → ∃ S', fX9_findHeaps_2 m (E b S1 Q g) (b + 116) (nI i) = some (E b S' Q g) ∧ Off [125] S S' ∧ Lb S' (labW w) := by
    intro m
    induction m with
    | zero => intro k _ _ h; omega
    | succ m ih =>
      intro i S1 hi hm hS hO
      rw [fX9_findHeaps_2]
      simp (disch := omega) only [rN, nI_leI]
      by_cases hle : 8 ≤ i
      · rw [if_pos hle]
        exact o23 1000 0 S1 (Nat.zero_le _) (by omega) (fun p hp => hS p (by omega)) hO
      · rw [if_neg hle]
        simp (disch := omega) only [rM, bind_sm, nI_add]
        refine ih (i + 1) _ (by omega) (by omega) (fun p hp => ?_) (hO.tr (Off.up (by decide)))
        rw [up2_at]
        by_cases hpi : p = i
        · rw [if_pos hpi, hpi]
        · rw [if_neg hpi]; exact hS p (by omega)
  unfold fX9_findHeaps
  simp only [rM, rN]
  exact o2 1000 0 S (by omega) (by omega) (fun p hp => by omega) Off.rf
theorem m_layDown (hn : n < 8) : ∃ S', fX9_layDown (E b S Q g) (b + 116) (nI n) = some (E b S' Q g) ∧ Off [120] S S' ∧ ∀ j, S' 120 j = if 124 * n ≤ j ∧ j < 124 * n + 124 then S 117 (j - 124 * n) else S 120 j := by
  have loop : ∀ (m i : Nat) (S1 : Nat → Nat → Int32), i ≤ 124 → 124 - i < m → (∀ j, S1 120 j = if 124 * n ≤ j ∧ j < 124 * n + i then S 117 (j - 124 * n) else S 120 j) → Off [120] S S1 → ∃ S', fX9_layDown_2 m (E b S1 Q g) (b + 116) (nI n) (nI i) = some (E b S' Q g) ∧ Off [120] S S' ∧ ∀ j, S' 120 j = if 124 * n ≤ j ∧ j < 124 * n + 124 then S 117 (j - 124 * n) else S 120 j := by
    intro m
    induction m with
    | zero => intro k _ _ h; omega
    | succ m ih =>
      intro i S1 hi hm hS hO
      have e117 : S1 117 = S 117 := hO 117 (by decide)
      rw [fX9_layDown_2]
      simp (disch := omega) only [rN, nI_leI]
      by_cases hle : 124 ≤ i
      · rw [if_pos hle]
        exact ⟨S1, rfl, hO, fun j => by rw [hS j, show i = 124 by omega]⟩
      · rw [if_neg hle]
        simp (disch := omega) only [rM, bind_sm, nI_add, pk_mul, e117]
        refine ih (i + 1) _ (by omega) (by omega) (fun j => ?_) (hO.tr (Off.up (by decide)))
        rw [up2_at]
        by_cases hj : j = 124 * n + i
        · rw [if_pos hj, if_pos (by omega), show j - 124 * n = i by omega]
        · rw [if_neg hj, hS j]
          by_cases h2 : 124 * n ≤ j ∧ j < 124 * n + i
          · rw [if_pos h2, if_pos (by omega)]
          · rw [if_neg h2, if_neg (by omega)]
  unfold fX9_layDown
  simp only [rM, rN]
  exact loop 1000 0 S (by omega) (by omega) (fun j => by rw [if_neg (by omega)]) Off.rf
theorem m_layBack (hn : n < 8) : ∃ S', fX9_layBack (E b S Q g) (b + 116) (nI n) = some (E b S' Q g) ∧ Off [117] S S' ∧ ∀ j, S' 117 j = if j < 124 then S 120 (124 * n + j) else S 117 j := by
  have loop : ∀ (m i : Nat) (S1 : Nat → Nat → Int32), i ≤ 124 → 124 - i < m → (∀ j, S1 117 j = if j < i then S 120 (124 * n + j) else S 117 j) → Off [117] S S1 → ∃ S', fX9_layBack_2 m (E b S1 Q g) (b + 116) (nI n) (nI i) = some (E b S' Q g) ∧ Off [117] S S' ∧ ∀ j, S' 117 j = if j < 124 then S 120 (124 * n + j) else S 117 j := by
    intro m
    induction m with
    | zero => intro k _ _ h; omega
    | succ m ih =>
      intro i S1 hi hm hS hO
      have e120 : S1 120 = S 120 := hO 120 (by decide)
      rw [fX9_layBack_2]
      simp (disch := omega) only [rN, nI_leI]
      by_cases hle : 124 ≤ i
      · rw [if_pos hle]
        exact ⟨S1, rfl, hO, fun j => by rw [hS j, show i = 124 by omega]⟩
      · rw [if_neg hle]
        simp (disch := omega) only [rM, bind_sm, nI_add, pk_mul, e120]
        refine ih (i + 1) _ (by omega) (by omega) (fun j => ?_) (hO.tr (Off.up (by decide)))
        rw [up2_at]
        by_cases hj : j = i
        · rw [if_pos hj, if_pos (by omega), hj]
        · rw [if_neg hj, hS j]
          by_cases h2 : j < i
          · rw [if_pos h2, if_pos (by omega)]
          · rw [if_neg h2, if_neg (by omega)]
  unfold fX9_layBack
  simp only [rM, rN]
  exact loop 1000 0 S (by omega) (by omega) (fun j => by rw [if_neg (by omega)]) Off.rf
end RG
