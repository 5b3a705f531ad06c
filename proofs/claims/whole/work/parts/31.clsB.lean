/-! ===== the class: a world's reads, minds, faces ===== -/
/-- only a world's own rows have changed -/
def OffW (c : Nat) (S S' : Nat → Nat → Int32) : Prop := ∀ r, (r < c ∨ c + 9 ≤ r) → S' r = S r
theorem OffW.rf {c : Nat} {S : Nat → Nat → Int32} : OffW c S S := fun _ _ => rfl
theorem OffW.tr {c : Nat} {S S' S'' : Nat → Nat → Int32} (h : OffW c S S') (h' : OffW c S' S'') : OffW c S S'' := fun r hr => (h' r hr).trans (h r hr)
theorem OffW.up {c r i : Nat} {S : Nat → Nat → Int32} {x : Int32} (h : c ≤ r) (h' : r < c + 9) : OffW c S (up2 S r i x) := fun q hq => up2_row (by omega)
theorem imin_nI {a n : Nat} (ha : a < 2 ^ 31) (hn : n < 2 ^ 31) : imin (nI a) (nI n) = nI (min a n) := by
  unfold imin
  by_cases h : n < a
  · rw [if_pos ((nI_ltI hn ha).mpr h), Nat.min_eq_right (by omega)]
  · rw [if_neg (fun q => h ((nI_ltI hn ha).mp q)), Nat.min_eq_left (by omega)]
theorem c_heldP (v : Int32) (n : Nat) (hn : n < 2 ^ 31) : fX8_held v (nI n) = some (nI (heldP v n)) := by
  unfold fX8_held heldP imax imin
  by_cases h1 : nI n < v
  · have h0 : ¬ v < 0 := fun q => by
      have := (i32_le_iff (nI 0) (nI n)).mp ((nI_leI (by omega) hn).mpr (Nat.zero_le _))
      rw [Int32.lt_iff_toInt_lt] at h1 q this
      rw [nI_toInt hn, nI_toInt (by omega)] at this
      rw [nI_toInt hn] at h1
      have : (0 : Int32).toInt = 0 := rfl
      omega
    simp only [if_pos h1]
    rw [if_neg h0]
    by_cases hz : (0 : Int32) < nI n
    · rw [if_pos hz]
    · rw [if_neg hz]
      have : n = 0 := by
        by_cases hn0 : n = 0
        · exact hn0
        · exact absurd ((nI_ltI (a := 0) (by omega) hn).mpr (by omega)) (by rw [nI_0]; exact hz)
      rw [this]; rfl
  · simp only [if_neg h1]
    by_cases h0 : v < 0
    · have : ¬ (0 : Int32) < v := fun q => by rw [Int32.lt_iff_toInt_lt] at h0 q; omega
      rw [if_neg this, if_pos h0]; rfl
    · rw [if_neg h0, nI_heldP v n h0 h1]
      by_cases hz : (0 : Int32) < v
      · rw [if_pos hz]
      · rw [if_neg hz]
        congr 1
        apply Int32.toInt_inj.mp
        rw [Int32.lt_iff_toInt_lt] at h0 hz
        omega
theorem c_heldN (a n : Nat) (ha : a < 2 ^ 31) (hn : n < 2 ^ 31) : fX8_held (nI a) (nI n) = some (nI (min a n)) := by
  rw [c_heldP _ n hn]
  unfold heldP
  rw [if_neg (nI_pos ha)]
  by_cases h : n < a
  · rw [if_pos ((nI_ltI hn ha).mpr h), Nat.min_eq_right (by omega)]
  · rw [if_neg (fun q => h ((nI_ltI hn ha).mp q)), nI_clamp ha, Nat.min_eq_left (by omega)]
theorem up2_at {α : Type} {S : Nat → Nat → α} {c i j : Nat} {x : α} : up2 S c i x c j = if j = i then x else S c j := by
  unfold up2
  simp
theorem up2_ne {α : Type} {S : Nat → Nat → α} {c i r j : Nat} {x : α} (h : r ≠ c) : up2 S c i x r j = S r j := by
  unfold up2
  rw [if_neg (fun q => h q.1)]
section CB
variable {b : Nat} {S : Nat → Nat → Int32} {Q : Nat → Nat → Nat} {g h : Hp} {k j p n u c : Nat} {x y z v : Int32} {w : Wo} {T : Tx} {K : Nat → Nat}
theorem c_keeps (hc : isW c) (hm : S (c + 4) k = nI (w.1 4 k)) (hkd : S (c + 3) k = nI (w.1 3 k)) (ht : S c 0 = nI (w.1 0 0)) (hpp : S c 1 = nI (w.1 0 1)) (hI : Winv w) (hk : k < 4) (hq : LawQ K b g (Q c 11) (T 0)) (hok : ∀ u, txOk (T u)) : ∃ g', fX7_keeps (E b S Q g) (b + c) (nI k) = some (nI (keepsP T w k), E b S Q g') ∧ Lkg K g g' := by
  obtain ⟨i1, i2, i3, i4, i5, i6, i7, i8, i9, i10⟩ := hI
  have a6 := i6 k
  have a7 := i7 k
  unfold fX7_keeps
  simp (disch := omega) only [rW hc, rN, bind_sm, hm, hkd, nI_eq, nI_add]
  unfold keepsP
  by_cases h1 : w.1 3 k = 1
  · simp (disch := omega) only [if_pos h1, c_heldN, bind_sm]
    exact ⟨g, rfl, Lkg.rf⟩
  · by_cases h3 : w.1 3 k = 3
    · simp (disch := omega) only [if_neg h1, if_pos h3, c_heldN, bind_sm]
      exact ⟨g, rfl, Lkg.rf⟩
    · by_cases h4 : w.1 3 k = 4
      · simp (disch := omega) only [if_neg h1, if_neg h3, if_pos h4, nI_subI, c_heldN, bind_sm]
        exact ⟨g, by rw [show 3 + w.1 4 k - 1 = 2 + w.1 4 k by omega], Lkg.rf⟩
      · by_cases h6 : w.1 3 k = 6
        · have e1 := c_isTold (b := b) (S := S) (Q := Q) hq (hok 0).1
          unfold fX7_keeps_103
          simp (disch := omega) only [if_neg h1, if_neg h3, if_neg h4, if_pos h6, e1, bind_sm]
          by_cases hT0 : T 0 = []
          · simp (disch := omega) only [hT0, if_true, rN, c_heldN, bind_sm]
            exact ⟨g, rfl, Lkg.rf⟩
          · simp only [hT0, if_false]
            rw [if_neg (by decide)]
            obtain ⟨g', e2, l2⟩ := c_value (b := b) (S := S) (Q := Q) (x := nI (w.1 4 k)) (y := nI (w.1 0 0)) (z := nI (w.1 0 1)) hq hT0 (hok 0)
            rw [ht, hpp, e2, bind_sm]
            simp only [rN, c_heldP _ 8 (show 8 < 2 ^ 31 by decide), bind_sm]
            exact ⟨g', by rw [Nat.min_eq_left (heldP_le _ 8 (by decide))], l2⟩
        · simp (disch := omega) only [if_neg h1, if_neg h3, if_neg h4, if_neg h6, c_heldN, bind_sm]
          exact ⟨g, rfl, Lkg.rf⟩
theorem c_fare (hc : isW c) (hm : S (c + 4) k = nI (w.1 4 k)) (hkd : S (c + 3) k = nI (w.1 3 k)) (hbk : S (c + 5) k = nI (w.1 5 k)) (hkn : S (c + 7) k = nI (w.2 k).length) (hI : Winv w) (hk : k < 4) (hq : LawQ K b g (Q c 12) (T 1)) (hok : ∀ u, txOk (T u)) : ∃ g', fX7_fare (E b S Q g) (b + c) (nI k) = some (nI (fareP T w k), E b S Q g') ∧ Lkg K g g' := by
  have hlen := hI.len k
  obtain ⟨i1, i2, i3, i4, i5, i6, i7, i8, i9, i10⟩ := hI
  have a6 := i6 k
  have a7 := i7 k
  have hdv : dvz (nI (2 + w.1 4 k)) (nI 2) = some (nI ((2 + w.1 4 k) / 2)) := by
    unfold dvz
    rw [if_neg (by decide), pk_div (by omega) (by decide) (by decide)]
  unfold fX7_fare fX7_fare_113
  simp (maxSteps := 2000000) (disch := omega) only [rW hc, rN, bind_sm, hm, hkd, hkn, nI_eq, nI_add, hdv]
  unfold fareP
  by_cases h2 : w.1 3 k = 2
  · simp (disch := omega) only [if_pos h2, if_pos (Or.inl h2 : w.1 3 k = 2 ∨ w.1 3 k = 5), c_heldN, bind_sm]
    exact ⟨g, rfl, Lkg.rf⟩
  · by_cases h3 : w.1 3 k = 3
    · have h5 : ¬ (w.1 3 k = 2 ∨ w.1 3 k = 5) := by omega
      simp (disch := omega) only [if_neg h2, if_neg h5, if_pos h3, c_heldN, bind_sm]
      exact ⟨g, rfl, Lkg.rf⟩
    · by_cases h4 : w.1 3 k = 4
      · have h5 : ¬ (w.1 3 k = 2 ∨ w.1 3 k = 5) := by omega
        simp (disch := omega) only [if_neg h2, if_neg h5, if_neg h3, if_pos h4, c_heldN, bind_sm]
        exact ⟨g, rfl, Lkg.rf⟩
      · by_cases h5 : w.1 3 k = 5
        · simp (disch := omega) only [if_neg h2, if_neg h3, if_neg h4, if_pos h5, if_pos (Or.inr h5 : w.1 3 k = 2 ∨ w.1 3 k = 5), c_heldN, bind_sm]
          exact ⟨g, rfl, Lkg.rf⟩
        · have h25 : ¬ (w.1 3 k = 2 ∨ w.1 3 k = 5) := by omega
          by_cases h6 : w.1 3 k = 6
          · have e1 := c_isTold (b := b) (S := S) (Q := Q) hq (hok 1).1
            simp (disch := omega) only [if_neg h2, if_neg h25, if_neg h3, if_neg h4, if_neg h5, if_pos h6, e1, bind_sm]
            by_cases hT0 : T 1 = []
            · simp (disch := omega) only [hT0, if_true, rN, nI_add, c_heldN, bind_sm]
              exact ⟨g, rfl, Lkg.rf⟩
            · simp only [hT0, if_false]
              rw [if_neg (by decide)]
              obtain ⟨g', e2, l2⟩ := c_value (b := b) (S := S) (Q := Q) (x := nI (w.1 4 k)) (y := nI (w.2 k).length) (z := nI (w.1 5 k)) hq hT0 (hok 1)
              rw [hbk, e2, bind_sm]
              simp only [rN, c_heldP _ 99 (show 99 < 2 ^ 31 by decide), bind_sm]
              exact ⟨g', by rw [Nat.min_eq_left (heldP_le _ 99 (by decide))], l2⟩
          · simp (disch := omega) only [if_neg h2, if_neg h25, if_neg h3, if_neg h4, if_neg h5, if_neg h6, c_heldN, bind_sm]
            exact ⟨g, rfl, Lkg.rf⟩
/-- the place of a face: the first that fits -/
theorem c_placeOf_loop (hc : isW c) (l : List Nat) (hk : k < 4) (hl : l.length ≤ 8) (hn : S (c + 7) k = nI l.length) (hf : rowIs (S (c + 8)) (8 * k) l) (hb : ∀ q ∈ l, q < 8) (hp : p < 8) :
    ∀ (m i : Nat), i ≤ l.length → l.length - i < m → p ∉ l.take i → fX7_placeOf_2 (E b S Q g) m (b + c) (nI k) (nI p) (nI i) = some (if p ∈ l then nI (l.idxOf p) else -nI 1) := by
  intro m
  induction m with
  | zero => intro i _ h; omega
  | succ m ih =>
    intro i hi hm h2
    rw [fX7_placeOf_2]
    simp (disch := omega) only [rW hc, rN, bind_sm, hn, nI_leI, nI_add, pk_mul]
    by_cases hle : l.length ≤ i
    · rw [if_pos hle, if_neg]
      have hi2 : i = l.length := by omega
      rw [hi2, List.take_length] at h2
      exact h2
    · rw [if_neg hle]
      have hlt : i < l.length := by omega
      have hv : S (c + 8) (k * 8 + i) = nI l[i] := by rw [Nat.mul_comm]; exact hf.at hlt
      have hb2 := hb _ (List.getElem_mem hlt)
      simp (disch := omega) only [hv, nI_eq]
      have htk : l.take (i + 1) = l.take i ++ [l[i]] := by rw [List.take_succ_eq_append_getElem hlt]
      by_cases hq : l[i] = p
      · rw [if_pos hq]
        have hmem : p ∈ l := by rw [← hq]; exact List.getElem_mem hlt
        rw [if_pos hmem]
        have hidx : l.idxOf p = i := by
          have e : l = l.take i ++ l.drop i := (List.take_append_drop i l).symm
          have e2 : l.drop i = l[i] :: l.drop (i + 1) := List.drop_eq_getElem_cons hlt
          have e3 : l.idxOf p = (l.take i ++ l.drop i).idxOf p := by rw [← e]
          rw [e3, List.idxOf_append, if_neg h2, e2, hq, List.idxOf_cons_self, List.length_take, Nat.min_eq_left (by omega)]
          omega
        rw [hidx]
      · rw [if_neg hq]
        refine ih (i + 1) (by omega) (by omega) (fun h => ?_)
        rw [htk, List.mem_append] at h
        rcases h with h | h
        · exact h2 h
        · exact hq (List.mem_singleton.mp h).symm
theorem c_placeOf (hc : isW c) (hR : RepW S c w) (hI : Winv w) (hk : k < w.1 0 2) (hp : p < 8) : fX7_placeOf (E b S Q g) (b + c) (nI k) (nI p) = some (if p ∈ w.2 k then nI ((w.2 k).idxOf p) else -nI 1) := by
  obtain ⟨-, -, -, -, h5, h6⟩ := hR.2.2.2.2 k hk
  have hk4 : k < 4 := Nat.lt_of_lt_of_le hk hI.2.2.1
  have hlen := hI.len k
  unfold fX7_placeOf
  simp only [rW hc, rN]
  exact c_placeOf_loop hc (w.2 k) hk4 hlen h5 h6 (fun q hq => Nat.lt_of_lt_of_le ((hI.2.2.2.2.2.2.2.2.2 k).2 q hq) hI.2.1) hp 1000 0 (Nat.zero_le _) (by omega) (by simp)
theorem c_knows (hc : isW c) (hR : RepW S c w) (hI : Winv w) (hk : k < w.1 0 2) (hp : p < 8) : fX7_knows (E b S Q g) (b + c) (nI k) (nI p) = some (if p ∈ w.2 k then nI 1 else nI 0) := by
  unfold fX7_knows
  have hlen := hI.len k
  simp only [rW hc, rN, bind_sm, c_placeOf hc hR hI hk hp]
  by_cases h : p ∈ w.2 k
  · have := List.idxOf_lt_length_of_mem h
    simp only [h, if_true]
    rw [if_neg (fun q => absurd ((nI_ltI (by omega) (by omega)).mp q) (by omega))]
  · simp only [h, if_false]
    rw [if_pos nI_0m1]
theorem RepW.mind {S' : Nat → Nat → Int32} {l : List Nat} (hR : RepW S c w) (hI : Winv w) (hk : k < w.1 0 2) (h0 : ∀ r, r < c + 7 → S' r = S r) (h7 : ∀ j, j ≠ k → S' (c + 7) j = S (c + 7) j) (h8 : ∀ j, j < 8 * k ∨ 8 * k + 8 ≤ j → S' (c + 8) j = S (c + 8) j) (e7 : S' (c + 7) k = nI l.length) (e8 : rowIs (S' (c + 8)) (8 * k) l) : RepW S' c (setMind w k l) := by
  obtain ⟨r1, r2, r3, r4, r5⟩ := hR
  refine ⟨by rw [h0 _ (by omega)]; exact r1, by rw [h0 _ (by omega)]; exact r2, by rw [h0 _ (by omega)]; exact r3, fun p hp => by rw [h0 _ (by omega), h0 _ (by omega)]; exact r4 p hp, fun i hi => ?_⟩
  obtain ⟨q1, q2, q3, q4, q5, q6⟩ := r5 i hi
  refine ⟨by rw [h0 _ (by omega)]; exact q1, by rw [h0 _ (by omega)]; exact q2, by rw [h0 _ (by omega)]; exact q3, by rw [h0 _ (by omega)]; exact q4, ?_, ?_⟩
  · by_cases hik : i = k
    · subst hik; simp only [setMind, if_true]; exact e7
    · simp only [setMind, if_neg hik]; rw [h7 _ hik]; exact q5
  · by_cases hik : i = k
    · subst hik; simp only [setMind, if_true]; exact e8
    · simp only [setMind, if_neg hik]
      intro j v hj
      have h1 := (List.getElem?_eq_some_iff.mp hj).1
      have h2 := hI.len i
      rw [h8 _ (by omega)]
      exact q6 j v hj
end CB
