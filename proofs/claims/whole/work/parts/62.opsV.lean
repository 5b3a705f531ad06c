/-! ===== sheets: judge, sheet, put ===== -/
section OV
variable {b : Nat} {S S' S1 S2 S3 S5 S6 : Nat → Nat → Int32} {Q Q' Q1 : Nat → Nat → Nat} {g g' g1 h : Hp} {f k j p q n u c c0 c1 lo hi i e m : Nat} {x y z v r : Int32} {w : Wo} {T : Tx} {K K2 : Nat → Nat} {a a' : Fs} {s s' s0 : Nat → Int32} {t : Dt} {l : List Nat}

theorem put8 (x : Int32) : (x <<< ((nI 32 - nI 8) &&& nI 31)) >>> ((nI 32 - nI 8) &&& nI 31) = x.toInt8.toInt32 := by
  rw [show (nI 32 - nI 8) &&& nI 31 = (24 : Int32) by decide]
  apply Int32.toBitVec_inj.mp
  show BitVec.sshiftRight (x.toBitVec <<< 24) 24 = BitVec.signExtend 32 (BitVec.signExtend 8 x.toBitVec)
  apply BitVec.eq_of_getLsbD_eq
  intro i hi
  rw [BitVec.getLsbD_sshiftRight, BitVec.getLsbD_signExtend]
  by_cases h : i < 8
  · rw [if_pos (show 24 + i < 32 by omega), if_pos h, BitVec.getLsbD_shiftLeft, BitVec.getLsbD_signExtend, if_pos hi, Nat.add_sub_cancel_left]
    simp [h, hi, show ¬ 32 ≤ i by omega]
    try omega
  · rw [if_neg (show ¬ 24 + i < 32 by omega), if_neg h, BitVec.msb_eq_getLsbD_last, BitVec.msb_eq_getLsbD_last, BitVec.getLsbD_shiftLeft, BitVec.getLsbD_signExtend]
    simp [hi, show ¬ 32 ≤ i by omega]
theorem put16 (x : Int32) : (x <<< ((nI 32 - nI 16) &&& nI 31)) >>> ((nI 32 - nI 16) &&& nI 31) = x.toInt16.toInt32 := by
  rw [show (nI 32 - nI 16) &&& nI 31 = (16 : Int32) by decide]
  apply Int32.toBitVec_inj.mp
  show BitVec.sshiftRight (x.toBitVec <<< 16) 16 = BitVec.signExtend 32 (BitVec.signExtend 16 x.toBitVec)
  apply BitVec.eq_of_getLsbD_eq
  intro i hi
  rw [BitVec.getLsbD_sshiftRight, BitVec.getLsbD_signExtend]
  by_cases h : i < 16
  · rw [if_pos (show 16 + i < 32 by omega), if_pos h, BitVec.getLsbD_shiftLeft, BitVec.getLsbD_signExtend, if_pos hi, Nat.add_sub_cancel_left]
    simp [h, hi, show ¬ 32 ≤ i by omega]
    try omega
  · rw [if_neg (show ¬ 16 + i < 32 by omega), if_neg h, BitVec.msb_eq_getLsbD_last, BitVec.msb_eq_getLsbD_last, BitVec.getLsbD_shiftLeft, BitVec.getLsbD_signExtend]
    simp [hi, show ¬ 32 ≤ i by omega]
theorem put32 (x : Int32) : (x <<< ((nI 32 - nI 32) &&& nI 31)) >>> ((nI 32 - nI 32) &&& nI 31) = x := by
  rw [show (nI 32 - nI 32) &&& nI 31 = (0 : Int32) by decide]
  apply Int32.toBitVec_inj.mp
  show BitVec.sshiftRight (x.toBitVec <<< 0) 0 = x.toBitVec
  simp
theorem lay_sheet (hk : k < 4) : lay[109 + k]? = some (.inr (.inl 24)) := by
  have : k = 0 ∨ k = 1 ∨ k = 2 ∨ k = 3 := by omega
  rcases this with rfl | rfl | rfl | rfl <;> rfl
theorem c_sheetR (hk : k < 4) : rdR (E b S Q g) (b + 108) (nI k) = some (b + (109 + k)) := by
  have : k = 0 ∨ k = 1 ∨ k = 2 ∨ k = 3 := by omega
  rcases this with rfl | rfl | rfl | rfl <;> simp only [rV]
theorem c_isOne1 (hj : j < 4) : fX4_isOne (E b S Q g) (b + 105) (nI j) = some (nI 1) := by
  unfold fX4_isOne
  simp (disch := omega) only [rV, rN, nI_ltI, nI_leI]
  rw [if_neg (by omega), if_neg (by omega)]
theorem c_isOne0 (hx : ¬ isN x 4) : fX4_isOne (E b S Q g) (b + 105) x = some (nI 0) := by
  unfold fX4_isOne
  simp (disch := omega) only [rV, rN]
  rcases notN hx (by decide) with h | ⟨h, h2, -⟩
  · rw [if_pos h]
  · rw [if_neg h, if_pos h2]
theorem m_isSheet1 (hj : j < 4) : fX9_isSheet (nI j) = some (nI 1) := by
  unfold fX9_isSheet
  simp (disch := omega) only [rN, m_in1, bind_sm, bz1]
theorem m_isSheet0 (hx : ¬ isN x 4) : fX9_isSheet x = some (nI 0) := by
  unfold fX9_isSheet
  simp (disch := omega) only [rN, m_in0 (hi := 3) hx, bind_sm, bz0]
theorem c_isMissing (hk : k < 4) (hd : S 106 k = nI n) (hn : n < 2 ^ 31) : fX4_isMissing (E b S Q g) (b + 105) (nI k) = some (if n = 0 then nI 1 else nI 0) := by
  unfold fX4_isMissing
  simp (disch := omega) only [rV, rN, bind_sm, hd, nI_eq]
  split <;> rfl
theorem isWd.lt (h : isWd n) : n ≤ 32 := by unfold isWd at h; omega
theorem m_lacks (hk : k < 4) (hd : S 129 k = nI n) (hn : n < 2 ^ 31) : fX9_lacks (E b S Q g) (b + 116) (nI k) = some (if n = 0 then nI 2 else nI 0) := by
  unfold fX9_lacks
  simp (disch := omega) only [rM, rN, bind_sm, m_isSheet1, Nat.one_ne_zero, if_false, hd, nI_eq]
  split <;> rfl
theorem m_lacks0 (hx : ¬ isN x 4) : fX9_lacks (E b S Q g) (b + 116) x = some (nI 1) := by
  unfold fX9_lacks
  rw [(rM b S Q g).1, m_isSheet0 hx, bind_sm, if_pos (by decide)]
  rfl
theorem judge_both (hR : RepW S 12 w) (hM : RepM (S 117) w) (hI : Winv w) (hk : k < w.1 0 2) (hj : j < 4) (hn : n ≤ 24) (h130 : S 130 j = nI n) (hS : ∀ i < 24, S (109 + j) i = S 131 (24 * j + i)) : ∀ (d i : Nat), i + d = min n (w.2 k).length → ∃ v, (∀ m, d < m → fX8_judge_83 m (E b S Q g) b (nI j) (nI k) (nI n) (nI (w.2 k).length) (nI (min n (w.2 k).length)) (nI i) = some (v, E b S Q g)) ∧ ∀ m, d < m → fX9_judge_31 m (E b S Q g) (b + 116) (nI j) (nI k) (nI i) = some (v, E b S Q g) := by
  have hlen := hI.len k
  have hk4 : k < 4 := Nat.lt_of_lt_of_le hk hI.2.2.1
  obtain ⟨-, -, -, -, p5, p6⟩ := hM.2.2.2.2 k hk
  intro d
  induction d with
  | zero =>
    intro i hi
    refine ⟨if n = (w.2 k).length then -nI 1 else nI i, fun m hm => ?_, fun m hm => ?_⟩
    · obtain ⟨m, rfl⟩ : ∃ m', m = m' + 1 := ⟨m - 1, by omega⟩
      rw [fX8_judge_83, if_pos ((nI_leI (by omega) (by omega)).mpr (by omega))]
      simp (disch := omega) only [nI_eq, rN]
      by_cases h0 : n = (w.2 k).length
      · rw [if_pos h0, if_pos h0]
      · rw [if_neg h0, if_neg h0, show min n (w.2 k).length = i by omega]
    · obtain ⟨m, rfl⟩ : ∃ m', m = m' + 1 := ⟨m - 1, by omega⟩
      have h83 : fX9_judge_83 (E b S Q g) (b + 116) (nI j) (nI k) (nI i) = some (if n = (w.2 k).length then -nI 1 else nI i, E b S Q g) := by
        unfold fX9_judge_83
        simp (disch := omega) only [rM, rN, bind_sm, h130, nI_eq, m_its, p5]
        by_cases h0 : n = (w.2 k).length
        · rw [if_pos (by omega), if_pos (by omega), if_pos h0]
        · rw [if_neg h0]
          split
          · rw [if_neg (by omega)]
          · rfl
      rw [fX9_judge_31, h83]
      simp (disch := omega) only [rM, rN, bind_sm, h130, nI_leI, m_its, p5]
      by_cases h1 : n ≤ i
      · rw [if_pos h1]
      · rw [if_neg h1, if_pos (by omega)]
  | succ d ih =>
    intro i hi
    have hil : i < (w.2 k).length := by omega
    have hin : i < n := by omega
    have cf : fX7_face (E b S Q g) (b + 12) (nI k) (nI i) = some (nI (w.2 k)[i]) := by
      rw [c_face w12 hR hI hk (by omega), List.getElem?_eq_getElem hil]
    have cr : rdI (E b S Q g) (b + (109 + j)) (nI i) = some (S (109 + j) i) := E_rdI (lay_sheet hj) (by omega) (by decide)
    have mf : S 117 (24 + 13 * k + (5 + i)) = nI (w.2 k)[i] := by rw [← Nat.add_assoc]; exact p6.at hil
    have cst : ∀ m, fX8_judge_83 (m + 1) (E b S Q g) b (nI j) (nI k) (nI n) (nI (w.2 k).length) (nI (min n (w.2 k).length)) (nI i) = if S (109 + j) i = nI (w.2 k)[i] then fX8_judge_83 m (E b S Q g) b (nI j) (nI k) (nI n) (nI (w.2 k).length) (nI (min n (w.2 k).length)) (nI (i + 1)) else some (nI i, E b S Q g) := by
      intro m
      rw [fX8_judge_83, if_neg (fun q => absurd ((nI_leI (by omega) (by omega)).mp q) (by omega))]
      simp (disch := omega) only [rO, rF, rV, rN, bind_sm, c_sheetR hj, cr, cf, nI_add]
    have mst : ∀ m, fX9_judge_31 (m + 1) (E b S Q g) (b + 116) (nI j) (nI k) (nI i) = if S (109 + j) i = nI (w.2 k)[i] then fX9_judge_31 m (E b S Q g) (b + 116) (nI j) (nI k) (nI (i + 1)) else some (nI i, E b S Q g) := by
      intro m
      have h83 : fX9_judge_83 (E b S Q g) (b + 116) (nI j) (nI k) (nI i) = some (nI i, E b S Q g) := by
        unfold fX9_judge_83
        simp (disch := omega) only [rM, rN, bind_sm, h130, nI_eq]
        rw [if_neg (by omega)]
      rw [fX9_judge_31, h83]
      simp (disch := omega) only [rM, rN, bind_sm, h130, nI_leI, m_its, p5, pk_mul, nI_add, mf]
      rw [if_neg (by omega), if_neg (by omega), hS i (by omega)]
    by_cases hq : S (109 + j) i = nI (w.2 k)[i]
    · obtain ⟨v, vC, vM⟩ := ih (i + 1) (by omega)
      refine ⟨v, fun m hm => ?_, fun m hm => ?_⟩
      · obtain ⟨m, rfl⟩ : ∃ m', m = m' + 1 := ⟨m - 1, by omega⟩
        rw [cst, if_pos hq]
        exact vC m (by omega)
      · obtain ⟨m, rfl⟩ : ∃ m', m = m' + 1 := ⟨m - 1, by omega⟩
        rw [mst, if_pos hq]
        exact vM m (by omega)
    · refine ⟨nI i, fun m hm => ?_, fun m hm => ?_⟩
      · obtain ⟨m, rfl⟩ : ∃ m', m = m' + 1 := ⟨m - 1, by omega⟩
        rw [cst, if_neg hq]
      · obtain ⟨m, rfl⟩ : ∃ m', m = m' + 1 := ⟨m - 1, by omega⟩
        rw [mst, if_neg hq]
theorem op_judge (h : Sim b K S Q g) : Both b S Q g (fun h => fX8_judge h b x y) (fun h => fX9_judge h (b + 116) x y) := by
  obtain ⟨⟨a, hI, hC, hM⟩, -, -, -, hS, hg⟩ := id h
  have c1 : RepW S 12 (fW a) := hC.1
  have m1 := hM.1
  have i1 := hI.1
  have i3 := i1.2.2.1
  have n117 : ∀ S1 : Nat → Nat → Int32, (∀ r, r ≠ 115 → S1 r = S r) → S1 117 = S 117 := fun S1 hS => hS _ (by decide)
  rcases isN_or x 4 with ⟨j, hj, rfl⟩ | hx
  · obtain ⟨⟨d, hd, d1, d2⟩, ⟨n, hn, n1, n2⟩, hrow⟩ := hS j hj
    have hd32 := hd.lt
    rcases isN_or y ((fW a).1 0 2) with ⟨k, hk, rfl⟩ | hy
    · by_cases h0 : d = 0
      · refine Both.err h 2 (by decide) ?_ (fun S1 hS => ?_)
        · unfold fX8_judge
          simp (disch := omega) only [rO, rF, rN, bind_sm, c_isOne1, c_hasMan1 w12 c1.2.2.1, z10, if_false, c_isMissing hj d1 (show d < 2 ^ 31 by omega), h0, if_true]
        · have e129 : S1 129 j = nI 0 := by rw [hS _ (by decide), d2, h0]
          unfold fX9_judge fX9_judge_17
          simp (disch := omega) only [rM, rN, bind_sm, m_isMan1 (S := S1) (by rw [n117 S1 hS]; exact m1.2.1), z10, if_false, m_lacks hj e129 (by decide), if_true]
          rw [if_neg (by decide)]
      · obtain ⟨v, vC, vM⟩ := judge_both (b := b) (Q := Q) (g := g) c1 m1 i1 hk hj hn n2 hrow _ 0 (Nat.zero_add _)
        have hlen := i1.len k
        refine Both.rd h (r := v) ?_ ?_
        · have q5 : S (12 + 7) k = nI ((fW a).2 k).length := (c1.2.2.2.2 k hk).2.2.2.2.1
          have := vC 1000 (by omega)
          unfold fX8_judge
          simp (disch := omega) only [rO, rF, rV, rW w12, rN, bind_sm, c_isOne1, c_hasMan1 w12 c1.2.2.1, z10, if_false, c_isMissing hj d1 (show d < 2 ^ 31 by omega), h0, if_true, n1, q5, imin_nI]
          exact this
        · have := vM 1000 (by omega)
          unfold fX9_judge fX9_judge_17
          simp (disch := omega) only [rM, rN, bind_sm, m_isMan1 (S := S) m1.2.1, z10, if_false, m_lacks hj d2 (show d < 2 ^ 31 by omega), h0]
          rw [if_pos (by decide)]
          exact this
    · refine Both.err h 1 (by decide) ?_ (fun S1 hS => ?_)
      · unfold fX8_judge
        simp (disch := omega) only [rO, rF, rN, bind_sm, c_isOne1, c_hasMan0 w12 c1.2.2.1 (by omega) hy, z10, if_false, if_true]
      · unfold fX9_judge fX9_judge_17
        simp (disch := omega) only [rM, rN, bind_sm, m_isMan0 (S := S1) (by rw [n117 S1 hS]; exact m1.2.1) (by omega) hy, if_true]
        rw [if_neg (by decide)]
  · refine Both.err h 1 (by decide) ?_ (fun S1 hS => ?_)
    · unfold fX8_judge
      simp (disch := omega) only [rO, rN, bind_sm, c_isOne0 hx, if_true]
    · have e1 := n117 S1 hS
      unfold fX9_judge fX9_judge_17
      rcases isN_or y ((fW a).1 0 2) with ⟨k, hk, rfl⟩ | hy
      · simp (disch := omega) only [rM, rN, bind_sm, m_isMan1 (S := S1) (by rw [e1]; exact m1.2.1), z10, if_false, m_lacks0 hx]
        rw [if_neg (by decide)]
      · simp (disch := omega) only [rM, rN, bind_sm, m_isMan0 (S := S1) (by rw [e1]; exact m1.2.1) (by omega) hy, if_true]
        rw [if_neg (by decide)]
/-- only sheets change -/
theorem Sim.sh (h : Sim b K S Q g) (ne : ∀ r, (r < 106 ∨ 113 ≤ r) → (r < 129 ∨ 132 ≤ r) → r ≠ 132 → S2 r = S r) (hs : SimS S2) : Sim b K S2 Q g := by
  obtain ⟨h1, ⟨h2, h3⟩, h4, h5, h6, h7⟩ := h
  refine ⟨h1.fr (fun m hm => ne _ (by omega) (by omega) (by omega)) (ne _ (by omega) (by omega) (by omega)) rfl Lkg.rf, ⟨by rw [ne 0 (by omega) (by omega) (by omega), ne 116 (by omega) (by omega) (by omega)]; exact h2, fun hn => ?_⟩, fun i hi => ?_, ?_, hs, h7⟩
  · rw [ne 116 (by omega) (by omega) (by omega)] at hn
    exact (h3 hn).fr (fun m hm => ne _ (by omega) (by omega) (by omega)) (ne _ (by omega) (by omega) (by omega)) rfl Lkg.rf
  · rw [ne 115 (by omega) (by omega) (by omega), ne 121 (by omega) (by omega) (by omega)]; exact h4 i hi
  · unfold SimV
    rw [ne 113 (by omega) (by omega) (by omega), ne 116 (by omega) (by omega) (by omega), ne 114 (by omega) (by omega) (by omega), ne 128 (by omega) (by omega) (by omega)]
    exact h5
theorem c_fill (hk : k < 4) : ∃ S', fJ7_fill_53178 (E b S Q g) (b + (109 + k)) (nI 0) = some (E b S' Q g) ∧ (∀ r, r ≠ 109 + k → S' r = S r) ∧ ∀ i < 24, S' (109 + k) i = nI 0 := by
  have loop : ∀ (m i : Nat) (S1 : Nat → Nat → Int32), i ≤ 24 → 24 - i < m → (∀ r, r ≠ 109 + k → S1 r = S r) → (∀ j < i, S1 (109 + k) j = nI 0) → ∃ S', fJ7_fill_53178_5 m (E b S1 Q g) (b + (109 + k)) (nI 0) (nI i) (nI 24) = some (E b S' Q g) ∧ (∀ r, r ≠ 109 + k → S' r = S r) ∧ ∀ i < 24, S' (109 + k) i = nI 0 := by
    intro m
    induction m with
    | zero => intro i _ _ h; omega
    | succ m ih =>
      intro i S1 hi hm h1 h2
      rw [fJ7_fill_53178_5]
      simp (disch := omega) only [rN, nI_leI]
      by_cases hle : 24 ≤ i
      · rw [if_pos hle]
        exact ⟨S1, rfl, h1, fun j hj => h2 j (by omega)⟩
      · rw [if_neg hle, E_wrI (lay_sheet hk) (by omega) (by decide), bind_sm, nI_add]
        refine ih (i + 1) _ (by omega) (by omega) (fun r hr => by rw [up2_row (fun q => hr q.symm), h1 r hr]) (fun j hj => ?_)
        rw [up2_at]
        split
        · rfl
        · exact h2 j (by omega)
  unfold fJ7_fill_53178
  rw [E_lenA (lay_sheet hk), bind_sm]
  exact loop 1000 0 S (by omega) (by omega) (fun _ _ => rfl) (fun j hj => by omega)
theorem m_fill90 (hk : k < 4) : ∃ S', fX9_sheet_90 1000 (E b S Q g) (b + 116) (nI k) (nI 0) = some (nI 1, E b S' Q g) ∧ Off [131] S S' ∧ ∀ j, S' 131 j = if 24 * k ≤ j ∧ j < 24 * k + 24 then nI 0 else S 131 j := by
  have loop : ∀ (m i : Nat) (S1 : Nat → Nat → Int32), i ≤ 24 → 24 - i < m → Off [131] S S1 → (∀ j, S1 131 j = if 24 * k ≤ j ∧ j < 24 * k + i then nI 0 else S 131 j) → ∃ S', fX9_sheet_90 m (E b S1 Q g) (b + 116) (nI k) (nI i) = some (nI 1, E b S' Q g) ∧ Off [131] S S' ∧ ∀ j, S' 131 j = if 24 * k ≤ j ∧ j < 24 * k + 24 then nI 0 else S 131 j := by
    intro m
    induction m with
    | zero => intro i _ _ h; omega
    | succ m ih =>
      intro i S1 hi hm h1 h2
      rw [fX9_sheet_90]
      simp (disch := omega) only [rN, nI_leI]
      by_cases hle : 24 ≤ i
      · rw [if_pos hle]
        exact ⟨S1, rfl, h1, fun j => by rw [h2 j, show i = 24 by omega]⟩
      · rw [if_neg hle]
        simp (disch := omega) only [rM, bind_sm, pk_mul, nI_add]
        refine ih (i + 1) _ (by omega) (by omega) (h1.tr (Off.up (by decide))) (fun j => ?_)
        rw [up2_at]
        by_cases hj : j = 24 * k + i
        · rw [if_pos hj, if_pos (by omega)]
        · rw [if_neg hj, h2]
          by_cases hj2 : 24 * k ≤ j ∧ j < 24 * k + i
          · rw [if_pos hj2, if_pos (by omega)]
          · rw [if_neg hj2, if_neg (by omega)]
  exact loop 1000 0 S (by omega) (by omega) Off.rf (fun j => by rw [if_neg (by omega)])
end OV
