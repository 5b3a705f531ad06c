/-! ===== personIs, memory, loses, hearsay ===== -/
section OR
variable {b : Nat} {S S' S1 S2 S3 : Nat → Nat → Int32} {Q Q' Q1 : Nat → Nat → Nat} {g g' g1 h : Hp} {f k j p q n u c c0 c1 lo hi i e m : Nat} {x y z v r : Int32} {w : Wo} {T : Tx} {K K2 : Nat → Nat} {a a' : Fs} {s s' s0 : Nat → Int32} {t : Dt} {l : List Nat}

def bcN (a : Nat) : Nat := (a.testBit 0).toNat + (a.testBit 1).toNat + (a.testBit 2).toNat + (a.testBit 3).toNat + (a.testBit 4).toNat + (a.testBit 5).toNat + (a.testBit 6).toNat + (a.testBit 7).toNat
theorem bc_tab : ∀ a < 256, fJ6_bitCount_0f7a4 (nI a) = some (nI (bcN a)) := by decide +kernel
theorem bc_or : ∀ a < 256, ∀ i < 8, bcN (a ||| 2 ^ i) = if a.testBit i = true then bcN a else bcN a + 1 := by decide +kernel
theorem bc_le (a : Nat) : bcN a ≤ 8 := by
  have h : ∀ x : Bool, x.toNat ≤ 1 := by decide
  have h0 := h (a.testBit 0)
  have h1 := h (a.testBit 1)
  have h2 := h (a.testBit 2)
  have h3 := h (a.testBit 3)
  have h4 := h (a.testBit 4)
  have h5 := h (a.testBit 5)
  have h6 := h (a.testBit 6)
  have h7 := h (a.testBit 7)
  unfold bcN
  omega
theorem bc_know (w : Wo) (p : Nat) : ∀ n, n ≤ 8 → bcN (knowB w p n) = cntP (fun k => decide (p ∈ w.2 k)) n
  | 0, _ => show bcN 0 = 0 by decide
  | n + 1, hn => by
    have h1 := knowB_lt w p n
    have h2 : knowB w p n < 256 := Nat.lt_of_lt_of_le h1 (Nat.pow_le_pow_right (by decide) (show n ≤ 8 by omega))
    have h3 : (knowB w p n).testBit n = false := Nat.testBit_lt_two_pow h1
    have ih := bc_know w p n (by omega)
    rw [knowB, cntP]
    by_cases hp : p ∈ w.2 n
    · rw [if_pos hp, bc_or _ h2 n (by omega), h3, if_neg (by decide), ih, if_pos (decide_eq_true hp)]
    · rw [if_neg hp, if_neg (fun q => hp (of_decide_eq_true q)), ih]
theorem m_knownBy (hR : RepM (S 117) w) (hI : Winv w) (hp : p < 8) : fX9_knownBy (E b S Q g) (b + 116) (nI p) = some (nI (cntP (fun k => decide (p ∈ w.2 k)) (w.1 0 2))) := by
  have hm4 := hI.2.2.1
  have loop : ∀ (m i : Nat), i ≤ w.1 0 2 → w.1 0 2 - i < m → fX9_knownBy_4 (E b S Q g) m (b + 116) (nI p) (nI (cntP (fun k => decide (p ∈ w.2 k)) i)) (nI i) = some (nI (cntP (fun k => decide (p ∈ w.2 k)) (w.1 0 2))) := by
    intro m
    induction m with
    | zero => intro i _ h; omega
    | succ m ih =>
      intro i hi hm
      rw [fX9_knownBy_4]
      simp (disch := omega) only [rM, rN, bind_sm, hR.2.1, nI_leI]
      by_cases hle : w.1 0 2 ≤ i
      · rw [if_pos hle, show i = w.1 0 2 by omega]
      · rw [if_neg hle, m_knows hR hI (by omega) hp, bind_sm]
        have e : cntP (fun k => decide (p ∈ w.2 k)) (i + 1) = if decide (p ∈ w.2 i) = true then cntP (fun k => decide (p ∈ w.2 k)) i + 1 else cntP (fun k => decide (p ∈ w.2 k)) i := rfl
        by_cases h0 : p ∈ w.2 i
        · rw [if_pos (decide_eq_true h0)] at e
          rw [if_pos h0, if_neg (by decide), nI_add, nI_add, ← e]
          exact ih (i + 1) (by omega) (by omega)
        · rw [if_neg (fun q => h0 (of_decide_eq_true q))] at e
          rw [if_neg h0, if_pos rfl, nI_add, nI_add, Nat.add_zero, ← e]
          exact ih (i + 1) (by omega) (by omega)
  unfold fX9_knownBy
  simp only [rM, rN]
  exact loop 1000 0 (Nat.zero_le _) (by omega)
theorem op_personIs (h : Sim b K S Q g) : Both b S Q g (fun h => fX8_personIs h b x y) (fun h => fX9_personIs h (b + 116) x y) := by
  obtain ⟨⟨a, hI, hC, hM⟩, -, -, -, -, hg⟩ := id h
  have c1 : RepW S 12 (fW a) := hC.1
  have m1 := hM.1
  have i1 := hI.1
  have i2 := i1.2.1
  have i3 := i1.2.2.1
  have n117 : ∀ S1 : Nat → Nat → Int32, (∀ r, r ≠ 115 → S1 r = S r) → S1 117 = S 117 := fun S1 hS => hS _ (by decide)
  rcases isN_or x ((fW a).1 0 1) with ⟨p, hp, rfl⟩ | hx
  · have cP := c_hasPerson1 (b := b) (Q := Q) (g := g) w12 c1.2.1 (by omega) hp
    have hp8 : p < 8 := by omega
    rcases isN_or y 4 with ⟨d, hd, rfl⟩ | hy
    · obtain ⟨S', e1, o1, L1⟩ := m_findHeaps (b := b) (Q := Q) (g := g) m1 i1
      have e117 : S' 117 = S 117 := o1 117 (by decide)
      have mP := m_isPerson1 (b := b) (Q := Q) (g := g) m1.1 (by omega) hp
      have e0 : 8 + 2 * p + 0 = 8 + 2 * p := rfl
      have mw : RepM (S' 117) (fW a) := by rw [e117]; exact m1
      have key : ∀ v, fX8_personIs (E b S Q g) b (nI p) (nI d) = some (v, E b S Q g) → fX9_personIs (E b S Q g) (b + 116) (nI p) (nI d) = some (v, E b S' Q g) → Both b S Q g (fun h => fX8_personIs h b (nI p) (nI d)) (fun h => fX9_personIs h (b + 116) (nI p) (nI d)) := fun v h1 h2 =>
        Both.look h (r := v) h1 (fun _ _ => rfl) Lkg.rf ⟨rfl, rfl⟩ ⟨S', h2, OffR.of o1 (by decide), e117⟩
      have d4 : d = 0 ∨ d = 1 ∨ d = 2 ∨ d = 3 := by omega
      obtain ⟨w1, w2⟩ := c1.2.2.2.1 p hp
      obtain ⟨v1, v2⟩ := mw.2.2.2.1 p hp
      rcases d4 with rfl | rfl | rfl | rfl
      · refine key (nI ((fW a).1 1 p)) ?_ ?_
        · unfold fX8_personIs
          simp (disch := omega) only [rO, rF, rW w12, rN, bind_sm, cP, z10, if_false, if_true, w1]
        · unfold fX9_personIs
          simp (disch := omega) only [rM, rN, bind_sm, mP, m_in1, z10, if_false, e1, m_of, e0, v1]
          rw [if_neg (by decide)]
      · refine key (nI ((fW a).1 2 p)) ?_ ?_
        · unfold fX8_personIs
          simp (disch := omega) only [rO, rF, rW w12, rN, bind_sm, cP, z10, if_false, if_true, w2]
        · unfold fX9_personIs
          simp (disch := omega) only [rM, rN, bind_sm, mP, m_in1, z10, if_false, e1, m_of, v2]
          rw [if_neg (by decide)]
      · have hk16 : knowB (fW a) p ((fW a).1 0 2) < 256 := Nat.lt_of_lt_of_le (knowB_lt (fW a) p _) (Nat.pow_le_pow_right (by decide) (show (fW a).1 0 2 ≤ 8 by omega))
        refine key (nI (cntP (fun k => decide (p ∈ (fW a).2 k)) ((fW a).1 0 2))) ?_ ?_
        · unfold fX8_personIs
          simp (disch := omega) only [rO, rF, rN, bind_sm, cP, z10, if_false, c_bitsOfKnowers w12 c1 i1 hp8, bc_tab _ hk16, bc_know (fW a) p _ (show (fW a).1 0 2 ≤ 8 by omega)]
          rw [if_neg (by decide), if_neg (by decide), if_true]
        · unfold fX9_personIs
          simp (disch := omega) only [rM, rN, bind_sm, mP, m_in1, z10, if_false, e1, m_knownBy mw i1 hp8]
          rw [if_pos (by decide), if_true]
      · refine key (nI (labW (fW a) p)) ?_ ?_
        · unfold fX8_personIs
          simp (disch := omega) only [rO, rF, rN, bind_sm, cP, z10, if_false, c_leastOfHeap w12 c1 i1 hp8]
          rw [if_neg (by decide), if_neg (by decide), if_neg (by decide), if_true]
        · unfold fX9_personIs
          simp (disch := omega) only [rM, rN, bind_sm, mP, m_in1, z10, if_false, e1, L1 p hp8]
          rw [if_pos (by decide), if_neg (by decide)]
    · have hy0 : ∀ d, d < 4 → (y = nI d) = False := fun d hd => by rw [eq_iff_iff]; exact ⟨fun q => hy ⟨d, hd, q⟩, False.elim⟩
      refine Both.err h 1 (by decide) ?_ (fun S1 hS => ?_)
      · unfold fX8_personIs
        simp (disch := omega) only [rO, rF, rN, bind_sm, cP, z10, if_false, hy0]
      · unfold fX9_personIs
        simp (disch := omega) only [rM, rN, bind_sm, m_isPerson1 (S := S1) (by rw [n117 S1 hS]; exact m1.1), m_in0 (hi := 3) hy, z10, if_false, if_true]
  · refine Both.err h 1 (by decide) ?_ (fun S1 hS => ?_)
    · unfold fX8_personIs
      simp (disch := omega) only [rO, rF, rN, bind_sm, c_hasPerson0 w12 c1.2.1 (by omega) hx, if_true]
    · unfold fX9_personIs
      simp (disch := omega) only [rM, rN, bind_sm, m_isPerson0 (S := S1) (by rw [n117 S1 hS]; exact m1.1) (by omega) hx, if_true]
def memP (k p : Nat) : List Nat → Nat → Option Nat
  | [], _ => none
  | t :: l, seen => if t / 10 = k then (if t % 10 = p then some (bcN (seen ||| 2 ^ p)) else memP k p l (seen ||| 2 ^ (t % 10))) else memP k p l seen
theorem memP_le : ∀ (l : List Nat) (seen v : Nat), memP k p l seen = some v → v ≤ 8
  | [], _, _, h => by cases h
  | t :: l, seen, v, h => by
    rw [memP] at h
    split at h
    · split at h
      · rw [← Option.some.inj h]; exact bc_le _
      · exact memP_le l _ v h
    · exact memP_le l _ v h
theorem c_facesBackTo (hB : bookC S 4 l) (hl : l.length ≤ 24) (hx : ∀ x ∈ l, x / 10 < 4 ∧ x % 10 < 8) (hk : k < 4) (hp : p < 8) : fX1_facesBackTo (E b S Q g) (b + 4) (nI k) (nI p) = some (match memP k p l 0 with | some v => nI v | none => nI 9) := by
  obtain ⟨h1, h2⟩ := hB
  have loop : ∀ (m i seen : Nat), i ≤ l.length → l.length - i < m → seen < 256 → fX1_facesBackTo_5 (E b S Q g) m (b + 4) (nI k) (nI p) (nI seen) (nI i) = some (match memP k p (l.drop i) seen with | some v => nI v | none => nI 9) := by
    intro m
    induction m with
    | zero => intro i _ _ h; omega
    | succ m ih =>
      intro i seen hi hm hs
      rw [fX1_facesBackTo_5]
      simp (disch := omega) only [rF, rN, bind_sm, h1, nI_leI]
      by_cases hle : l.length ≤ i
      · rw [if_pos hle, List.drop_eq_nil_of_le hle]; rfl
      · rw [if_neg hle]
        have hlt : i < l.length := by omega
        have hx1 := hx _ (List.getElem_mem hlt)
        have hv : S 11 i = nI l[i] := h2.at0 hlt
        have h16 := hx1.2
        rw [List.drop_eq_getElem_cons hlt, memP]
        simp (disch := omega) only [rF, bind_sm, hv, dv10, rm10, nI_eq, bit_sh, bit_or, nI_add]
        have hor : seen ||| 2 ^ (l[i] % 10) < 256 := bit_or_lt (n := 8) hs (bit_pow_lt h16)
        by_cases ha : l[i] / 10 = k
        · rw [if_pos ha, if_pos ha]
          by_cases hb : l[i] % 10 = p
          · rw [if_pos hb, if_pos hb, bc_tab _ hor, bind_sm, hb]
          · rw [if_neg hb, if_neg hb]
            exact ih (i + 1) _ (by omega) (by omega) hor
        · rw [if_neg ha, if_neg ha]
          exact ih (i + 1) _ (by omega) (by omega) hs
  unfold fX1_facesBackTo
  simp only [rF, rN]
  have := loop 1000 0 0 (Nat.zero_le _) (by omega) (by decide)
  rw [List.drop_zero] at this
  exact this
theorem bit_t0z {a i : Nat} (ha : a < 256) (hi : i < 8) : ((nI a >>> (nI i &&& nI 31)) &&& nI 1 = nI 0) ↔ a.testBit i = false := by
  have h := bit_t ha hi
  have h2 : ∀ a < 256, ∀ i < 8, ((nI a >>> (nI i &&& nI 31)) &&& nI 1) = nI 0 ∨ ((nI a >>> (nI i &&& nI 31)) &&& nI 1) = nI 1 := by decide +kernel
  constructor
  · intro q
    cases hb : a.testBit i
    · rfl
    · rw [h.mpr hb] at q
      exact absurd q (by decide)
  · intro q
    rcases h2 a ha i hi with h3 | h3
    · exact h3
    · rw [h.mp h3] at q; cases q
theorem or_bit {a i : Nat} (h : a.testBit i = true) : a ||| 2 ^ i = a := or_same (fun j hj => by rw [bit_pow] at hj; rw [hj]; exact h)
theorem m_memory (hB : bookM (S 117) l) (hl : l.length ≤ 24) (hx : ∀ x ∈ l, x / 10 < 4 ∧ x % 10 < 8) (hk : k < 4) (hp : p < 8) : fX9_memory_30 1000 (E b S Q g) (b + 116) (nI k) (nI p) (nI 0) (nI 0) (nI 0) = (match memP k p l 0 with | some v => some (nI v, E b S Q g) | none => (fX9_error (E b S Q g) (b + 116) (nI 2)).bind fun q => some (q.1, q.2)) := by
  obtain ⟨h1, h2⟩ := hB
  have loop : ∀ (m i seen : Nat), i ≤ l.length → l.length - i < m → seen < 256 → seen.testBit p = false → fX9_memory_30 m (E b S Q g) (b + 116) (nI k) (nI p) (nI seen) (nI (bcN seen)) (nI i) = (match memP k p (l.drop i) seen with | some v => some (nI v, E b S Q g) | none => (fX9_error (E b S Q g) (b + 116) (nI 2)).bind fun q => some (q.1, q.2)) := by
    intro m
    induction m with
    | zero => intro i _ _ h; omega
    | succ m ih =>
      intro i seen hi hm hs hps
      rw [fX9_memory_30]
      simp (disch := omega) only [rM, rN, bind_sm, h1, nI_leI, nI_add]
      by_cases hle : l.length ≤ i
      · rw [if_pos hle, List.drop_eq_nil_of_le hle]; rfl
      · rw [if_neg hle]
        have hlt : i < l.length := by omega
        have hx1 := hx _ (List.getElem_mem hlt)
        have hv : S 117 (100 + i) = nI l[i] := h2.at hlt
        have h16 := hx1.2
        rw [List.drop_eq_getElem_cons hlt, memP]
        simp (disch := omega) only [rM, bind_sm, hv, dv10, rm10, nI_eq, bit_sh, bit_or, bit_t0z hs h16]
        have hor : seen ||| 2 ^ (l[i] % 10) < 256 := bit_or_lt (n := 8) hs (bit_pow_lt h16)
        by_cases ha : l[i] / 10 = k
        · rw [if_pos ha, if_pos ha]
          have hbc := bc_or seen hs _ h16
          cases ht : seen.testBit (l[i] % 10)
          · rw [ht, if_neg (by decide)] at hbc
            rw [if_pos rfl]
            by_cases hb : l[i] % 10 = p
            · rw [if_pos hb, if_pos hb, ← hbc, hb]
            · rw [if_neg hb, if_neg hb, ← hbc]
              refine ih (i + 1) _ (by omega) (by omega) hor ?_
              rw [Nat.testBit_or, hps, Bool.false_or]
              cases h3 : (2 ^ (l[i] % 10)).testBit p
              · rfl
              · exact absurd (bit_pow.mp h3).symm hb
          · rw [if_neg (by decide)]
            have hb : ¬ l[i] % 10 = p := fun q => by rw [q, hps] at ht; cases ht
            rw [if_neg hb, or_bit ht]
            exact ih (i + 1) _ (by omega) (by omega) hs hps
        · rw [if_neg ha, if_neg ha]
          exact ih (i + 1) _ (by omega) (by omega) hs hps
  have := loop 1000 0 0 (Nat.zero_le _) (by omega) (by decide) (Nat.zero_testBit _)
  rw [List.drop_zero] at this
  exact this
theorem op_memory (h : Sim b K S Q g) : Both b S Q g (fun h => fX8_memory h b x y) (fun h => fX9_memory h (b + 116) x y) := by
  obtain ⟨⟨a, hI, hC, hM⟩, -, -, -, -, hg⟩ := id h
  have c1 : RepW S 12 (fW a) := hC.1
  have m1 := hM.1
  have i1 := hI.1
  have i2 := i1.2.1
  have i3 := i1.2.2.1
  have hB := hC.2.2.2.2.1
  have mB := hM.2.2.2.2.1
  obtain ⟨hl, hx6⟩ := hI.2.2.2.2.2.1
  have n117 : ∀ S1 : Nat → Nat → Int32, (∀ r, r ≠ 115 → S1 r = S r) → S1 117 = S 117 := fun S1 hS => hS _ (by decide)
  rcases mp_cases (fW a) x y with ⟨k, p, hk, hp, rfl, rfl⟩ | hb
  · have cM := c_hasMan1 (b := b) (Q := Q) (g := g) w12 c1.2.2.1 (by omega) hk
    have cP := c_hasPerson1 (b := b) (Q := Q) (g := g) w12 c1.2.1 (by omega) hp
    have cF := c_facesBackTo (b := b) (Q := Q) (g := g) (k := k) (p := p) hB hl hx6 (by omega) (by omega)
    have mF : ∀ S1 : Nat → Nat → Int32, S1 117 = S 117 → fX9_memory (E b S1 Q g) (b + 116) (nI k) (nI p) = (match memP k p (fBk a) 0 with | some v => some (nI v, E b S1 Q g) | none => (fX9_error (E b S1 Q g) (b + 116) (nI 2)).bind fun q => some (q.1, q.2)) := by
      intro S1 hS
      rw [← m_memory (b := b) (S := S1) (Q := Q) (g := g) (k := k) (p := p) (by rw [hS]; exact mB) hl hx6 (by omega) (by omega)]
      unfold fX9_memory
      simp (disch := omega) only [rM, rN, bind_sm, m_isMan1 (S := S1) (by rw [hS]; exact m1.2.1), m_isPerson1 (S := S1) (by rw [hS]; exact m1.1), z10, if_false]
    cases hm : memP k p (fBk a) 0 with
    | some v =>
      rw [hm] at cF
      simp only [hm] at mF
      have hv := memP_le _ _ _ hm
      refine Both.rd h (r := nI v) ?_ (mF S rfl)
      unfold fX8_memory
      simp (disch := omega) only [rO, rF, rN, bind_sm, cM, cP, z10, if_false, cF, nI_leI, hv, if_true]
    | none =>
      rw [hm] at cF
      simp only [hm] at mF
      refine Both.err h 2 (by decide) ?_ (fun S1 hS => mF S1 (n117 S1 hS))
      unfold fX8_memory
      simp (disch := omega) only [rO, rF, rN, bind_sm, cM, cP, z10, if_false, cF]
      rw [if_neg (by decide)]
  · refine Both.err h 1 (by decide) ?_ (fun S1 hS => ?_)
    · unfold fX8_memory
      rcases hb with hx | ⟨⟨k, hk, rfl⟩, hy⟩
      · simp (disch := omega) only [rO, rF, rN, bind_sm, c_hasMan0 w12 c1.2.2.1 (by omega) hx, if_true]
      · simp (disch := omega) only [rO, rF, rN, bind_sm, c_hasMan1 w12 c1.2.2.1, c_hasPerson0 w12 c1.2.1 (by omega) hy, z10, if_false, if_true]
    · have hS' := n117 S1 hS
      unfold fX9_memory
      rcases hb with hx | ⟨⟨k, hk, rfl⟩, hy⟩
      · simp (disch := omega) only [rM, rN, bind_sm, m_isMan0 (S := S1) (by rw [hS']; exact m1.2.1) (by omega) hx, if_true]
      · simp (disch := omega) only [rM, rN, bind_sm, m_isMan1 (S := S1) (by rw [hS']; exact m1.2.1), m_isPerson0 (S := S1) (by rw [hS']; exact m1.1) (by omega) hy, z10, if_false, if_true]
end OR
