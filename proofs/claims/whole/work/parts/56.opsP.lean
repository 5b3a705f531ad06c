/-! ===== debts that hold ===== -/
section OP
variable {b : Nat} {S S' S1 S2 S3 : Nat → Nat → Int32} {Q Q' Q1 : Nat → Nat → Nat} {g g' g1 h : Hp} {f k j p q n u c c0 c1 lo hi i e : Nat} {x y z v r : Int32} {w : Wo} {T : Tx} {K K2 : Nat → Nat} {a a' : Fs} {s s' : Nat → Int32} {t : Dt}

def holdsP (w : Wo) (d : Dt) : Bool := decide (labW w d.2.1 = labW w d.1)
/-- of a list the first n -/
def cntL (f : Dt → Bool) (l : List Dt) (n : Nat) : Nat := (l.take n).countP f
theorem cntL_all {f : Dt → Bool} {l : List Dt} : cntL f l l.length = l.countP f := by unfold cntL; rw [List.take_length]
theorem cntL_succ {f : Dt → Bool} {l : List Dt} (hn : n < l.length) : cntL f l (n + 1) = if f l[n] = true then cntL f l n + 1 else cntL f l n := by
  unfold cntL
  rw [List.take_succ_eq_append_getElem hn, List.countP_append, List.countP_singleton]
  split <;> rfl
theorem cntL_le {f : Dt → Bool} {l : List Dt} : cntL f l n ≤ n := by
  unfold cntL
  have h1 := List.countP_le_length (p := f) (l := l.take n)
  have h2 := List.length_take_le n l
  omega
theorem c_holds (hc : isW c) (hR : RepW S c w) (hI : Winv w) (hi : i < 8) (h1 : S 6 i = nI t.1) (h2 : S 7 i = nI t.2.1) (b1 : t.1 < 8) (b2 : t.2.1 < 8) : fX0_holds (E b S Q g) (b + 5) (nI i) (b + c) = some (if holdsP w t = true then nI 1 else nI 0) := by
  unfold fX0_holds
  simp (disch := omega) only [rF, rN, bind_sm, h1, h2, c_bitsOfHeap hc hR hI b1, bit_t (heapB_lt hI b1) b2, heapB_bit]
  unfold holdsP
  by_cases hh : labW w t.2.1 = labW w t.1
  · rw [if_pos hh, if_pos (decide_eq_true hh)]
  · rw [if_neg hh, if_neg (fun q => hh (of_decide_eq_true q))]
theorem c_holding (hc : isW c) (hR : RepW S c w) (hI : Winv w) {l : List Dt} (hD : debtC S 4 l) (hl : l.length ≤ 8) (hb : ∀ d ∈ l, d.1 < 8 ∧ d.2.1 < 8) : fX0_holding (E b S Q g) (b + 5) (b + c) = some (nI (l.countP (holdsP w))) := by
  obtain ⟨d1, d2⟩ := hD
  have loop : ∀ (m i : Nat), i ≤ l.length → l.length - i < m → fX0_holding_4 (E b S Q g) m (b + 5) (b + c) (nI (cntL (holdsP w) l i)) (nI i) = some (nI (l.countP (holdsP w))) := by
    intro m
    induction m with
    | zero => intro i _ h; omega
    | succ m ih =>
      intro i hi hm
      have d1' : S 5 0 = nI l.length := d1
      rw [fX0_holding_4]
      simp (disch := omega) only [rF, rN, bind_sm, d1', nI_leI]
      by_cases hle : l.length ≤ i
      · rw [if_pos hle, show i = l.length by omega, cntL_all]
      · rw [if_neg hle]
        have hlt : i < l.length := by omega
        obtain ⟨e1, e2, -⟩ := d2 i l[i] (List.getElem?_eq_getElem hlt)
        have hbi := hb _ (List.getElem_mem hlt)
        have e := cntL_succ (f := holdsP w) hlt
        rw [c_holds hc hR hI (by omega) e1 e2 hbi.1 hbi.2, bind_sm]
        by_cases h0 : holdsP w l[i] = true
        · rw [if_pos h0] at e ⊢
          rw [if_neg (by decide), nI_add, nI_add, ← e]
          exact ih (i + 1) (by omega) (by omega)
        · rw [if_neg h0] at e ⊢
          rw [if_pos rfl, nI_add, ← e]
          exact ih (i + 1) (by omega) (by omega)
  unfold fX0_holding
  simp only [rF, rN]
  exact loop 1000 0 (Nat.zero_le _) (by omega)
theorem m_owed (h : 76 + 3 * i + j < 458) : fX9_owed (E b S Q g) (b + 116) (nI i) (nI j) = some (S 117 (76 + 3 * i + j)) := by
  unfold fX9_owed
  simp (disch := omega) only [rM, rN, pk_mul, nI_add, bind_sm]
theorem m_holds (hL : Lb S (labW w)) (hi : i < 8) (h1 : S 117 (76 + 3 * i) = nI t.1) (h2 : S 117 (76 + 3 * i + 1) = nI t.2.1) (b1 : t.1 < 8) (b2 : t.2.1 < 8) : fX9_holds (E b S Q g) (b + 116) (nI i) = some (if holdsP w t = true then nI 1 else nI 0) := by
  have e0 : 76 + 3 * i + 0 = 76 + 3 * i := rfl
  have l1 : labW w t.1 ≤ t.1 := labN_le w _ _
  have l2 : labW w t.2.1 ≤ t.2.1 := labN_le w _ _
  unfold fX9_holds
  simp (disch := omega) only [rM, rN, bind_sm, m_owed, e0, h1, h2, hL _ b1, hL _ b2, nI_eq]
  unfold holdsP
  by_cases hh : labW w t.1 = labW w t.2.1
  · rw [if_pos hh, if_pos (decide_eq_true hh.symm)]
  · rw [if_neg hh, if_neg (fun q => hh (of_decide_eq_true q).symm)]
theorem m_holding (hR : RepM (S 117) w) (hI : Winv w) {l : List Dt} (hD : debtM (S 117) l) (hl : l.length ≤ 8) (hb : ∀ d ∈ l, d.1 < 8 ∧ d.2.1 < 8) : ∃ S', fX9_holding (E b S Q g) (b + 116) = some (nI (l.countP (holdsP w)), E b S' Q g) ∧ Off [125] S S' := by
  obtain ⟨S', e1, o1, L1⟩ := m_findHeaps (b := b) (Q := Q) (g := g) hR hI
  have e117 : S' 117 = S 117 := o1 117 (by decide)
  obtain ⟨d1, d2⟩ := hD
  have loop : ∀ (m i : Nat), i ≤ l.length → l.length - i < m → fX9_holding_8 m (E b S' Q g) (b + 116) (nI (cntL (holdsP w) l i)) (nI i) = some (nI (l.countP (holdsP w)), E b S' Q g) := by
    intro m
    induction m with
    | zero => intro i _ h; omega
    | succ m ih =>
      intro i hi hm
      rw [fX9_holding_8]
      simp (disch := omega) only [rM, rN, bind_sm, e117, d1, nI_leI]
      by_cases hle : l.length ≤ i
      · rw [if_pos hle, show i = l.length by omega, cntL_all]
      · rw [if_neg hle]
        have hlt : i < l.length := by omega
        obtain ⟨e1, e2, -⟩ := d2 i l[i] (List.getElem?_eq_getElem hlt)
        have hbi := hb _ (List.getElem_mem hlt)
        have e := cntL_succ (f := holdsP w) hlt
        rw [m_holds L1 (by omega) (by rw [e117]; exact e1) (by rw [e117]; exact e2) hbi.1 hbi.2, bind_sm]
        by_cases h0 : holdsP w l[i] = true
        · rw [if_pos h0] at e ⊢
          rw [if_neg (by decide), nI_add, nI_add, ← e]
          exact ih (i + 1) (by omega) (by omega)
        · rw [if_neg h0] at e ⊢
          rw [if_pos rfl, nI_add, nI_add, Nat.add_zero, ← e]
          exact ih (i + 1) (by omega) (by omega)
  refine ⟨S', ?_, o1⟩
  unfold fX9_holding
  simp only [rM, rN, e1, bind_sm]
  exact loop 1000 0 (Nat.zero_le _) (by omega)
/-- only what is no part of the state has changed -/
theorem Sim.look (h : Sim b K S Q g) (hc : ∀ r, r < 38 ∨ 105 ≤ r → S1 r = S r) (hk : Lkg K g g1) (hQ : Q1 12 = Q 12 ∧ Q1 29 = Q 29) (hr : OffR S1 S2) (h7 : S2 117 = S1 117) : Sim b K S2 Q1 g1 := by
  obtain ⟨⟨a, hI, hC, hM⟩, -, -, -, -, hg⟩ := id h
  exact h.act (fun r hr => hc r (by omega)) hr hk hQ.2 (hg.lk hk) hI (hC.fr (fun m hm => hc _ (by omega)) hQ.1 hk) (by rw [h7, hc 117 (by omega)]; exact hM)
theorem Both.look {F G : Hp → Option (Int32 × Hp)} (h : Sim b K S Q g) (hF : F (E b S Q g) = some (r, E b S1 Q1 g1)) (hc : ∀ r, r < 38 ∨ 105 ≤ r → S1 r = S r) (hk : Lkg K g g1) (hQ : Q1 12 = Q 12 ∧ Q1 29 = Q 29) (hG : ∃ S2, G (E b S1 Q1 g1) = some (r, E b S2 Q1 g1) ∧ OffR S1 S2 ∧ S2 117 = S1 117) : Both b S Q g F G := by
  obtain ⟨S2, e2, o2, m2⟩ := hG
  exact ⟨r, S1, Q1, g1, S2, K, hF, e2, h.look hc hk hQ o2 m2⟩
/-- an error behind a look -/
theorem Both.lookErr {F G : Hp → Option (Int32 × Hp)} (h : Sim b K S Q g) (j : Nat) (hj : j < 7) (hF : F (E b S Q g) = (fX8_refuse (E b S1 Q1 g1) b (nI j)).bind fun q => some (q.1, q.2)) (hc : ∀ r, r < 38 ∨ 105 ≤ r → S1 r = S r) (hk : Lkg K g g1) (hQ : Q1 12 = Q 12 ∧ Q1 29 = Q 29)
    (hG : ∀ S2 : Nat → Nat → Int32, (∀ r, r ≠ 115 → S2 r = S1 r) → ∃ S3, G (E b S2 Q1 g1) = (fX9_error (E b S3 Q1 g1) (b + 116) (nI j)).bind (fun q => some (q.1, q.2)) ∧ OffR S2 S3 ∧ S3 117 = S2 117) : Both b S Q g F G := by
  rw [c_refuse hj, bind_sm] at hF
  obtain ⟨S3, e3, o3, m3⟩ := hG (up2 S1 115 j (S1 115 j + nI 1)) (fun r hr => up2_row (fun q => hr q.symm))
  rw [m_error hj, bind_sm] at e3
  have e115 : S3 115 = up2 S1 115 j (S1 115 j + nI 1) 115 := o3.1 115 (by omega)
  have hL : Sim b K (fun r => if r = 115 then S1 115 else S3 r) Q1 g1 := by
    refine h.look (S2 := fun r => if r = 115 then S1 115 else S3 r) hc hk hQ ⟨fun r hr => ?_, ?_, ?_⟩ ?_
    · by_cases h5 : r = 115
      · simp only [h5, if_true]
      · simp only [h5, if_false]
        rw [o3.1 r hr, up2_row (fun q => h5 q.symm)]
    · simp only [show (116 : Nat) ≠ 115 by decide, if_false]
      rw [o3.2.1, up2_ne (by decide)]
    · simp only [show (116 : Nat) ≠ 115 by decide, if_false]
      rw [o3.2.2, up2_ne (by decide)]
    · simp only [show (117 : Nat) ≠ 115 by decide, if_false]
      rw [m3, up2_row (by decide)]
  have hE := hL.err hj
  have key : up2 (fun r => if r = 115 then S1 115 else S3 r) 115 j ((fun r => if r = 115 then S1 115 else S3 r) 115 j + nI 1) = S3 := by
    funext r i
    by_cases h5 : r = 115
    · subst h5
      rw [up2_at, e115, up2_at]
      simp only [if_true]
    · rw [up2_ne h5]
      simp only [h5, if_false]
  simp only [if_true] at hE key
  rw [key] at hE
  exact ⟨_, _, _, _, _, K, hF, e3, hE⟩
theorem Finv.db (hI : Finv a) : ∀ d ∈ fDb a, d.1 < 8 ∧ d.2.1 < 8 := fun d hd => by
  have h1 := hI.2.2.2.2.2.2.2 d hd
  have h2 := hI.1.2.1
  omega
theorem op_debtIs (h : Sim b K S Q g) : Both b S Q g (fun h => fX8_debtIs h b x y) (fun h => fX9_debtIs h (b + 116) x y) := by
  obtain ⟨⟨a, hI, hC, hM⟩, -, -, -, -, hg⟩ := id h
  have c1 : RepW S 12 (fW a) := hC.1
  obtain ⟨c8a, c8b⟩ := hC.2.2.2.2.2.2
  have c8a' : S 5 0 = nI (fDb a).length := c8a
  obtain ⟨m7a, m7b⟩ := hM.2.2.2.2.2.2
  have m1 := hM.1
  have i1 := hI.1
  have hl := hI.2.2.2.2.2.2.1
  have n117 : ∀ S1 : Nat → Nat → Int32, (∀ r, r ≠ 115 → S1 r = S r) → S1 117 = S 117 := fun S1 hS => hS _ (by decide)
  rcases isN_or x (fDb a).length with ⟨i, hi, rfl⟩ | hx
  · obtain ⟨q1, q2, q3⟩ := c8b i _ (List.getElem?_eq_getElem hi)
    obtain ⟨p1, p2, p3⟩ := m7b i _ (List.getElem?_eq_getElem hi)
    have q1' : S 6 i = nI (fDb a)[i].1 := q1
    have q2' : S 7 i = nI (fDb a)[i].2.1 := q2
    have q3' : S 8 i = nI (fDb a)[i].2.2 := q3
    have hbi := hI.db _ (List.getElem_mem hi)
    have ci1 : ¬ nI i < nI 0 := fun q => absurd ((nI_ltI (by omega) (by decide)).mp q) (by omega)
    have ci2 : nI i < nI (fDb a).length := (nI_ltI (by omega) (by omega)).mpr hi
    have e0 : 76 + 3 * i + 0 = 76 + 3 * i := rfl
    rcases isN_or y 4 with ⟨d, hd, rfl⟩ | hy
    · obtain ⟨S', e1, o1, L1⟩ := m_findHeaps (b := b) (Q := Q) (g := g) m1 i1
      have e117 : S' 117 = S 117 := o1 117 (by decide)
      have key : ∀ v, fX8_debtIs (E b S Q g) b (nI i) (nI d) = some (v, E b S Q g) → fX9_debtIs (E b S Q g) (b + 116) (nI i) (nI d) = some (v, E b S' Q g) → Both b S Q g (fun h => fX8_debtIs h b (nI i) (nI d)) (fun h => fX9_debtIs h (b + 116) (nI i) (nI d)) := fun v h1 h2 =>
        Both.look h (r := v) h1 (fun _ _ => rfl) Lkg.rf ⟨rfl, rfl⟩ ⟨S', h2, OffR.of o1 (by decide), e117⟩
      have hM0 : ∀ v, (if nI d = nI 3 then (if holdsP (fW a) (fDb a)[i] = true then some (nI 1, E b S' Q g) else some (nI 0, E b S' Q g)) else some (S' 117 (76 + 3 * i + d), E b S' Q g)) = v → fX9_debtIs (E b S Q g) (b + 116) (nI i) (nI d) = v := by
        intro v hv
        rw [← hv]
        unfold fX9_debtIs
        simp (disch := omega) only [rM, rN, bind_sm, m7a, m_inS1, m_in1, z10, if_false, e1, m_owed, m_holds (t := (fDb a)[i]) L1 (show i < 8 by omega) (by rw [e117]; exact p1) (by rw [e117]; exact p2) hbi.1 hbi.2]
        by_cases hh : holdsP (fW a) (fDb a)[i] = true
        · simp only [hh, if_true, z10, if_false]
        · simp only [if_neg hh, if_true]
      have d4 : d = 0 ∨ d = 1 ∨ d = 2 ∨ d = 3 := by omega
      rcases d4 with rfl | rfl | rfl | rfl
      · refine key _ ?_ (hM0 _ (if_neg (by decide)))
        unfold fX8_debtIs
        simp (disch := omega) only [rO, rF, rN, bind_sm, c8a', ci1, ci2, if_true, if_false, q1']
        rw [e117, e0, p1]
      · refine key _ ?_ (hM0 _ (if_neg (by decide)))
        unfold fX8_debtIs
        simp (disch := omega) only [rO, rF, rN, bind_sm, c8a', ci1, ci2, if_true, if_false, z10, q2']
        rw [e117, p2]
      · refine key _ ?_ (hM0 _ (if_neg (by decide)))
        unfold fX8_debtIs
        simp (disch := omega) only [rO, rF, rN, bind_sm, c8a', ci1, ci2, if_true, if_false, q3']
        rw [if_neg (by decide), if_neg (by decide), e117, p3]
      · refine key (if holdsP (fW a) (fDb a)[i] = true then nI 1 else nI 0) ?_ (hM0 _ ?_)
        · unfold fX8_debtIs
          simp (disch := omega) only [rO, rF, rN, bind_sm, c8a', ci1, ci2, if_true, if_false, c_holds (t := (fDb a)[i]) w12 c1 i1 (show i < 8 by omega) q1' q2' hbi.1 hbi.2]
          rw [if_neg (by decide), if_neg (by decide), if_neg (by decide)]
          by_cases hh : holdsP (fW a) (fDb a)[i] = true
          · simp only [hh, if_true, z10, if_false]
          · simp only [if_neg hh, if_true]
        · rw [if_pos rfl]
          split <;> rfl
    · have hy0 : ∀ d, d < 4 → (y = nI d) = False := fun d hd => by rw [eq_iff_iff]; exact ⟨fun q => hy ⟨d, hd, q⟩, False.elim⟩
      refine Both.err h 1 (by decide) ?_ (fun S1 hS => ?_)
      · unfold fX8_debtIs
        simp (disch := omega) only [rO, rF, rN, bind_sm, c8a', ci1, ci2, if_true, if_false, hy0]
      · have q1 : S1 117 3 = nI (fDb a).length := by rw [n117 S1 hS, m7a]
        unfold fX9_debtIs
        simp (disch := omega) only [rM, rN, bind_sm, q1, m_inS1, m_in0 (hi := 3) hy, z10, if_false, if_true]
  · refine Both.err h 1 (by decide) ?_ (fun S1 hS => ?_)
    · unfold fX8_debtIs
      simp (disch := omega) only [rO, rF, rN, bind_sm, c8a']
      rcases notN hx (by omega) with q | ⟨q, -, q2⟩
      · rw [if_pos q]
      · rw [if_neg q, if_neg q2]
    · have q1 : S1 117 3 = nI (fDb a).length := by rw [n117 S1 hS, m7a]
      unfold fX9_debtIs
      simp (disch := omega) only [rM, rN, bind_sm, q1, m_inS0 hx, if_true]
end OP
