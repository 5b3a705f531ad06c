/-! ===== the reference: gossip, and the crossing put together ===== -/
theorem gosP_same {T : Tx} {w : Wo} {k p i i' : Nat} {mk : List Nat} (h : ∀ j, j ≠ k → ((w.1 3 k = 4 ∧ j < i ∧ w.1 5 j = 1 - w.1 1 p) ↔ (w.1 3 k = 4 ∧ j < i' ∧ w.1 5 j = 1 - w.1 1 p))) : gosP T w k p i mk = gosP T w k p i' mk := by
  refine Prod.ext rfl (funext fun j => ?_)
  simp only [gosP]
  by_cases hj : j = k
  · rw [if_pos hj, if_pos hj]
  · rw [if_neg hj, if_neg hj]
    by_cases hc : w.1 3 k = 4 ∧ j < i ∧ w.1 5 j = 1 - w.1 1 p
    · rw [if_pos hc, if_pos ((h j hj).mp hc)]
    · rw [if_neg hc, if_neg (fun q => hc ((h j hj).mpr q))]
theorem gosP_set {T : Tx} {w : Wo} {k p i : Nat} {mk : List Nat} (hik : i ≠ k) (h4 : w.1 3 k = 4) (hb : w.1 5 i = 1 - w.1 1 p) : setMind (gosP T w k p i mk) i (comesP (keepsP T (gosP T w k p i mk) i) p ((gosP T w k p i mk).2 i)) = gosP T w k p (i + 1) mk := by
  have e1 : keepsP T (gosP T w k p i mk) i = keepsP T w i := (keepsP_sc (k := k) (p := p) (P := paysP T w k p) : keepsP T (scP w k p (paysP T w k p)) i = keepsP T w i)
  have e2 : (gosP T w k p i mk).2 i = w.2 i := by simp [gosP, hik]
  rw [e1, e2]
  refine Prod.ext rfl (funext fun j => ?_)
  simp only [setMind, gosP]
  by_cases hj : j = i
  · subst hj
    rw [if_pos rfl, if_neg hik, if_pos ⟨h4, by omega, hb⟩]
  · rw [if_neg hj]
    by_cases hjk : j = k
    · rw [if_pos hjk, if_pos hjk]
    · rw [if_neg hjk, if_neg hjk]
      by_cases hc : w.1 3 k = 4 ∧ j < i ∧ w.1 5 j = 1 - w.1 1 p
      · rw [if_pos hc, if_pos ⟨hc.1, by omega, hc.2.2⟩]
      · rw [if_neg hc, if_neg (fun q => hc ⟨q.1, by omega, q.2.2⟩)]
theorem mk0 {T : Tx} {w : Wo} {k p : Nat} {l : List Nat} : setMind (scP w k p (paysP T w k p)) k l = gosP T w k p 0 l := by
  refine Prod.ext rfl (funext fun j => ?_)
  simp only [setMind, gosP, scP]
  split
  · rfl
  · rw [if_neg (by omega)]
section RF
variable {b : Nat} {S : Nat → Nat → Int32} {Q : Nat → Nat → Nat} {g : Hp} {k j p n u : Nat} {x z : Int32} {w : Wo} {T : Tx}
theorem m_gossip_loop (hI : Winv w) (hT : RepT (S 117) T) (hok : ∀ u, txOk (T u)) (hk : k < w.1 0 2) (hp : p < w.1 0 1) (r : Int32) :
    ∀ (m i : Nat) (S1 : Nat → Nat → Int32), i ≤ w.1 0 2 → w.1 0 2 - i < m → Off [117, 123, 124] S S1 → RepM (S1 117) (gosP T w k p i (mkP T w k p)) → Kw (S 117) (S1 117) →
      ∃ S', fX9_crosses_156 m (E b S1 Q g) (b + 116) (nI k) (nI p) r (nI i) = fX9_crosses_216 1000 (E b S' Q g) (b + 116) (nI k) (nI p) r (nI 23) ∧ Off [117, 123, 124] S S' ∧ RepM (S' 117) (gosP T w k p (w.1 0 2) (mkP T w k p)) ∧ Kw (S 117) (S' 117) := by
  intro m
  have hk4 : k < 4 := Nat.lt_of_lt_of_le hk hI.2.2.1
  have hm4 := hI.2.2.1
  have hp8 : p < 8 := Nat.lt_of_lt_of_le hp hI.2.1
  induction m with
  | zero => intro i S1 h1 h2; omega
  | succ m ih =>
    intro i S1 h1 h2 hO hR hK
    have hIg := gosP_inv (T := T) (k := k) (p := p) (i := i) hI hp
    have em : (gosP T w k p i (mkP T w k p)).1 0 2 = w.1 0 2 := by simp [gosP, scP]
    have ep : (gosP T w k p i (mkP T w k p)).1 0 1 = w.1 0 1 := by simp [gosP, scP]
    have h11 : S1 117 1 = nI (w.1 0 2) := by rw [hR.2.1, em]
    rw [fX9_crosses_156]
    simp (disch := omega) only [rM, rN, bind_sm, h11, nI_leI]
    by_cases hle : w.1 0 2 ≤ i
    · rw [if_pos hle]
      have hi : i = w.1 0 2 := by omega
      subst hi
      exact ⟨S1, rfl, hO, hR, hK⟩
    · rw [if_neg hle]
      have hkk := hR.2.2.2.2 k (by rw [em]; exact hk)
      have hii := hR.2.2.2.2 i (by rw [em]; omega)
      have e0 : 24 + 13 * k + 0 = 24 + 13 * k := rfl
      have ek3 : (gosP T w k p i (mkP T w k p)).1 3 k = w.1 3 k := by simp [gosP, scP]
      have ek5 : (gosP T w k p i (mkP T w k p)).1 5 k = 1 - w.1 1 p := by simp [gosP, scP]
      have v3 : S1 117 (24 + 13 * k) = nI (w.1 3 k) := by rw [hkk.1, ek3]
      have v5 : S1 117 (24 + 13 * k + 2) = nI (1 - w.1 1 p) := by rw [hkk.2.2.1, ek5]
      have hk6 := hI.2.2.2.2.2.1 k
      simp (disch := omega) only [m_its, bind_sm, e0, v3, nI_eq, nI_add]
      by_cases h4 : w.1 3 k = 4
      · rw [if_pos h4]
        by_cases hik : i = k
        · rw [if_pos hik]
          refine ih (i + 1) S1 (by omega) (by omega) hO ?_ hK
          rw [← gosP_same (i := i) (i' := i + 1) (fun j hj => by constructor <;> (rintro ⟨a, b', c⟩; exact ⟨a, by omega, c⟩))]
          exact hR
        · rw [if_neg hik]
          have ei5 : (gosP T w k p i (mkP T w k p)).1 5 i = w.1 5 i := by simp [gosP, scP, hik]
          have vi5 : S1 117 (24 + 13 * i + 2) = nI (w.1 5 i) := by rw [hii.2.2.1, ei5]
          have hb1 := hI.2.2.2.2.2.2.2.1 i
          simp (disch := omega) only [m_its, bind_sm, v5, vi5, nI_eq]
          by_cases hb : w.1 5 i = 1 - w.1 1 p
          · rw [if_pos hb]
            obtain ⟨S2, e2, o2, r2, k2⟩ := m_comes (b := b) (Q := Q) (g := g) (S := S1) (k := i) (p := p) hR hIg (hT.kw (fun j hj => hK j (by omega))) hok (by rw [em]; omega) (by rw [ep]; exact hp)
            rw [gosP_set hik h4 hb] at r2
            rw [e2, bind_sm]
            exact ih (i + 1) S2 (by omega) (by omega) (hO.tr o2) r2 (hK.tr k2)
          · rw [if_neg hb]
            refine ih (i + 1) S1 (by omega) (by omega) hO ?_ hK
            rw [← gosP_same (i := i) (i' := i + 1) (fun j hj => by
              constructor
              · rintro ⟨a, b', c⟩; exact ⟨a, by omega, c⟩
              · rintro ⟨a, b', c⟩
                by_cases hji : j = i
                · subst hji; exact absurd c hb
                · exact ⟨a, by omega, c⟩)]
            exact hR
      · rw [if_neg h4]
        refine ⟨S1, rfl, hO, ?_, hK⟩
        rw [← gosP_same (i := i) (i' := w.1 0 2) (fun j hj => by constructor <;> (rintro ⟨a, _, _⟩; exact absurd a h4))]
        exact hR
theorem cross_end (h : RepM (S 117) (gosP T w k p (w.1 0 2) (mkP T w k p))) (hI : Winv w) {s' : Nat → Int32} (h2 : s' 2 = nI (w.1 0 0 + 1)) (hk : ∀ j, j < 2 ∨ (8 ≤ j ∧ j < 76) → s' j = S 117 j) : RepM s' (crossP T w k p) := by
  have em : (gosP T w k p (w.1 0 2) (mkP T w k p)).1 0 2 = w.1 0 2 := by simp [gosP, scP]
  have ep : (gosP T w k p (w.1 0 2) (mkP T w k p)).1 0 1 = w.1 0 1 := by simp [gosP, scP]
  have cm : (crossP T w k p).1 0 2 = w.1 0 2 := by simp [crossP]
  have cp : (crossP T w k p).1 0 1 = w.1 0 1 := by simp [crossP]
  have c0 : (crossP T w k p).1 0 0 = w.1 0 0 + 1 := by simp [crossP]
  have i2 := hI.2.1
  have i3 := hI.2.2.1
  have er : ∀ r i, ¬ (r = 0 ∧ i = 0) → (crossP T w k p).1 r i = (gosP T w k p (w.1 0 2) (mkP T w k p)).1 r i := by
    intro r i h
    simp only [crossP, gosP, scP, if_neg h]
  have e2 : ∀ i, (crossP T w k p).2 i = (gosP T w k p (w.1 0 2) (mkP T w k p)).2 i := fun i => rfl
  obtain ⟨r1, r2, r3, r4, r5⟩ := h
  refine ⟨by rw [hk _ (by omega), r1, er _ _ (by omega)], by rw [hk _ (by omega), r2, er _ _ (by omega)], by rw [h2, c0], fun q hq => ?_, fun i hi => ?_⟩
  · rw [cp] at hq
    rw [hk _ (by omega), hk _ (by omega), er _ _ (by omega), er _ _ (by omega)]
    exact r4 q (by rw [ep]; exact hq)
  · rw [cm] at hi
    have hl : ((gosP T w k p (w.1 0 2) (mkP T w k p)).2 i).length ≤ 8 := by
      simp only [gosP]
      have hlen := hI.len i
      have hc : ∀ q : Nat, (comesP (keepsP T w q) p (w.2 q)).length ≤ 8 := fun q => by
        unfold comesP; rw [List.length_take]; have := keepsP_le T w q; omega
      split
      · unfold mkP
        split
        · exact Nat.le_trans (List.length_erase_le) (hI.len k)
        · exact hc k
      · split
        · exact hc i
        · exact hlen
    obtain ⟨q1, q2, q3, q4, q5, q6⟩ := r5 i (by rw [em]; exact hi)
    rw [er _ _ (by omega), er _ _ (by omega), er _ _ (by omega), er _ _ (by omega), e2]
    refine ⟨by rw [hk _ (by omega)]; exact q1, by rw [hk _ (by omega)]; exact q2, by rw [hk _ (by omega)]; exact q3, by rw [hk _ (by omega)]; exact q4, by rw [hk _ (by omega)]; exact q5, fun j v hj => ?_⟩
    have := (List.getElem?_eq_some_iff.mp hj).1
    rw [hk _ (by omega)]
    exact q6 j v hj
theorem m_crosses (hR : RepM (S 117) w) (hI : Winv w) (hT : RepT (S 117) T) (hok : ∀ u, txOk (T u)) (hk : k < w.1 0 2) (hp : p < w.1 0 1) {bk : Nat} (hbk : S 117 4 = nI bk) (h24 : bk ≤ 24) : ∃ S', fX9_crosses (E b S Q g) (b + 116) (nI k) (nI p) = some (nI (paysP T w k p), E b S' Q g) ∧ Off [117, 123, 124] S S' ∧ RepM (S' 117) (crossP T w k p) ∧ Bk k p bk (S 117) (S' 117) := by
  have hk4 : k < 4 := Nat.lt_of_lt_of_le hk hI.2.2.1
  have hp8 : p < 8 := Nat.lt_of_lt_of_le hp hI.2.1
  have hc := hI.2.2.2.2.1 p
  have hbank := hI.2.2.2.1 p
  have hmc := hI.2.2.2.2.2.2.2.2.1 k
  have hturn := hI.1
  have hkind := hI.2.2.2.2.2.1 k
  have hfl : fareP T w k ≤ 99 := by unfold fareP; exact Nat.min_le_right _ _
  have main : ∀ (S1 : Nat → Nat → Int32) (F : Nat), S1 117 = S 117 → Off [117, 123, 124] S S1 → F = (if p ∈ w.2 k then fareP T w k else 0) → ∃ S', fX9_crosses_20 (E b S1 Q g) (b + 116) (nI k) (nI p) (nI F) = some (nI (paysP T w k p), E b S' Q g) ∧ Off [117, 123, 124] S S' ∧ RepM (S' 117) (crossP T w k p) ∧ Bk k p bk (S 117) (S' 117) := by
    intro S1 F s1 o1 hF
    have hF99 : F ≤ 99 := by rw [hF]; split <;> omega
    have hP : paysP T w k p = min F (w.1 2 p) := by
      unfold paysP
      rw [hF]
      split
      · rfl
      · simp
    obtain ⟨p1, p2⟩ := hR.2.2.2.1 p hp
    have e44 : fX9_crosses_20 (E b S1 Q g) (b + 116) (nI k) (nI p) (nI F) = fX9_crosses_44 (E b S1 Q g) (b + 116) (nI k) (nI p) (nI F) (nI (paysP T w k p)) := by
      unfold fX9_crosses_20
      simp (disch := omega) only [rN, m_of, bind_sm, s1, p2, nI_leI]
      rw [hP]
      by_cases h : F ≤ w.1 2 p
      · rw [if_pos h, Nat.min_eq_left h]
      · rw [if_neg h, Nat.min_eq_right (by omega)]
    rw [e44]
    generalize hPg : paysP T w k p = P at *
    have hPc : P ≤ w.1 2 p := by rw [hP]; exact Nat.min_le_right _ _
    have hPF : P ≤ F := by rw [hP]; exact Nat.min_le_left _ _
    obtain ⟨q1, q2, q3, q4, q5, q6⟩ := hR.2.2.2.2 k hk
    have e0 : 24 + 13 * k + 0 = 24 + 13 * k := rfl
    have ep0 : 8 + 2 * p + 0 = 8 + 2 * p := rfl
    unfold fX9_crosses_44
    generalize hS2 : up2 (up2 (up2 (up2 S1 117 (8 + 2 * p + 1) (nI (w.1 2 p - P))) 117 (24 + 13 * k + 3) (nI (min (w.1 6 k + P) 999999))) 117 (8 + 2 * p) (nI (1 - w.1 1 p))) 117 (24 + 13 * k + 2) (nI (1 - w.1 1 p)) = S2
    have hs2 : ∀ j, S2 117 j = if j = 24 + 13 * k + 2 then nI (1 - w.1 1 p) else if j = 8 + 2 * p then nI (1 - w.1 1 p) else if j = 24 + 13 * k + 3 then nI (min (w.1 6 k + P) 999999) else if j = 8 + 2 * p + 1 then nI (w.1 2 p - P) else S 117 j := by
      intro j
      rw [← hS2, up2_117, up2_117, up2_117, up2_117, s1]
    have hO2 : Off [117, 123, 124] S S2 := by
      rw [← hS2]
      exact (((o1.tr (Off.up (by decide))).tr (Off.up (by decide))).tr (Off.up (by decide))).tr (Off.up (by decide))
    have hR2 : RepM (S2 117) (scP w k p P) := hR.sc hI hk hp P hs2
    have hI2 : Winv (scP w k p P) := scP_inv hI
    have hK2 : Kw (S 117) (S2 117) := fun j hj => by rw [hs2, if_neg (by omega), if_neg (by omega), if_neg (by omega), if_neg (by omega)]
    have hT2 : RepT (S2 117) T := hT.kw (fun j hj => hK2 j (by omega))
    have run : fX9_crosses_44 (E b S1 Q g) (b + 116) (nI k) (nI p) (nI F) (nI P) = (if w.1 3 k = 5 then if F ≤ 0 then fX9_crosses_147 (E b S2 Q g) (b + 116) (nI k) (nI p) (nI P) else if P = F then (fX9_forgets (E b S2 Q g) (b + 116) (nI k) (nI p)).bind fun q141 => fX9_crosses_156 1000 q141 (b + 116) (nI k) (nI p) (nI P) (nI 0) else fX9_crosses_147 (E b S2 Q g) (b + 116) (nI k) (nI p) (nI P) else fX9_crosses_147 (E b S2 Q g) (b + 116) (nI k) (nI p) (nI P)) := by
      unfold fX9_crosses_44
      simp (disch := omega) only [rM, rN, bind_sm, pk_mul, nI_add, s1, p2, nI_subI, m_its, up2_117]
      rw [if_neg (by omega)]
      simp (disch := omega) only [q4, nI_add, m_heldN, bind_sm, m_lays1, m_of, up2_117, ep0]
      rw [if_neg (by omega), if_neg (by omega)]
      simp (disch := omega) only [s1, p1, nI_subI, rM, bind_sm, m_of, up2_117, ep0, if_true, m_lays1, hS2, m_its, e0]
      rw [if_neg (show ¬ 24 + 13 * k = 24 + 13 * k + 2 by omega), if_neg (show ¬ 24 + 13 * k = 8 + 2 * p by omega), if_neg (show ¬ 24 + 13 * k = 24 + 13 * k + 3 by omega), if_neg (show ¬ 24 + 13 * k = 8 + 2 * p + 1 by omega), q1]
      simp (disch := omega) only [nI_eq, nI_leI]
    rw [show ((getR (E b S1 Q g) 9 (b + 116) 0).bind fun r47 => _) = fX9_crosses_44 (E b S1 Q g) (b + 116) (nI k) (nI p) (nI F) (nI P) from rfl, run]
    have gend : ∀ (S3 : Nat → Nat → Int32), Off [117, 123, 124] S S3 → RepM (S3 117) (gosP T w k p 0 (mkP T w k p)) → Kw (S 117) (S3 117) → ∃ S', fX9_crosses_156 1000 (E b S3 Q g) (b + 116) (nI k) (nI p) (nI P) (nI 0) = some (nI P, E b S' Q g) ∧ Off [117, 123, 124] S S' ∧ RepM (S' 117) (crossP T w k p) ∧ Bk k p bk (S 117) (S' 117) := by
      intro S3 o3 r3 k3
      obtain ⟨S4, e4, o4, r4, k4⟩ := m_gossip_loop (b := b) (Q := Q) (g := g) (S := S) (k := k) (p := p) hI hT hok hk hp (nI P) 1000 0 S3 (Nat.zero_le _) (by have := hI.2.2.1; omega) o3 r3 k3
      have et : (gosP T w k p (w.1 0 2) (mkP T w k p)).1 0 0 = w.1 0 0 := by simp [gosP, scP]
      obtain ⟨S5, e5, o5, p5⟩ := m_book_loop (b := b) (Q := Q) (g := g) (S := S4) (k := k) (p := p) hk4 hp8 bk (w.1 0 0) (by rw [k4 4 (by omega)]; exact hbk) h24 (by rw [r4.2.2.1, et]) hturn (nI P) 1000 23 S4 (by omega) (by omega) Off.rf (fun j => by rw [if_neg (by omega)])
      refine ⟨S5, by rw [e4, e5], o4.tr (o5.mono (fun c hc => by simp at hc ⊢; omega)), cross_end r4 hI ?_ ?_, ?_, ?_, ?_, ?_⟩
      · rw [p5, if_pos rfl]
      · intro j hj
        rw [p5, if_neg (by omega), if_neg (by omega), if_neg (by omega), if_neg (by omega)]
      · rw [p5, if_neg (by omega), if_pos rfl]
      · rw [p5, if_neg (by omega), if_neg (by omega), if_pos rfl]
      · intro i hi
        rw [p5, if_neg (by omega), if_neg (by omega), if_neg (by omega), if_pos (by omega), k4 _ (by omega)]
        congr 1; omega
      · intro j hj
        rw [p5, if_neg (by omega), if_neg (by omega), if_neg (by omega), if_neg (by omega), k4 _ (by omega)]
    have gcome : losesB T w k p = false → ∃ S', fX9_crosses_147 (E b S2 Q g) (b + 116) (nI k) (nI p) (nI P) = some (nI P, E b S' Q g) ∧ Off [117, 123, 124] S S' ∧ RepM (S' 117) (crossP T w k p) ∧ Bk k p bk (S 117) (S' 117) := by
      intro hl
      unfold fX9_crosses_147
      obtain ⟨S3, e3, o3, r3, k3⟩ := m_comes (b := b) (Q := Q) (g := g) (S := S2) (k := k) (p := p) hR2 hI2 hT2 hok (by simpa [scP] using hk) (by simpa [scP] using hp)
      rw [e3, bind_sm, show (0 : Int32) = nI 0 from rfl]
      refine gend S3 (hO2.tr o3) ?_ (hK2.tr k3)
      rw [keepsP_sc] at r3
      have : mkP T w k p = comesP (keepsP T w k) p (w.2 k) := by unfold mkP; rw [hl]; rfl
      rw [this, ← mk0, hPg]
      exact r3
    by_cases h5 : w.1 3 k = 5
    · rw [if_pos h5]
      by_cases h0 : F ≤ 0
      · rw [if_pos h0]
        refine gcome ?_
        unfold losesB
        by_cases hm : p ∈ w.2 k
        · have : fareP T w k = 0 := by rw [if_pos hm] at hF; omega
          simp [this]
        · simp [hm]
      · rw [if_neg h0]
        have hm : p ∈ w.2 k := by
          by_cases hm : p ∈ w.2 k
          · exact hm
          · rw [if_neg hm] at hF; omega
        rw [if_pos hm] at hF
        by_cases hPF2 : P = F
        · rw [if_pos hPF2]
          have hl : losesB T w k p = true := by
            unfold losesB
            simp [h5, hm, hPg, hPF2, hF]
            omega
          obtain ⟨S3, e3, o3, r3, k3⟩ := m_forgets (b := b) (Q := Q) (g := g) (S := S2) (k := k) (p := p) hR2 hI2 (by simpa [scP] using hk) hp8
          rw [e3, bind_sm]
          refine gend S3 (hO2.tr (o3.mono (fun c hc => by simp at hc ⊢; omega))) ?_ (hK2.tr k3)
          have : mkP T w k p = (w.2 k).erase p := by unfold mkP; rw [hl]; rfl
          rw [this, ← mk0, hPg]
          exact r3
        · rw [if_neg hPF2]
          refine gcome ?_
          unfold losesB
          simp [h5, hm, hPg]
          intro _ q
          exact hPF2 (by rw [q, hF])
    · rw [if_neg h5]
      refine gcome ?_
      unfold losesB
      simp [h5]
  unfold fX9_crosses
  simp only [rM, rN, bind_sm, m_knows hR hI hk hp8]
  by_cases h : p ∈ w.2 k
  · simp only [h, if_true]
    rw [if_neg (by decide)]
    obtain ⟨S1, e1, o1⟩ := m_fare (b := b) (Q := Q) (g := g) hR hI hT hok hk
    simp only [e1, bind_sm]
    exact main S1 _ (o1 117 (by decide)) (o1.mono (fun c hc => by simp at hc ⊢; omega)) (by rw [if_pos h])
  · simp only [h, if_false, if_true]
    exact main S 0 rfl Off.rf (by rw [if_neg h])
end RF
