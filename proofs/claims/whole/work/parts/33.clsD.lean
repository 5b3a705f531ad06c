/-! ===== the class: a crossing ===== -/
section CD
variable {b : Nat} {S : Nat → Nat → Int32} {Q : Nat → Nat → Nat} {g h : Hp} {k j p n u c : Nat} {x y z v : Int32} {w : Wo} {T : Tx} {K : Nat → Nat}
theorem RepW.sc {S2 : Nat → Nat → Int32} (hR : RepW S c w) (hI : Winv w) (P : Nat) (hk : k < w.1 0 2) (hp : p < w.1 0 1)
    (h0 : ∀ r, r ≠ c + 1 → r ≠ c + 2 → r ≠ c + 5 → r ≠ c + 6 → S2 r = S r)
    (h1 : ∀ j, S2 (c + 1) j = if j = p then nI (1 - w.1 1 p) else S (c + 1) j) (h2 : ∀ j, S2 (c + 2) j = if j = p then nI (w.1 2 p - P) else S (c + 2) j)
    (h5 : ∀ j, S2 (c + 5) j = if j = k then nI (1 - w.1 1 p) else S (c + 5) j) (h6 : ∀ j, S2 (c + 6) j = if j = k then nI (min (w.1 6 k + P) 999999) else S (c + 6) j) : RepW S2 c (scP w k p P) := by
  obtain ⟨r1, r2, r3, r4, r5⟩ := hR
  refine ⟨by rw [h0 _ (by omega) (by omega) (by omega) (by omega)]; simpa [scP] using r1, by rw [h0 _ (by omega) (by omega) (by omega) (by omega)]; simpa [scP] using r2, by rw [h0 _ (by omega) (by omega) (by omega) (by omega)]; simpa [scP] using r3, fun q hq => ?_, fun i hi => ?_⟩
  · obtain ⟨a1, a2⟩ := r4 q (by simpa [scP] using hq)
    rw [h1, h2]
    by_cases hqp : q = p
    · subst hqp; simp [scP]
    · simp [scP, hqp, a1, a2]
  · obtain ⟨a1, a2, a3, a4, a5, a6⟩ := r5 i (by simpa [scP] using hi)
    rw [h0 (c + 3) (by omega) (by omega) (by omega) (by omega), h0 (c + 4) (by omega) (by omega) (by omega) (by omega), h0 (c + 7) (by omega) (by omega) (by omega) (by omega), h0 (c + 8) (by omega) (by omega) (by omega) (by omega), h5, h6]
    by_cases hik : i = k
    · subst hik; simp [scP, a1, a2, a5]; exact a6
    · simp [scP, hik, a1, a2, a3, a4, a5]; exact a6
theorem c_gossip_loop (hc : isW c) (hI : Winv w) (hok : ∀ u, txOk (T u)) (hk : k < w.1 0 2) (hp : p < w.1 0 1) (hq : LawQ K b g (Q c 11) (T 0)) (r : Int32) :
    ∀ (m i : Nat) (S1 : Nat → Nat → Int32) (g1 : Hp), i ≤ w.1 0 2 → w.1 0 2 - i < m → OffW c S S1 → RepW S1 c (gosP T w k p i (mkP T w k p)) → Lkg K g g1 →
      ∃ S' g', fX7_carry_153 m (E b S1 Q g1) (b + c) (nI k) (nI p) r (if w.1 3 k = 4 then nI 1 else nI 0) (nI i) = some (r, E b S' Q g') ∧ OffW c S S' ∧ RepW S' c (crossP T w k p) ∧ Lkg K g g' := by
  intro m
  have hk4 : k < 4 := Nat.lt_of_lt_of_le hk hI.2.2.1
  have hm4 := hI.2.2.1
  have hp8 : p < 8 := Nat.lt_of_lt_of_le hp hI.2.1
  have hturn := hI.1
  have fin : ∀ (S1 : Nat → Nat → Int32) (g1 : Hp), OffW c S S1 → RepW S1 c (gosP T w k p (w.1 0 2) (mkP T w k p)) → Lkg K g g1 → ∃ S' g', fX7_carry_202 (E b S1 Q g1) (b + c) r = some (r, E b S' Q g') ∧ OffW c S S' ∧ RepW S' c (crossP T w k p) ∧ Lkg K g g' := by
    intro S1 g1 hO hR hL
    obtain ⟨r1, r2, r3, r4, r5⟩ := hR
    have et : (gosP T w k p (w.1 0 2) (mkP T w k p)).1 0 0 = w.1 0 0 := by simp [gosP, scP]
    unfold fX7_carry_202
    simp (disch := omega) only [rW hc, rN, bind_sm, r1, et, nI_add]
    refine ⟨_, g1, rfl, hO.tr (OffW.up (by omega) (by omega)), ?_, hL⟩
    have er : ∀ r i, ¬ (r = 0 ∧ i = 0) → (crossP T w k p).1 r i = (gosP T w k p (w.1 0 2) (mkP T w k p)).1 r i := by
      intro r i h
      simp only [crossP, gosP, scP, if_neg h]
    have e2 : ∀ i, (crossP T w k p).2 i = (gosP T w k p (w.1 0 2) (mkP T w k p)).2 i := fun i => rfl
    have c0 : (crossP T w k p).1 0 0 = w.1 0 0 + 1 := by simp [crossP]
    have u0 : ∀ r, r ≠ c → up2 S1 c 0 (nI (w.1 0 0 + 1)) r = S1 r := fun r hr => up2_row (fun q => hr q.symm)
    refine ⟨by rw [up2_at, if_pos rfl, c0], by rw [up2_at, if_neg (by omega), r2, er _ _ (by omega)], by rw [up2_at, if_neg (by omega), r3, er _ _ (by omega)], fun q hq => ?_, fun i hi => ?_⟩
    · rw [u0 _ (by omega), u0 _ (by omega), er _ _ (by omega), er _ _ (by omega)]
      exact r4 q (by rw [er _ _ (by omega)] at hq; exact hq)
    · rw [u0 _ (by omega), u0 _ (by omega), u0 _ (by omega), u0 _ (by omega), u0 _ (by omega), u0 _ (by omega), er _ _ (by omega), er _ _ (by omega), er _ _ (by omega), er _ _ (by omega), e2]
      exact r5 i (by rw [er _ _ (by omega)] at hi; exact hi)
  induction m with
  | zero => intro i S1 g1 h1 h2; omega
  | succ m ih =>
    intro i S1 g1 h1 h2 hO hR hL
    have hIg := gosP_inv (T := T) (k := k) (p := p) (i := i) hI hp
    have em : (gosP T w k p i (mkP T w k p)).1 0 2 = w.1 0 2 := by simp [gosP, scP]
    have ep : (gosP T w k p i (mkP T w k p)).1 0 1 = w.1 0 1 := by simp [gosP, scP]
    have h11 : S1 c 2 = nI (w.1 0 2) := by rw [hR.2.2.1, em]
    rw [fX7_carry_153]
    by_cases h4 : w.1 3 k = 4
    · simp only [h4, if_true]
      rw [if_neg (by decide)]
      simp (disch := omega) only [rW hc, rN, bind_sm, h11, nI_leI]
      by_cases hle : w.1 0 2 ≤ i
      · rw [if_pos hle]
        have hi : i = w.1 0 2 := by omega
        subst hi
        exact fin S1 g1 hO hR hL
      · rw [if_neg hle]
        have hkk := hR.2.2.2.2 k (by rw [em]; exact hk)
        have hii := hR.2.2.2.2 i (by rw [em]; omega)
        have ek5 : (gosP T w k p i (mkP T w k p)).1 5 k = 1 - w.1 1 p := by simp [gosP, scP]
        have v5 : S1 (c + 5) k = nI (1 - w.1 1 p) := by rw [hkk.2.2.1, ek5]
        simp (disch := omega) only [nI_eq, nI_add]
        simp only [h4, if_true] at ih
        by_cases hik : i = k
        · rw [if_pos hik]
          refine ih (i + 1) S1 g1 (by omega) (by omega) hO ?_ hL
          rw [← gosP_same (i := i) (i' := i + 1) (fun j hj => by constructor <;> (rintro ⟨a, b', c⟩; exact ⟨a, by omega, c⟩))]
          exact hR
        · rw [if_neg hik]
          have ei5 : (gosP T w k p i (mkP T w k p)).1 5 i = w.1 5 i := by simp [gosP, scP, hik]
          have vi5 : S1 (c + 5) i = nI (w.1 5 i) := by rw [hii.2.2.1, ei5]
          have hb1 := hI.2.2.2.2.2.2.2.1 i
          simp (disch := omega) only [rW hc, bind_sm, v5, vi5, nI_eq]
          by_cases hb : w.1 5 i = 1 - w.1 1 p
          · rw [if_pos hb]
            obtain ⟨S2, g2, e2, l2, o2, _, r2⟩ := c_faceComes (b := b) (Q := Q) (g := g1) (S := S1) (k := i) (p := p) hc hR hIg (by rw [em]; omega) (by rw [ep]; exact hp) (hq.lk hL) hok
            rw [gosP_set hik h4 hb] at r2
            rw [e2, bind_sm]
            exact ih (i + 1) S2 g2 (by omega) (by omega) (hO.tr o2) r2 (hL.tr l2)
          · rw [if_neg hb]
            refine ih (i + 1) S1 g1 (by omega) (by omega) hO ?_ hL
            rw [← gosP_same (i := i) (i' := i + 1) (fun j hj => by
              constructor
              · rintro ⟨a, b', c⟩; exact ⟨a, by omega, c⟩
              · rintro ⟨a, b', c⟩
                by_cases hji : j = i
                · subst hji; exact absurd c hb
                · exact ⟨a, by omega, c⟩)]
            exact hR
    · simp only [h4, if_false]
      rw [if_pos (by rfl)]
      refine fin S1 g1 hO ?_ hL
      rw [← gosP_same (i := i) (i' := w.1 0 2) (fun j hj => by constructor <;> (rintro ⟨a, _, _⟩; exact absurd a h4))]
      exact hR
theorem c_carry (hc : isW c) (hR : RepW S c w) (hI : Winv w) (hk : k < w.1 0 2) (hp : p < w.1 0 1) (hmt : w.1 5 k = w.1 1 p) (hq : LawQ K b g (Q c 11) (T 0)) (hq1 : LawQ K b g (Q c 12) (T 1)) (hok : ∀ u, txOk (T u)) : ∃ S' g', fX7_carry (E b S Q g) (b + c) (nI k) (nI p) = some (nI (paysP T w k p), E b S' Q g') ∧ OffW c S S' ∧ RepW S' c (crossP T w k p) ∧ Lkg K g g' := by
  have hk4 : k < 4 := Nat.lt_of_lt_of_le hk hI.2.2.1
  have hp8 : p < 8 := Nat.lt_of_lt_of_le hp hI.2.1
  have hco := hI.2.2.2.2.1 p
  have hbank := hI.2.2.2.1 p
  have hmc := hI.2.2.2.2.2.2.2.2.1 k
  have hkind := hI.2.2.2.2.2.1 k
  have hfl : fareP T w k ≤ 99 := by unfold fareP; exact Nat.min_le_right _ _
  obtain ⟨p1, p2⟩ := hR.2.2.2.1 p hp
  obtain ⟨q1, q2, q3, q4, q5, q6⟩ := hR.2.2.2.2 k hk
  have tail : ∀ (S1 : Nat → Nat → Int32) (g1 : Hp) (l : Int32), Lkg K g g1 → (l = nI 0 ∨ l = nI 1) → (∀ r, r ≠ c + 2 → r ≠ c + 6 → S1 r = S r) →
      (∀ j, S1 (c + 2) j = if j = p then nI (w.1 2 p - paysP T w k p) else S (c + 2) j) → (∀ j, S1 (c + 6) j = if j = k then nI (min (w.1 6 k + paysP T w k p) 999999) else S (c + 6) j) →
      (losesB T w k p = true ↔ w.1 3 k = 5 ∧ l = nI 1) →
      ∃ S' g', fX7_carry_80 (E b S1 Q g1) (b + c) (nI k) (nI p) (nI (paysP T w k p)) l = some (nI (paysP T w k p), E b S' Q g') ∧ OffW c S S' ∧ RepW S' c (crossP T w k p) ∧ Lkg K g g' := by
    intro S1 g1 l hL hl s0 s2 s6 hlo
    generalize hS2 : up2 (up2 S1 (c + 1) p (nI (1 - w.1 1 p))) (c + 5) k (nI (1 - w.1 1 p)) = S2
    have hR2 : RepW S2 c (scP w k p (paysP T w k p)) := by
      refine hR.sc hI (paysP T w k p) hk hp (fun r h1 h2 h3 h4 => ?_) (fun j => ?_) (fun j => ?_) (fun j => ?_) (fun j => ?_)
      · rw [← hS2, up2_row (by omega), up2_row (by omega), s0 _ h2 h4]
      · rw [← hS2, up2_ne (by omega), up2_at, s0 _ (by omega) (by omega)]
      · rw [← hS2, up2_ne (by omega), up2_ne (by omega), s2]
      · rw [← hS2, up2_at, up2_ne (by omega), s0 _ (by omega) (by omega)]
      · rw [← hS2, up2_ne (by omega), up2_ne (by omega), s6]
    have hO2 : OffW c S S2 := fun r hr => by rw [← hS2, up2_row (by omega), up2_row (by omega), s0 _ (by omega) (by omega)]
    have hI2 : Winv (scP w k p (paysP T w k p)) := scP_inv hI
    have v3 : S2 (c + 3) k = nI (w.1 3 k) := by rw [← hS2, up2_ne (by omega), up2_ne (by omega), s0 _ (by omega) (by omega)]; exact q1
    have gend : ∀ (S3 : Nat → Nat → Int32) (g3 : Hp), OffW c S S3 → RepW S3 c (gosP T w k p 0 (mkP T w k p)) → Lkg K g g3 → ∃ S' g', fX7_carry_138 (E b S3 Q g3) (b + c) (nI k) (nI p) (nI (paysP T w k p)) = some (nI (paysP T w k p), E b S' Q g') ∧ OffW c S S' ∧ RepW S' c (crossP T w k p) ∧ Lkg K g g' := by
      intro S3 g3 o3 r3 l3
      have ek3 : (gosP T w k p 0 (mkP T w k p)).1 3 k = w.1 3 k := by simp [gosP, scP]
      have em : (gosP T w k p 0 (mkP T w k p)).1 0 2 = w.1 0 2 := by simp [gosP, scP]
      have w3 : S3 (c + 3) k = nI (w.1 3 k) := by rw [(r3.2.2.2.2 k (by rw [em]; exact hk)).1, ek3]
      unfold fX7_carry_138
      simp (disch := omega) only [rW hc, rN, bind_sm, w3, c_isUnder (E b S3 Q g3) (a := w.1 3 k) (c := 4) (by omega) (by decide)]
      have : (if undP (w.1 3 k) 4 = true then nI 1 else nI 0) = (if w.1 3 k = 4 then nI 1 else nI 0) := by
        by_cases h : w.1 3 k = 4 <;> simp [undP, h]
      rw [this]
      exact c_gossip_loop (S := S) hc hI hok hk hp hq _ 1000 0 S3 g3 (Nat.zero_le _) (by have := hI.2.2.1; omega) o3 r3 l3
    have gcome : losesB T w k p = false → ∃ S' g', fX7_carry_132 (E b S2 Q g1) (b + c) (nI k) (nI p) (nI (paysP T w k p)) = some (nI (paysP T w k p), E b S' Q g') ∧ OffW c S S' ∧ RepW S' c (crossP T w k p) ∧ Lkg K g g' := by
      intro hl
      unfold fX7_carry_132
      obtain ⟨S3, g3, e3, l3, o3, _, r3⟩ := c_faceComes (b := b) (Q := Q) (g := g1) (S := S2) (k := k) (p := p) hc hR2 hI2 (by simpa [scP] using hk) (by simpa [scP] using hp) (hq.lk hL) hok
      rw [e3, bind_sm]
      refine gend S3 g3 (hO2.tr o3) ?_ (hL.tr l3)
      rw [keepsP_sc] at r3
      have : mkP T w k p = comesP (keepsP T w k) p (w.2 k) := by unfold mkP; rw [hl]; rfl
      rw [this, ← mk0]
      exact r3
    have e1 : S1 (c + 1) p = nI (w.1 1 p) := by rw [s0 _ (by omega) (by omega)]; exact p1
    have e5 : S1 (c + 5) k = nI (w.1 1 p) := by rw [s0 _ (by omega) (by omega), ← hmt]; exact q3
    unfold fX7_carry_80
    simp (disch := omega) only [rW hc, rN, bind_sm, e1, nI_subI]
    rw [up2_ne (show c + 5 ≠ c + 1 by omega), e5]
    simp (disch := omega) only [nI_subI, hS2, v3, nI_eq]
    rcases hl with rfl | rfl
    · rw [if_pos rfl]
      refine gcome ?_
      cases hb : losesB T w k p
      · rfl
      · exact absurd (hlo.mp hb).2 (by decide)
    · rw [if_neg (by decide)]
      by_cases h5 : w.1 3 k = 5
      · rw [if_pos h5]
        obtain ⟨S3, e3, o3, _, r3⟩ := c_loseFace (b := b) (Q := Q) (g := g1) (S := S2) (k := k) (p := p) hc hR2 hI2 (by simpa [scP] using hk) hp8
        rw [e3, bind_sm]
        refine gend S3 g1 (hO2.tr o3) ?_ hL
        have : mkP T w k p = (w.2 k).erase p := by unfold mkP; rw [hlo.mpr ⟨h5, rfl⟩]; rfl
        rw [this, ← mk0]
        exact r3
      · rw [if_neg h5]
        refine gcome ?_
        cases hb : losesB T w k p
        · rfl
        · exact absurd (hlo.mp hb).1 h5
  unfold fX7_carry
  simp (disch := omega) only [rW hc, rN, bind_sm, c_knows hc hR hI hk hp8]
  by_cases hm : p ∈ w.2 k
  · simp only [hm, if_true]
    rw [if_neg (by decide)]
    obtain ⟨g1, e1, l1⟩ := c_fare (b := b) (S := S) (Q := Q) (g := g) (k := k) hc q2 q1 q3 q5 hI hk4 hq1 hok
    have hP : paysP T w k p = min (fareP T w k) (w.1 2 p) := by unfold paysP; rw [if_pos hm]
    have hPc : paysP T w k p ≤ w.1 2 p := by rw [hP]; exact Nat.min_le_right _ _
    have t49 : ∀ l, (l = nI 0 ∨ l = nI 1) → (losesB T w k p = true ↔ w.1 3 k = 5 ∧ l = nI 1) → ∃ S' g', fX7_carry_49 (E b S Q g1) (b + c) (nI k) (nI p) (nI (paysP T w k p)) l = some (nI (paysP T w k p), E b S' Q g') ∧ OffW c S S' ∧ RepW S' c (crossP T w k p) ∧ Lkg K g g' := by
      intro l hl hlo
      unfold fX7_carry_49
      simp (disch := omega) only [rW hc, rN, bind_sm, p2, nI_subI]
      rw [up2_ne (show c + 6 ≠ c + 2 by omega), q4]
      simp (disch := omega) only [nI_add, imin_nI]
      refine tail _ g1 l l1 hl (fun r h2 h6 => ?_) (fun j => ?_) (fun j => ?_) hlo
      · rw [up2_row (by omega), up2_row (by omega)]
      · rw [up2_ne (by omega), up2_at]
      · rw [up2_at, up2_ne (by omega)]
    have lb : losesB T w k p = true ↔ w.1 3 k = 5 ∧ 0 < fareP T w k ∧ paysP T w k p = fareP T w k := by
      unfold losesB
      simp [hm]
    rw [e1]
    simp (disch := omega) only [rW hc, bind_sm, p2, imin_nI, nI_leI, nI_eq]
    rw [← hP]
    unfold fX7_carry_48
    by_cases h0 : fareP T w k ≤ 0
    · rw [if_pos h0]
      exact t49 _ (Or.inl rfl) ⟨fun q => absurd (lb.mp q).2.1 (by omega), fun q => absurd q.2 (by decide)⟩
    · rw [if_neg h0]
      by_cases hPF : paysP T w k p = fareP T w k
      · rw [if_pos hPF]
        exact t49 _ (Or.inr rfl) ⟨fun q => ⟨(lb.mp q).1, rfl⟩, fun q => lb.mpr ⟨q.1, by omega, hPF⟩⟩
      · rw [if_neg hPF]
        exact t49 _ (Or.inl rfl) ⟨fun q => absurd (lb.mp q).2.2 hPF, fun q => absurd q.2 (by decide)⟩
  · simp only [hm, if_false]
    rw [if_pos trivial]
    have hP : paysP T w k p = 0 := by unfold paysP; rw [if_neg hm]
    have := tail S g (nI 0) Lkg.rf (Or.inl rfl) (fun _ _ _ => rfl) (fun j => by
      rw [hP]
      split
      next h => rw [h, p2, Nat.sub_zero]
      next => rfl) (fun j => by
      rw [hP]
      split
      next h => rw [h, q4, Nat.add_zero, Nat.min_eq_left hmc]
      next => rfl) ⟨fun q => by unfold losesB at q; simp [hm] at q, fun q => absurd q.2 (by decide)⟩
    rw [hP] at this ⊢
    exact this
end CD
