/-! ===== stranger ===== -/
section OZd
variable {b : Nat} {S S' S1 S2 S3 S5 S6 : Nat → Nat → Int32} {Q Q' Q1 Q2 : Nat → Nat → Nat} {g g' g1 g2 h : Hp} {f k j p q n u c c0 c1 lo hi i e m d : Nat} {x y z v r : Int32} {w : Wo} {T : Tx} {K K2 : Nat → Nat} {a a' : Fs} {s s' s0 : Nat → Int32} {t : Dt} {l : List Nat}

def goodP (w : Wo) (k p : Nat) : Prop := p ∉ w.2 k ∧ metP w k p = true
def childP (w : Wo) (k p q : Nat) : Prop := q ≠ p ∧ metP w k q = true
/-- a stranger by so many hired crossings -/
def reach (T : Tx) (k p : Nat) : Nat → Wo → Prop
  | 0, w => goodP w k p
  | d + 1, w => ∃ q, q < w.1 0 1 ∧ childP w k p q ∧ reach T k p d (crossP T w k q)
theorem crossP_0 : (crossP T w k p).1 0 1 = w.1 0 1 ∧ (crossP T w k p).1 0 2 = w.1 0 2 ∧ (crossP T w k p).1 0 0 = w.1 0 0 + 1 := by
  refine ⟨?_, ?_, ?_⟩ <;> simp [crossP]
def wc (h : Nat) : Nat := 42 + 9 * h
theorem wc_isW {h : Nat} (hh : h ≤ 6) : isW (wc h) := by
  unfold isW wc
  omega
theorem c_behR {h : Nat} (hh : h ≤ 6) : rdR (E b S Q g) (b + 39) (nI h) = some (b + wc h) := by
  have : h = 0 ∨ h = 1 ∨ h = 2 ∨ h = 3 ∨ h = 4 ∨ h = 5 ∨ h = 6 := by omega
  rcases this with rfl | rfl | rfl | rfl | rfl | rfl | rfl <;> simp only [rV] <;> rfl
/-- a world to be tried, at the cell c -/
def Try (b : Nat) (K : Nat → Nat) (T : Tx) (S : Nat → Nat → Int32) (Q : Nat → Nat → Nat) (g : Hp) (c : Nat) (w : Wo) : Prop := RepW S c w ∧ LawQ K b g (Q c 11) (T 0) ∧ LawQ K b g (Q c 12) (T 1)
theorem Try.fr (h : Try b K T S Q g c w) (hS : ∀ m < 9, S' (c + m) = S (c + m)) (hQ : Q' c = Q c) (hk : Lkg K g g') : Try b K T S' Q' g' c w := ⟨h.1.fr hS, by rw [hQ]; exact h.2.1.lk hk, by rw [hQ]; exact h.2.2.lk hk⟩
/-- the next world behind a crossing -/
theorem c_next (h0 : isW c0) (h1 : isW c1) (hne : c0 ≠ c1) (ht : Try b K T S Q g c0 w) (hI : Winv w) (hok : ∀ u, txOk (T u)) (hk : k < w.1 0 2) (hp : p < w.1 0 1) (hm : metP w k p = true) : ∃ S1 S2 Q2 g2, fX7_copyFrom (E b S Q g) (b + c1) (b + c0) = some (E b S1 Q2 g) ∧ fX7_carry (E b S1 Q2 g) (b + c1) (nI k) (nI p) = some (nI (paysP T w k p), E b S2 Q2 g2) ∧ Try b K T S2 Q2 g2 c1 (crossP T w k p) ∧ (∀ r, r < c1 ∨ c1 + 9 ≤ r → S2 r = S r) ∧ (∀ r, r ≠ c1 → Q2 r = Q r) ∧ Lkg K g g2 := by
  obtain ⟨t1, t2, t3⟩ := ht
  have hmt : w.1 5 k = w.1 1 p := by unfold metP at hm; simpa using hm
  obtain ⟨S1, e1, o1, p1⟩ := c_copyFrom (b := b) (S := S) (Q := Q) (g := g) h0 h1 hne
  have r1 : RepW S1 c1 w := RepW.copy t1 hI p1
  obtain ⟨S2, g2, e2, o2, r2, l2⟩ := c_carry (b := b) (S := S1) (Q := cpQ Q c0 c1) (g := g) (K := K) (T := T) h1 r1 hI hk hp hmt (by rw [cpQ_at (by omega) hne]; exact t2) (by rw [cpQ_at (by omega) hne]; exact t3) hok
  refine ⟨S1, S2, cpQ Q c0 c1, g2, e1, e2, ⟨r2, ?_, ?_⟩, fun r hr => by rw [o2 r hr, o1 r hr], fun r hr => cpQ_ne hr, l2⟩
  · rw [cpQ_at (by omega) hne]; exact t2.lk l2
  · rw [cpQ_at (by omega) hne]; exact t3.lk l2
def OffH (h : Nat) (S S' : Nat → Nat → Int32) : Prop := ∀ r, r ≠ 38 → (r < 42 + 9 * (h + 1) ∨ 105 ≤ r) → S' r = S r
def OffQ (h : Nat) (Q Q' : Nat → Nat → Nat) : Prop := ∀ r, r < 42 + 9 * (h + 1) → Q' r = Q r
def hireOK (T : Tx) (k p h : Nat) (w : Wo) (F F' : Nat) : Prop := (F' = F ∧ ∀ d, h + d < F → ¬ reach T k p d w) ∨ ∃ d, F' = h + d ∧ h + d < F ∧ reach T k p d w ∧ ∀ d' < d, ¬ reach T k p d' w
theorem getI_H1 : getI (E b S Q g) 6 (b + 38) 1 = some (S 38 1) := by simp only [rV]
theorem getR_H0 : getR (E b S Q g) 6 (b + 38) 0 = some (b + 39) := by simp only [rV]
theorem c_hire (hok : ∀ u, txOk (T u)) : ∀ (n h : Nat) (w : Wo) (S : Nat → Nat → Int32) (Q : Nat → Nat → Nat) (g : Hp) (F : Nat), n + h = 8 → h ≤ 4 → Winv w → w.1 0 0 + (6 - h) ≤ 10020 → Try b K T S Q g (wc h) w → S 38 1 = nI F → h ≤ F → F ≤ 5 → p < w.1 0 1 → k < w.1 0 2 → ∃ S' Q' g' F', gX6_hire n (E b S Q g) (b + 38) (nI p) (nI k) (nI h) = some (E b S' Q' g') ∧ S' 38 1 = nI F' ∧ h ≤ F' ∧ F' ≤ F ∧ hireOK T k p h w F F' ∧ OffH h S S' ∧ OffQ h Q Q' ∧ Lkg K g g' := by
  intro n
  induction n with
  | zero => intro h w S Q g F h1 h2; omega
  | succ n ih =>
    intro h w S Q g F hnh hh hI ht hT hF hhF hF5 hp hk
    have hp8 := hI.2.1
    have hW := wc_isW (h := h) (by omega)
    have hW1 := wc_isW (h := h + 1) (by omega)
    have e0 : gX6_hire (n + 1) (E b S Q g) (b + 38) (nI p) (nI k) (nI h) = if p ∉ w.2 k ∧ metP w k p = true then some (E b (up2 S 38 1 (nI h)) Q g) else fX6_hire_34 (gX6_hire n) (E b S Q g) (b + 38) (nI p) (nI k) (nI h) (b + wc h) := by
      rw [gX6_hire, bX6_hire, getR_H0, bind_sm, c_behR (by omega), bind_sm, c_meet hW hT.1 hI hk hp, bind_sm]
      by_cases hm : metP w k p = true
      · rw [if_pos hm, if_neg (by decide), c_knows hW hT.1 hI hk (by omega), bind_sm]
        by_cases hkn : p ∈ w.2 k
        · rw [if_pos hkn, if_neg (by decide), if_neg (fun q => q.1 hkn)]
        · rw [if_neg hkn, if_pos (by decide), if_pos ⟨hkn, hm⟩, show putV (E b S Q g) 6 (b + 38) 1 (.int (nI h)) = some (E b (up2 S 38 1 (nI h)) Q g) by simp only [rV], bind_sm]
      · rw [if_neg hm, if_pos (by decide), if_neg (fun q => hm q.2)]
    by_cases hgood : p ∉ w.2 k ∧ metP w k p = true
    · rw [if_pos hgood] at e0
      refine ⟨up2 S 38 1 (nI h), Q, g, h, e0, by rw [up2_at, if_pos rfl], Nat.le_refl _, hhF, ?_, fun r h1 h2 => up2_row (by omega), fun _ _ => rfl, Lkg.rf⟩
      by_cases hFh : F = h
      · exact Or.inl ⟨hFh.symm, fun d hd => by omega⟩
      · exact Or.inr ⟨0, rfl, by omega, hgood, fun d' hd' => by omega⟩
    · rw [if_neg hgood] at e0
      by_cases hend : F ≤ h + 1
      · refine ⟨S, Q, g, F, ?_, hF, hhF, Nat.le_refl _, Or.inl ⟨rfl, fun d hd => ?_⟩, fun _ _ _ => rfl, fun _ _ => rfl, Lkg.rf⟩
        · rw [e0]
          unfold fX6_hire_34
          rw [getI_H1, hF, bind_sm, if_pos (show nI F ≤ nI h + 1 by rw [show nI h + 1 = nI (h + 1) from nI_add h 1]; exact (nI_leI (by omega) (by omega)).mpr hend)]
        · have : d = 0 := by omega
          subst this
          exact hgood
      · have e1 : fX6_hire_34 (gX6_hire n) (E b S Q g) (b + 38) (nI p) (nI k) (nI h) (b + wc h) = fX6_hire_63 (gX6_hire n) 1000 (E b S Q g) (b + 38) (nI p) (nI k) (nI h) (b + wc h) (b + wc (h + 1)) (nI 0) := by
          unfold fX6_hire_34
          rw [getI_H1, hF, bind_sm, show nI h + 1 = nI (h + 1) from nI_add h 1, if_neg (fun q => hend ((nI_leI (by omega) (by omega)).mp q)), if_pos (show nI h < 4 from (nI_ltI (by omega) (by decide) : nI h < nI 4 ↔ h < 4).mpr (by omega)), getR_H0, bind_sm, c_behR (by omega), bind_sm]
          rfl
        have loop : ∀ (m q : Nat) (S1 : Nat → Nat → Int32) (Q1 : Nat → Nat → Nat) (g1 : Hp) (F1 : Nat), q ≤ w.1 0 1 → w.1 0 1 - q < m → OffH h S S1 → OffQ h Q Q1 → Lkg K g g1 → S1 38 1 = nI F1 → h + 1 ≤ F1 → F1 ≤ F →
            ((F1 = F ∧ ∀ i < q, childP w k p i → ∀ d, h + 1 + d < F → ¬ reach T k p d (crossP T w k i)) ∨ ∃ d, F1 = h + 1 + d ∧ h + 1 + d < F ∧ (∃ i, i < q ∧ childP w k p i ∧ reach T k p d (crossP T w k i)) ∧ ∀ i < q, childP w k p i → ∀ d' < d, ¬ reach T k p d' (crossP T w k i)) →
            ∃ S' Q' g' F', fX6_hire_63 (gX6_hire n) m (E b S1 Q1 g1) (b + 38) (nI p) (nI k) (nI h) (b + wc h) (b + wc (h + 1)) (nI q) = some (E b S' Q' g') ∧ S' 38 1 = nI F' ∧ h ≤ F' ∧ F' ≤ F ∧ hireOK T k p h w F F' ∧ OffH h S S' ∧ OffQ h Q Q' ∧ Lkg K g g' := by
          intro m
          induction m with
          | zero => intro q _ _ _ _ _ h; omega
          | succ m ihm =>
            intro q S1 Q1 g1 F1 hq hm hO hOQ hL hF1 hb1 hb2 hacc
            have hT1 : Try b K T S1 Q1 g1 (wc h) w := hT.fr (fun m hm => hO _ (by unfold wc; omega) (by unfold wc; omega)) (hOQ _ (by unfold wc; omega)) hL
            rw [fX6_hire_63, (rW hW b S1 Q1 g1).2.2.2.1, hT1.1.2.1, bind_sm]
            by_cases hle : w.1 0 1 ≤ q
            · rw [if_pos ((nI_leI (by omega) (by omega)).mpr hle)]
              refine ⟨S1, Q1, g1, F1, rfl, hF1, by omega, hb2, ?_, hO, hOQ, hL⟩
              have hqe : q = w.1 0 1 := by omega
              rcases hacc with ⟨h1, h2⟩ | ⟨d, h1, h2, ⟨i, h3, h4, h5⟩, h6⟩
              · refine Or.inl ⟨h1, fun d hd => ?_⟩
                cases d with
                | zero => exact hgood
                | succ d =>
                  rintro ⟨i, hi, hc, hr⟩
                  exact h2 i (by omega) hc d (by omega) hr
              · refine Or.inr ⟨d + 1, by omega, by omega, ⟨i, by omega, h4, h5⟩, fun d' hd' => ?_⟩
                cases d' with
                | zero => exact hgood
                | succ d' =>
                  rintro ⟨i', hi', hc', hr'⟩
                  exact h6 i' (by omega) hc' d' (by omega) hr'
            · rw [if_neg (fun z => hle ((nI_leI (by omega) (by omega)).mp z))]
              -- one that is no child
              have skip : ¬ childP w k p q → fX6_hire_63 (gX6_hire n) m (E b S1 Q1 g1) (b + 38) (nI p) (nI k) (nI h) (b + wc h) (b + wc (h + 1)) (nI q + 1) = fX6_hire_63 (gX6_hire n) m (E b S1 Q1 g1) (b + 38) (nI p) (nI k) (nI h) (b + wc h) (b + wc (h + 1)) (nI (q + 1)) → ∃ S' Q' g' F', fX6_hire_63 (gX6_hire n) m (E b S1 Q1 g1) (b + 38) (nI p) (nI k) (nI h) (b + wc h) (b + wc (h + 1)) (nI q + 1) = some (E b S' Q' g') ∧ S' 38 1 = nI F' ∧ h ≤ F' ∧ F' ≤ F ∧ hireOK T k p h w F F' ∧ OffH h S S' ∧ OffQ h Q Q' ∧ Lkg K g g' := by
                intro hnc he
                rw [he]
                refine ihm (q + 1) S1 Q1 g1 F1 (by clear hacc; omega) (by clear hacc; omega) hO hOQ hL hF1 hb1 hb2 ?_
                rcases hacc with ⟨h1, h2⟩ | ⟨d, h1, h2, ⟨i, h3, h4, h5⟩, h6⟩
                · refine Or.inl ⟨h1, fun i hi hc => ?_⟩
                  by_cases hiq : i = q
                  · subst hiq; exact absurd hc hnc
                  · exact h2 i (by omega) hc
                · refine Or.inr ⟨d, h1, h2, ⟨i, by omega, h4, h5⟩, fun i hi hc => ?_⟩
                  by_cases hiq : i = q
                  · subst hiq; exact absurd hc hnc
                  · exact h6 i (by omega) hc
              have eq1 : nI q + 1 = nI (q + 1) := nI_add q 1
              by_cases hqp : q = p
              · rw [if_pos (by rw [hqp])]
                exact skip (fun z => z.1 hqp) (by rw [eq1])
              · rw [if_neg (fun z => hqp ((nI_eq (by omega) (by omega)).mp z)), c_meet hW hT1.1 hI hk (by omega), bind_sm]
                by_cases hmt : metP w k q = true
                · rw [if_pos hmt, if_neg (by decide)]
                  obtain ⟨S2, S3, Q3, g3, e2, e3, t3, o3, oq3, l3⟩ := c_next (p := q) hW hW1 (by unfold wc; omega) hT1 hI hok hk (by omega) hmt
                  have hc0 := crossP_0 (T := T) (w := w) (k := k) (p := q)
                  have f38 : S3 38 1 = nI F1 := by rw [o3 38 (by unfold wc; omega)]; exact hF1
                  obtain ⟨S4, Q4, g4, F4, e4, f4, b4, b4', k4, o4, oq4, l4⟩ := ih (h + 1) (crossP T w k q) S3 Q3 g3 F1 (by clear hacc; omega) (by clear hacc; omega) (crossP_inv hI (by clear hacc; omega) (by clear hacc; omega)) (by clear hacc; rw [hc0.2.2]; omega) t3 f38 hb1 (by clear hacc; omega) (by rw [hc0.1]; exact hp) (by rw [hc0.2.1]; exact hk)
                  rw [e2, bind_sm, e3, bind_sm, show nI h + 1 = nI (h + 1) from nI_add h 1]
                  dsimp only
                  rw [e4, bind_sm, eq1]
                  refine ihm (q + 1) S4 Q4 g4 F4 (by clear hacc k4; omega) (by clear hacc k4; omega) (fun r h1 h2 => ?_) (fun r h1 => ?_) ((hL.tr l3).tr l4) f4 b4 (by clear hacc k4; omega) ?_
                  · rw [o4 r h1 (by omega), o3 r (by unfold wc; omega), hO r h1 h2]
                  · rw [oq4 r (by omega), oq3 r (by unfold wc; omega), hOQ r h1]
                  · have hch : childP w k p q := ⟨hqp, hmt⟩
                    rcases hacc with ⟨h1, h2⟩ | ⟨d, h1, h2, ⟨i, h3, h4, h5⟩, h6⟩
                    · rcases k4 with ⟨z1, z2⟩ | ⟨d, z1, z2, z3, z4⟩
                      · refine Or.inl ⟨by omega, fun i hi hc d hd => ?_⟩
                        by_cases hiq : i = q
                        · subst hiq; exact z2 d (by omega)
                        · exact h2 i (by omega) hc d hd
                      · refine Or.inr ⟨d, z1, by omega, ⟨q, by omega, hch, z3⟩, fun i hi hc d' hd' => ?_⟩
                        by_cases hiq : i = q
                        · subst hiq; exact z4 d' hd'
                        · exact h2 i (by omega) hc d' (by omega)
                    · rcases k4 with ⟨z1, z2⟩ | ⟨d2, z1, z2, z3, z4⟩
                      · refine Or.inr ⟨d, by omega, h2, ⟨i, by omega, h4, h5⟩, fun i' hi hc d' hd' => ?_⟩
                        by_cases hiq : i' = q
                        · subst hiq; exact z2 d' (by omega)
                        · exact h6 i' (by omega) hc d' hd'
                      · refine Or.inr ⟨d2, z1, by omega, ⟨q, by omega, hch, z3⟩, fun i' hi hc d' hd' => ?_⟩
                        by_cases hiq : i' = q
                        · subst hiq; exact z4 d' hd'
                        · exact h6 i' (by omega) hc d' (by omega)
                · rw [if_neg hmt, if_pos (by decide)]
                  exact skip (fun z => hmt z.2) (by rw [eq1])
        obtain ⟨S', Q', g', F', z1, z2, z3, z4, z5, z6, z7, z8⟩ := loop 1000 0 S Q g F (Nat.zero_le _) (by omega) (fun _ _ _ => rfl) (fun _ _ => rfl) Lkg.rf hF (by omega) (Nat.le_refl _) (Or.inl ⟨rfl, fun i hi => by omega⟩)
        exact ⟨S', Q', g', F', by rw [e0, e1, z1], z2, z3, z4, z5, z6, z7, z8⟩
theorem c_fewest (hC : FerC b K S Q g 4 a) (hI : Finv a) (hp : p < (fW a).1 0 1) (hk : k < (fW a).1 0 2) (hn : n ≤ 4) : ∃ S' Q' g' F', fX6_fewestHired (E b S Q g) (b + 38) (b + 12) (nI p) (nI k) (nI n) = some (nI F', E b S' Q' g') ∧ hireOK (fT a) k p 0 (fW a) (n + 1) F' ∧ F' ≤ n + 1 ∧ (∀ r, r < 38 ∨ 105 ≤ r → S' r = S r) ∧ (Q' 12 = Q 12 ∧ Q' 29 = Q 29) ∧ Lkg K g g' := by
  obtain ⟨c1, ⟨c2, c3⟩, -⟩ := hC
  obtain ⟨S1, e1, o1, p1⟩ := c_copyFrom (b := b) (S := S) (Q := Q) (g := g) w12 w42 (by decide)
  have r1 : RepW S1 42 (fW a) := RepW.copy c1 hI.1 p1
  obtain ⟨S2, hS2⟩ : ∃ S2, S2 = up2 S1 38 1 (nI (n + 1)) := ⟨_, rfl⟩
  have t2 : Try b K (fT a) S2 (cpQ Q 12 42) g (wc 0) (fW a) := ⟨r1.fr (fun m hm => by rw [hS2, up2_row (by omega)]), by show LawQ K b g (cpQ Q 12 42 42 11) _; rw [cpQ_at (by omega) (by decide)]; exact c2, by show LawQ K b g (cpQ Q 12 42 42 12) _; rw [cpQ_at (by omega) (by decide)]; exact c3⟩
  obtain ⟨S3, Q3, g3, F, e3, f3, b3, b3', k3, o3, oq3, l3⟩ := c_hire (b := b) (K := K) hI.2.2.1 8 0 (fW a) S2 (cpQ Q 12 42) g (n + 1) (by omega) (by omega) hI.1 (by have := hI.2.1; omega) t2 (by rw [hS2, up2_at, if_pos rfl]) (by omega) (by omega) hp hk
  refine ⟨S3, Q3, g3, F, ?_, k3, b3', fun r hr => ?_, ⟨?_, ?_⟩, l3⟩
  · have f3' : S3 38 1 = nI F := f3
    unfold fX6_fewestHired fX6_hire
    rw [show gO (E b S Q g) 6 (b + 38) _ = _ from E_gO (c := 38) rfl, getR_H0, bind_sm, show (0 : Int32) = nI 0 from rfl, show rdR (E b S Q g) (b + 39) (nI 0) = some (b + 42) from c_behR (h := 0) (by omega), bind_sm, e1, bind_sm, show nI n + 1 = nI (n + 1) from nI_add n 1, show putV (E b S1 (cpQ Q 12 42) g) 6 (b + 38) 1 (.int (nI (n + 1))) = some (E b S2 (cpQ Q 12 42) g) by rw [hS2]; simp only [rV], bind_sm, e3, bind_sm, getI_H1, f3', bind_sm]
  · rw [o3 r (by omega) (by omega), hS2, up2_row (by omega), o1 r (by omega)]
  · rw [oq3 12 (by omega), cpQ_ne (c1 := 42) (by decide)]
  · rw [oq3 29 (by omega), cpQ_ne (c1 := 42) (by decide)]
end OZd
