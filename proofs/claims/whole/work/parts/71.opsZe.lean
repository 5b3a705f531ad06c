/-! ===== stranger: the reference ===== -/
section OZe
variable {b : Nat} {S S' S1 S2 S3 S5 S6 : Nat → Nat → Int32} {Q Q' Q1 Q2 : Nat → Nat → Nat} {g g' g1 g2 h : Hp} {f k j p q n u c c0 c1 lo hi i e m d bk L : Nat} {x y z v r : Int32} {w : Wo} {T : Tx} {K K2 : Nat → Nat} {a a' : Fs} {s s' s0 : Nat → Int32} {t : Dt} {l : List Nat}

/-- what the reference needs of its row to let one cross -/
def MW (T : Tx) (S : Nat → Nat → Int32) (w : Wo) : Prop := RepM (S 117) w ∧ RepT (S 117) T ∧ ∃ bk, S 117 4 = nI bk ∧ bk ≤ 24
theorem MW.eq (h : MW T S w) (e : S' 117 = S 117) : MW T S' w := by unfold MW; rw [e]; exact h
theorem m_step (hM : MW T S w) (hI : Winv w) (hok : ∀ u, txOk (T u)) (hk : k < w.1 0 2) (hp : p < w.1 0 1) : ∃ S', fX9_crosses (E b S Q g) (b + 116) (nI k) (nI p) = some (nI (paysP T w k p), E b S' Q g) ∧ Off [117, 123, 124] S S' ∧ MW T S' (crossP T w k p) ∧ ∀ j, 124 ≤ j → S' 117 j = S 117 j := by
  obtain ⟨m1, m2, bk, m3, m4⟩ := hM
  obtain ⟨S', e1, o1, r1, k1, k2, k3, k4⟩ := m_crosses (b := b) (Q := Q) (g := g) m1 hI m2 hok hk hp m3 m4
  exact ⟨S', e1, o1, ⟨r1, m2.fr hok (fun j hj => k4 j (by omega)), _, k1, Nat.min_le_right _ _⟩, fun j hj => k4 j (by omega)⟩
def optI : Option Nat → Int32
  | some d => nI d
  | none => -nI 1
def minOK (T : Tx) (k p n : Nat) (w : Wo) : Option Nat → Prop
  | some d => d ≤ n ∧ reach T k p d w ∧ ∀ d' < d, ¬ reach T k p d' w
  | none => ∀ d ≤ n, ¬ reach T k p d w
def accOK (T : Tx) (k p n q : Nat) (w : Wo) : Option Nat → Prop
  | some e => ∃ d, e = d + 1 ∧ d + 1 ≤ n ∧ (∃ i, i < q ∧ childP w k p i ∧ reach T k p d (crossP T w k i)) ∧ ∀ i < q, childP w k p i → ∀ d' < d, ¬ reach T k p d' (crossP T w k i)
  | none => ∀ i < q, childP w k p i → ∀ d, d + 1 ≤ n → ¬ reach T k p d (crossP T w k i)
theorem accOK.skip {o : Option Nat} (h : accOK T k p n q w o) (hc : ¬ childP w k p q) : accOK T k p n (q + 1) w o := by
  cases o with
  | none =>
    intro i hi hci
    by_cases hiq : i = q
    · subst hiq; exact absurd hci hc
    · exact h i (by omega) hci
  | some e =>
    obtain ⟨d, h1, h2, ⟨i, h3, h4, h5⟩, h6⟩ := h
    refine ⟨d, h1, h2, ⟨i, by omega, h4, h5⟩, fun i' hi hci => ?_⟩
    by_cases hiq : i' = q
    · subst hiq; exact absurd hci hc
    · exact h6 i' (by omega) hci
/-- the better of two -/
def betO : Option Nat → Option Nat → Option Nat
  | acc, none => acc
  | none, some r => some (r + 1)
  | some e, some r => if e ≤ r + 1 then some e else some (r + 1)
theorem accOK.step {o rr : Option Nat} (h : accOK T k p n q w o) (hn : 1 ≤ n) (hc : childP w k p q) (hr : minOK T k p (n - 1) (crossP T w k q) rr) : accOK T k p n (q + 1) w (betO o rr) := by
  cases rr with
  | none =>
    have e : betO o none = o := by cases o <;> rfl
    rw [e]
    cases o with
    | none =>
      intro i hi hci d hd
      by_cases hiq : i = q
      · subst hiq; exact hr d (by omega)
      · exact h i (by omega) hci d hd
    | some e =>
      obtain ⟨d, h1, h2, ⟨i, h3, h4, h5⟩, h6⟩ := h
      refine ⟨d, h1, h2, ⟨i, by omega, h4, h5⟩, fun i' hi hci d' hd' => ?_⟩
      by_cases hiq : i' = q
      · subst hiq; exact hr d' (by omega)
      · exact h6 i' (by omega) hci d' hd'
  | some r =>
    obtain ⟨r1, r2, r3⟩ := hr
    cases o with
    | none =>
      refine ⟨r, rfl, by omega, ⟨q, by omega, hc, r2⟩, fun i hi hci d' hd' => ?_⟩
      by_cases hiq : i = q
      · subst hiq; exact r3 d' hd'
      · exact h i (by omega) hci d' (by omega)
    | some e =>
      obtain ⟨d, h1, h2, ⟨i, h3, h4, h5⟩, h6⟩ := h
      show accOK T k p n (q + 1) w (if e ≤ r + 1 then some e else some (r + 1))
      by_cases hle : e ≤ r + 1
      · rw [if_pos hle]
        refine ⟨d, h1, h2, ⟨i, by omega, h4, h5⟩, fun i' hi hci d' hd' => ?_⟩
        by_cases hiq : i' = q
        · subst hiq; exact r3 d' (by omega)
        · exact h6 i' (by omega) hci d' hd'
      · rw [if_neg hle]
        refine ⟨r, rfl, by omega, ⟨q, by omega, hc, r2⟩, fun i' hi hci d' hd' => ?_⟩
        by_cases hiq : i' = q
        · subst hiq; exact r3 d' hd'
        · exact h6 i' (by omega) hci d' (by omega)
theorem m_est (hok : ∀ u, txOk (T u)) : ∀ (fu n L : Nat) (w : Wo) (S : Nat → Nat → Int32), n < fu → n + L ≤ 7 → n ≤ 4 → Winv w → w.1 0 0 + n ≤ 10020 → MW T S w → p < w.1 0 1 → k < w.1 0 2 → ∃ S' o, gX9_estranges fu (E b S Q g) (b + 116) (nI p) (nI k) (nI n) (nI L) = some (optI o, E b S' Q g) ∧ minOK T k p n w o ∧ S' 117 = S 117 ∧ Off [117, 120, 123, 124] S S' ∧ ∀ j, j < 124 * L → S' 120 j = S 120 j := by
  intro fu
  induction fu with
  | zero => intro n L w S h; omega
  | succ fu ih =>
    intro n L w S hfu hL hn4 hI ht hM hp hk
    have hp8 := hI.2.1
    have e0 : gX9_estranges (fu + 1) (E b S Q g) (b + 116) (nI p) (nI k) (nI n) (nI L) = if p ∉ w.2 k ∧ metP w k p = true then some (0, E b S Q g) else fX9_estranges_20 (gX9_estranges fu) (E b S Q g) (b + 116) (nI p) (nI k) (nI n) (nI L) := by
      rw [gX9_estranges, bX9_estranges, m_knows hM.1 hI hk (by omega), bind_sm]
      by_cases hkn : p ∈ w.2 k
      · rw [if_pos hkn, if_neg (by decide), if_neg (fun q => q.1 hkn)]
      · rw [if_neg hkn, if_pos (by decide), m_together hM.1 hI hk hp, bind_sm]
        by_cases hm : metP w k p = true
        · rw [if_pos hm, if_neg (by decide), if_pos ⟨hkn, hm⟩]
        · rw [if_neg hm, if_pos (by decide), if_neg (fun q => hm q.2)]
    by_cases hgood : p ∉ w.2 k ∧ metP w k p = true
    · rw [if_pos hgood] at e0
      exact ⟨S, some 0, e0, ⟨Nat.zero_le _, hgood, fun d' hd' => by omega⟩, rfl, Off.rf, fun _ _ => rfl⟩
    · rw [if_neg hgood] at e0
      obtain ⟨S0, f0, o0, k0⟩ := m_layDown (b := b) (S := S) (Q := Q) (g := g) (n := L) (by omega)
      have e117 : S0 117 = S 117 := o0 117 (by decide)
      have endOK : ∀ (q : Nat) (o : Option Nat), q ≤ w.1 0 1 → (w.1 0 1 ≤ q ∨ n = 0) → accOK T k p n q w o → minOK T k p n w o := by
        intro q o hq1 hq hacc
        cases o with
        | none =>
          intro d hd
          cases d with
          | zero => exact hgood
          | succ d =>
            rintro ⟨i, hi, hc, hr⟩
            rcases hq with hq | hq
            · exact hacc i (by omega) hc d hd hr
            · omega
        | some e =>
          obtain ⟨d, h1, h2, ⟨i, h3, h4, h5⟩, h6⟩ := hacc
          subst h1
          rcases hq with hq | hq
          · refine ⟨h2, ⟨i, by omega, h4, h5⟩, fun d' hd' => ?_⟩
            cases d' with
            | zero => exact hgood
            | succ d' =>
              rintro ⟨i', hi', hc', hr'⟩
              exact h6 i' (by omega) hc' d' (by omega) hr'
          · omega
      have loop : ∀ (m q : Nat) (S1 : Nat → Nat → Int32) (o : Option Nat), q ≤ w.1 0 1 → w.1 0 1 - q < m → S1 117 = S 117 → Off [117, 120, 123, 124] S0 S1 → (∀ j, j < 124 * (L + 1) → S1 120 j = S0 120 j) → accOK T k p n q w o → ∃ S' o', fX9_estranges_32 (gX9_estranges fu) m (E b S1 Q g) (b + 116) (nI p) (nI k) (nI n) (nI L) (optI o) (nI q) = some (optI o', E b S' Q g) ∧ minOK T k p n w o' ∧ S' 117 = S 117 ∧ Off [117, 120, 123, 124] S0 S' ∧ ∀ j, j < 124 * (L + 1) → S' 120 j = S0 120 j := by
        intro m
        induction m with
        | zero => intro q _ _ _ h; omega
        | succ m ihm =>
          intro q S1 o hq hm h117 hO h120 hacc
          have hM1 : MW T S1 w := hM.eq h117
          rw [fX9_estranges_32, show getR (E b S1 Q g) 9 (b + 116) 0 = some (b + 117) by simp only [rM], bind_sm, show rdI (E b S1 Q g) (b + 117) 0 = some (S1 117 0) by simp (disch := omega) only [rM, rN], bind_sm, hM1.1.1]
          by_cases hle : w.1 0 1 ≤ q
          · rw [if_pos ((nI_leI (by omega) (by omega)).mpr hle)]
            exact ⟨S1, o, rfl, endOK q o hq (Or.inl hle) hacc, h117, hO, h120⟩
          · rw [if_neg (fun z => hle ((nI_leI (by omega) (by omega)).mp z))]
            by_cases hn0 : n = 0
            · rw [if_pos (by rw [hn0]; decide)]
              exact ⟨S1, o, rfl, endOK q o hq (Or.inr hn0) hacc, h117, hO, h120⟩
            · rw [if_neg (show ¬ nI n ≤ 0 from fun z => hn0 (by have := (nI_leI (by omega) (by decide) : nI n ≤ nI 0 ↔ n ≤ 0).mp z; omega))]
              have eq1 : nI q + 1 = nI (q + 1) := nI_add q 1
              by_cases hqp : q = p
              · rw [if_pos (by rw [hqp]), eq1]
                exact ihm (q + 1) S1 o (by omega) (by omega) h117 hO h120 (hacc.skip (fun z => z.1 hqp))
              · rw [if_neg (fun z => hqp ((nI_eq (by omega) (by omega)).mp z)), m_together hM1.1 hI hk (by omega), bind_sm]
                by_cases hmt : metP w k q = true
                · rw [if_pos hmt, if_neg (by decide)]
                  obtain ⟨S2, f2, o2, M2, k2⟩ := m_step (b := b) (Q := Q) (g := g) (p := q) hM1 hI hok hk (by omega)
                  have hc0 := crossP_0 (T := T) (w := w) (k := k) (p := q)
                  obtain ⟨S3, rr, f3, h3, e3, o3, k3⟩ := ih (n - 1) (L + 1) (crossP T w k q) S2 (by omega) (by omega) (by omega) (crossP_inv hI (by omega) (by omega)) (by rw [hc0.2.2]; omega) M2 (by rw [hc0.1]; exact hp) (by rw [hc0.2.1]; exact hk)
                  obtain ⟨S4, f4, o4, k4⟩ := m_layBack (b := b) (S := S3) (Q := Q) (g := g) (n := L) (by omega)
                  have s120 : ∀ j, j < 124 * (L + 1) → S3 120 j = S0 120 j := fun j hj => by rw [k3 j hj, o2 120 (by decide), h120 j hj]
                  have back : S4 117 = S 117 := by
                    rw [← e117]
                    refine lay_back (S3 := S0) (S5 := S3) (n := L) (fun j => ?_) (fun j _ hj => s120 j (by omega)) (fun j hj => by rw [e3, k2 j hj, h117, e117]) k4
                    rw [k0 j]
                    by_cases hj : 124 * L ≤ j ∧ j < 124 * L + 124
                    · rw [if_pos hj, if_pos hj, e117]
                    · rw [if_neg hj, if_neg hj]
                  rw [f2, bind_sm]
                  dsimp only
                  rw [gO_M, show nI n - 1 = nI (n - 1) from nI_subI (a := n) (b := 1) (by omega), show nI L + 1 = nI (L + 1) from nI_add L 1, f3, bind_sm]
                  dsimp only
                  rw [f4, bind_sm]
                  have hacc' := hacc.step (by omega) ⟨hqp, hmt⟩ h3
                  have hO4 : Off [117, 120, 123, 124] S0 S4 := (((hO.tr (o2.mono (by decide))).tr o3).tr (o4.mono (by decide)))
                  have h120' : ∀ j, j < 124 * (L + 1) → S4 120 j = S0 120 j := fun j hj => by rw [o4 120 (by decide), s120 j hj]
                  have go : ∀ o', betO o rr = o' → ∃ S' o'', fX9_estranges_32 (gX9_estranges fu) m (E b S4 Q g) (b + 116) (nI p) (nI k) (nI n) (nI L) (optI o') (nI q + 1) = some (optI o'', E b S' Q g) ∧ minOK T k p n w o'' ∧ S' 117 = S 117 ∧ Off [117, 120, 123, 124] S0 S' ∧ ∀ j, j < 124 * (L + 1) → S' 120 j = S0 120 j := by
                    intro o' ho
                    rw [eq1]
                    exact ihm (q + 1) S4 o' (by omega) (by omega) back hO4 h120' (by rw [← ho]; exact hacc')
                  cases rr with
                  | none =>
                    rw [if_pos (show optI none = -1 from rfl)]
                    exact go o (by cases o <;> rfl)
                  | some r =>
                    have hr4 : r ≤ 4 := by have := h3.1; omega
                    rw [if_neg (show ¬ optI (some r) = -1 from nI_m1 (n := r) (by omega))]
                    cases o with
                    | none =>
                      rw [if_pos (show optI none = -1 from rfl)]
                      unfold fX9_estranges_114
                      rw [show optI (some r) + 1 = optI (some (r + 1)) from nI_add r 1]
                      exact go (some (r + 1)) rfl
                    | some e =>
                      have he5 : e ≤ 5 := by obtain ⟨d, h1, h2, -⟩ := hacc; omega
                      rw [if_neg (show ¬ optI (some e) = -1 from nI_m1 (n := e) (by omega)), show optI (some r) + 1 = optI (some (r + 1)) from nI_add r 1]
                      by_cases hle2 : e ≤ r + 1
                      · rw [if_pos (show optI (some e) ≤ optI (some (r + 1)) from (nI_leI (by omega) (by omega)).mpr hle2)]
                        exact go (some e) (if_pos hle2)
                      · rw [if_neg (show ¬ optI (some e) ≤ optI (some (r + 1)) from fun z => hle2 ((nI_leI (by omega) (by omega)).mp z))]
                        unfold fX9_estranges_114
                        rw [show optI (some r) + 1 = optI (some (r + 1)) from nI_add r 1]
                        exact go (some (r + 1)) (if_neg hle2)
                · rw [if_neg hmt, if_pos (by decide), eq1]
                  exact ihm (q + 1) S1 o (by omega) (by omega) h117 hO h120 (hacc.skip (fun z => hmt z.2))
      obtain ⟨S', o', z1, z2, z3, z4, z5⟩ := loop 1000 0 S0 none (Nat.zero_le _) (by omega) e117 Off.rf (fun _ _ => rfl) (fun i hi => by omega)
      refine ⟨S', o', ?_, z2, z3, (o0.mono (by decide)).tr z4, fun j hj => ?_⟩
      · rw [e0]
        unfold fX9_estranges_20
        rw [f0, bind_sm]
        exact z1
      · rw [z5 j (by omega), k0 j, if_neg (by omega)]
theorem min_uniq {F : Nat} {o : Option Nat} (h : hireOK T k p 0 w (n + 1) F) (ho : minOK T k p n w o) : (o = none ∧ ¬ F ≤ n) ∨ (o = some F ∧ F ≤ n) := by
  rcases h with ⟨h1, h2⟩ | ⟨d, h1, h2, h3, h4⟩
  · cases o with
    | none => exact Or.inl ⟨rfl, by omega⟩
    | some d => exact absurd ho.2.1 (h2 d (by have := ho.1; omega))
  · cases o with
    | none => exact absurd h3 (ho d (by omega))
    | some d2 =>
      obtain ⟨o1, o2, o3⟩ := ho
      have : d2 = d := by
        rcases Nat.lt_trichotomy d2 d with q | q | q
        · exact absurd o2 (h4 d2 q)
        · exact q
        · exact absurd h3 (o3 d q)
      subst this
      exact Or.inr ⟨by rw [h1, Nat.zero_add], by omega⟩
theorem op_stranger (h : Sim b K S Q g) : Both b S Q g (fun h => fX8_stranger h b x y z) (fun h => fX9_stranger h (b + 116) x y z) := by
  obtain ⟨⟨a, hI, hC, hM⟩, -, -, -, -, hg⟩ := id h
  have c1 : RepW S 12 (fW a) := hC.1
  have m1 := hM.1
  have i1 := hI.1
  have i2 := i1.2.1
  have i3 := i1.2.2.1
  have n117 : ∀ S1 : Nat → Nat → Int32, (∀ r, r ≠ 115 → S1 r = S r) → S1 117 = S 117 := fun S1 hS => hS _ (by decide)
  have r1 := (rO b S Q g).2.2.1
  have r4 : getR (E b S Q g) 1 (b + 4) 0 = some (b + 12) := by simp only [rF]
  rcases isN_or x ((fW a).1 0 1) with ⟨p, hp, rfl⟩ | hx
  · have cP := c_hasPerson1 (b := b) (Q := Q) (g := g) w12 c1.2.1 (by omega) hp
    have mP : ∀ S1 : Nat → Nat → Int32, S1 117 = S 117 → ∀ Q g, fX9_isPerson (E b S1 Q g) (b + 116) (nI p) = some (nI 1) := fun S1 hS Q g => m_isPerson1 (S := S1) (by rw [hS]; exact m1.1) (by omega) hp
    rcases isN_or y ((fW a).1 0 2) with ⟨k, hk, rfl⟩ | hy
    · have cM := c_hasMan1 (b := b) (Q := Q) (g := g) w12 c1.2.2.1 (by omega) hk
      have mM : ∀ S1 : Nat → Nat → Int32, S1 117 = S 117 → ∀ Q g, fX9_isMan (E b S1 Q g) (b + 116) (nI k) = some (nI 1) := fun S1 hS Q g => m_isMan1 (S := S1) (by rw [hS]; exact m1.2.1) (by omega) hk
      have c0 : fX8_stranger (E b S Q g) b (nI p) (nI k) z = if z < nI 0 then (fX8_refuse (E b S Q g) b (nI 1)).bind fun q => some (q.1, q.2) else if z ≤ nI 4 then (fX6_fewestHired (E b S Q g) (b + 38) (b + 12) (nI p) (nI k) z).bind fun q63 => if q63.1 ≤ z then some (q63.1, q63.2) else (fX8_refuse q63.2 b (nI 2)).bind fun q76 => some (q76.1, q76.2) else (fX8_refuse (E b S Q g) b (nI 1)).bind fun q => some (q.1, q.2) := by
        unfold fX8_stranger
        rw [(rO b S Q g).1, r1, bind_sm, r4, bind_sm, cP, bind_sm, if_neg (by decide), bind_sm, r4, bind_sm, cM, bind_sm, if_neg (by decide), (rO b S Q g).2.2.2.2.1, bind_sm, bind_sm, r4, bind_sm]
        rfl
      rcases isN_or z 5 with ⟨n, hn, rfl⟩ | hz
      · obtain ⟨S1, Q1, g1, F, e1, k1, b1, o1, q1, l1⟩ := c_fewest (b := b) (K := K) (n := n) hC hI hp hk (by omega)
        rw [if_neg (fun q => absurd ((nI_ltI (by omega) (by decide)).mp q) (by omega)), if_pos ((nI_leI (by omega) (by decide)).mpr (by omega)), e1, bind_sm] at c0
        dsimp only at c0
        have m0 : ∀ S2 : Nat → Nat → Int32, S2 117 = S 117 → ∃ S3 o, fX9_stranger (E b S2 Q1 g1) (b + 116) (nI p) (nI k) (nI n) = (if optI o = -1 then (fX9_error (E b S3 Q1 g1) (b + 116) (nI 2)).bind fun q => some (q.1, q.2) else some (optI o, E b S3 Q1 g1)) ∧ minOK (fT a) k p n (fW a) o ∧ S3 117 = S2 117 ∧ Off [117, 120, 123, 124] S2 S3 := by
          intro S2 hS2
          have hMW : MW (fT a) S2 (fW a) := by unfold MW; rw [hS2]; exact ⟨m1, hM.2.1, _, hM.2.2.2.2.1.1, hI.2.2.2.2.2.1.1⟩
          obtain ⟨S3, o, e3, h3, f3, o3, -⟩ := m_est (b := b) (Q := Q1) (g := g1) hI.2.2.1 8 n 0 (fW a) S2 (by omega) (by omega) (by omega) i1 (by have := hI.2.1; omega) hMW hp hk
          refine ⟨S3, o, ?_, h3, f3, o3⟩
          unfold fX9_stranger fX9_estranges
          rw [gO_M, mP S2 hS2, bind_sm, if_neg (by decide), mM S2 hS2, bind_sm, if_neg (by decide), show (0 : Int32) = nI 0 from rfl, show (4 : Int32) = nI 4 from rfl, m_in1 (Nat.zero_le _) (by omega) (by decide), bind_sm, if_neg (by decide), gO_M, e3, bind_sm]
          rfl
        by_cases hF : F ≤ n
        · rw [if_pos ((nI_leI (by omega) (by omega)).mpr hF)] at c0
          obtain ⟨S3, o, e3, h3, f3, o3⟩ := m0 S1 (by rw [o1 117 (by omega)])
          rcases min_uniq k1 h3 with ⟨_, hno⟩ | ⟨ho, -⟩
          · exact absurd hF hno
          · rw [ho, if_neg (show ¬ optI (some F) = -1 from nI_m1 (n := F) (by omega))] at e3
            exact Both.look h (r := nI F) c0 o1 l1 q1 ⟨S3, e3, OffR.of o3 (by decide), f3⟩
        · rw [if_neg (fun q => hF ((nI_leI (by omega) (by omega)).mp q))] at c0
          refine Both.lookErr h 2 (by decide) c0 o1 l1 q1 (fun S2 hS => ?_)
          obtain ⟨S3, o, e3, h3, f3, o3⟩ := m0 S2 (by rw [hS _ (by decide), o1 117 (by omega)])
          rcases min_uniq k1 h3 with ⟨ho, -⟩ | ⟨-, hyes⟩
          · rw [ho, if_pos (show optI none = -1 from rfl)] at e3
            exact ⟨S3, e3, OffR.of o3 (by decide), f3⟩
          · exact absurd hyes hF
      · refine Both.err h 1 (by decide) ?_ (fun S1 hS => ?_)
        · rw [c0]
          rcases notN hz (by decide) with q | ⟨q, q2, -⟩
          · rw [if_pos q]
          · rw [if_neg q, if_neg]
            intro h6
            rw [Int32.le_iff_toInt_le] at q2 h6
            have : (nI 5).toInt = 5 := by decide
            have : (nI 4).toInt = 4 := by decide
            omega
        · have e1 := n117 S1 hS
          unfold fX9_stranger
          rw [gO_M, mP S1 e1, bind_sm, if_neg (by decide), mM S1 e1, bind_sm, if_neg (by decide), show (0 : Int32) = nI 0 from rfl, show (4 : Int32) = nI 4 from rfl, m_in0 (hi := 4) hz (by decide), bind_sm, if_pos rfl]
          rfl
    · refine Both.err h 1 (by decide) ?_ (fun S1 hS => ?_)
      · unfold fX8_stranger
        rw [(rO b S Q g).1, r1, bind_sm, r4, bind_sm, cP, bind_sm, if_neg (by decide), bind_sm, r4, bind_sm, c_hasMan0 w12 c1.2.2.1 (by omega) hy, bind_sm, if_pos (by decide)]
        rfl
      · have e1 := n117 S1 hS
        unfold fX9_stranger
        rw [gO_M, mP S1 e1, bind_sm, if_neg (by decide), m_isMan0 (S := S1) (by rw [e1]; exact m1.2.1) (by omega) hy, bind_sm, if_pos (by decide)]
        rfl
  · refine Both.err h 1 (by decide) ?_ (fun S1 hS => ?_)
    · unfold fX8_stranger
      rw [(rO b S Q g).1, r1, bind_sm, r4, bind_sm, c_hasPerson0 w12 c1.2.1 (by omega) hx, bind_sm, if_pos (by decide)]
      rfl
    · unfold fX9_stranger
      rw [gO_M, m_isPerson0 (S := S1) (by rw [n117 S1 hS]; exact m1.1) (by omega) hx, bind_sm, if_pos (by decide)]
      rfl
end OZe
