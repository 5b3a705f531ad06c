/-! ===== what would be behind one crossing: loses, hearsay ===== -/
section OS
variable {b : Nat} {S S' S1 S2 S3 S5 S6 : Nat → Nat → Int32} {Q Q' Q1 : Nat → Nat → Nat} {g g' g1 h : Hp} {f k j p q n u c c0 c1 lo hi i e m : Nat} {x y z v r : Int32} {w : Wo} {T : Tx} {K K2 : Nat → Nat} {a a' : Fs} {s s' s0 : Nat → Int32} {t : Dt} {l : List Nat}

theorem w42 : isW 42 := by unfold isW; omega
theorem c_behind (hC : FerC b K S Q g 4 a) (hI : Finv a) (hk : k < (fW a).1 0 2) (hp : p < (fW a).1 0 1) (hm : metP (fW a) k p = true) : ∃ S1 Q1 g1, fX6_behindOne (E b S Q g) (b + 38) (b + 12) (nI k) (nI p) = some (b + 42, E b S1 Q1 g1) ∧ (∀ r, r < 38 ∨ 105 ≤ r → S1 r = S r) ∧ Lkg K g g1 ∧ (Q1 12 = Q 12 ∧ Q1 29 = Q 29) ∧ RepW S1 42 (crossP (fT a) (fW a) k p) := by
  obtain ⟨c1, ⟨c2, c3⟩, -⟩ := hC
  have hmt : (fW a).1 5 k = (fW a).1 1 p := by unfold metP at hm; simpa using hm
  obtain ⟨S1, e1, o1, p1⟩ := c_copyFrom (b := b) (S := S) (Q := Q) (g := g) w12 w42 (by decide)
  have r1 : RepW S1 42 (fW a) := RepW.copy c1 hI.1 p1
  obtain ⟨S2, g2, e2, o2, r2, l2⟩ := c_carry (b := b) (S := S1) (Q := cpQ Q 12 42) (g := g) (K := K) (T := fT a) w42 r1 hI.1 hk hp hmt (by rw [cpQ_at (by omega) (by decide)]; exact c2) (by rw [cpQ_at (by omega) (by decide)]; exact c3) hI.2.2.1
  refine ⟨S2, cpQ Q 12 42, g2, ?_, fun r hr => ?_, l2, ⟨cpQ_ne (c1 := 42) (by decide), cpQ_ne (c1 := 42) (by decide)⟩, r2⟩
  · unfold fX6_behindOne
    simp (disch := omega) only [rV, rN, bind_sm, e1, e2]
  · rw [o2 r (by omega), o1 r (by omega)]
/-- a layer laid back -/
theorem lay_back (k3 : ∀ j, S3 120 j = if 124 * n ≤ j ∧ j < 124 * n + 124 then S2 117 (j - 124 * n) else S2 120 j) (h120 : ∀ j, 124 * n ≤ j → j < 124 * n + 124 → S5 120 j = S3 120 j) (h117 : ∀ j, 124 ≤ j → S5 117 j = S2 117 j) (k6 : ∀ j, S6 117 j = if j < 124 then S5 120 (124 * n + j) else S5 117 j) : S6 117 = S2 117 := by
  funext j
  rw [k6 j]
  by_cases hj : j < 124
  · rw [if_pos hj, h120 _ (by omega) (by omega), k3, if_pos (by omega), show 124 * n + j - 124 * n = j by omega]
  · rw [if_neg hj, h117 j (by omega)]
theorem fDb_crossA : fDb (crossA a k p) = fDb a := by unfold crossA fDb; rfl
theorem op_loses (h : Sim b K S Q g) : Both b S Q g (fun h => fX8_loses h b x y) (fun h => fX9_loses h (b + 116) x y) := by
  obtain ⟨⟨a, hI, hC, hM⟩, -, -, -, -, hg⟩ := id h
  have c1 : RepW S 12 (fW a) := hC.1
  have m1 := hM.1
  have i1 := hI.1
  have i2 := i1.2.1
  have i3 := i1.2.2.1
  have n30 : (nI 3 = nI 0) = False := by rw [eq_iff_iff]; decide
  have n117 : ∀ S1 : Nat → Nat → Int32, (∀ r, r ≠ 115 → S1 r = S r) → S1 117 = S 117 := fun S1 hS => hS _ (by decide)
  rcases mp_cases (fW a) x y with ⟨k, p, hk, hp, rfl, rfl⟩ | hb
  · have cE := c_meeting1 (b := b) (Q := Q) (g := g) c1 i1 hk hp
    have mT : ∀ S1 : Nat → Nat → Int32, S1 117 = S 117 → ∀ Q g, fX9_areTogether (E b S1 Q g) (b + 116) (nI k) (nI p) = some (if metP (fW a) k p = true then nI 1 else nI 0) := fun S1 hS Q g => m_together (S := S1) (by rw [hS]; exact m1) i1 hk hp
    have mP : ∀ S1 : Nat → Nat → Int32, S1 117 = S 117 → ∀ Q g, fX9_isPerson (E b S1 Q g) (b + 116) (nI p) = some (nI 1) := fun S1 hS Q g => m_isPerson1 (S := S1) (by rw [hS]; exact m1.1) (by omega) hp
    have mM : ∀ S1 : Nat → Nat → Int32, S1 117 = S 117 → ∀ Q g, fX9_isMan (E b S1 Q g) (b + 116) (nI k) = some (nI 1) := fun S1 hS Q g => m_isMan1 (S := S1) (by rw [hS]; exact m1.2.1) (by omega) hk
    by_cases hm : metP (fW a) k p = true
    · rw [if_pos hm] at cE
      simp only [if_pos hm] at mT
      obtain ⟨S1, Q1, g1, e1, o1, l1, q1, r1⟩ := c_behind (b := b) (K := K) hC hI hk hp hm
      have w1 : RepW S1 12 (fW a) := c1.fr (fun m hm => o1 _ (by omega))
      have d1 : debtC S1 4 (fDb a) := hC.2.2.2.2.2.2.fr (by rw [o1 _ (by omega)]) (o1 _ (by omega)) (o1 _ (by omega)) (o1 _ (by omega))
      have hl := hI.2.2.2.2.2.2.1
      have h1 := c_holding (b := b) (Q := Q1) (g := g1) w12 w1 i1 d1 hl hI.db
      have i1' := crossP_inv (T := fT a) (k := k) i1 hp (by have := hI.2.1; omega)
      have h2 := c_holding (b := b) (Q := Q1) (g := g1) w42 r1 i1' d1 hl hI.db
      have e117 : S1 117 = S 117 := o1 117 (by omega)
      obtain ⟨S2, f2, o2⟩ := m_holding (b := b) (S := S1) (Q := Q1) (g := g1) (by rw [e117]; exact m1) i1 (by rw [e117]; exact hM.2.2.2.2.2.2) hl hI.db
      have e2 : S2 117 = S 117 := by rw [o2 117 (by decide), e117]
      obtain ⟨S3, f3, o3, k3⟩ := m_layDown (b := b) (S := S2) (Q := Q1) (g := g1) (n := 0) (by decide)
      have e3 : S3 117 = S 117 := by rw [o3 117 (by decide), e2]
      obtain ⟨S4, f4, o4, m4, k4⟩ := m_cross (b := b) (S := S3) (Q := Q1) (g := g1) (by rw [e3]; exact hM) hI hk hp
      have m4w : RepM (S4 117) (crossP (fT a) (fW a) k p) := m4.1
      have m4d : debtM (S4 117) (fDb a) := by have := m4.2.2.2.2.2.2; rw [fDb_crossA] at this; exact this
      obtain ⟨S5, f5, o5⟩ := m_holding (b := b) (S := S4) (Q := Q1) (g := g1) (w := crossP (fT a) (fW a) k p) m4w i1' (l := fDb a) m4d hl hI.db
      obtain ⟨S6, f6, o6, k6⟩ := m_layBack (b := b) (S := S5) (Q := Q1) (g := g1) (n := 0) (by decide)
      have back : S6 117 = S2 117 := lay_back k3 (fun j _ _ => by rw [o5 120 (by decide), o4 120 (by decide)]) (fun j hj => by rw [o5 117 (by decide), k4 j hj, o3 117 (by decide)]) k6
      generalize (fDb a).countP (holdsP (fW a)) = N1 at h1 f2
      generalize (fDb a).countP (holdsP (crossP (fT a) (fW a) k p)) = N2 at h2 f5
      generalize paysP (fT a) (fW a) k p = pv at f4
      refine Both.look h (S1 := S1) (Q1 := Q1) (g1 := g1) (r := nI N1 - nI N2) ?_ o1 l1 q1 ⟨S6, ?_, OffR.of (X := [117, 120, 123, 124, 125]) (((((o2.mono (by decide)).tr (o3.mono (by decide))).tr (o4.mono (by decide))).tr (o5.mono (by decide))).tr (o6.mono (by decide))) (by decide), by rw [back, e2, e117]⟩
      · unfold fX8_loses
        simp (disch := omega) only [rO, rF, rN, cE, bind_sm, if_true, e1, h1, h2]
      · unfold fX9_loses
        simp (disch := omega) only [rM, rN, mM S1 e117, mP S1 e117, mT S1 e117, z10, if_false, bind_sm, f2, f3, f4]
        rw [f5, bind_sm]
        dsimp only
        rw [f6]
        exact bind_sm
    · rw [if_neg hm] at cE
      simp only [if_neg hm] at mT
      refine Both.err h 3 (by decide) ?_ (fun S1 hS => ?_)
      · unfold fX8_loses
        simp (disch := omega) only [rO, rN, cE, bind_sm, n30, if_false]
      · have e1 := n117 S1 hS
        unfold fX9_loses
        simp (disch := omega) only [rM, rN, mM S1 e1, mP S1 e1, mT S1 e1, z10, if_false, bind_sm, if_true]
  · refine Both.err h 1 (by decide) ?_ (fun S1 hS => ?_)
    · unfold fX8_loses
      simp (disch := omega) only [rO, rN, c_meeting0 c1 i1 hb, bind_sm, z10, if_false]
    · have hS' := n117 S1 hS
      unfold fX9_loses
      rcases hb with hx | ⟨⟨k, hk, rfl⟩, hy⟩
      · simp (disch := omega) only [rM, rN, bind_sm, m_isMan0 (S := S1) (by rw [hS']; exact m1.2.1) (by omega) hx, if_true]
      · simp (disch := omega) only [rM, rN, bind_sm, m_isMan1 (S := S1) (by rw [hS']; exact m1.2.1), m_isPerson0 (S := S1) (by rw [hS']; exact m1.1) (by omega) hy, z10, if_false, if_true]
theorem m_hear55 (hR : RepM (S 117) w) (hI : Winv w) (hp : p < 8) : fX9_hearsay_55 1000 (E b S Q g) (b + 116) (nI p) (nI 0) (nI 0) = (fX9_layBack (E b S Q g) (b + 116) (nI 0)).bind fun q97 => some (nI (knowB w p (w.1 0 2)), q97) := by
  have hm4 := hI.2.2.1
  have loop : ∀ (m i : Nat), i ≤ w.1 0 2 → w.1 0 2 - i < m → fX9_hearsay_55 m (E b S Q g) (b + 116) (nI p) (nI (knowB w p i)) (nI i) = (fX9_layBack (E b S Q g) (b + 116) (nI 0)).bind fun q97 => some (nI (knowB w p (w.1 0 2)), q97) := by
    intro m
    induction m with
    | zero => intro i _ h; omega
    | succ m ih =>
      intro i hi hm
      rw [fX9_hearsay_55]
      simp (disch := omega) only [rM, rN, bind_sm, hR.2.1, nI_leI, nI_add]
      by_cases hle : w.1 0 2 ≤ i
      · rw [if_pos hle, show i = w.1 0 2 by omega]
      · rw [if_neg hle, m_knows hR hI (by omega) hp, bind_sm]
        have e : knowB w p (i + 1) = if p ∈ w.2 i then knowB w p i ||| 2 ^ i else knowB w p i := rfl
        by_cases h0 : p ∈ w.2 i
        · rw [if_pos h0] at e ⊢
          rw [if_neg (by decide), bit_sh _ (by omega), bit_or, ← e]
          exact ih (i + 1) (by omega) (by omega)
        · rw [if_neg h0] at e ⊢
          rw [if_pos rfl, bit_or, Nat.or_zero, ← e]
          exact ih (i + 1) (by omega) (by omega)
  exact loop 1000 0 (Nat.zero_le _) (by omega)
theorem op_hearsay (h : Sim b K S Q g) : Both b S Q g (fun h => fX8_hearsay h b x y) (fun h => fX9_hearsay h (b + 116) x y) := by
  obtain ⟨⟨a, hI, hC, hM⟩, -, -, -, -, hg⟩ := id h
  have c1 : RepW S 12 (fW a) := hC.1
  have m1 := hM.1
  have i1 := hI.1
  have i2 := i1.2.1
  have i3 := i1.2.2.1
  have n30 : (nI 3 = nI 0) = False := by rw [eq_iff_iff]; decide
  have n117 : ∀ S1 : Nat → Nat → Int32, (∀ r, r ≠ 115 → S1 r = S r) → S1 117 = S 117 := fun S1 hS => hS _ (by decide)
  rcases mp_cases (fW a) x y with ⟨k, p, hk, hp, rfl, rfl⟩ | hb
  · have cE := c_meeting1 (b := b) (Q := Q) (g := g) c1 i1 hk hp
    have mT : ∀ S1 : Nat → Nat → Int32, S1 117 = S 117 → ∀ Q g, fX9_areTogether (E b S1 Q g) (b + 116) (nI k) (nI p) = some (if metP (fW a) k p = true then nI 1 else nI 0) := fun S1 hS Q g => m_together (S := S1) (by rw [hS]; exact m1) i1 hk hp
    have mP : ∀ S1 : Nat → Nat → Int32, S1 117 = S 117 → ∀ Q g, fX9_isPerson (E b S1 Q g) (b + 116) (nI p) = some (nI 1) := fun S1 hS Q g => m_isPerson1 (S := S1) (by rw [hS]; exact m1.1) (by omega) hp
    have mM : ∀ S1 : Nat → Nat → Int32, S1 117 = S 117 → ∀ Q g, fX9_isMan (E b S1 Q g) (b + 116) (nI k) = some (nI 1) := fun S1 hS Q g => m_isMan1 (S := S1) (by rw [hS]; exact m1.2.1) (by omega) hk
    by_cases hm : metP (fW a) k p = true
    · rw [if_pos hm] at cE
      simp only [if_pos hm] at mT
      obtain ⟨S1, Q1, g1, e1, o1, l1, q1, r1⟩ := c_behind (b := b) (K := K) hC hI hk hp hm
      have i1' := crossP_inv (T := fT a) (k := k) i1 hp (by have := hI.2.1; omega)
      have h2 := c_bitsOfKnowers (b := b) (Q := Q1) (g := g1) (p := p) w42 r1 i1' (by omega)
      have e117 : S1 117 = S 117 := o1 117 (by omega)
      obtain ⟨S3, f3, o3, k3⟩ := m_layDown (b := b) (S := S1) (Q := Q1) (g := g1) (n := 0) (by decide)
      have e3 : S3 117 = S 117 := by rw [o3 117 (by decide), e117]
      obtain ⟨S4, f4, o4, m4, k4⟩ := m_cross (b := b) (S := S3) (Q := Q1) (g := g1) (by rw [e3]; exact hM) hI hk hp
      have f5 := m_hear55 (b := b) (S := S4) (Q := Q1) (g := g1) (w := crossP (fT a) (fW a) k p) (p := p) (show RepM (S4 117) (crossP (fT a) (fW a) k p) from m4.1) i1' (by omega)
      obtain ⟨S6, f6, o6, k6⟩ := m_layBack (b := b) (S := S4) (Q := Q1) (g := g1) (n := 0) (by decide)
      have back : S6 117 = S1 117 := lay_back k3 (fun j _ _ => by rw [o4 120 (by decide)]) (fun j hj => by rw [k4 j hj, o3 117 (by decide)]) k6
      generalize knowB (crossP (fT a) (fW a) k p) p ((crossP (fT a) (fW a) k p).1 0 2) = N at h2 f5
      generalize paysP (fT a) (fW a) k p = pv at f4
      refine Both.look h (S1 := S1) (Q1 := Q1) (g1 := g1) (r := nI N) ?_ o1 l1 q1 ⟨S6, ?_, OffR.of (X := [117, 120, 123, 124]) (((o3.mono (by decide)).tr (o4.mono (by decide))).tr (o6.mono (by decide))) (by decide), back⟩
      · unfold fX8_hearsay
        simp (disch := omega) only [rO, rF, rN, cE, bind_sm, if_true, e1, h2]
      · unfold fX9_hearsay
        rw [(rM b S1 Q1 g1).1, mM S1 e117, bind_sm, if_neg (by decide), mP S1 e117, bind_sm, if_neg (by decide), mT S1 e117, bind_sm, if_neg (by decide)]
        rw [show (0 : Int32) = nI 0 from rfl, f3, bind_sm, f4, bind_sm]
        dsimp only
        rw [f5, f6]
        exact bind_sm
    · rw [if_neg hm] at cE
      simp only [if_neg hm] at mT
      refine Both.err h 3 (by decide) ?_ (fun S1 hS => ?_)
      · unfold fX8_hearsay
        simp (disch := omega) only [rO, rN, cE, bind_sm, n30, if_false]
      · have e1 := n117 S1 hS
        unfold fX9_hearsay
        simp (disch := omega) only [rM, rN, mM S1 e1, mP S1 e1, mT S1 e1, z10, if_false, bind_sm, if_true]
  · refine Both.err h 1 (by decide) ?_ (fun S1 hS => ?_)
    · unfold fX8_hearsay
      simp (disch := omega) only [rO, rN, c_meeting0 c1 i1 hb, bind_sm, z10, if_false]
    · have hS' := n117 S1 hS
      unfold fX9_hearsay
      rcases hb with hx | ⟨⟨k, hk, rfl⟩, hy⟩
      · simp (disch := omega) only [rM, rN, bind_sm, m_isMan0 (S := S1) (by rw [hS']; exact m1.2.1) (by omega) hx, if_true]
      · simp (disch := omega) only [rM, rN, bind_sm, m_isMan1 (S := S1) (by rw [hS']; exact m1.2.1), m_isPerson0 (S := S1) (by rw [hS']; exact m1.1) (by omega) hy, z10, if_false, if_true]
end OS
