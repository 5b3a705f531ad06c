/-! ===== way ===== -/
section OZh
variable {b : Nat} {S S' S1 S2 S3 S5 S6 : Nat → Nat → Int32} {Q Q' Q1 Q2 : Nat → Nat → Nat} {g g' g1 g2 h : Hp} {f k j p q n u c c0 c1 lo hi i e m d bk L coins : Nat} {x y z v r : Int32} {w : Wo} {T : Tx} {K K2 : Nat → Nat} {a a' : Fs} {s s' s0 : Nat → Int32} {t : Dt} {l pre : List Nat} {st : Wy}

theorem m_way (hM : FerM (S 117) a) (hI : Finv a) (hp : p < (fW a).1 0 1) (hn : n ≤ 6) : ∃ S', (∀ z, fX9_in z (-1) (nI n - 1) = some (nI 1) → fX9_way (E b S Q g) (b + 116) (nI p) (nI n) z = if S' 116 16 = -1 then (fX9_error (E b S' Q g) (b + 116) (nI 2)).bind fun q => some (q.1, q.2) else if z = -1 then some (S' 116 16, E b S' Q g) else (rdI (E b S' Q g) (b + 127) z).bind fun v120 => some (v120, E b S' Q g)) ∧ WM n S' (bestP (fT a) p n (upW (fW a) 2 p 9999)) ∧ S' 117 = S 117 ∧ OffF S S' := by
  have m1 := hM.1
  have i1 := hI.1
  have hp8 := i1.2.1
  have v1 : S 117 (8 + 2 * p + 1) = nI ((fW a).1 2 p) := (m1.2.2.2.1 p hp).2
  obtain ⟨S1, hS1⟩ : ∃ S1, S1 = up2 S 116 16 (-1) := ⟨_, rfl⟩
  have e117 : S1 117 = S 117 := by rw [hS1, up2_row (by decide)]
  obtain ⟨S2, hS2⟩ : ∃ S2, S2 = up2 S1 117 (8 + 2 * p + 1) (nI 9999) := ⟨_, rfl⟩
  have r2 : RepM (S2 117) (upW (fW a) 2 p 9999) := m1.up i1 (by omega) (by rw [if_pos (by omega)]; exact hp) (fun j => by rw [hS2, up2_at, e117]; rfl)
  have i2 : Winv (upW (fW a) 2 p 9999) := i1.up (by omega) (by rw [if_neg (by decide), if_pos rfl]; exact Nat.le_refl _)
  have k2 : ∀ j, j ≠ 8 + 2 * p + 1 → S2 117 j = S 117 j := fun j hj => by rw [hS2, up2_at, if_neg hj, e117]
  have u1 : (upW (fW a) 2 p 9999).1 0 1 = (fW a).1 0 1 := by rw [upW_at, if_neg (by omega)]
  have u0 : (upW (fW a) 2 p 9999).1 0 0 = (fW a).1 0 0 := by rw [upW_at, if_neg (by omega)]
  have M2 : MW (fT a) S2 (upW (fW a) 2 p 9999) := ⟨r2, hM.2.1.fr hI.2.2.1 (fun j hj => k2 j (by omega)), _, by rw [k2 4 (by omega)]; exact hM.2.2.2.2.1.1, hI.2.2.2.2.2.1.1⟩
  have w2 : WM n S2 none := by show S2 116 16 = -nI 1; rw [hS2, up2_ne (by decide), hS1, up2_at, if_pos rfl]; rfl
  obtain ⟨S3, e3, w3, h3, f3, o3, -⟩ := m_ferries (b := b) (Q := Q) (g := g) (n := n) (p := p) hI.2.2.1 hn 10 0 0 [] none (upW (fW a) 2 p 9999) S2 (by omega) (by omega) rfl (by omega) i2 (by rw [u0]; have := hI.2.1; omega) M2 w2 (fun i v hv => by simp at hv) (by rw [u1]; exact hp)
  have ew : updO none (shO 0 [] (bestP (fT a) p (n - 0) (upW (fW a) 2 p 9999))) = bestP (fT a) p n (upW (fW a) 2 p 9999) := by
    rw [updO_none, Nat.sub_zero]
    cases bestP (fT a) p n (upW (fW a) 2 p 9999) with
    | none => rfl
    | some q => show some (0 + q.1, [] ++ q.2) = some q; rw [Nat.zero_add, List.nil_append]
  rw [ew] at w3
  obtain ⟨S4, hS4⟩ : ∃ S4, S4 = up2 S3 117 (8 + 2 * p + 1) (nI ((fW a).1 2 p)) := ⟨_, rfl⟩
  refine ⟨S4, fun z hz => ?_, w3.fr (by rw [hS4, up2_ne (by decide)]) (by rw [hS4, up2_row (by decide)]), ?_, ?_⟩
  · unfold fX9_way fX9_ferries
    rw [gO_M, m_isPerson1 m1.1 (by omega) hp, bind_sm, if_neg (by decide), show (0 : Int32) = nI 0 from rfl, show (6 : Int32) = nI 6 from rfl, m_in1 (Nat.zero_le _) hn (by decide), bind_sm, if_neg (by decide), hz, bind_sm, if_neg (by decide), put16M, bind_sm, ← hS1, show (1 : Int32) = nI 1 from rfl, m_of (by omega), bind_sm, e117, v1, getR_M0, bind_sm, show (8 : Int32) = nI 8 from rfl, show (2 : Int32) = nI 2 from rfl, pk_mul, nI_add, nI_add, show (9999 : Int32) = nI 9999 from rfl, show wrI (E b S1 Q g) (b + 117) (nI (8 + 2 * p + 1)) (nI 9999) = some (E b S2 Q g) by rw [hS2]; exact E_wrI (c := 117) (n := 458) rfl (by omega) (by decide), bind_sm, gO_M, e3, bind_sm, getR_M0, bind_sm, show wrI (E b S3 Q g) (b + 117) (nI (8 + 2 * p + 1)) (nI ((fW a).1 2 p)) = some (E b S4 Q g) by rw [hS4]; exact E_wrI (c := 117) (n := 458) rfl (by omega) (by decide), bind_sm, getI_M16, bind_sm, getR_M15]
    rfl
  · funext j
    rw [hS4, up2_at, f3]
    by_cases hj : j = 8 + 2 * p + 1
    · rw [if_pos hj, hj, v1]
    · rw [if_neg hj, k2 j hj]
  · refine ((?_ : OffF S S2).tr o3).tr ?_
    · refine ⟨fun r hr => ?_, fun j hj => ?_⟩
      · rw [hS2, up2_row (fun q => hr (by rw [← q]; decide)), hS1, up2_row (fun q => hr (by rw [← q]; decide))]
      · rw [hS2, up2_ne (by decide), hS1, up2_at, if_neg hj]
    · rw [hS4]; exact OffF.of (X := [117]) (Off.up List.mem_cons_self) (by decide)
theorem OffR.ofF (h : OffF S S1) : OffR S S1 := ⟨fun r hr => by
  by_cases h116 : r = 116
  · omega
  · exact h.1 r (fun q => by simp at q; omega), h.2 4 (by decide), h.2 20 (by decide)⟩
theorem z_cases (z : Int32) (n : Nat) (hn : n ≤ 6) : (z = -1 ∨ ∃ i, i < n ∧ z = nI i) ∨ ((z < -1 ∨ (¬ z < -1 ∧ ¬ z < nI n)) ∧ (z < -1 ∨ nI n - 1 < z)) := by
  have hm : (-1 : Int32).toInt = -1 := by decide
  have hn' : (nI n).toInt = n := nI_toInt (by omega)
  have hn1 : (nI n - 1).toInt = (n : Int) - 1 := nI_subInt (a := n) (n := 1) (by omega) (by decide)
  by_cases h1 : z = -1
  · exact Or.inl (Or.inl h1)
  · rcases isN_or z n with ⟨i, hi, rfl⟩ | hx
    · exact Or.inl (Or.inr ⟨i, hi, rfl⟩)
    · refine Or.inr ?_
      have hne : z.toInt ≠ -1 := fun q => h1 (Int32.toInt_inj.mp (by rw [q, hm]))
      rcases notN hx (by omega) with q | ⟨q, q2, q3⟩
      · have : z < -1 := by
          rw [Int32.lt_iff_toInt_lt] at q ⊢
          have : (nI 0).toInt = 0 := by decide
          omega
        exact ⟨Or.inl this, Or.inl this⟩
      · refine ⟨Or.inr ⟨fun z1 => ?_, q3⟩, Or.inr ?_⟩
        · rw [Int32.lt_iff_toInt_lt] at q z1
          have : (nI 0).toInt = 0 := by decide
          omega
        · rw [Int32.le_iff_toInt_le] at q2
          rw [Int32.lt_iff_toInt_lt]
          omega
theorem op_way (h : Sim b K S Q g) : Both b S Q g (fun h => fX8_way h b x y z) (fun h => fX9_way h (b + 116) x y z) := by
  obtain ⟨⟨a, hI, hC, hM⟩, -, -, -, -, hg⟩ := id h
  have c1 : RepW S 12 (fW a) := hC.1
  have m1 := hM.1
  have i1 := hI.1
  have i2 := i1.2.1
  have n117 : ∀ S1 : Nat → Nat → Int32, (∀ r, r ≠ 115 → S1 r = S r) → S1 117 = S 117 := fun S1 hS => hS _ (by decide)
  have r1 := (rO b S Q g).2.2.1
  have r4 : getR (E b S Q g) 1 (b + 4) 0 = some (b + 12) := by simp only [rF]
  rcases isN_or x ((fW a).1 0 1) with ⟨p, hp, rfl⟩ | hx
  · have cP := c_hasPerson1 (b := b) (Q := Q) (g := g) w12 c1.2.1 (by omega) hp
    have mP : ∀ S1 : Nat → Nat → Int32, S1 117 = S 117 → ∀ Q g, fX9_isPerson (E b S1 Q g) (b + 116) (nI p) = some (nI 1) := fun S1 hS Q g => m_isPerson1 (S := S1) (by rw [hS]; exact m1.1) (by omega) hp
    rcases isN_or y 7 with ⟨n, hn, rfl⟩ | hy
    · have hn6 : n ≤ 6 := by omega
      have c0 : fX8_way (E b S Q g) b (nI p) (nI n) z = if z < -1 then (fX8_refuse (E b S Q g) b (nI 1)).bind fun q => some (q.1, q.2) else if z < nI n then (fX6_findsWay (E b S Q g) (b + 38) (b + 12) (nI p) (nI n)).bind fun q59 => if q59.1 = nI 0 then (fX8_refuse q59.2 b (nI 2)).bind fun q67 => some (q67.1, q67.2) else if nI 0 ≤ z then (getR q59.2 8 b 3).bind fun r86 => (getR q59.2 6 r86 3).bind fun r89 => (rdI q59.2 r89 z).bind fun v93 => some (v93, q59.2) else (getR q59.2 8 b 3).bind fun r76 => (getI q59.2 6 r76 2).bind fun v79 => some (v79, q59.2) else (fX8_refuse (E b S Q g) b (nI 1)).bind fun q => some (q.1, q.2) := by
        unfold fX8_way
        rw [(rO b S Q g).1, r1, bind_sm, r4, bind_sm, cP, bind_sm, if_neg (by decide), if_neg (show ¬ nI n < 0 from fun q => absurd ((nI_ltI (by omega) (by decide) : nI n < nI 0 ↔ n < 0).mp q) (by omega)), if_pos (show nI n ≤ 6 from (nI_leI (by omega) (by decide) : nI n ≤ nI 6 ↔ n ≤ 6).mpr hn6), (rO b S Q g).2.2.2.2.1, bind_sm, bind_sm, r4, bind_sm]
        rfl
      rcases z_cases z n hn6 with hz | ⟨hzc, hzm⟩
      · -- a place that may be asked
        have hzin : fX9_in z (-1) (nI n - 1) = some (nI 1) := by
          rw [m_in, if_neg]
          have hn1 : (nI n - 1).toInt = (n : Int) - 1 := nI_subInt (a := n) (n := 1) (by omega) (by decide)
          have hm : (-1 : Int32).toInt = -1 := by decide
          rintro (q | q)
          · rcases hz with rfl | ⟨i, hi, rfl⟩
            · exact absurd q (by decide)
            · rw [Int32.lt_iff_toInt_lt, nI_toInt (by omega)] at q; omega
          · rcases hz with rfl | ⟨i, hi, rfl⟩
            · rw [Int32.lt_iff_toInt_lt] at q; omega
            · rw [Int32.lt_iff_toInt_lt, nI_toInt (by omega)] at q; omega
        have hz1 : ¬ z < -1 := by
          rcases hz with rfl | ⟨i, hi, rfl⟩
          · decide
          · intro q
            rw [Int32.lt_iff_toInt_lt, nI_toInt (by omega)] at q
            have hm : (-1 : Int32).toInt = -1 := by decide
            omega
        have hz2 : z < nI n := by
          rcases hz with rfl | ⟨i, hi, rfl⟩
          · rw [Int32.lt_iff_toInt_lt, nI_toInt (by omega)]
            have hm : (-1 : Int32).toInt = -1 := by decide
            omega
          · exact (nI_ltI (by omega) (by omega)).mpr hi
        obtain ⟨S1, Q1, g1, e1, w1, o1, q1, l1⟩ := c_findsWay (b := b) (K := K) hC hI hp hn6
        rw [if_neg hz1, if_pos hz2, e1, bind_sm] at c0
        dsimp only at c0
        cases hb : bestP (fT a) p n (upW (fW a) 2 p 9999) with
        | none =>
          rw [if_pos hb, if_pos rfl] at c0
          refine Both.lookErr h 2 (by decide) c0 o1 l1 q1 (fun S2 hS => ?_)
          have e2 : S2 117 = S 117 := by rw [hS _ (by decide), o1 117 (by omega)]
          obtain ⟨S3, e3, w3, f3, o3⟩ := m_way (b := b) (S := S2) (Q := Q1) (g := g1) (a := a) (p := p) (n := n) (by rw [e2]; exact hM) hI hp hn6
          rw [hb] at w3
          have := e3 z hzin
          rw [if_pos (show S3 116 16 = -1 from w3)] at this
          exact ⟨S3, this, OffR.ofF o3, f3⟩
        | some q =>
          have hbn : ¬ bestP (fT a) p n (upW (fW a) 2 p 9999) = none := by rw [hb]; intro z; cases z
          rw [if_neg hbn, if_neg (show ¬ nI 1 = nI 0 by decide)] at c0
          obtain ⟨S3, e3, w3, f3, o3⟩ := m_way (b := b) (S := S1) (Q := Q1) (g := g1) (a := a) (p := p) (n := n) (by rw [o1 117 (by omega)]; exact hM) hI hp hn6
          rw [hb] at w1 w3
          have e4 := e3 z hzin
          have h600 := w1.2.1
          rw [w3.1, if_neg (show ¬ nI q.1 = -1 from nI_m1 (by omega))] at e4
          rcases hz with hz | ⟨i, hi, hz⟩
          · rw [if_neg (show ¬ nI 0 ≤ z by rw [hz]; decide), (rO b S1 Q1 g1).2.2.2.2.1, bind_sm, getI_H2, w1.1, bind_sm] at c0
            rw [if_pos hz] at e4
            exact Both.look h (r := nI q.1) c0 o1 l1 q1 ⟨S3, e4, OffR.ofF o3, f3⟩
          · have hil : i < q.2.length := by rw [w1.2.2.1]; exact hi
            rw [if_pos (show nI 0 ≤ z by rw [hz]; exact (nI_leI (by omega) (by omega)).mpr (Nat.zero_le _)), (rO b S1 Q1 g1).2.2.2.2.1, bind_sm, getR_H3, bind_sm, hz, show rdI (E b S1 Q1 g1) (b + 40) (nI i) = some (S1 40 i) from E_rdI (c := 40) (n := 6) rfl (by omega) (by decide), w1.2.2.2.at0 hil, bind_sm] at c0
            rw [if_neg (show ¬ z = -1 by rw [hz]; exact nI_m1 (by omega)), hz, show rdI (E b S3 Q1 g1) (b + 127) (nI i) = some (S3 127 i) from E_rdI (c := 127) (n := 6) rfl (by omega) (by decide), w3.2.2.2.at0 hil, bind_sm] at e4
            rw [hz]
            exact Both.look h (r := nI q.2[i]) c0 o1 l1 q1 ⟨S3, e4, OffR.ofF o3, f3⟩
      · refine Both.err h 1 (by decide) ?_ (fun S1 hS => ?_)
        · rw [c0]
          rcases hzc with q | ⟨q, q2⟩
          · rw [if_pos q]
          · rw [if_neg q, if_neg q2]
        · have e1 := n117 S1 hS
          unfold fX9_way
          rw [gO_M, mP S1 e1, bind_sm, if_neg (by decide), show (0 : Int32) = nI 0 from rfl, show (6 : Int32) = nI 6 from rfl, m_in1 (Nat.zero_le _) hn6 (by decide), bind_sm, if_neg (by decide), m_in, if_pos hzm, bind_sm, if_pos rfl]
          rfl
    · refine Both.err h 1 (by decide) ?_ (fun S1 hS => ?_)
      · unfold fX8_way
        rw [(rO b S Q g).1, r1, bind_sm, r4, bind_sm, cP, bind_sm, if_neg (by decide)]
        rcases notN hy (by decide) with q | ⟨q, q2, -⟩
        · rw [if_pos (show y < 0 from q)]; rfl
        · rw [if_neg (show ¬ y < 0 from q), if_neg]
          · rfl
          · intro h6
            rw [Int32.le_iff_toInt_le] at q2 h6
            have : (nI 7).toInt = 7 := by decide
            have : (6 : Int32).toInt = 6 := by decide
            omega
      · have e1 := n117 S1 hS
        unfold fX9_way
        rw [gO_M, mP S1 e1, bind_sm, if_neg (by decide), show (0 : Int32) = nI 0 from rfl, show (6 : Int32) = nI 6 from rfl, m_in0 (hi := 6) hy (by decide), bind_sm, if_pos rfl]
        rfl
  · refine Both.err h 1 (by decide) ?_ (fun S1 hS => ?_)
    · unfold fX8_way
      rw [(rO b S Q g).1, r1, bind_sm, r4, bind_sm, c_hasPerson0 w12 c1.2.1 (by omega) hx, bind_sm, if_pos (by decide)]
      rfl
    · unfold fX9_way
      rw [gO_M, m_isPerson0 (S := S1) (by rw [n117 S1 hS]; exact m1.1) (by omega) hx, bind_sm, if_pos (by decide)]
      rfl
end OZh
