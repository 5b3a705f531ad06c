/-! ===== move, crossings ===== -/
section OX
variable {b : Nat} {S S' S1 S2 S3 S5 S6 : Nat → Nat → Int32} {Q Q' Q1 : Nat → Nat → Nat} {g g' g1 h : Hp} {f k j p q n u c c0 c1 lo hi i e m : Nat} {x y z v r : Int32} {w : Wo} {T : Tx} {K K2 : Nat → Nat} {a a' : Fs} {s s' s0 : Nat → Int32} {t : Dt} {l : List Nat}

theorem nI_subInt {a n : Nat} (ha : a < 2 ^ 31) (hn : n < 2 ^ 31) : (nI a - nI n).toInt = (a : Int) - n := by
  rw [Int32.toInt_sub, nI_toInt ha, nI_toInt hn, Int.bmod_def]
  split <;> omega
def fitP (x z : Int32) (n : Nat) : Prop := ∃ I N, x = nI I ∧ z = nI N ∧ I + N ≤ n
theorem c_stand1 {I N : Nat} (hj : j < 4) (h1 : S 107 j = nI n) (hn : n ≤ 24) (hf : I + N ≤ n) : fX4_stand (E b S Q g) (b + 105) (nI j) (nI I) (nI N) = some (nI 1) := by
  unfold fX4_stand
  simp (disch := omega) only [rV, rN, bind_sm, h1, nI_ltI, nI_subI]
  rw [if_neg (by omega), if_neg (by omega), if_neg (by omega), if_neg (by omega)]
theorem c_stand0 (hj : j < 4) (h1 : S 107 j = nI n) (hn : n ≤ 24) (hf : ¬ fitP x z n) : fX4_stand (E b S Q g) (b + 105) (nI j) x z = some (nI 0) := by
  unfold fX4_stand
  simp (disch := omega) only [rV, rN, bind_sm, h1]
  by_cases hz : z < nI 0
  · rw [if_pos hz]
  · rw [if_neg hz]
    by_cases hx : x < nI 0
    · rw [if_pos hx]
    · rw [if_neg hx]
      obtain ⟨I, hI, rfl⟩ := nI_of (x := x) (by rw [← nI_0]; exact hx)
      obtain ⟨N, hN, rfl⟩ := nI_of (x := z) (by rw [← nI_0]; exact hz)
      by_cases h2 : nI n < nI N
      · rw [if_pos h2]
      · rw [if_neg h2]
        rw [nI_ltI (by omega) (by omega)] at h2
        rw [if_pos]
        rw [nI_subI (by omega), nI_ltI (by omega) (by omega)]
        have : ¬ (I + N ≤ n) := fun q => hf ⟨I, N, rfl, rfl, q⟩
        omega
theorem m_move152 {N J : Nat} (hj : j < 4) (hJ : J + N ≤ 24) : ∃ S', fX9_move_152 1000 (E b S Q g) (b + 116) (nI j) (nI J) (nI N) (nI 0) = some (nI N, E b S' Q g) ∧ Off [131] S S' ∧ ∀ q, S' 131 q = if 24 * j + J ≤ q ∧ q < 24 * j + J + N then S 132 (q - (24 * j + J)) else S 131 q := by
  have loop : ∀ (m i : Nat) (S1 : Nat → Nat → Int32), i ≤ N → N - i < m → Off [131] S S1 → (∀ q, S1 131 q = if 24 * j + J ≤ q ∧ q < 24 * j + J + i then S 132 (q - (24 * j + J)) else S 131 q) → ∃ S', fX9_move_152 m (E b S1 Q g) (b + 116) (nI j) (nI J) (nI N) (nI i) = some (nI N, E b S' Q g) ∧ Off [131] S S' ∧ ∀ q, S' 131 q = if 24 * j + J ≤ q ∧ q < 24 * j + J + N then S 132 (q - (24 * j + J)) else S 131 q := by
    intro m
    induction m with
    | zero => intro i _ _ h; omega
    | succ m ih =>
      intro i S1 hi hm h1 h2
      rw [fX9_move_152]
      simp (disch := omega) only [rN, nI_leI]
      by_cases hle : N ≤ i
      · rw [if_pos hle]
        exact ⟨S1, rfl, h1, fun j => by rw [h2 j, show i = N by omega]⟩
      · rw [if_neg hle]
        have e132 : S1 132 = S 132 := h1 132 (by decide)
        simp (disch := omega) only [rM, bind_sm, pk_mul, nI_add, e132]
        refine ih (i + 1) _ (by omega) (by omega) (h1.tr (Off.up (by decide))) (fun q => ?_)
        rw [up2_at]
        by_cases hq : q = 24 * j + J + i
        · rw [if_pos hq, if_pos (by omega), show q - (24 * j + J) = i by omega]
        · rw [if_neg hq, h2]
          by_cases hq2 : 24 * j + J ≤ q ∧ q < 24 * j + J + i
          · rw [if_pos hq2, if_pos (by omega)]
          · rw [if_neg hq2, if_neg (by omega)]
  exact loop 1000 0 S (by omega) (by omega) Off.rf (fun j => by rw [if_neg (by omega)])
theorem m_move115 {N I J : Nat} (hk : k < 4) (hI : I + N ≤ 24) (hj : j < 4) (hJ : J + N ≤ 24) : ∃ S', fX9_move_115 1000 (E b S Q g) (b + 116) (nI k) (nI I) (nI j) (nI J) (nI N) (nI 0) = some (nI N, E b S' Q g) ∧ Off [131, 132] S S' ∧ ∀ q, S' 131 q = if 24 * j + J ≤ q ∧ q < 24 * j + J + N then S 131 (24 * k + I + (q - (24 * j + J))) else S 131 q := by
  have loop : ∀ (m i : Nat) (S1 : Nat → Nat → Int32), i ≤ N → N - i < m → Off [132] S S1 → (∀ q, q < i → S1 132 q = S 131 (24 * k + I + q)) → ∃ S', fX9_move_115 m (E b S1 Q g) (b + 116) (nI k) (nI I) (nI j) (nI J) (nI N) (nI i) = some (nI N, E b S' Q g) ∧ Off [131, 132] S S' ∧ ∀ q, S' 131 q = if 24 * j + J ≤ q ∧ q < 24 * j + J + N then S 131 (24 * k + I + (q - (24 * j + J))) else S 131 q := by
    intro m
    induction m with
    | zero => intro i _ _ h; omega
    | succ m ih =>
      intro i S1 hi hm h1 h2
      rw [fX9_move_115]
      simp (disch := omega) only [rN, nI_leI]
      have e131 : S1 131 = S 131 := h1 131 (by decide)
      by_cases hle : N ≤ i
      · rw [if_pos hle]
        obtain ⟨S2, e2, o2, k2⟩ := m_move152 (b := b) (S := S1) (Q := Q) (g := g) hj hJ
        refine ⟨S2, e2, (h1.mono (by decide)).tr (o2.mono (by decide)), fun q => ?_⟩
        rw [k2]
        by_cases hq : 24 * j + J ≤ q ∧ q < 24 * j + J + N
        · rw [if_pos hq, if_pos hq, h2 _ (by omega)]
        · rw [if_neg hq, if_neg hq, e131]
      · rw [if_neg hle]
        simp (disch := omega) only [rM, bind_sm, pk_mul, nI_add, e131]
        refine ih (i + 1) _ (by omega) (by omega) (h1.tr (Off.up (by decide))) (fun q hq => ?_)
        rw [up2_at]
        by_cases hqi : q = i
        · rw [if_pos hqi, hqi]
        · rw [if_neg hqi, h2 q (by omega)]
  exact loop 1000 0 S (by omega) (by omega) Off.rf (fun q hq => by omega)
theorem rO4 : getR (E b S Q g) 8 b 4 = some (b + 105) := (rO b S Q g).2.2.2.2.2.1
theorem g23 : getR (E b S Q g) 9 (b + 116) 23 = some (b + 129) := by simp only [rM]
theorem g24 : getR (E b S Q g) 9 (b + 116) 24 = some (b + 130) := by simp only [rM]
theorem q23 (hi : i < 4) : rdI (E b S Q g) (b + 129) (nI i) = some (S 129 i) := by simp (disch := omega) only [rM]
theorem q24 (hi : i < 4) : rdI (E b S Q g) (b + 130) (nI i) = some (S 130 i) := by simp (disch := omega) only [rM]
theorem op_move {x2 x4 x5 : Int32} (h : Sim b K S Q g) : Both b S Q g (fun h => fX8_move h b x x2 y x4 x5) (fun h => fX9_move h (b + 116) x x2 y x4 x5) := by
  obtain ⟨-, -, -, -, hS, -⟩ := id h
  rcases isN_or x 4 with ⟨j, hj, rfl⟩ | hx
  · rcases isN_or y 4 with ⟨k, hk, rfl⟩ | hy
    · obtain ⟨⟨d, hd, d1, d2⟩, ⟨n, hn, n1, n2⟩, hrow⟩ := hS j hj
      obtain ⟨⟨d', hd', d1', d2'⟩, ⟨n', hn', n1', n2'⟩, hrow'⟩ := hS k hk
      have hd32 := hd.lt
      have hd32' := hd'.lt
      have miss : d = 0 ∨ d' = 0 → Both b S Q g (fun h => fX8_move h b (nI j) x2 (nI k) x4 x5) (fun h => fX9_move h (b + 116) (nI j) x2 (nI k) x4 x5) := by
        intro h00
        refine Both.err h 2 (by decide) ?_ (fun S1 hS => ?_)
        · unfold fX8_move
          rw [(rO b S Q g).1, rO4, bind_sm, c_isOne1 hj, bind_sm, if_neg (by decide), bind_sm, c_isOne1 hk, bind_sm, if_neg (by decide), bind_sm, c_isMissing hj d1 (show d < 2 ^ 31 by omega), bind_sm]
          by_cases h0 : d = 0
          · rw [if_pos h0, if_neg (by decide)]; rfl
          · rw [if_neg h0, if_pos (by decide), bind_sm, c_isMissing hk d1' (show d' < 2 ^ 31 by omega), bind_sm, if_pos (h00.resolve_left h0), if_neg (by decide)]; rfl
        · have e1 : S1 129 j = nI d := by rw [hS _ (by decide), d2]
          have e2 : S1 129 k = nI d' := by rw [hS _ (by decide), d2']
          unfold fX9_move
          rw [(rM b S1 Q g).1, m_isSheet1 hj, bind_sm, if_neg (by decide), m_isSheet1 hk, bind_sm, if_neg (by decide), g23, bind_sm, q23 hj, bind_sm, e1]
          by_cases h0 : d = 0
          · rw [if_pos (by rw [h0]; rfl)]; rfl
          · have n0 : ¬ nI d = 0 := fun q => h0 ((nI_eq (by omega) (by decide)).mp q)
            rw [if_neg n0, bind_sm, q23 hk, bind_sm, e2, if_pos (by rw [h00.resolve_left h0]; rfl)]; rfl
      by_cases h0 : d = 0
      · exact miss (Or.inl h0)
      · by_cases h0' : d' = 0
        · exact miss (Or.inr h0')
        · have z0 : ¬ nI d = nI 0 := fun q => h0 ((nI_eq (by omega) (by decide)).mp q)
          have z0' : ¬ nI d' = nI 0 := fun q => h0' ((nI_eq (by omega) (by decide)).mp q)
          by_cases hdd : d = d'
          · subst hdd
            have bad : ¬ (fitP x2 x5 n ∧ fitP x4 x5 n') → Both b S Q g (fun h => fX8_move h b (nI j) x2 (nI k) x4 x5) (fun h => fX9_move h (b + 116) (nI j) x2 (nI k) x4 x5) := by
              intro hnf
              refine Both.err h 1 (by decide) ?_ (fun S1 hS => ?_)
              · unfold fX8_move
                simp (disch := omega) only [rO, rV, rN, bind_sm, c_isOne1, z10, if_false, c_isMissing hj d1 (show d < 2 ^ 31 by omega), c_isMissing hk d1' (show d < 2 ^ 31 by omega), h0, if_true, d1, d1']
                by_cases hf : fitP x2 x5 n
                · obtain ⟨I, N, rfl, rfl, hf1⟩ := id hf
                  have hf2 : ¬ fitP x4 (nI N) n' := fun q => hnf ⟨hf, q⟩
                  rw [c_stand1 hj n1 hn hf1, bind_sm, if_neg (by decide), c_stand0 hk n1' hn' hf2, bind_sm, if_pos rfl]
                · rw [c_stand0 hj n1 hn hf, bind_sm, if_pos rfl]
              · have e1 : S1 129 j = nI d := by rw [hS _ (by decide), d2]
                have e2 : S1 129 k = nI d := by rw [hS _ (by decide), d2']
                have e3 : S1 130 j = nI n := by rw [hS _ (by decide), n2]
                have e4 : S1 130 k = nI n' := by rw [hS _ (by decide), n2']
                unfold fX9_move
                rw [(rM b S1 Q g).1, m_isSheet1 hj, bind_sm, if_neg (by decide), m_isSheet1 hk, bind_sm, if_neg (by decide), g23, bind_sm, q23 hj, bind_sm, e1, if_neg (show ¬ nI d = 0 from z0), bind_sm, q23 hk, bind_sm, e2, if_neg (show ¬ nI d = 0 from z0'), bind_sm, q23 hj, bind_sm, bind_sm, q23 hk, bind_sm, e1, e2, if_pos rfl]
                by_cases h5 : x5 < nI 0
                · rw [if_pos (show x5 < 0 from h5)]; rfl
                · rw [if_neg (show ¬ x5 < 0 from h5)]
                  by_cases h2 : x2 < nI 0
                  · rw [if_pos (show x2 < 0 from h2)]; rfl
                  · rw [if_neg (show ¬ x2 < 0 from h2)]
                    by_cases h4 : x4 < nI 0
                    · rw [if_pos (show x4 < 0 from h4)]; rfl
                    · rw [if_neg (show ¬ x4 < 0 from h4), g24, bind_sm, q24 hj, bind_sm, e3]
                      obtain ⟨I, hI, rfl⟩ := nI_of (x := x2) (by rw [← nI_0]; exact h2)
                      obtain ⟨J, hJ, rfl⟩ := nI_of (x := x4) (by rw [← nI_0]; exact h4)
                      obtain ⟨N, hN, rfl⟩ := nI_of (x := x5) (by rw [← nI_0]; exact h5)
                      by_cases h6 : nI n - nI N < nI I
                      · rw [if_pos h6]; rfl
                      · have h7 : ¬ nI J ≤ nI n' - nI N := by
                          intro h7
                          rw [Int32.lt_iff_toInt_lt, nI_subInt (by omega) (by omega), nI_toInt (by omega)] at h6
                          rw [Int32.le_iff_toInt_le, nI_subInt (by omega) (by omega), nI_toInt (by omega)] at h7
                          exact hnf ⟨⟨I, N, rfl, rfl, by omega⟩, ⟨J, N, rfl, rfl, by omega⟩⟩
                        rw [if_neg h6, bind_sm, q24 hk, bind_sm, e4, if_neg h7]; rfl
            by_cases hf : fitP x2 x5 n ∧ fitP x4 x5 n'
            · obtain ⟨⟨I, N, rfl, rfl, hf1⟩, ⟨J, N', rfl, hNN, hf2⟩⟩ := id hf
              by_cases hN : N < 2 ^ 31 ∧ N' < 2 ^ 31
              · have hNe : N' = N := ((nI_eq hN.1 hN.2).mp hNN).symm
                subst hNe
                generalize hS1 : cpR S (109 + j) (109 + k) I J N' = S1
                have ne : ∀ r, r ≠ 109 + k → S1 r = S r := fun r hr => by rw [← hS1, cpR_ne hr]
                obtain ⟨S2, e2, o2, k2⟩ := m_move115 (b := b) (S := S1) (Q := Q) (g := g) (k := j) (j := k) (I := I) (J := J) (N := N') hj (by omega) hk (by omega)
                have cp : acopy (E b S Q g) (b + (109 + j)) (nI I) (b + (109 + k)) (nI J) (nI N') = some (E b S1 Q g) := by rw [← hS1]; exact E_acopy (lay_sheet hj) (lay_sheet hk) (by omega) (by omega) (by decide) (by decide)
                have n2a : ∀ r, r ≠ 109 + k → r ≠ 131 → r ≠ 132 → S2 r = S r := fun r h1 h2 h3 => by rw [o2 r (by simp; omega), ne r h1]
                refine ⟨nI N', S1, Q, g, S2, K, ?_, ?_, h.sh (fun r h1 h2 h3 => n2a r (by omega) (by omega) (by omega)) (fun t ht => ?_)⟩
                · unfold fX8_move
                  simp (disch := omega) only [rO, rV, rN, bind_sm, c_isOne1, z10, if_false, c_isMissing hj d1 (show d < 2 ^ 31 by omega), c_isMissing hk d1' (show d < 2 ^ 31 by omega), h0, if_true, d1, d1', c_stand1 hj n1 hn hf1, c_stand1 hk n1' hn' hf2, c_sheetR hj, c_sheetR hk, cp]
                · have e3 : S1 129 = S 129 := ne _ (by omega)
                  have e4 : S1 130 = S 130 := ne _ (by omega)
                  show fX9_move (E b S1 Q g) (b + 116) (nI j) (nI I) (nI k) (nI J) (nI N') = _
                  unfold fX9_move
                  have e1 : S1 129 j = nI d := by rw [e3, d2]
                  have e2' : S1 129 k = nI d := by rw [e3, d2']
                  have l0 : ∀ t, t < 2 ^ 31 → ¬ nI t < 0 := fun t ht q => absurd ((nI_ltI ht (by decide : 0 < 2 ^ 31)).mp q) (by omega)
                  rw [(rM b S1 Q g).1, m_isSheet1 hj, bind_sm, if_neg (by decide), m_isSheet1 hk, bind_sm, if_neg (by decide), g23, bind_sm, q23 hj, bind_sm, e1, if_neg (show ¬ nI d = 0 from z0), bind_sm, q23 hk, bind_sm, e2', if_neg (show ¬ nI d = 0 from z0'), bind_sm, q23 hj, bind_sm, bind_sm, q23 hk, bind_sm, e1, e2', if_pos rfl, if_neg (l0 _ (by omega)), if_neg (l0 _ (by omega)), if_neg (l0 _ (by omega)), g24, bind_sm, q24 hj, bind_sm, e4, n2, nI_subI (by omega), if_neg (fun q => absurd ((nI_ltI (by omega) (by omega)).mp q) (by omega)), bind_sm, q24 hk, bind_sm, e4, n2', nI_subI (by omega), if_pos ((nI_leI (by omega) (by omega)).mpr (by omega))]
                  exact e2
                · obtain ⟨⟨d3, hd3, d31, d32⟩, ⟨n3, hn3, n31, n32⟩, hrow3⟩ := hS t ht
                  rw [n2a 106 (by omega) (by omega) (by omega), n2a 107 (by omega) (by omega) (by omega), n2a 129 (by omega) (by omega) (by omega), n2a 130 (by omega) (by omega) (by omega)]
                  refine ⟨⟨d3, hd3, d31, d32⟩, ⟨n3, hn3, n31, n32⟩, fun u hu => ?_⟩
                  rw [o2 (109 + t) (by simp; omega), k2, ne 131 (by omega), ← hS1]
                  by_cases htk : t = k
                  · subst htk
                    rw [cpR_at]
                    by_cases hui : J ≤ u ∧ u < J + N'
                    · rw [if_pos hui, if_pos (by omega), hrow _ (by omega)]
                      congr 1
                      omega
                    · rw [if_neg hui, if_neg (by omega)]
                      exact hrow3 u hu
                  · rw [cpR_ne (by omega), if_neg (by omega)]
                    exact hrow3 u hu
              · exact absurd ⟨by omega, by omega⟩ hN
            · exact bad hf
          · have zdd : ¬ nI d = nI d' := fun q => hdd ((nI_eq (by omega) (by omega)).mp q)
            refine Both.err h 5 (by decide) ?_ (fun S1 hS => ?_)
            · unfold fX8_move
              simp (disch := omega) only [rO, rV, rN, bind_sm, c_isOne1, z10, if_false, c_isMissing hj d1 (show d < 2 ^ 31 by omega), c_isMissing hk d1' (show d' < 2 ^ 31 by omega), h0, h0', if_true, d1, d1', zdd]
            · have e1 : S1 129 j = nI d := by rw [hS _ (by decide), d2]
              have e2 : S1 129 k = nI d' := by rw [hS _ (by decide), d2']
              unfold fX9_move
              rw [(rM b S1 Q g).1, m_isSheet1 hj, bind_sm, if_neg (by decide), m_isSheet1 hk, bind_sm, if_neg (by decide), g23, bind_sm, q23 hj, bind_sm, e1, if_neg (show ¬ nI d = 0 from z0), bind_sm, q23 hk, bind_sm, e2, if_neg (show ¬ nI d' = 0 from z0'), bind_sm, q23 hj, bind_sm, bind_sm, q23 hk, bind_sm, e1, e2, if_neg zdd]
              rfl
    · refine Both.err h 1 (by decide) ?_ (fun S1 hS => ?_)
      · unfold fX8_move
        rw [(rO b S Q g).1, rO4, bind_sm, c_isOne1 hj, bind_sm, if_neg (by decide), bind_sm, c_isOne0 hy, bind_sm, if_pos (by decide)]; rfl
      · unfold fX9_move
        rw [(rM b S1 Q g).1, m_isSheet1 hj, bind_sm, if_neg (by decide), m_isSheet0 hy, bind_sm, if_pos (by decide)]; rfl
  · refine Both.err h 1 (by decide) ?_ (fun S1 hS => ?_)
    · unfold fX8_move
      rw [(rO b S Q g).1, rO4, bind_sm, c_isOne0 hx, bind_sm, if_pos (by decide)]; rfl
    · unfold fX9_move
      rw [(rM b S1 Q g).1, m_isSheet0 hx, bind_sm, if_pos (by decide)]; rfl
theorem cross_both (hj : j < 4) (hn : n ≤ 24) (f : Nat → Int32) : ∀ (d : Nat) (a : Fs) (i : Nat), Finv a → 2 * i ≤ 24 → n ≤ 2 * i + 2 * d → ∃ a' v, Finv a' ∧ (∀ (S : Nat → Nat → Int32) (g : Hp) (m : Nat), d < m → FerC b K S Q g 4 a → S 107 j = nI n → (∀ i < 24, S (109 + j) i = f i) → ∃ S' g', fX8_crossings_49 m (E b S Q g) b (nI j) (b + (109 + j)) (nI i) (nI (2 * i)) = some (nI v, E b S' Q g') ∧ OffC S S' ∧ Lkg K g g' ∧ FerC b K S' Q g' 4 a') ∧ ∀ (S : Nat → Nat → Int32) (g : Hp) (m : Nat), d < m → FerM (S 117) a → S 130 j = nI n → (∀ i < 24, S 131 (24 * j + i) = f i) → ∃ S', fX9_crossings_24 m (E b S Q g) (b + 116) (nI j) (nI i) (nI (24 * j)) = some (nI v, E b S' Q g) ∧ Off [117, 123, 124] S S' ∧ FerM (S' 117) a' := by
  intro d
  -- the end
  have fin : ∀ (a : Fs) (i : Nat), 2 * i ≤ 24 → n ≤ 2 * i + 1 → Finv a → ∃ a' v, Finv a' ∧ (∀ (S : Nat → Nat → Int32) (g : Hp) (m : Nat), 0 < m → FerC b K S Q g 4 a → S 107 j = nI n → (∀ i < 24, S (109 + j) i = f i) → ∃ S' g', fX8_crossings_49 m (E b S Q g) b (nI j) (b + (109 + j)) (nI i) (nI (2 * i)) = some (nI v, E b S' Q g') ∧ OffC S S' ∧ Lkg K g g' ∧ FerC b K S' Q g' 4 a') ∧ ∀ (S : Nat → Nat → Int32) (g : Hp) (m : Nat), 0 < m → FerM (S 117) a → S 130 j = nI n → (∀ i < 24, S 131 (24 * j + i) = f i) → ∃ S', fX9_crossings_24 m (E b S Q g) (b + 116) (nI j) (nI i) (nI (24 * j)) = some (nI v, E b S' Q g) ∧ Off [117, 123, 124] S S' ∧ FerM (S' 117) a' := by
    intro a i hi hni hI
    refine ⟨a, i, hI, fun S g m hm hC h1 hf => ?_, fun S g m hm hM h1 hf => ?_⟩
    · obtain ⟨m, rfl⟩ : ∃ m', m = m' + 1 := ⟨m - 1, by omega⟩
      refine ⟨S, g, ?_, OffC.rf, Lkg.rf, hC⟩
      rw [fX8_crossings_49]
      simp (disch := omega) only [rO, rV, rN, bind_sm, h1, nI_add, nI_leI]
      rw [if_pos (by omega)]
    · obtain ⟨m, rfl⟩ : ∃ m', m = m' + 1 := ⟨m - 1, by omega⟩
      refine ⟨S, ?_, Off.rf, hM⟩
      rw [fX9_crossings_24]
      simp (disch := omega) only [rM, rN, bind_sm, h1, pk_mul, nI_add, nI_leI]
      rw [if_pos (by omega)]
  induction d with
  | zero =>
    intro a i hI hi hni
    obtain ⟨a', v, h1, h2, h3⟩ := fin a i hi (by omega) hI
    exact ⟨a', v, h1, fun S g m hm => h2 S g m (by omega), fun S g m hm => h3 S g m (by omega)⟩
  | succ d ih =>
    intro a i hI hi hni
    by_cases hend : n ≤ 2 * i + 1
    · obtain ⟨a', v, h1, h2, h3⟩ := fin a i hi hend hI
      exact ⟨a', v, h1, fun S g m hm => h2 S g m (by omega), fun S g m hm => h3 S g m (by omega)⟩
    · have i1 := hI.1
      have cst : ∀ (S : Nat → Nat → Int32) (g : Hp) (m : Nat), S 107 j = nI n → (∀ i < 24, S (109 + j) i = f i) → fX8_crossings_49 (m + 1) (E b S Q g) b (nI j) (b + (109 + j)) (nI i) (nI (2 * i)) = (fX8_refusalOfCrossing (E b S Q g) b (f (2 * i)) (f (2 * i + 1))).bind fun q76 => if q76 = nI 0 then (fX1_carryAndBook (E b S Q g) (b + 4) (f (2 * i)) (f (2 * i + 1))).bind fun q98 => fX8_crossings_49 m q98.2 b (nI j) (b + (109 + j)) (nI (i + 1)) (nI (2 * i + 2)) else some (nI i, E b S Q g) := by
        intro S g m h1 hf
        have r1 : rdI (E b S Q g) (b + (109 + j)) (nI (2 * i)) = some (f (2 * i)) := by rw [E_rdI (lay_sheet hj) (by omega) (by decide), hf _ (by omega)]
        have r2 : rdI (E b S Q g) (b + (109 + j)) (nI (2 * i + 1)) = some (f (2 * i + 1)) := by rw [E_rdI (lay_sheet hj) (by omega) (by decide), hf _ (by omega)]
        rw [fX8_crossings_49]
        simp (disch := omega) only [rO, rV, rN, bind_sm, h1, nI_add, nI_leI]
        rw [if_neg (by omega)]
        simp (disch := omega) only [bind_sm, r1, r2]
      have mst : ∀ (S : Nat → Nat → Int32) (g : Hp) (m : Nat), S 130 j = nI n → (∀ i < 24, S 131 (24 * j + i) = f i) → fX9_crossings_24 (m + 1) (E b S Q g) (b + 116) (nI j) (nI i) (nI (24 * j)) = (fX9_whyNotCross (E b S Q g) (b + 116) (f (2 * i)) (f (2 * i + 1))).bind fun q63 => if q63 = nI 0 then (fX9_crosses (E b S Q g) (b + 116) (f (2 * i)) (f (2 * i + 1))).bind fun q94 => fX9_crossings_24 m q94.2 (b + 116) (nI j) (nI (i + 1)) (nI (24 * j)) else some (nI i, E b S Q g) := by
        intro S g m h1 hf
        have r1 : S 131 (24 * j + 2 * i) = f (2 * i) := hf _ (by omega)
        have r2 : S 131 (24 * j + 2 * i + 1) = f (2 * i + 1) := by have := hf (2 * i + 1) (by omega); rwa [← Nat.add_assoc] at this
        rw [fX9_crossings_24]
        simp (disch := omega) only [rM, rN, bind_sm, h1, pk_mul, nI_add, nI_leI, r1, r2]
        rw [if_neg (by omega)]
      have stop : (∀ (S : Nat → Nat → Int32) (g : Hp), RepW S 12 (fW a) → ∃ q, fX8_refusalOfCrossing (E b S Q g) b (f (2 * i)) (f (2 * i + 1)) = some q ∧ ¬ q = nI 0) → (∀ (S : Nat → Nat → Int32) (g : Hp), RepM (S 117) (fW a) → ∃ q, fX9_whyNotCross (E b S Q g) (b + 116) (f (2 * i)) (f (2 * i + 1)) = some q ∧ ¬ q = nI 0) → ∃ a' v, Finv a' ∧ (∀ (S : Nat → Nat → Int32) (g : Hp) (m : Nat), d + 1 < m → FerC b K S Q g 4 a → S 107 j = nI n → (∀ i < 24, S (109 + j) i = f i) → ∃ S' g', fX8_crossings_49 m (E b S Q g) b (nI j) (b + (109 + j)) (nI i) (nI (2 * i)) = some (nI v, E b S' Q g') ∧ OffC S S' ∧ Lkg K g g' ∧ FerC b K S' Q g' 4 a') ∧ ∀ (S : Nat → Nat → Int32) (g : Hp) (m : Nat), d + 1 < m → FerM (S 117) a → S 130 j = nI n → (∀ i < 24, S 131 (24 * j + i) = f i) → ∃ S', fX9_crossings_24 m (E b S Q g) (b + 116) (nI j) (nI i) (nI (24 * j)) = some (nI v, E b S' Q g) ∧ Off [117, 123, 124] S S' ∧ FerM (S' 117) a' := by
        intro hc hm
        refine ⟨a, i, hI, fun S g m hmm hC h1 hf => ?_, fun S g m hmm hM h1 hf => ?_⟩
        · obtain ⟨m, rfl⟩ : ∃ m', m = m' + 1 := ⟨m - 1, by omega⟩
          obtain ⟨q, e, hq⟩ := hc S g hC.1
          refine ⟨S, g, ?_, OffC.rf, Lkg.rf, hC⟩
          rw [cst S g m h1 hf, e, bind_sm, if_neg hq]
        · obtain ⟨m, rfl⟩ : ∃ m', m = m' + 1 := ⟨m - 1, by omega⟩
          obtain ⟨q, e, hq⟩ := hm S g hM.1
          refine ⟨S, ?_, Off.rf, hM⟩
          rw [mst S g m h1 hf, e, bind_sm, if_neg hq]
      rcases mp_cases (fW a) (f (2 * i)) (f (2 * i + 1)) with ⟨k, p, hk, hp, ek, ep⟩ | hb
      · by_cases hm : metP (fW a) k p = true ∧ (fW a).1 0 0 ≠ 9999
        · obtain ⟨a2, v, j1, jC, jM⟩ := ih (crossA a k p) (i + 1) (crossA_inv hI hk hp (by have := hI.2.1; omega)) (by omega) (by omega)
          refine ⟨a2, v, j1, fun S g m hmm hC h1 hf => ?_, fun S g m hmm hM h1 hf => ?_⟩
          · obtain ⟨m, rfl⟩ : ∃ m', m = m' + 1 := ⟨m - 1, by omega⟩
            have cE := c_crossing1 (b := b) (Q := Q) (g := g) hC.1 i1 hI.2.1 hk hp
            rw [if_pos hm] at cE
            obtain ⟨S1, g1, e1, o1, l1, f1⟩ := c_carryAndBook (b := b) (K := K) hC hI hk hp hm.1
            obtain ⟨S2, g2, e2, o2, l2, f2⟩ := jC S1 g1 m (by omega) f1 (by rw [o1 107 (by omega)]; exact h1) (fun t ht => by rw [o1 (109 + j) (by omega)]; exact hf t ht)
            refine ⟨S2, g2, ?_, fun r hr => by rw [o2 r hr, o1 r hr], l1.tr l2, f2⟩
            rw [cst S g m h1 hf, ek, ep, cE, bind_sm, if_pos rfl, e1, bind_sm]
            exact e2
          · obtain ⟨m, rfl⟩ : ∃ m', m = m' + 1 := ⟨m - 1, by omega⟩
            have mE := m_whyNot1 (b := b) (S := S) (Q := Q) (g := g) hM.1 i1 hk hp
            rw [if_pos hm] at mE
            obtain ⟨S1, e1, o1, f1, -⟩ := m_cross (b := b) (Q := Q) (g := g) (S := S) hM hI hk hp
            obtain ⟨S2, e2, o2, f2⟩ := jM S1 g m (by omega) f1 (by rw [o1 130 (by decide)]; exact h1) (fun t ht => by rw [o1 131 (by decide)]; exact hf t ht)
            refine ⟨S2, ?_, o1.tr o2, f2⟩
            rw [mst S g m h1 hf, ek, ep, mE, bind_sm, if_pos rfl, e1, bind_sm]
            exact e2
        · refine stop (fun S g hR => ⟨nI 3, ?_, by decide⟩) (fun S g hR => ⟨nI 3, ?_, by decide⟩)
          · rw [ek, ep, c_crossing1 hR i1 hI.2.1 hk hp, if_neg hm]
          · rw [ek, ep, m_whyNot1 hR i1 hk hp, if_neg hm]
      · exact stop (fun S g hR => ⟨nI 1, c_crossing0 hR i1 hb, by decide⟩) (fun S g hR => ⟨nI 1, m_whyNot0 hR i1 hb, by decide⟩)
theorem op_crossings (h : Sim b K S Q g) : Both b S Q g (fun h => fX8_crossings h b x) (fun h => fX9_crossings h (b + 116) x) := by
  obtain ⟨⟨a, hI, hC, hM⟩, -, -, -, hS, hg⟩ := id h
  rcases isN_or x 4 with ⟨j, hj, rfl⟩ | hx
  · obtain ⟨⟨d, hd, d1, d2⟩, ⟨n, hn, n1, n2⟩, hrow⟩ := hS j hj
    have hd32 := hd.lt
    by_cases h0 : d = 0
    · refine Both.err h 2 (by decide) ?_ (fun S1 hS => ?_)
      · unfold fX8_crossings
        simp (disch := omega) only [rO, rN, bind_sm, c_isOne1, z10, if_false, c_isMissing hj d1 (show d < 2 ^ 31 by omega), h0, if_true]
      · have e129 : S1 129 j = nI 0 := by rw [hS _ (by decide), d2, h0]
        unfold fX9_crossings
        rw [(rM b S1 Q g).1, m_lacks hj e129 (by decide), bind_sm, if_pos rfl, if_neg (by decide)]
    · obtain ⟨a', v, j1, jC, jM⟩ := cross_both (b := b) (K := K) (Q := Q) hj hn (fun i => S (109 + j) i) 12 a 0 hI (by omega) (by omega)
      obtain ⟨S1, g1, e1, o1, l1, f1⟩ := jC S g 1000 (by omega) hC n1 (fun _ _ => rfl)
      obtain ⟨S2, e2, o2, f2⟩ := jM S1 g1 1000 (by omega) (by rw [o1 117 (by omega)]; exact hM) (by rw [o1 130 (by omega)]; exact n2) (fun i hi => by rw [o1 131 (by omega)]; exact (hrow i hi).symm)
      refine Both.act h (a := a') (S1 := S1) (Q1 := Q) (g1 := g1) (r := nI v) ?_ o1 l1 rfl (hg.lk l1) j1 f1 ⟨S2, ?_, OffR.of o2 (by decide), f2⟩
      · unfold fX8_crossings
        simp (disch := omega) only [rO, rV, rN, bind_sm, c_isOne1, z10, if_false, c_isMissing hj d1 (show d < 2 ^ 31 by omega), h0, if_true, c_sheetR hj]
        exact e1
      · have e129 : S1 129 j = nI d := by rw [o1 129 (by omega), d2]
        unfold fX9_crossings
        rw [(rM b S1 Q g1).1, m_lacks hj e129 (show d < 2 ^ 31 by omega), bind_sm, if_neg h0, if_pos (by decide), show (24 : Int32) = nI 24 from rfl, pk_mul]
        exact e2
  · refine Both.err h 1 (by decide) ?_ (fun S1 hS => ?_)
    · unfold fX8_crossings
      simp (disch := omega) only [rO, rN, bind_sm, c_isOne0 hx, if_true]
    · unfold fX9_crossings
      rw [(rM b S1 Q g).1, m_lacks0 hx, bind_sm, if_neg (by decide)]
end OX
