/-! ===== rows: both ===== -/
section OZj
variable {b : Nat} {S S' S1 S2 S3 S5 S6 : Nat → Nat → Int32} {Q Q' Q1 Q2 : Nat → Nat → Nat} {g g' g1 g2 h : Hp} {f k j p q n u c c0 c1 lo hi i e m d bk L set gs : Nat} {x y z v r : Int32} {w to : Wo} {T : Tx} {K K2 : Nat → Nat} {a a' : Fs} {s s' s0 : Nat → Int32} {t : Dt} {l l' : List Nat} {st : Nat × Nat}

def OffG (S S' : Nat → Nat → Int32) : Prop := (∀ r, r ∉ [116, 117, 120, 123, 124] → S' r = S r) ∧ ∀ j, j ≠ 17 → j ≠ 18 → S' 116 j = S 116 j
theorem OffG.rf : OffG S S := ⟨fun _ _ => rfl, fun _ _ _ => rfl⟩
theorem OffG.tr (h : OffG S S1) (h' : OffG S1 S2) : OffG S S2 := ⟨fun r hr => (h'.1 r hr).trans (h.1 r hr), fun j hj hj2 => (h'.2 j hj hj2).trans (h.2 j hj hj2)⟩
theorem OffG.of {X : List Nat} (h : Off X S S1) (hX : ∀ r ∈ X, r ∈ [117, 120, 123, 124]) : OffG S S1 := ⟨fun r hr => h r (fun q => hr (List.mem_cons_of_mem _ (hX r q))), fun j _ _ => by rw [h 116 (fun q => absurd (hX 116 q) (by decide))]⟩
theorem getI_M17 : getI (E b S Q g) 9 (b + 116) 17 = some (S 116 17) := by simp only [rM]
theorem getI_M18 : getI (E b S Q g) 9 (b + 116) 18 = some (S 116 18) := by simp only [rM]
theorem put17M {z : Int32} : putV (E b S Q g) 9 (b + 116) 17 (.int z) = some (E b (up2 S 116 17 z) Q g) := by simp only [rM]
theorem put18M {z : Int32} : putV (E b S Q g) 9 (b + 116) 18 (.int z) = some (E b (up2 S 116 18 z) Q g) := by simp only [rM]
def CU (S : Nat → Nat → Int32) (st : Nat × Nat) : Prop := S 116 17 = nI st.1 ∧ S 116 18 = nI st.2
theorem m_fits (hok : ∀ u, txOk (T u)) (hJ : Winv to) : ∀ (fu n L set : Nat) (w : Wo) (S : Nat → Nat → Int32) (st : Nat × Nat), n < fu → n + L ≤ 7 → n ≤ 3 → Winv w → w.1 0 0 + n ≤ 10020 → MW T S w → RepM (S 119) to → CU S st → ∃ S', gX9_fits fu (E b S Q g) (b + 116) (nI n) (nI L) (nI set) = some (E b S' Q g) ∧ CU S' (resR T to n w set st) ∧ S' 117 = S 117 ∧ OffG S S' ∧ ∀ j, j < 124 * L → S' 120 j = S 120 j := by
  intro fu
  induction fu with
  | zero => intro n L set w S st h; omega
  | succ fu ih =>
    intro n L set w S st hfu hL hn3 hI ht hM hP hC
    have hp8 := hI.2.1
    have hm4 := hI.2.2.1
    rw [gX9_fits, bX9_fits]
    by_cases hn0 : n = 0
    · subst hn0
      rw [if_pos (show nI 0 = 0 from rfl), m_areAsPut hM.1 hI hP hJ, bind_sm, getI_M17, bind_sm, hC.1]
      have h25 : ∀ (x4 y2 : Int32), fX9_fits_25 (gX9_fits fu) (E b S Q g) (b + 116) (nI set) x4 (b + 116) (nI st.1) y2 = some (E b (up2 (up2 S 116 17 (nI st.1 + y2)) 116 18 (if x4 = 0 then nI st.2 ||| 0 else nI st.2 ||| nI set)) Q g) := by
        intro x4 y2
        unfold fX9_fits_25
        rw [put17M, bind_sm, getI_M18, up2_at, if_neg (by decide), hC.2, bind_sm]
        by_cases hx : x4 = 0
        · rw [if_pos hx, if_pos hx, put18M, bind_sm]
        · rw [if_neg hx, if_neg hx, put18M, bind_sm]
      have fin : ∀ (v17 v18 : Int32) (st' : Nat × Nat), v17 = nI st'.1 → v18 = nI st'.2 → CU (up2 (up2 S 116 17 v17) 116 18 v18) st' ∧ (up2 (up2 S 116 17 v17) 116 18 v18) 117 = S 117 ∧ OffG S (up2 (up2 S 116 17 v17) 116 18 v18) ∧ ∀ j, j < 124 * L → (up2 (up2 S 116 17 v17) 116 18 v18) 120 j = S 120 j := by
        intro v17 v18 st' e1 e2
        refine ⟨⟨by rw [up2_at, if_neg (by decide), up2_at, if_pos rfl, e1], by rw [up2_at, if_pos rfl, e2]⟩, by rw [up2_row (by decide), up2_row (by decide)], ⟨fun r hr => by rw [up2_row (fun q => hr (by rw [← q]; decide)), up2_row (fun q => hr (by rw [← q]; decide))], fun j h1 h2 => by rw [up2_at, if_neg h2, up2_at, if_neg h1]⟩, fun j hj => by rw [up2_row (by decide), up2_row (by decide)]⟩
      by_cases hl : likeB w to = true
      · rw [if_pos hl, if_neg (show ¬ nI 1 = 0 by decide), h25, if_neg (show ¬ nI 1 = 0 by decide)]
        refine ⟨_, rfl, ?_⟩
        rw [resR, if_pos hl]
        exact fin _ _ _ (nI_add st.1 1) (bit_or _ _)
      · rw [if_neg hl, if_pos (show nI 0 = 0 from rfl), h25, if_pos (show nI 0 = 0 from rfl)]
        refine ⟨_, rfl, ?_⟩
        rw [resR, if_neg hl]
        exact fin _ _ _ (nI_add st.1 0) (by rw [show (0 : Int32) = nI 0 from rfl, bit_or, Nat.or_zero])
    · obtain ⟨n', rfl⟩ : ∃ n', n = n' + 1 := ⟨n - 1, by omega⟩
      rw [if_neg (show ¬ nI (n' + 1) = 0 from fun q => hn0 ((nI_eq (by omega) (by decide) : nI (n' + 1) = nI 0 ↔ n' + 1 = 0).mp q))]
      obtain ⟨S0, f0, o0, k0⟩ := m_layDown (b := b) (S := S) (Q := Q) (g := g) (n := L) (by omega)
      have e117 : S0 117 = S 117 := o0 117 (by decide)
      rw [f0, bind_sm, resR]
      have sub1 : nI (n' + 1) - 1 = nI n' := nI_subI (a := n' + 1) (b := 1) (by omega)
      have loopP : ∀ (k : Nat) (cont : Hp → Nat → Int32 → Int32 → Int32 → Int32 → Option Hp) (R : (Nat → Nat → Int32) → Prop), k < w.1 0 2 → (∀ (S1 : Nat → Nat → Int32), S1 117 = S 117 → OffG S0 S1 → (∀ j, j < 124 * (L + 1) → S1 120 j = S0 120 j) → R S1 → ∃ S', cont (E b S1 Q g) (b + 116) (nI (n' + 1)) (nI L) (nI set) (nI (k + 1)) = some (E b S' Q g) ∧ CU S' (itN (fun k st => itN (fun p st => if metP w k p = true then resR T to n' (crossP T w k p) (set ||| 2 ^ p) st else st) (w.1 0 1) st) (w.1 0 2) st) ∧ S' 117 = S 117 ∧ OffG S0 S' ∧ ∀ j, j < 124 * (L + 1) → S' 120 j = S0 120 j) → ∀ (st0 : Nat × Nat), (∀ S1, CU S1 (itN (fun p st => if metP w k p = true then resR T to n' (crossP T w k p) (set ||| 2 ^ p) st else st) (w.1 0 1) st0) → R S1) → ∀ (m p : Nat) (S1 : Nat → Nat → Int32), p ≤ w.1 0 1 → w.1 0 1 - p < m → S1 117 = S 117 → OffG S0 S1 → (∀ j, j < 124 * (L + 1) → S1 120 j = S0 120 j) → CU S1 (itN (fun p st => if metP w k p = true then resR T to n' (crossP T w k p) (set ||| 2 ^ p) st else st) p st0) → ∃ S', fX9_fits_71 (gX9_fits fu) cont m (E b S1 Q g) (b + 116) (nI (n' + 1)) (nI L) (nI set) (nI k) (nI p) = some (E b S' Q g) ∧ CU S' (itN (fun k st => itN (fun p st => if metP w k p = true then resR T to n' (crossP T w k p) (set ||| 2 ^ p) st else st) (w.1 0 1) st) (w.1 0 2) st) ∧ S' 117 = S 117 ∧ OffG S0 S' ∧ ∀ j, j < 124 * (L + 1) → S' 120 j = S0 120 j := by
        intro k cont R hk hcont st0 hRst m
        induction m with
        | zero => intro p _ _ h; omega
        | succ m ihm =>
          intro p S1 hp hm h117 hO h120 hC1
          have hM1 : MW T S1 w := hM.eq h117
          have eq1 : nI p + 1 = nI (p + 1) := nI_add p 1
          rw [fX9_fits_71, getR_M0, bind_sm, show rdI (E b S1 Q g) (b + 117) 0 = some (S1 117 0) by simp (disch := omega) only [rM, rN], bind_sm, hM1.1.1]
          by_cases hle : w.1 0 1 ≤ p
          · rw [if_pos ((nI_leI (by omega) (by omega)).mpr hle), show nI k + 1 = nI (k + 1) from nI_add k 1]
            have hpe : p = w.1 0 1 := by omega
            exact hcont S1 h117 hO h120 (hRst S1 (by rw [← hpe]; exact hC1))
          · rw [if_neg (fun z => hle ((nI_leI (by omega) (by omega)).mp z)), m_together hM1.1 hI hk (by omega), bind_sm]
            have ea : itN (fun p st => if metP w k p = true then resR T to n' (crossP T w k p) (set ||| 2 ^ p) st else st) (p + 1) st0 = if metP w k p = true then resR T to n' (crossP T w k p) (set ||| 2 ^ p) (itN (fun p st => if metP w k p = true then resR T to n' (crossP T w k p) (set ||| 2 ^ p) st else st) p st0) else itN (fun p st => if metP w k p = true then resR T to n' (crossP T w k p) (set ||| 2 ^ p) st else st) p st0 := rfl
            by_cases hmt : metP w k p = true
            · rw [if_pos hmt] at ea
              rw [if_pos hmt, if_neg (by decide)]
              obtain ⟨S3, f3, o3, M3, k3⟩ := m_step (b := b) (S := S1) (Q := Q) (g := g) (k := k) (p := p) hM1 hI hok hk (by omega)
              have hc0 := crossP_0 (T := T) (w := w) (k := k) (p := p)
              have c3 : CU S3 (itN (fun p st => if metP w k p = true then resR T to n' (crossP T w k p) (set ||| 2 ^ p) st else st) p st0) := ⟨by rw [o3 116 (by decide)]; exact hC1.1, by rw [o3 116 (by decide)]; exact hC1.2⟩
              obtain ⟨S4, f4, c4, e4, o4, k4⟩ := ih n' (L + 1) (set ||| 2 ^ p) (crossP T w k p) S3 _ (by omega) (by omega) (by omega) (crossP_inv hI (by omega) (by omega)) (by rw [hc0.2.2]; omega) M3 (by rw [o3 119 (by decide), hO.1 119 (by decide), o0 119 (by decide)]; exact hP) c3
              obtain ⟨S5, f5, o5, k5⟩ := m_layBack (b := b) (S := S4) (Q := Q) (g := g) (n := L) (by omega)
              have s120 : ∀ j, j < 124 * (L + 1) → S4 120 j = S0 120 j := fun j hj => by rw [k4 j hj, o3 120 (by decide), h120 j hj]
              have back : S5 117 = S 117 := by
                rw [← e117]
                refine lay_back (S3 := S0) (S5 := S4) (n := L) (fun j => ?_) (fun j _ hj => s120 j (by omega)) (fun j hj => by rw [e4, k3 j hj, h117, e117]) k5
                rw [k0 j]
                by_cases hj : 124 * L ≤ j ∧ j < 124 * L + 124
                · rw [if_pos hj, if_pos hj, e117]
                · rw [if_neg hj, if_neg hj]
              rw [f3, bind_sm]
              dsimp only
              rw [gO_M, sub1, show nI L + 1 = nI (L + 1) from nI_add L 1, show (1 : Int32) <<< (nI p &&& 31) = nI (2 ^ p) from bit_sh p (by omega), bit_or, f4, bind_sm, f5, bind_sm, eq1]
              refine ihm (p + 1) S5 (by omega) (by omega) back (((hO.tr (OffG.of o3 (by decide))).tr o4).tr (OffG.of o5 (by decide))) (fun j hj => by rw [o5 120 (by decide), s120 j hj]) ?_
              rw [ea]
              exact ⟨by rw [o5 116 (by decide)]; exact c4.1, by rw [o5 116 (by decide)]; exact c4.2⟩
            · rw [if_neg hmt] at ea
              rw [if_neg hmt, if_pos (by decide), eq1]
              exact ihm (p + 1) S1 (by omega) (by omega) h117 hO h120 (by rw [ea]; exact hC1)
      have loopK : ∀ (m k : Nat) (S1 : Nat → Nat → Int32), k ≤ w.1 0 2 → w.1 0 2 - k < m → S1 117 = S 117 → OffG S0 S1 → (∀ j, j < 124 * (L + 1) → S1 120 j = S0 120 j) → CU S1 (itN (fun k st => itN (fun p st => if metP w k p = true then resR T to n' (crossP T w k p) (set ||| 2 ^ p) st else st) (w.1 0 1) st) k st) → ∃ S', fX9_fits_57 (gX9_fits fu) m (E b S1 Q g) (b + 116) (nI (n' + 1)) (nI L) (nI set) (nI k) = some (E b S' Q g) ∧ CU S' (itN (fun k st => itN (fun p st => if metP w k p = true then resR T to n' (crossP T w k p) (set ||| 2 ^ p) st else st) (w.1 0 1) st) (w.1 0 2) st) ∧ S' 117 = S 117 ∧ OffG S0 S' ∧ ∀ j, j < 124 * (L + 1) → S' 120 j = S0 120 j := by
        intro m
        induction m with
        | zero => intro k _ _ h; omega
        | succ m ihm =>
          intro k S1 hk hm h117 hO h120 hC1
          have hM1 : MW T S1 w := hM.eq h117
          rw [fX9_fits_57, getR_M0, bind_sm, show rdI (E b S1 Q g) (b + 117) 1 = some (S1 117 1) by simp (disch := omega) only [rM, rN], bind_sm, hM1.1.2.1]
          by_cases hle : w.1 0 2 ≤ k
          · rw [if_pos ((nI_leI (by omega) (by omega)).mpr hle)]
            have hke : k = w.1 0 2 := by omega
            exact ⟨S1, rfl, by rw [← hke]; exact hC1, h117, hO, h120⟩
          · rw [if_neg (fun z => hle ((nI_leI (by omega) (by omega)).mp z))]
            exact loopP k (fX9_fits_57 (gX9_fits fu) m) (fun S1 => CU S1 (itN (fun k st => itN (fun p st => if metP w k p = true then resR T to n' (crossP T w k p) (set ||| 2 ^ p) st else st) (w.1 0 1) st) (k + 1) st)) (by omega) (fun S1 a1 a2 a3 a4 => ihm (k + 1) S1 (by omega) (by omega) a1 a2 a3 a4) _ (fun S1 hs => hs) 1000 0 S1 (Nat.zero_le _) (by omega) h117 hO h120 hC1
      obtain ⟨S', z1, z2, z3, z4, z5⟩ := loopK 1000 0 S0 (Nat.zero_le _) (by omega) e117 OffG.rf (fun _ _ => rfl) ⟨by rw [o0 116 (by decide)]; exact hC.1, by rw [o0 116 (by decide)]; exact hC.2⟩
      exact ⟨S', z1, z2, z3, (OffG.of o0 (by decide)).tr z4, fun j hj => by rw [z5 j (by omega), k0 j, if_neg (by omega)]⟩
end OZj
