/-! ===== way: the class ===== -/
section OZf
variable {b : Nat} {S S' S1 S2 S3 S5 S6 : Nat → Nat → Int32} {Q Q' Q1 Q2 : Nat → Nat → Nat} {g g' g1 g2 h : Hp} {f k j p q n u c c0 c1 lo hi i e m d bk L : Nat} {x y z v r : Int32} {w : Wo} {T : Tx} {K K2 : Nat → Nat} {a a' : Fs} {s s' s0 : Nat → Int32} {t : Dt} {l : List Nat}

abbrev Wy : Type := Option (Nat × List Nat)
def updO : Wy → Wy → Wy
  | st, none => st
  | none, some q => some q
  | some s, some q => if q.1 < s.1 then some q else some s
def shO (c : Nat) (pre : List Nat) : Wy → Wy
  | none => none
  | some q => some (c + q.1, pre ++ q.2)
theorem updO_assoc (x y z : Wy) : updO (updO x y) z = updO x (updO y z) := by
  cases x with
  | none => cases y <;> cases z <;> simp [updO] <;> (try split) <;> rfl
  | some x =>
    cases y with
    | none => cases z <;> simp [updO]
    | some y =>
      cases z with
      | none => simp [updO]
      | some z =>
        simp only [updO]
        by_cases h1 : y.1 < x.1
        · by_cases h2 : z.1 < y.1
          · simp only [if_pos h1, if_pos h2, updO]
            rw [if_pos (by omega)]
          · simp only [if_pos h1, if_neg h2, updO]
        · by_cases h2 : z.1 < y.1
          · simp only [if_neg h1, if_pos h2, updO]
          · simp only [if_neg h1, if_neg h2, updO]
            rw [if_neg (by omega)]
theorem shO_upd (c : Nat) (pre : List Nat) (x y : Wy) : shO c pre (updO x y) = updO (shO c pre x) (shO c pre y) := by
  cases x with
  | none => cases y <;> rfl
  | some x =>
    cases y with
    | none => rfl
    | some y =>
      simp only [updO, shO]
      by_cases h1 : y.1 < x.1
      · rw [if_pos h1, if_pos (by omega)]
      · rw [if_neg h1, if_neg (by omega)]
theorem shO_sh (c c' : Nat) (pre pre' : List Nat) (x : Wy) : shO c pre (shO c' pre' x) = shO (c + c') (pre ++ pre') x := by
  cases x with
  | none => rfl
  | some x => simp only [shO, Nat.add_assoc, List.append_assoc]
theorem updO_none (x : Wy) : updO none x = x := by cases x <;> rfl
def accB (T : Tx) (p : Nat) (f : Nat → Wy) (w : Wo) : Nat → Wy
  | 0 => none
  | i + 1 => if metP w i p = true then updO (accB T p f w i) (shO (paysP T w i p) [i] (f i)) else accB T p f w i
def bestP (T : Tx) (p : Nat) : Nat → Wo → Wy
  | 0, _ => some (0, [])
  | n + 1, w => accB T p (fun k => bestP T p n (crossP T w k p)) w (w.1 0 2)
theorem paysP_le : paysP T w k p ≤ 99 := by
  unfold paysP fareP
  split
  · exact Nat.le_trans (Nat.min_le_left _ _) (Nat.min_le_right _ _)
  · exact Nat.zero_le _
/-- what the class has found so far -/
def WC (n : Nat) (S : Nat → Nat → Int32) : Wy → Prop
  | none => S 38 2 = nI 1000000
  | some q => S 38 2 = nI q.1 ∧ q.1 ≤ 600 ∧ q.2.length = n ∧ rowIs (S 40) 0 q.2
theorem WC.fr {st : Wy} (h : WC n S st) (e2 : S' 38 2 = S 38 2) (e40 : S' 40 = S 40) : WC n S' st := by
  cases st with
  | none => exact e2.trans h
  | some q => exact ⟨e2.trans h.1, h.2.1, h.2.2.1, by rw [e40]; exact h.2.2.2⟩
def OffY (h : Nat) (S S' : Nat → Nat → Int32) : Prop := ∀ r, r ≠ 38 → r ≠ 40 → r ≠ 41 → (r < 42 + 9 * (h + 1) ∨ 105 ≤ r) → S' r = S r
theorem getI_H2 : getI (E b S Q g) 6 (b + 38) 2 = some (S 38 2) := by simp only [rV]
theorem getR_H3 : getR (E b S Q g) 6 (b + 38) 3 = some (b + 40) := by simp only [rV]
theorem getR_H4 : getR (E b S Q g) 6 (b + 38) 4 = some (b + 41) := by simp only [rV]
theorem c_ride (hok : ∀ u, txOk (T u)) (hn6 : n ≤ 6) : ∀ (fu h coins : Nat) (pre : List Nat) (st : Wy) (w : Wo) (S : Nat → Nat → Int32) (Q : Nat → Nat → Nat) (g : Hp), fu + h = 10 → h ≤ n → pre.length = h → coins ≤ 99 * h → Winv w → w.1 0 0 + (7 - h) ≤ 10020 → Try b K T S Q g (wc h) w → WC n S st → rowIs (S 41) 0 pre → p < w.1 0 1 → ∃ S' Q' g', gX6_ride fu (E b S Q g) (b + 38) (nI p) (nI n) (nI h) (nI coins) = some (E b S' Q' g') ∧ WC n S' (updO st (shO coins pre (bestP T p (n - h) w))) ∧ (∀ i < h, S' 41 i = S 41 i) ∧ OffY h S S' ∧ OffQ h Q Q' ∧ Lkg K g g' := by
  intro fu
  induction fu with
  | zero => intro h coins pre st w S Q g h1 h2; omega
  | succ fu ih =>
    intro h coins pre st w S Q g hfu hh hpre hco hI ht hT hW hR hp
    have hp8 := hI.2.1
    have hm4 := hI.2.2.1
    obtain ⟨F, hF, hF2⟩ : ∃ F, S 38 2 = nI F ∧ F ≤ 1000000 := by
      cases st with
      | none => exact ⟨1000000, hW, Nat.le_refl _⟩
      | some q => exact ⟨q.1, hW.1, by have := hW.2.1; omega⟩
    rw [gX6_ride, bX6_ride, getI_H2, hF, bind_sm]
    by_cases hprune : coins < F
    · rw [if_pos ((nI_ltI (by omega) (by omega)).mpr hprune)]
      by_cases hend : n = h
      · -- a row is whole
        have hend2 : pre.length = n := by rw [hpre, hend]
        rw [if_pos ((nI_leI (by omega) (by omega)).mpr (by omega))]
        obtain ⟨S1, hS1⟩ : ∃ S1, S1 = up2 S 38 2 (nI coins) := ⟨_, rfl⟩
        have cp : acopy (E b S1 Q g) (b + 41) (nI 0) (b + 40) (nI 0) (nI 6) = some (E b (cpR S1 41 40 0 0 6) Q g) := E_acopy (c := 41) (c1 := 40) rfl rfl (by decide) (by decide) (by decide) (by decide)
        have eb : shO coins pre (bestP T p (n - h) w) = some (coins, pre) := by
          rw [hend, Nat.sub_self]
          show some (coins + 0, pre ++ []) = _
          rw [Nat.add_zero, List.append_nil]
        have eu : updO st (some (coins, pre)) = some (coins, pre) := by
          cases st with
          | none => rfl
          | some q =>
            have : q.1 = F := (nI_eq (by have := hW.2.1; omega) (by omega)).mp (hW.1.symm.trans hF)
            exact if_pos (by show coins < q.1; omega)
        have hN : nI n ≤ nI h := (nI_leI (by omega) (by omega)).mpr (by omega)
        refine ⟨cpR S1 41 40 0 0 6, Q, g, ?_, ?_, fun i hi => by rw [cpR_ne (by decide), hS1, up2_ne (by decide)], fun r h1 h2 h3 _ => by rw [cpR_ne h2, hS1, up2_row (by omega)], fun _ _ => rfl, Lkg.rf⟩
        · unfold fX6_ride_21
          rw [show putV (E b S Q g) 6 (b + 38) 2 (.int (nI coins)) = some (E b S1 Q g) by rw [hS1]; simp only [rV], bind_sm, getR_H4, bind_sm, getR_H3, bind_sm, show (0 : Int32) = nI 0 from rfl, show (6 : Int32) = nI 6 from rfl, cp, bind_sm]
        · rw [eb, eu]
          refine ⟨by rw [cpR_ne (by decide), hS1, up2_at, if_pos rfl], by show coins ≤ 600; omega, hend2, fun i v hv => ?_⟩
          have hi := (List.getElem?_eq_some_iff.mp hv).1
          have hi' : i < pre.length := hi
          rw [Nat.zero_add, cpR_at, if_pos (by omega), hS1, up2_ne (by decide)]
          have := hR i v hv
          rw [Nat.zero_add] at this
          rw [show 0 + (i - 0) = i by omega]
          exact this
      · have hWc := wc_isW (h := h) (by omega)
        have hWc1 := wc_isW (h := h + 1) (by omega)
        have es : n - h = (n - h - 1) + 1 := by omega
        rw [if_neg (fun q => absurd ((nI_leI (by omega) (by omega)).mp q) (by omega)), if_pos (show nI h < 6 from (nI_ltI (by omega) (by decide) : nI h < nI 6 ↔ h < 6).mpr (by omega)), getR_H0, bind_sm, c_behR (by omega), bind_sm, bind_sm, show nI h + 1 = nI (h + 1) from nI_add h 1, c_behR (by omega), bind_sm]
        have loop : ∀ (m k : Nat) (S1 : Nat → Nat → Int32) (Q1 : Nat → Nat → Nat) (g1 : Hp), k ≤ w.1 0 2 → w.1 0 2 - k < m → OffY h S S1 → OffQ h Q Q1 → Lkg K g g1 → (∀ i < h, S1 41 i = S 41 i) → WC n S1 (updO st (shO coins pre (accB T p (fun k => bestP T p (n - h - 1) (crossP T w k p)) w k))) → ∃ S' Q' g', fX6_ride_64 (gX6_ride fu) m (E b S1 Q1 g1) (b + 38) (nI p) (nI n) (nI h) (nI coins) (b + wc h) (b + wc (h + 1)) (nI k) = some (E b S' Q' g') ∧ WC n S' (updO st (shO coins pre (bestP T p (n - h) w))) ∧ (∀ i < h, S' 41 i = S 41 i) ∧ OffY h S S' ∧ OffQ h Q Q' ∧ Lkg K g g' := by
          intro m
          induction m with
          | zero => intro k _ _ _ _ h; omega
          | succ m ihm =>
            intro k S1 Q1 g1 hk hm hO hOQ hL h41 hW1
            have hT1 : Try b K T S1 Q1 g1 (wc h) w := hT.fr (fun m hm => hO _ (by unfold wc; omega) (by unfold wc; omega) (by unfold wc; omega) (by unfold wc; omega)) (hOQ _ (by unfold wc; omega)) hL
            have eq1 : nI k + 1 = nI (k + 1) := nI_add k 1
            rw [fX6_ride_64, (rW hWc b S1 Q1 g1).2.2.2.2.2.1, hT1.1.2.2.1, bind_sm]
            by_cases hle : w.1 0 2 ≤ k
            · rw [if_pos ((nI_leI (by omega) (by omega)).mpr hle)]
              have hke : k = w.1 0 2 := by omega
              refine ⟨S1, Q1, g1, rfl, ?_, h41, hO, hOQ, hL⟩
              rw [es]
              subst hke
              exact hW1
            · rw [if_neg (fun z => hle ((nI_leI (by omega) (by omega)).mp z)), c_meet hWc hT1.1 hI (by omega) hp, bind_sm]
              have ea : accB T p (fun k => bestP T p (n - h - 1) (crossP T w k p)) w (k + 1) = if metP w k p = true then updO (accB T p (fun k => bestP T p (n - h - 1) (crossP T w k p)) w k) (shO (paysP T w k p) [k] (bestP T p (n - h - 1) (crossP T w k p))) else accB T p (fun k => bestP T p (n - h - 1) (crossP T w k p)) w k := rfl
              by_cases hmt : metP w k p = true
              · rw [if_pos hmt] at ea
                rw [if_pos hmt, if_neg (by decide)]
                obtain ⟨S2, S3, Q3, g3, e2, e3, t3, o3, oq3, l3⟩ := c_next (p := p) hWc hWc1 (by unfold wc; omega) hT1 hI hok (show k < w.1 0 2 by omega) hp hmt
                have hc0 := crossP_0 (T := T) (w := w) (k := k) (p := p)
                have hpay := paysP_le (T := T) (w := w) (k := k) (p := p)
                obtain ⟨S4, hS4⟩ : ∃ S4, S4 = up2 S3 41 h (nI k) := ⟨_, rfl⟩
                have o34 : ∀ r, r ≠ 41 → S4 r = S3 r := fun r hr => by rw [hS4, up2_row (by omega)]
                have o3' : ∀ r, r < 42 → S3 r = S1 r := fun r hr => o3 r (by unfold wc; omega)
                have t4 : Try b K T S4 Q3 g3 (wc (h + 1)) (crossP T w k p) := t3.fr (fun m hm => o34 _ (by unfold wc; omega)) rfl Lkg.rf
                have w4 : WC n S4 (updO st (shO coins pre (accB T p (fun k => bestP T p (n - h - 1) (crossP T w k p)) w k))) := hW1.fr (by rw [o34 38 (by decide), o3' 38 (by omega)]) (by rw [o34 40 (by decide), o3' 40 (by omega)])
                have r4 : rowIs (S4 41) 0 (pre ++ [k]) := by
                  refine hR.snoc ?_ (fun i hi => ?_)
                  · rw [hpre, Nat.zero_add, hS4, up2_at, if_pos rfl]
                  · rw [Nat.zero_add, hS4, up2_at, if_neg (by omega), o3' 41 (by omega), h41 i (by omega)]
                obtain ⟨S5, Q5, g5, e5, w5, h5, o5, oq5, l5⟩ := ih (h + 1) (coins + paysP T w k p) (pre ++ [k]) _ (crossP T w k p) S4 Q3 g3 (by omega) (by omega) (by rw [List.length_append, hpre]; rfl) (by omega) (crossP_inv hI hp (by omega)) (by rw [hc0.2.2]; omega) t4 w4 r4 (by rw [hc0.1]; exact hp)
                rw [e2, bind_sm, e3, bind_sm]
                dsimp only
                rw [getR_H4, bind_sm, show wrI (E b S3 Q3 g3) (b + 41) (nI h) (nI k) = some (E b S4 Q3 g3) by rw [hS4]; exact E_wrI (c := 41) (n := 6) rfl (by omega) (by decide), bind_sm, nI_add, show nI h + 1 = nI (h + 1) from nI_add h 1, e5, bind_sm, eq1]
                refine ihm (k + 1) S5 Q5 g5 (by omega) (by omega) (fun r h1 h2 h3 h4 => ?_) (fun r h1 => ?_) ((hL.tr l3).tr l5) (fun i hi => ?_) ?_
                · rw [o5 r h1 h2 h3 (by omega), o34 r h3, o3 r (by unfold wc; omega), hO r h1 h2 h3 h4]
                · rw [oq5 r (by omega), oq3 r (by unfold wc; omega), hOQ r h1]
                · rw [h5 i (by omega), hS4, up2_at, if_neg (by omega), o3' 41 (by omega), h41 i hi]
                · rw [ea, shO_upd, ← updO_assoc, shO_sh]
                  rw [show n - (h + 1) = n - h - 1 by omega] at w5
                  exact w5
              · rw [if_neg hmt] at ea
                rw [if_neg hmt, if_pos (by decide), eq1]
                exact ihm (k + 1) S1 Q1 g1 (by omega) (by omega) hO hOQ hL h41 (by rw [ea]; exact hW1)
        have l0 : WC n S (updO st (shO coins pre (accB T p (fun k => bestP T p (n - h - 1) (crossP T w k p)) w 0))) := by cases st <;> exact hW
        exact loop 1000 0 S Q g (Nat.zero_le _) (by omega) (fun _ _ _ _ _ => rfl) (fun _ _ => rfl) Lkg.rf (fun _ _ => rfl) l0
    · rw [if_neg (fun q => hprune ((nI_ltI (by omega) (by omega)).mp q))]
      refine ⟨S, Q, g, rfl, ?_, fun _ _ => rfl, fun _ _ _ _ _ => rfl, fun _ _ => rfl, Lkg.rf⟩
      have : updO st (shO coins pre (bestP T p (n - h) w)) = st := by
        cases st with
        | none =>
          have : F = 1000000 := (nI_eq (by omega) (by decide)).mp (hF.symm.trans hW)
          omega
        | some q =>
          have hq : q.1 = F := (nI_eq (by have := hW.2.1; omega) (by omega)).mp (hW.1.symm.trans hF)
          cases bestP T p (n - h) w with
          | none => rfl
          | some r => exact if_neg (by show ¬ coins + r.1 < q.1; omega)
      rw [this]
      exact hW
end OZf
