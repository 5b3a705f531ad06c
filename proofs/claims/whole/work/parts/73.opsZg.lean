/-! ===== way: the reference ===== -/
section OZg
variable {b : Nat} {S S' S1 S2 S3 S5 S6 : Nat → Nat → Int32} {Q Q' Q1 Q2 : Nat → Nat → Nat} {g g' g1 g2 h : Hp} {f k j p q n u c c0 c1 lo hi i e m d bk L coins : Nat} {x y z v r : Int32} {w : Wo} {T : Tx} {K K2 : Nat → Nat} {a a' : Fs} {s s' s0 : Nat → Int32} {t : Dt} {l pre : List Nat} {st : Wy}

def WM (n : Nat) (S : Nat → Nat → Int32) : Wy → Prop
  | none => S 116 16 = -nI 1
  | some q => S 116 16 = nI q.1 ∧ q.1 ≤ 600 ∧ q.2.length = n ∧ rowIs (S 127) 0 q.2
theorem WM.fr {st : Wy} (h : WM n S st) (e2 : S' 116 16 = S 116 16) (e40 : S' 127 = S 127) : WM n S' st := by
  cases st with
  | none => exact e2.trans h
  | some q => exact ⟨e2.trans h.1, h.2.1, h.2.2.1, by rw [e40]; exact h.2.2.2⟩
def OffF (S S' : Nat → Nat → Int32) : Prop := (∀ r, r ∉ [116, 117, 120, 123, 124, 126, 127] → S' r = S r) ∧ ∀ j, j ≠ 16 → S' 116 j = S 116 j
theorem OffF.rf : OffF S S := ⟨fun _ _ => rfl, fun _ _ => rfl⟩
theorem OffF.tr (h : OffF S S1) (h' : OffF S1 S2) : OffF S S2 := ⟨fun r hr => (h'.1 r hr).trans (h.1 r hr), fun j hj => (h'.2 j hj).trans (h.2 j hj)⟩
theorem OffF.of {X : List Nat} (h : Off X S S1) (hX : ∀ r ∈ X, r ∈ [117, 120, 123, 124, 126, 127]) : OffF S S1 := ⟨fun r hr => h r (fun q => hr (List.mem_cons_of_mem _ (hX r q))), fun j _ => by rw [h 116 (fun q => absurd (hX 116 q) (by decide))]⟩
theorem getI_M16 : getI (E b S Q g) 9 (b + 116) 16 = some (S 116 16) := by simp only [rM]
theorem put16M {z : Int32} : putV (E b S Q g) 9 (b + 116) 16 (.int z) = some (E b (up2 S 116 16 z) Q g) := by simp only [rM]
theorem getR_M14 : getR (E b S Q g) 9 (b + 116) 14 = some (b + 126) := by simp only [rM]
theorem getR_M15 : getR (E b S Q g) 9 (b + 116) 15 = some (b + 127) := by simp only [rM]
theorem getR_M0 : getR (E b S Q g) 9 (b + 116) 0 = some (b + 117) := by simp only [rM]
theorem m_ferEnd (oX : Hp → Nat → Int32 → Int32 → Int32 → Int32 → Option Hp) (hn6 : n ≤ 6) (hpre : pre.length = n) (hco : coins ≤ 600) (hW : WM n S st) (hR : rowIs (S 126) 0 pre) : ∃ S', fX9_ferries_8 oX 1000 (E b S Q g) (b + 116) (nI n) (nI coins) (nI 0) = some (E b S' Q g) ∧ WM n S' (updO st (some (coins, pre))) ∧ (∀ r, r ≠ 116 → r ≠ 127 → S' r = S r) ∧ ∀ j, j ≠ 16 → S' 116 j = S 116 j := by
  by_cases hb : updO st (some (coins, pre)) = some (coins, pre) ∧ (st = none ∨ ∃ q, st = some q ∧ coins < q.1)
  · obtain ⟨eu, hbet⟩ := hb
    rw [eu]
    have loop : ∀ (m k : Nat) (S1 : Nat → Nat → Int32), k ≤ n → n - k < m → (∀ r, r ≠ 127 → S1 r = S r) → (∀ i < k, S1 127 i = S 126 i) → ∃ S', fX9_ferries_8 oX m (E b S1 Q g) (b + 116) (nI n) (nI coins) (nI k) = some (E b S' Q g) ∧ WM n S' (some (coins, pre)) ∧ (∀ r, r ≠ 116 → r ≠ 127 → S' r = S r) ∧ ∀ j, j ≠ 16 → S' 116 j = S 116 j := by
      intro m
      induction m with
      | zero => intro k _ _ h; omega
      | succ m ih =>
        intro k S1 hk hm hO h127
        have e16 : S1 116 16 = S 116 16 := by rw [hO 116 (by decide)]
        rw [fX9_ferries_8]
        by_cases hle : n ≤ k
        · rw [if_pos ((nI_leI (by omega) (by omega)).mpr hle)]
          refine ⟨up2 S1 116 16 (nI coins), ?_, ⟨by rw [up2_at, if_pos rfl], hco, hpre, fun i v hv => ?_⟩, fun r h1 h2 => by rw [up2_row (by omega), hO r h2], fun j hj => by rw [up2_at, if_neg hj, hO 116 (by decide)]⟩
          · unfold fX9_ferries_51
            rw [getI_M16, e16, bind_sm]
            rcases hbet with h0 | ⟨q, h0, hq⟩
            · rw [h0] at hW
              rw [if_pos (show S 116 16 = -1 from hW), put16M, bind_sm]
            · rw [h0] at hW
              rw [hW.1, if_neg (show ¬ nI q.1 = -1 from nI_m1 (by have := hW.2.1; omega)), bind_sm, if_neg (fun z => absurd ((nI_leI (by have := hW.2.1; omega) (by omega)).mp z) (by omega)), put16M, bind_sm]
          · have hi : i < pre.length := (List.getElem?_eq_some_iff.mp hv).1
            rw [Nat.zero_add, up2_ne (by decide), h127 i (by omega)]
            have := hR i v hv
            rw [Nat.zero_add] at this
            exact this
        · rw [if_neg (fun z => hle ((nI_leI (by omega) (by omega)).mp z)), getI_M16, e16, bind_sm]
          have e31 : fX9_ferries_31 oX (fX9_ferries_8 oX m) (E b S1 Q g) (b + 116) (nI n) (nI coins) (nI k) = fX9_ferries_8 oX m (E b (up2 S1 127 k (S 126 k)) Q g) (b + 116) (nI n) (nI coins) (nI (k + 1)) := by
            unfold fX9_ferries_31
            rw [getR_M15, bind_sm, getR_M14, bind_sm, show rdI (E b S1 Q g) (b + 126) (nI k) = some (S1 126 k) from E_rdI (c := 126) (n := 6) rfl (by omega) (by decide), bind_sm, show wrI (E b S1 Q g) (b + 127) (nI k) (S1 126 k) = some (E b (up2 S1 127 k (S1 126 k)) Q g) from E_wrI (c := 127) (n := 6) rfl (by omega) (by decide), bind_sm, hO 126 (by decide), show nI k + 1 = nI (k + 1) from nI_add k 1]
          have go := ih (k + 1) (up2 S1 127 k (S 126 k)) (by omega) (by omega) (fun r hr => by rw [up2_row (by omega), hO r hr]) (fun i hi => by
            rw [up2_at]
            by_cases hik : i = k
            · rw [if_pos hik, hik]
            · rw [if_neg hik]; exact h127 i (by omega))
          rcases hbet with h0 | ⟨q, h0, hq⟩
          · rw [h0] at hW
            rw [if_pos (show S 116 16 = -1 from hW), e31]
            exact go
          · rw [h0] at hW
            rw [hW.1, if_neg (show ¬ nI q.1 = -1 from nI_m1 (by have := hW.2.1; omega)), bind_sm, if_neg (fun z => absurd ((nI_leI (by have := hW.2.1; omega) (by omega)).mp z) (by omega)), e31]
            exact go
    exact loop 1000 0 S (Nat.zero_le _) (by omega) (fun _ _ => rfl) (fun i hi => by omega)
  · -- nothing better
    cases st with
    | none => exact absurd ⟨rfl, Or.inl rfl⟩ hb
    | some q =>
      have hq : ¬ coins < q.1 := fun z => hb ⟨if_pos z, Or.inr ⟨q, rfl, z⟩⟩
      have eu : updO (some q) (some (coins, pre)) = some q := if_neg hq
      rw [eu]
      have h600 := hW.2.1
      have e51 : fX9_ferries_51 oX (E b S Q g) (b + 116) (nI coins) = some (E b (up2 S 116 16 (nI q.1)) Q g) := by
        unfold fX9_ferries_51
        rw [getI_M16, hW.1, bind_sm, if_neg (show ¬ nI q.1 = -1 from nI_m1 (by omega)), bind_sm, if_pos ((nI_leI (by omega) (by omega)).mpr (by omega)), bind_sm, put16M, bind_sm]
      refine ⟨up2 S 116 16 (nI q.1), ?_, ⟨by rw [up2_at, if_pos rfl], h600, hW.2.2.1, by rw [up2_row (by decide)]; exact hW.2.2.2⟩, fun r h1 h2 => up2_row (by omega), fun j hj => by rw [up2_at, if_neg hj]⟩
      rw [fX9_ferries_8, e51, getI_M16, hW.1, bind_sm, if_neg (show ¬ nI q.1 = -1 from nI_m1 (by omega)), bind_sm, if_pos (show nI q.1 ≤ nI coins from (nI_leI (by omega) (by omega)).mpr (by omega))]
      split <;> rfl
theorem m_ferries (hok : ∀ u, txOk (T u)) (hn6 : n ≤ 6) : ∀ (fu i coins : Nat) (pre : List Nat) (st : Wy) (w : Wo) (S : Nat → Nat → Int32), fu + i = 10 → i ≤ n → pre.length = i → coins ≤ 99 * i → Winv w → w.1 0 0 + (7 - i) ≤ 10020 → MW T S w → WM n S st → rowIs (S 126) 0 pre → p < w.1 0 1 → ∃ S', gX9_ferries fu (E b S Q g) (b + 116) (nI p) (nI i) (nI n) (nI coins) = some (E b S' Q g) ∧ WM n S' (updO st (shO coins pre (bestP T p (n - i) w))) ∧ (∀ j < i, S' 126 j = S 126 j) ∧ S' 117 = S 117 ∧ OffF S S' ∧ ∀ j, j < 124 * i → S' 120 j = S 120 j := by
  intro fu
  induction fu with
  | zero => intro i coins pre st w S h1 h2; omega
  | succ fu ih =>
    intro i coins pre st w S hfu hi hpre hco hI ht hM hW hR hp
    have hp8 := hI.2.1
    have hm4 := hI.2.2.1
    rw [gX9_ferries, bX9_ferries]
    by_cases hend : i = n
    · rw [if_pos (by rw [hend])]
      obtain ⟨S', e1, w1, o1, k1⟩ := m_ferEnd (b := b) (Q := Q) (g := g) (coins := coins) (gX9_ferries fu) hn6 (by rw [hpre, hend]) (by omega) hW hR
      have eb : shO coins pre (bestP T p (n - i) w) = some (coins, pre) := by
        rw [hend, Nat.sub_self]
        show some (coins + 0, pre ++ []) = _
        rw [Nat.add_zero, List.append_nil]
      refine ⟨S', e1, by rw [eb]; exact w1, fun j hj => by rw [o1 126 (by decide) (by decide)], o1 117 (by decide) (by decide), ⟨fun r hr => o1 r (fun q => hr (by rw [q]; decide)) (fun q => hr (by rw [q]; decide)), k1⟩, fun j hj => by rw [o1 120 (by decide) (by decide)]⟩
    · have es : n - i = (n - i - 1) + 1 := by omega
      rw [if_neg (fun q => hend ((nI_eq (by omega) (by omega)).mp q))]
      obtain ⟨S0, f0, o0, k0⟩ := m_layDown (b := b) (S := S) (Q := Q) (g := g) (n := i) (by omega)
      have e117 : S0 117 = S 117 := o0 117 (by decide)
      rw [f0, bind_sm]
      have loop : ∀ (m k : Nat) (S1 : Nat → Nat → Int32), k ≤ w.1 0 2 → w.1 0 2 - k < m → S1 117 = S 117 → OffF S0 S1 → (∀ j, j < 124 * (i + 1) → S1 120 j = S0 120 j) → (∀ j < i, S1 126 j = S 126 j) → WM n S1 (updO st (shO coins pre (accB T p (fun k => bestP T p (n - i - 1) (crossP T w k p)) w k))) → ∃ S', fX9_ferries_90 (gX9_ferries fu) m (E b S1 Q g) (b + 116) (nI p) (nI i) (nI n) (nI coins) (nI k) = some (E b S' Q g) ∧ WM n S' (updO st (shO coins pre (bestP T p (n - i) w))) ∧ (∀ j < i, S' 126 j = S 126 j) ∧ S' 117 = S 117 ∧ OffF S0 S' ∧ ∀ j, j < 124 * (i + 1) → S' 120 j = S0 120 j := by
        intro m
        induction m with
        | zero => intro k _ _ h; omega
        | succ m ihm =>
          intro k S1 hk hm h117 hO h120 h126 hW1
          have hM1 : MW T S1 w := hM.eq h117
          have eq1 : nI k + 1 = nI (k + 1) := nI_add k 1
          rw [fX9_ferries_90, getR_M0, bind_sm, show rdI (E b S1 Q g) (b + 117) 1 = some (S1 117 1) by simp (disch := omega) only [rM, rN], bind_sm, hM1.1.2.1]
          by_cases hle : w.1 0 2 ≤ k
          · rw [if_pos ((nI_leI (by omega) (by omega)).mpr hle)]
            have hke : k = w.1 0 2 := by omega
            refine ⟨S1, rfl, ?_, h126, h117, hO, h120⟩
            rw [es]
            subst hke
            exact hW1
          · rw [if_neg (fun z => hle ((nI_leI (by omega) (by omega)).mp z)), m_together hM1.1 hI (by omega) hp, bind_sm]
            have ea : accB T p (fun k => bestP T p (n - i - 1) (crossP T w k p)) w (k + 1) = if metP w k p = true then updO (accB T p (fun k => bestP T p (n - i - 1) (crossP T w k p)) w k) (shO (paysP T w k p) [k] (bestP T p (n - i - 1) (crossP T w k p))) else accB T p (fun k => bestP T p (n - i - 1) (crossP T w k p)) w k := rfl
            by_cases hmt : metP w k p = true
            · rw [if_pos hmt] at ea
              rw [if_pos hmt, if_neg (by decide)]
              obtain ⟨S2, hS2⟩ : ∃ S2, S2 = up2 S1 126 i (nI k) := ⟨_, rfl⟩
              have o12 : ∀ r, r ≠ 126 → S2 r = S1 r := fun r hr => by rw [hS2, up2_row (by omega)]
              obtain ⟨S3, f3, o3, M3, k3⟩ := m_step (b := b) (S := S2) (Q := Q) (g := g) (k := k) (p := p) (hM1.eq (o12 117 (by decide))) hI hok (by omega) hp
              have hc0 := crossP_0 (T := T) (w := w) (k := k) (p := p)
              have hpay := paysP_le (T := T) (w := w) (k := k) (p := p)
              have w3 : WM n S3 (updO st (shO coins pre (accB T p (fun k => bestP T p (n - i - 1) (crossP T w k p)) w k))) := hW1.fr (by rw [o3 116 (by decide), o12 116 (by decide)]) (by rw [o3 127 (by decide), o12 127 (by decide)])
              have r3 : rowIs (S3 126) 0 (pre ++ [k]) := by
                refine hR.snoc ?_ (fun j hj => ?_)
                · rw [hpre, Nat.zero_add, o3 126 (by decide), hS2, up2_at, if_pos rfl]
                · rw [Nat.zero_add, o3 126 (by decide), hS2, up2_at, if_neg (by omega), h126 j (by omega)]
              obtain ⟨S4, f4, w4, h4, e4, o4, k4⟩ := ih (i + 1) (coins + paysP T w k p) (pre ++ [k]) _ (crossP T w k p) S3 (by omega) (by omega) (by rw [List.length_append, hpre]; rfl) (by omega) (crossP_inv hI hp (by omega)) (by rw [hc0.2.2]; omega) M3 w3 r3 (by rw [hc0.1]; exact hp)
              obtain ⟨S5, f5, o5, k5⟩ := m_layBack (b := b) (S := S4) (Q := Q) (g := g) (n := i) (by omega)
              have s120 : ∀ j, j < 124 * (i + 1) → S4 120 j = S0 120 j := fun j hj => by rw [k4 j hj, o3 120 (by decide), o12 120 (by decide), h120 j hj]
              have back : S5 117 = S 117 := by
                rw [← e117]
                refine lay_back (S3 := S0) (S5 := S4) (n := i) (fun j => ?_) (fun j _ hj => s120 j (by omega)) (fun j hj => by rw [e4, k3 j hj, o12 117 (by decide), h117, e117]) k5
                rw [k0 j]
                by_cases hj : 124 * i ≤ j ∧ j < 124 * i + 124
                · rw [if_pos hj, if_pos hj, e117]
                · rw [if_neg hj, if_neg hj]
              rw [getR_M14, bind_sm, show wrI (E b S1 Q g) (b + 126) (nI i) (nI k) = some (E b S2 Q g) by rw [hS2]; exact E_wrI (c := 126) (n := 6) rfl (by omega) (by decide), bind_sm, f3, bind_sm]
              dsimp only
              rw [gO_M, show nI i + 1 = nI (i + 1) from nI_add i 1, nI_add, f4, bind_sm, f5, bind_sm, eq1]
              refine ihm (k + 1) S5 (by omega) (by omega) back (((hO.tr (OffF.of (X := [126]) (S1 := S2) (fun r hr => o12 r (fun q => hr (by rw [q]; exact List.mem_cons_self))) (by decide))).tr (OffF.of o3 (by decide))).tr (o4.tr (OffF.of o5 (by decide)))) (fun j hj => by rw [o5 120 (by decide), s120 j hj]) (fun j hj => ?_) ?_
              · rw [o5 126 (by decide), h4 j (by omega), o3 126 (by decide), hS2, up2_at, if_neg (by omega), h126 j hj]
              · rw [ea, shO_upd, ← updO_assoc, shO_sh]
                rw [show n - (i + 1) = n - i - 1 by omega] at w4
                exact w4.fr (by rw [o5 116 (by decide)]) (by rw [o5 127 (by decide)])
            · rw [if_neg hmt] at ea
              rw [if_neg hmt, if_pos (by decide), eq1]
              exact ihm (k + 1) S1 (by omega) (by omega) h117 hO h120 h126 (by rw [ea]; exact hW1)
      have w0 : WM n S0 st := hW.fr (by rw [o0 116 (by decide)]) (by rw [o0 127 (by decide)])
      have l0 : WM n S0 (updO st (shO coins pre (accB T p (fun k => bestP T p (n - i - 1) (crossP T w k p)) w 0))) := by cases st <;> exact w0
      obtain ⟨S', z1, z2, z3, z4, z5, z6⟩ := loop 1000 0 S0 (Nat.zero_le _) (by omega) e117 OffF.rf (fun _ _ => rfl) (fun j hj => by rw [o0 126 (by decide)]) l0
      refine ⟨S', z1, z2, z3, z4, (OffF.of o0 (by decide)).tr z5, fun j hj => by rw [z6 j (by omega), k0 j, if_neg (by omega)]⟩
theorem bestP_lt : ∀ (n : Nat) (w : Wo), ∀ q, bestP T p n w = some q → q.1 ≤ 99 * n ∧ q.2.length = n := by
  intro n
  induction n with
  | zero => intro w q h; cases h; exact ⟨Nat.le_refl _, rfl⟩
  | succ n ih =>
    intro w q h
    have key : ∀ i q, accB T p (fun k => bestP T p n (crossP T w k p)) w i = some q → q.1 ≤ 99 * (n + 1) ∧ q.2.length = n + 1 := by
      intro i
      induction i with
      | zero => intro q h; cases h
      | succ i ihi =>
        intro q h
        rw [accB] at h
        by_cases hm : metP w i p = true
        · rw [if_pos hm] at h
          cases hc : bestP T p n (crossP T w i p) with
          | none => rw [hc] at h; exact ihi q h
          | some r =>
            have hr := ih _ r hc
            have hpay := paysP_le (T := T) (w := w) (k := i) (p := p)
            have new : (paysP T w i p + r.1, [i] ++ r.2).1 ≤ 99 * (n + 1) ∧ (paysP T w i p + r.1, [i] ++ r.2).2.length = n + 1 := ⟨by show paysP T w i p + r.1 ≤ _; omega, by show ([i] ++ r.2).length = _; rw [List.length_append, hr.2]; simp; omega⟩
            rw [hc] at h
            cases ha : accB T p (fun k => bestP T p n (crossP T w k p)) w i with
            | none =>
              rw [ha] at h
              have h' := Option.some.inj h
              rw [← h']; exact new
            | some s =>
              rw [ha] at h
              change (if paysP T w i p + r.1 < s.1 then some (paysP T w i p + r.1, [i] ++ r.2) else some s) = some q at h
              split at h
              · have h' := Option.some.inj h
                rw [← h']; exact new
              · have h' := Option.some.inj h
                rw [← h']; exact ihi s ha
        · rw [if_neg hm] at h
          exact ihi q h
    exact key _ q h
theorem c_findsWay (hC : FerC b K S Q g 4 a) (hI : Finv a) (hp : p < (fW a).1 0 1) (hn : n ≤ 6) : ∃ S' Q' g', fX6_findsWay (E b S Q g) (b + 38) (b + 12) (nI p) (nI n) = some (if bestP (fT a) p n (upW (fW a) 2 p 9999) = none then nI 0 else nI 1, E b S' Q' g') ∧ WC n S' (bestP (fT a) p n (upW (fW a) 2 p 9999)) ∧ (∀ r, r < 38 ∨ 105 ≤ r → S' r = S r) ∧ (Q' 12 = Q 12 ∧ Q' 29 = Q 29) ∧ Lkg K g g' := by
  obtain ⟨c1, ⟨c2, c3⟩, -⟩ := hC
  have i1 := hI.1
  have hp8 := i1.2.1
  obtain ⟨S1, e1, o1, p1⟩ := c_copyFrom (b := b) (S := S) (Q := Q) (g := g) w12 w42 (by decide)
  have r1 : RepW S1 42 (fW a) := RepW.copy c1 i1 p1
  obtain ⟨S2, hS2⟩ : ∃ S2, S2 = up2 S1 (42 + 2) p (nI 9999) := ⟨_, rfl⟩
  have r2 : RepW S2 42 (upW (fW a) 2 p 9999) := by rw [hS2]; exact r1.up (by omega) (fun q hq => up2_row (fun e => hq e.symm)) (fun j => up2_at)
  have i2 : Winv (upW (fW a) 2 p 9999) := i1.up (by omega) (by rw [if_neg (by decide), if_pos rfl]; exact Nat.le_refl _)
  obtain ⟨S3, hS3⟩ : ∃ S3, S3 = up2 S2 38 2 (nI 1000000) := ⟨_, rfl⟩
  have t3 : Try b K (fT a) S3 (cpQ Q 12 42) g (wc 0) (upW (fW a) 2 p 9999) := ⟨r2.fr (fun m hm => by rw [hS3, up2_row (by omega)]), by show LawQ K b g (cpQ Q 12 42 42 11) _; rw [cpQ_at (by omega) (by decide)]; exact c2, by show LawQ K b g (cpQ Q 12 42 42 12) _; rw [cpQ_at (by omega) (by decide)]; exact c3⟩
  have u1 : (upW (fW a) 2 p 9999).1 0 1 = (fW a).1 0 1 := by rw [upW_at, if_neg (by omega)]
  have u0 : (upW (fW a) 2 p 9999).1 0 0 = (fW a).1 0 0 := by rw [upW_at, if_neg (by omega)]
  obtain ⟨S4, Q4, g4, e4, w4, h4, o4, oq4, l4⟩ := c_ride (b := b) (K := K) (n := n) (p := p) hI.2.2.1 hn 10 0 0 [] none (upW (fW a) 2 p 9999) S3 (cpQ Q 12 42) g (by omega) (by omega) rfl (by omega) i2 (by rw [u0]; have := hI.2.1; omega) t3 (by show S3 38 2 = _; rw [hS3, up2_at, if_pos rfl]) (fun i v hv => by simp at hv) (by rw [u1]; exact hp)
  have ew : updO none (shO 0 [] (bestP (fT a) p (n - 0) (upW (fW a) 2 p 9999))) = bestP (fT a) p n (upW (fW a) 2 p 9999) := by
    rw [updO_none, Nat.sub_zero]
    cases bestP (fT a) p n (upW (fW a) 2 p 9999) with
    | none => rfl
    | some q => show some (0 + q.1, [] ++ q.2) = some q; rw [Nat.zero_add, List.nil_append]
  rw [ew] at w4
  refine ⟨S4, Q4, g4, ?_, w4, fun r hr => ?_, ⟨?_, ?_⟩, l4⟩
  · have r0 : rdR (E b S Q g) (b + 39) (nI 0) = some (b + 42) := c_behR (h := 0) (by omega)
    have r0' : rdR (E b S1 (cpQ Q 12 42) g) (b + 39) (nI 0) = some (b + 42) := c_behR (h := 0) (by omega)
    unfold fX6_findsWay fX6_ride
    rw [show gO (E b S Q g) 6 (b + 38) _ = _ from E_gO (c := 38) rfl, getR_H0, bind_sm, show (0 : Int32) = nI 0 from rfl, r0, bind_sm, e1, bind_sm, getR_H0, bind_sm, r0', bind_sm, (rW w42 b S1 (cpQ Q 12 42) g).2.2.2.2.2.2.2.2.2.2.1, bind_sm, show (9999 : Int32) = nI 9999 from rfl, (rW w42 b S1 (cpQ Q 12 42) g).2.2.2.2.2.2.2.2.2.2.2.2.1 p (nI 9999) (by omega), bind_sm, ← hS2, show putV (E b S2 (cpQ Q 12 42) g) 6 (b + 38) 2 (.int 1000000) = some (E b S3 (cpQ Q 12 42) g) by rw [hS3]; simp only [rV]; rfl, bind_sm, e4, bind_sm, getI_H2]
    cases hb : bestP (fT a) p n (upW (fW a) 2 p 9999) with
    | none =>
      rw [hb] at w4
      rw [show S4 38 2 = nI 1000000 from w4, bind_sm, if_pos (show (1000000 : Int32) ≤ nI 1000000 by decide), if_pos rfl]
    | some q =>
      rw [hb] at w4
      rw [w4.1, bind_sm, if_neg (show ¬ (1000000 : Int32) ≤ nI q.1 from fun z => absurd ((nI_leI (by decide) (by have := w4.2.1; omega) : nI 1000000 ≤ nI q.1 ↔ 1000000 ≤ q.1).mp z) (by have := w4.2.1; omega)), if_neg (by intro z; cases z)]
      rfl
  · rw [o4 r (by omega) (by omega) (by omega) (by omega), hS3, up2_row (by omega), hS2, up2_row (by omega), o1 r (by omega)]
  · rw [oq4 12 (by omega), cpQ_ne (c1 := 42) (by decide)]
  · rw [oq4 29 (by omega), cpQ_ne (c1 := 42) (by decide)]
end OZg
