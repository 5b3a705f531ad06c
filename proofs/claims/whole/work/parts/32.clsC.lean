/-! ===== the class: a face comes, a face is lost ===== -/
section CC
variable {b : Nat} {S : Nat → Nat → Int32} {Q : Nat → Nat → Nat} {g h : Hp} {k j p n u c : Nat} {x y z v : Int32} {w : Wo} {T : Tx} {K : Nat → Nat}
theorem c_acopyW (hc : isW c) {sp dp : Nat} (hs : sp + n ≤ 32) (hd : dp + n ≤ 32) : acopy (E b S Q g) (b + (c + 8)) (nI sp) (b + (c + 8)) (nI dp) (nI n) = some (E b (cpR S (c + 8) (c + 8) sp dp n) Q g) :=
  E_acopy (lay_W hc).2.2.2.2.2.2.2.2 (lay_W hc).2.2.2.2.2.2.2.2 hs hd (by decide) (by decide)
theorem cpR_ne {c0 c1 sp dp r : Nat} (h : r ≠ c1) : cpR S c0 c1 sp dp n r = S r := by unfold cpR; rw [if_neg h]
theorem cpR_at {c0 c1 sp dp : Nat} : cpR S c0 c1 sp dp n c1 j = if dp ≤ j ∧ j < dp + n then S c0 (sp + (j - dp)) else S c1 j := by unfold cpR; rw [if_pos rfl]; rfl
theorem c_faceComes (hc : isW c) (hR : RepW S c w) (hI : Winv w) (hk : k < w.1 0 2) (hp : p < w.1 0 1) (hq : LawQ K b g (Q c 11) (T 0)) (hok : ∀ u, txOk (T u)) : ∃ S' g', fX7_faceComes (E b S Q g) (b + c) (nI k) (nI p) = some (E b S' Q g') ∧ Lkg K g g' ∧ OffW c S S' ∧ (∀ i, S' c i = S c i) ∧ RepW S' c (setMind w k (comesP (keepsP T w k) p (w.2 k))) := by
  have hlen := hI.len k
  have hp8 : p < 8 := Nat.lt_of_lt_of_le hp hI.2.1
  have hk4 : k < 4 := Nat.lt_of_lt_of_le hk hI.2.2.1
  have hkp := keepsP_le T w k
  have hnd := hI.2.2.2.2.2.2.2.2.2 k
  obtain ⟨q1, q2, q3, q4, q5, q6⟩ := hR.2.2.2.2 k hk
  have hL7 : p ∉ w.2 k → (w.2 k).length ≤ 7 := by
    intro h
    have h9 := nodup_len 8 (p :: w.2 k) (List.nodup_cons.mpr ⟨h, hnd.1⟩) (fun q hq => by
      rcases List.mem_cons.mp hq with rfl | hq
      · exact hp8
      · exact Nat.lt_of_lt_of_le (hnd.2 q hq) hI.2.1)
    simp at h9
    omega
  -- the tail behind the copy
  have main : ∀ (A : Nat) (x4 : Int32), A ≤ 7 → (p ∈ w.2 k → A = (w.2 k).idxOf p ∧ x4 = nI A) → (p ∉ w.2 k → A = (w.2 k).length ∧ x4 = -nI 1) →
      ∃ S' g', fX7_faceComes_34 (E b S Q g) (b + c) (nI k) (nI p) (nI (8 * k)) x4 (nI A) = some (E b S' Q g') ∧ Lkg K g g' ∧ OffW c S S' ∧ (∀ i, S' c i = S c i) ∧ RepW S' c (setMind w k (comesP (keepsP T w k) p (w.2 k))) := by
    intro A x4 hA7 hin hout
    generalize hS1 : up2 (cpR S (c + 8) (c + 8) (8 * k) (8 * k + 1) A) (c + 8) (8 * k) (nI p) = S1
    have s1 : ∀ r, r ≠ c + 8 → S1 r = S r := fun r hr => by rw [← hS1, up2_row (fun q => hr q.symm), cpR_ne hr]
    have s8 : ∀ j, S1 (c + 8) j = if j = 8 * k then nI p else if 8 * k + 1 ≤ j ∧ j < 8 * k + 1 + A then S (c + 8) (8 * k + (j - (8 * k + 1))) else S (c + 8) j := fun j => by rw [← hS1, up2_at, cpR_at]
    obtain ⟨g', eK, lK⟩ := c_keeps (b := b) (S := S1) (Q := Q) (g := g) (T := T) (K := K) hc (k := k) (w := w) (by rw [s1 _ (by omega)]; exact q2) (by rw [s1 _ (by omega)]; exact q1) (by rw [s1 _ (by omega)]; exact hR.1) (by rw [s1 _ (by omega)]; exact hR.2.1) hI hk4 hq hok
    have fin : ∀ F : Nat, F ≤ 8 → F = ((w.2 k).erase p).length + 1 → ∃ S' g', fX7_faceComes_78 (E b S1 Q g) (b + c) (nI k) (nI F) = some (E b S' Q g') ∧ Lkg K g g' ∧ OffW c S S' ∧ (∀ i, S' c i = S c i) ∧ RepW S' c (setMind w k (comesP (keepsP T w k) p (w.2 k))) := by
      intro F hF8 hF
      unfold fX7_faceComes_78
      simp (disch := omega) only [rW hc, bind_sm, eK, imin_nI]
      refine ⟨_, g', rfl, lK, ?_, ?_, ?_⟩
      · intro r hr
        rw [up2_row (by omega), s1 r (by omega)]
      · intro i
        rw [up2_ne (by omega), s1 _ (by omega)]
      · refine hR.mind hI hk (fun r hr => ?_) (fun j hj => ?_) (fun j hj => ?_) ?_ ?_
        · rw [up2_row (by omega), s1 r (by omega)]
        · rw [up2_at, if_neg hj, s1 _ (by omega)]
        · rw [up2_ne (by omega), s8, if_neg (by omega), if_neg (by omega)]
        · rw [up2_at, if_pos rfl]
          unfold comesP
          rw [List.length_take, List.length_cons, hF, Nat.min_comm]
        · intro i v hv
          unfold comesP at hv
          rw [List.getElem?_take] at hv
          split at hv
          next hlt =>
            rw [up2_ne (by omega), s8]
            cases i with
            | zero =>
              simp at hv
              rw [if_pos (by omega), hv]
            | succ i =>
              simp at hv
              rw [if_neg (by omega)]
              by_cases hm : p ∈ w.2 k
              · obtain ⟨hA, -⟩ := hin hm
                rw [List.erase_eq_eraseIdx_of_idxOf (l := w.2 k) (a := p) rfl, List.getElem?_eraseIdx] at hv
                by_cases hi : i < (w.2 k).idxOf p
                · rw [if_pos hi] at hv
                  rw [if_pos (by omega), show 8 * k + (8 * k + (i + 1) - (8 * k + 1)) = 8 * k + i by omega]
                  exact q6 i v hv
                · rw [if_neg hi] at hv
                  rw [if_neg (by omega)]
                  exact q6 (i + 1) v hv
              · obtain ⟨hA, -⟩ := hout hm
                rw [List.erase_of_not_mem hm] at hv
                have := (List.getElem?_eq_some_iff.mp hv).1
                rw [if_pos (by omega), show 8 * k + (8 * k + (i + 1) - (8 * k + 1)) = 8 * k + i by omega]
                exact q6 i v hv
          next => cases hv
    unfold fX7_faceComes_34
    simp (disch := omega) only [rW hc, rN, bind_sm, nI_add, c_acopyW hc]
    rw [hS1]
    by_cases hm : p ∈ w.2 k
    · obtain ⟨hA, hx⟩ := hin hm
      have hidx := List.idxOf_lt_length_of_mem hm
      rw [hx, if_neg (fun q => absurd ((nI_ltI (by omega) (by omega)).mp q) (by omega))]
      rw [s1 _ (by omega), q5]
      exact fin _ hlen (by rw [List.length_erase_of_mem hm]; omega)
    · obtain ⟨hA, hx⟩ := hout hm
      rw [hx, if_pos nI_0m1]
      exact fin _ (by omega) (by rw [List.erase_of_not_mem hm, hA])
  unfold fX7_faceComes
  simp only [rW hc, rN, bind_sm, c_placeOf hc hR hI hk hp8, pk_mul, Nat.mul_comm k 8]
  by_cases hm : p ∈ w.2 k
  · have hidx := List.idxOf_lt_length_of_mem hm
    simp only [hm, if_true]
    rw [if_neg (fun q => absurd ((nI_ltI (by omega) (by omega)).mp q) (by omega))]
    exact main _ _ (by omega) (fun _ => ⟨rfl, rfl⟩) (fun h => absurd hm h)
  · simp only [hm, if_false]
    have := hL7 hm
    rw [if_pos nI_0m1]
    simp (disch := omega) only [rW hc, bind_sm, q5, imin_nI]
    rw [Nat.min_eq_left this]
    exact main _ _ this (fun h => absurd h hm) (fun _ => ⟨rfl, rfl⟩)
theorem c_loseFace (hc : isW c) (hR : RepW S c w) (hI : Winv w) (hk : k < w.1 0 2) (hp : p < 8) : ∃ S', fX7_loseFace (E b S Q g) (b + c) (nI k) (nI p) = some (E b S' Q g) ∧ OffW c S S' ∧ (∀ i, S' c i = S c i) ∧ RepW S' c (setMind w k ((w.2 k).erase p)) := by
  have hlen := hI.len k
  have hk4 : k < 4 := Nat.lt_of_lt_of_le hk hI.2.2.1
  obtain ⟨q1, q2, q3, q4, q5, q6⟩ := hR.2.2.2.2 k hk
  unfold fX7_loseFace
  simp only [rW hc, rN, bind_sm, c_placeOf hc hR hI hk hp, pk_mul, Nat.mul_comm k 8]
  by_cases hm : p ∈ w.2 k
  · have hidx := List.idxOf_lt_length_of_mem hm
    simp only [hm, if_true]
    rw [if_neg (fun q => absurd ((nI_ltI (by omega) (by omega)).mp q) (by omega))]
    simp (disch := omega) only [rW hc, bind_sm, q5, nI_add, nI_subI, c_acopyW hc]
    rw [cpR_ne (by omega), q5]
    simp (disch := omega) only [nI_subI]
    refine ⟨_, rfl, fun r hr => ?_, fun i => ?_, ?_⟩
    · rw [up2_row (by omega), cpR_ne (by omega)]
    · rw [up2_ne (by omega), cpR_ne (by omega)]
    · refine hR.mind hI hk (fun r hr => ?_) (fun j hj => ?_) (fun j hj => ?_) ?_ ?_
      · rw [up2_row (by omega), cpR_ne (by omega)]
      · rw [up2_at, if_neg hj, cpR_ne (by omega)]
      · rw [up2_ne (by omega), cpR_at, if_neg (by omega)]
      · rw [up2_at, if_pos rfl, List.length_erase_of_mem hm]
      · intro i v hv
        rw [List.erase_eq_eraseIdx_of_idxOf (l := w.2 k) (a := p) rfl, List.getElem?_eraseIdx] at hv
        rw [up2_ne (by omega), cpR_at]
        by_cases hi : i < (w.2 k).idxOf p
        · rw [if_pos hi] at hv
          rw [if_neg (by omega)]
          exact q6 i v hv
        · rw [if_neg hi] at hv
          have := (List.getElem?_eq_some_iff.mp hv).1
          rw [if_pos (by omega), show 8 * k + (w.2 k).idxOf p + 1 + (8 * k + i - (8 * k + (w.2 k).idxOf p)) = 8 * k + (i + 1) by omega]
          exact q6 (i + 1) v hv
  · simp only [hm, if_false]
    rw [if_pos nI_0m1, List.erase_of_not_mem hm]
    refine ⟨S, rfl, OffW.rf, fun _ => rfl, ?_⟩
    have : setMind w k (w.2 k) = w := by
      unfold setMind
      refine Prod.ext rfl (funext fun i => ?_)
      dsimp only
      split
      next e => rw [e]
      next => rfl
    rw [this]
    exact hR
end CC
/-- a kind under another one -/
def undP (a c : Nat) : Bool := a == c || c == 0 || (c == 1 && a == 4) || (c == 2 && a == 5)
theorem under_h (h h' : Hp) (x1 : Int32) : ∀ (m : Nat) (x2 x3 : Int32), fX8_isUnder_4 h m x1 x2 x3 = fX8_isUnder_4 h' m x1 x2 x3
  | 0, _, _ => rfl
  | m + 1, x2, x3 => by
    rw [fX8_isUnder_4, fX8_isUnder_4]
    simp only [under_h h h' x1 m]
theorem under_tab : ∀ a < 7, ∀ c < 7, fX8_isUnder_4 (fun _ => none, 0) 9 (nI c) (nI a) 0 = some (if undP a c then nI 1 else nI 0) := by decide +kernel
theorem under_more (h : Hp) (x1 : Int32) (r : Int32) : ∀ (m d : Nat) (x2 x3 : Int32), fX8_isUnder_4 h m x1 x2 x3 = some r → fX8_isUnder_4 h (m + d) x1 x2 x3 = some r
  | 0, _, _, _, e => by cases e
  | m + 1, d, x2, x3, e => by
    rw [show m + 1 + d = (m + d) + 1 by omega]
    rw [fX8_isUnder_4] at e ⊢
    split
    next h1 => rw [if_pos h1] at e; exact e
    next h1 =>
      rw [if_neg h1] at e
      split
      next h2 => rw [if_pos h2] at e; exact e
      next h2 =>
        rw [if_neg h2] at e
        split
        next h3 => rw [if_pos h3] at e; exact e
        next h3 =>
          rw [if_neg h3] at e
          obtain ⟨v, hv, e⟩ := bind_some e
          rw [hv, bind_sm]
          exact under_more h x1 r m d v _ e
theorem c_isUnder (h : Hp) {a c : Nat} (ha : a < 7) (hc : c < 7) : fX8_isUnder h (nI a) (nI c) = some (if undP a c then nI 1 else nI 0) := by
  unfold fX8_isUnder
  have e := under_tab a ha c hc
  rw [under_h _ h] at e
  exact under_more h _ _ 9 991 _ _ e
