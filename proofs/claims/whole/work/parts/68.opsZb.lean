/-! ===== voices: the reference ===== -/
section OZb
variable {b : Nat} {S S' S1 S2 S3 S5 S6 : Nat → Nat → Int32} {Q Q' Q1 : Nat → Nat → Nat} {g g' g1 h : Hp} {f k j p q n u c c0 c1 lo hi i e m k0 : Nat} {x y z v r : Int32} {w : Wo} {T : Tx} {K K2 : Nat → Nat} {a a' : Fs} {s s' s0 : Nat → Int32} {t : Dt} {l : List Nat} {st : List Nat × Bool}

def VM (k0 m k : Nat) (S : Nat → Nat → Int32) (st : List Nat × Bool) : Prop := S 116 21 = nI k ∧ S 117 (24 + 13 * k) = nI k0 ∧ S 117 (24 + 13 * k + 1) = nI m ∧ S 116 20 = nI st.1.length ∧ S 116 22 = (if st.2 = true then nI 1 else nI 0) ∧ rowIs (S 128) 0 st.1 ∧ st.1.length ≤ 30
def OffU (S S' : Nat → Nat → Int32) : Prop := (∀ r, r ≠ 116 → r ≠ 128 → S' r = S r) ∧ ∀ j, j ≠ 20 → j ≠ 22 → S' 116 j = S 116 j
theorem OffU.rf : OffU S S := ⟨fun _ _ _ => rfl, fun _ _ _ => rfl⟩
theorem OffU.tr (h : OffU S S1) (h' : OffU S1 S2) : OffU S S2 := ⟨fun r h1 h2 => (h'.1 r h1 h2).trans (h.1 r h1 h2), fun j h1 h2 => (h'.2 j h1 h2).trans (h.2 j h1 h2)⟩
theorem gO_M {α : Type} {B : Option α} : gO (E b S Q g) 9 (b + 116) B = B := E_gO (c := 116) rfl
theorem getI_M20 : getI (E b S Q g) 9 (b + 116) 20 = some (S 116 20) := by simp only [rM]
theorem getI_M21 : getI (E b S Q g) 9 (b + 116) 21 = some (S 116 21) := by simp only [rM]
theorem getI_M22 : getI (E b S Q g) 9 (b + 116) 22 = some (S 116 22) := by simp only [rM]
theorem m_begins (hV : VM k0 m k S st) (B : Nat) : ∃ S', fX9_begins (E b S Q g) (b + 116) (nI B) = some (E b S' Q g) ∧ VM k0 m k S' (begP st.1 B, st.2) ∧ OffU S S' := by
  obtain ⟨v3, v4, v5, v1, v2, v6, v7⟩ := hV
  obtain ⟨n, hn⟩ : ∃ n, st.1.length = n := ⟨_, rfl⟩
  rw [hn] at v1 v7
  by_cases h30 : n < 30
  · have e : begP st.1 B = st.1 ++ [B] := by unfold begP; rw [hn, if_pos h30]
    obtain ⟨S1, hS1⟩ : ∃ S1, S1 = up2 (up2 S 128 n (nI B)) 116 20 (nI (n + 1)) := ⟨_, rfl⟩
    have n3 : ∀ j, j ≠ 20 → S1 116 j = S 116 j := fun j hj => by rw [hS1, up2_at, if_neg hj, up2_ne (by decide)]
    have n117 : S1 117 = S 117 := by rw [hS1, up2_row (by omega), up2_row (by omega)]
    refine ⟨S1, ?_, ⟨by rw [n3 _ (by decide)]; exact v3, by rw [n117]; exact v4, by rw [n117]; exact v5, ?_, by rw [n3 _ (by decide)]; exact v2, ?_, begP_len (by rw [hn]; exact v7)⟩, ⟨fun r h1 h2 => by rw [hS1, up2_row (by omega), up2_row (by omega)], fun j h1 h2 => n3 j h1⟩⟩
    · unfold fX9_begins
      rw [gO_M, getI_M20, v1, bind_sm, if_neg (show ¬ (30 : Int32) ≤ nI n from fun q => absurd ((nI_leI (by decide) (by omega) : nI 30 ≤ nI n ↔ 30 ≤ n).mp q) (by omega))]
      simp (disch := omega) only [rM, bind_sm]
      rw [up2_ne (show 116 ≠ 128 by decide), v1, show (1 : Int32) = nI 1 from rfl, nI_add, ← hS1]
    · show S1 116 20 = nI (begP st.1 B).length
      rw [e, List.length_append, hn, hS1, up2_at, if_pos rfl]; rfl
    · show rowIs (S1 128) 0 (begP st.1 B)
      rw [e]
      refine v6.snoc ?_ (fun i hi => ?_)
      · rw [hn, Nat.zero_add, hS1, up2_ne (by decide), up2_at, if_pos rfl]
      · rw [hS1, up2_ne (by decide), up2_at, if_neg (by omega)]
  · have e : begP st.1 B = st.1 := by unfold begP; rw [hn, if_neg h30]
    refine ⟨S, ?_, ⟨v3, v4, v5, by show _ = nI (begP st.1 B).length; rw [e, hn]; exact v1, v2, by show rowIs _ 0 (begP st.1 B); rw [e]; exact v6, by show (begP st.1 B).length ≤ 30; rw [e, hn]; exact v7⟩, OffU.rf⟩
    unfold fX9_begins
    rw [gO_M, getI_M20, v1, bind_sm, if_pos (show (30 : Int32) ≤ nI n from (nI_leI (by decide) (by omega) : nI 30 ≤ nI n ↔ 30 ≤ n).mpr (by omega))]
def abP (kd : Nat) : Nat := if kd = 4 then 1 else if kd = 5 then 2 else 0
def htP (kd : Nat) : Nat := if kd = 0 then 0 else if kd = 4 ∨ kd = 5 then 2 else 1
theorem m_above : ∀ kd < 7, fX9_above (nI kd) = some (nI (abP kd)) := by decide +kernel
theorem abP_ht (hk : k < 7) (h0 : k ≠ 0) : htP (abP k) < htP k ∧ abP k < 7 := by
  have : k = 1 ∨ k = 2 ∨ k = 3 ∨ k = 4 ∨ k = 5 ∨ k = 6 := by omega
  rcases this with rfl | rfl | rfl | rfl | rfl | rfl <;> decide
theorem m_kindNow (hV : VM k0 m k S st) (hk : k < 4) : fX9_kindNow (E b S Q g) (b + 116) = some (nI k0) := by
  have e0 : 24 + 13 * k + 0 = 24 + 13 * k := rfl
  unfold fX9_kindNow
  rw [gO_M, getI_M21, bind_sm, hV.1, show (0 : Int32) = nI 0 from rfl, m_its (by omega), bind_sm, e0, hV.2.1]
theorem m_mNow (hV : VM k0 m k S st) (hk : k < 4) : fX9_mNow (E b S Q g) (b + 116) = some (nI m) := by
  unfold fX9_mNow
  rw [gO_M, getI_M21, bind_sm, hV.1, show (1 : Int32) = nI 1 from rfl, m_its (by omega), bind_sm, hV.2.2.1]
def rowsR (k : Nat) : Nat → Nat → Int32 → List Nat × Bool → Int32 × (List Nat × Bool)
  | 0, _, _, st => (nI 0, st)
  | n + 1, kd, x, st =>
    if kd = 0 then (x + nI k, (begP st.1 10, st.2))
    else if kd = 1 then (let q := rowsR k n 0 x (begP st.1 20, st.2); (q.1 - nI 5, q.2))
    else if kd = 4 then (let q := rowsR k n 1 x (begP st.1 50, st.2); (q.1 * nI 3, q.2))
    else if kd = 6 then (nI 3, (begP st.1 70, st.2))
    else rowsR k n (abP kd) x st
theorem kd_ne {a b : Nat} (ha : a < 7) (hb : b < 7) (h : a ≠ b) : ¬ nI a = nI b := fun q => h ((nI_eq (by omega) (by omega)).mp q)
theorem m_rows (hk : k < 4) : ∀ (n kd : Nat) (x : Int32) (st : List Nat × Bool) (S : Nat → Nat → Int32), kd < 7 → htP kd < n → VM k0 m k S st → ∃ S', gX9_rowsAs n (E b S Q g) (b + 116) (nI kd) x = some ((rowsR k n kd x st).1, E b S' Q g) ∧ VM k0 m k S' (rowsR k n kd x st).2 ∧ OffU S S' := by
  intro n
  induction n with
  | zero => intro kd _ _ _ _ h; omega
  | succ n ih =>
    intro kd x st S hkd hn hV
    rw [gX9_rowsAs, bX9_rowsAs, rowsR]
    by_cases h0 : kd = 0
    · obtain ⟨S1, e1, v1, o1⟩ := m_begins (b := b) (Q := Q) (g := g) hV 10
      refine ⟨S1, ?_, by rw [if_pos h0]; exact v1, o1⟩
      rw [if_pos (show nI kd = 0 by rw [h0]; rfl), if_pos h0, show (10 : Int32) = nI 10 from rfl, e1, bind_sm, getI_M21, bind_sm, v1.1]
    · rw [if_neg (show ¬ nI kd = 0 from kd_ne hkd (by decide) h0), if_neg h0]
      by_cases h1 : kd = 1
      · obtain ⟨S1, e1, v1, o1⟩ := m_begins (b := b) (Q := Q) (g := g) hV 20
        obtain ⟨S2, e2, v2, o2⟩ := ih 0 x _ S1 (by decide) (by subst h1; unfold htP at *; simp at *; omega) v1
        refine ⟨S2, ?_, by rw [if_pos h1]; exact v2, o1.tr o2⟩
        rw [if_pos (show nI kd = 1 by rw [h1]; rfl), if_pos h1, show (20 : Int32) = nI 20 from rfl, e1, bind_sm, show fX9_above 1 = some (nI 0) from m_above 1 (by decide), bind_sm, gO_M, e2, bind_sm]
        rfl
      · rw [if_neg (show ¬ nI kd = 1 from kd_ne hkd (by decide) h1), if_neg h1]
        by_cases h4 : kd = 4
        · obtain ⟨S1, e1, v1, o1⟩ := m_begins (b := b) (Q := Q) (g := g) hV 50
          obtain ⟨S2, e2, v2, o2⟩ := ih 1 x _ S1 (by decide) (by subst h4; unfold htP at *; simp at *; omega) v1
          refine ⟨S2, ?_, by rw [if_pos h4]; exact v2, o1.tr o2⟩
          rw [if_pos (show nI kd = 4 by rw [h4]; rfl), if_pos h4, show (50 : Int32) = nI 50 from rfl, e1, bind_sm, show fX9_above 4 = some (nI 1) from m_above 4 (by decide), bind_sm, gO_M, e2, bind_sm]
          rfl
        · rw [if_neg (show ¬ nI kd = 4 from kd_ne hkd (by decide) h4), if_neg h4]
          by_cases h6 : kd = 6
          · obtain ⟨S1, e1, v1, o1⟩ := m_begins (b := b) (Q := Q) (g := g) hV 70
            refine ⟨S1, ?_, by rw [if_pos h6]; exact v1, o1⟩
            rw [if_pos (show nI kd = 6 by rw [h6]; rfl), if_pos h6, show (70 : Int32) = nI 70 from rfl, e1, bind_sm]
            rfl
          · rw [if_neg (show ¬ nI kd = 6 from kd_ne hkd (by decide) h6), if_neg h6]
            have hab := abP_ht hkd h0
            obtain ⟨S2, e2, v2, o2⟩ := ih (abP kd) x st S hab.2 (by omega) hV
            refine ⟨S2, ?_, v2, o2⟩
            rw [m_above kd hkd, bind_sm, gO_M, e2, bind_sm]
theorem m_rowsAs (hk : k < 4) (hkd : c < 7) (hV : VM k0 m k S st) : ∃ S', fX9_rowsAs (E b S Q g) (b + 116) (nI c) x = some ((rowsR k 8 c x st).1, E b S' Q g) ∧ VM k0 m k S' (rowsR k 8 c x st).2 ∧ OffU S S' := by
  obtain ⟨S', e, v, o⟩ := m_rows (b := b) (Q := Q) (g := g) hk 8 c x st S hkd (by unfold htP; split <;> (try split) <;> omega) hV
  exact ⟨S', by unfold fX9_rowsAs; rw [gO_M, e], v, o⟩
def keepsR (k0 m k : Nat) : Nat → Nat → Int32 → List Nat × Bool → Int32 × (List Nat × Bool)
  | 0, _, _, st => (nI 0, st)
  | n + 1, kd, x, st =>
    if kd = 0 then (let q := rowsR k 8 k0 x (begP st.1 11, st.2); (q.1 * nI 2, q.2))
    else if kd = 2 then (let q := keepsR k0 m k n 0 x (begP st.1 30, st.2); (nI 0 - q.1, q.2))
    else if kd = 5 then (let q := keepsR k0 m k n 2 (x + nI 1) (begP st.1 60, st.2); (q.1, q.2))
    else if kd = 6 then (let q := keepsR k0 m k n 0 x (begP st.1 71, st.2); (q.1 + nI m, q.2))
    else keepsR k0 m k n (abP kd) x st
theorem m_keepsV (hk : k < 4) (hk0 : k0 < 7) : ∀ (n kd : Nat) (x : Int32) (st : List Nat × Bool) (S : Nat → Nat → Int32), kd < 7 → htP kd < n → VM k0 m k S st → ∃ S', gX9_keepsAs n (E b S Q g) (b + 116) (nI kd) x = some ((keepsR k0 m k n kd x st).1, E b S' Q g) ∧ VM k0 m k S' (keepsR k0 m k n kd x st).2 ∧ OffU S S' := by
  intro n
  induction n with
  | zero => intro kd _ _ _ _ h; omega
  | succ n ih =>
    intro kd x st S hkd hn hV
    rw [gX9_keepsAs, bX9_keepsAs, keepsR]
    by_cases h0 : kd = 0
    · obtain ⟨S1, e1, v1, o1⟩ := m_begins (b := b) (Q := Q) (g := g) hV 11
      obtain ⟨S2, e2, v2, o2⟩ := m_rowsAs (b := b) (Q := Q) (g := g) (x := x) hk hk0 v1
      refine ⟨S2, ?_, by rw [if_pos h0]; exact v2, o1.tr o2⟩
      rw [if_pos (show nI kd = 0 by rw [h0]; rfl), if_pos h0, show (11 : Int32) = nI 11 from rfl, e1, bind_sm, m_kindNow v1 hk, bind_sm, e2, bind_sm]
      rfl
    · rw [if_neg (show ¬ nI kd = 0 from kd_ne hkd (by decide) h0), if_neg h0]
      by_cases h2 : kd = 2
      · obtain ⟨S1, e1, v1, o1⟩ := m_begins (b := b) (Q := Q) (g := g) hV 30
        obtain ⟨S2, e2, v2, o2⟩ := ih 0 x _ S1 (by decide) (by subst h2; unfold htP at *; simp at *; omega) v1
        refine ⟨S2, ?_, by rw [if_pos h2]; exact v2, o1.tr o2⟩
        rw [if_pos (show nI kd = 2 by rw [h2]; rfl), if_pos h2, show (30 : Int32) = nI 30 from rfl, e1, bind_sm, show fX9_above 2 = some (nI 0) from m_above 2 (by decide), bind_sm, gO_M, e2, bind_sm]
        rfl
      · rw [if_neg (show ¬ nI kd = 2 from kd_ne hkd (by decide) h2), if_neg h2]
        by_cases h5 : kd = 5
        · obtain ⟨S1, e1, v1, o1⟩ := m_begins (b := b) (Q := Q) (g := g) hV 60
          obtain ⟨S2, e2, v2, o2⟩ := ih 2 (x + nI 1) _ S1 (by decide) (by subst h5; unfold htP at *; simp at *; omega) v1
          refine ⟨S2, ?_, by rw [if_pos h5]; exact v2, o1.tr o2⟩
          rw [if_pos (show nI kd = 5 by rw [h5]; rfl), if_pos h5, show (60 : Int32) = nI 60 from rfl, e1, bind_sm, show fX9_above 5 = some (nI 2) from m_above 5 (by decide), bind_sm, gO_M, show (1 : Int32) = nI 1 from rfl, e2, bind_sm]
        · rw [if_neg (show ¬ nI kd = 5 from kd_ne hkd (by decide) h5), if_neg h5]
          by_cases h6 : kd = 6
          · obtain ⟨S1, e1, v1, o1⟩ := m_begins (b := b) (Q := Q) (g := g) hV 71
            obtain ⟨S2, e2, v2, o2⟩ := ih 0 x _ S1 (by decide) (by subst h6; unfold htP at *; simp at *; omega) v1
            refine ⟨S2, ?_, by rw [if_pos h6]; exact v2, o1.tr o2⟩
            rw [if_pos (show nI kd = 6 by rw [h6]; rfl), if_pos h6, show (71 : Int32) = nI 71 from rfl, e1, bind_sm, show fX9_above 6 = some (nI 0) from m_above 6 (by decide), bind_sm, gO_M, e2, bind_sm]
            dsimp only
            rw [m_mNow v2 hk, bind_sm]
          · rw [if_neg (show ¬ nI kd = 6 from kd_ne hkd (by decide) h6), if_neg h6]
            have hab := abP_ht hkd h0
            obtain ⟨S2, e2, v2, o2⟩ := ih (abP kd) x st S hab.2 (by omega) hV
            refine ⟨S2, ?_, v2, o2⟩
            rw [m_above kd hkd, bind_sm, gO_M, e2, bind_sm]
theorem m_keepsAs (hk : k < 4) (hk0 : k0 < 7) (hkd : c < 7) (hV : VM k0 m k S st) : ∃ S', fX9_keepsAs (E b S Q g) (b + 116) (nI c) x = some ((keepsR k0 m k 16 c x st).1, E b S' Q g) ∧ VM k0 m k S' (keepsR k0 m k 16 c x st).2 ∧ OffU S S' := by
  obtain ⟨S', e, v, o⟩ := m_keepsV (b := b) (Q := Q) (g := g) hk hk0 16 c x st S hkd (by unfold htP; split <;> (try split) <;> omega) hV
  exact ⟨S', by unfold fX9_keepsAs; rw [gO_M, e], v, o⟩
def asksR (k0 m k : Nat) : Nat → Nat → Int32 → List Nat × Bool → Int32 × (List Nat × Bool)
  | 0, _, _, st => (nI 0, st)
  | n + 1, kd, x, st =>
    if kd = 0 then (let q := keepsR k0 m k 16 k0 x (begP st.1 12, st.2); (q.1 - nI m, q.2))
    else if kd = 3 then (let q := asksR k0 m k n 0 (x / nI 2) (begP st.1 40, st.2); (q.1, q.2))
    else if kd = 4 then (let q := asksR k0 m k n 1 x (begP st.1 51, st.2); (q.1 ^^^ nI k, q.2))
    else asksR k0 m k n (abP kd) x st
theorem m_asksV (hk : k < 4) (hk0 : k0 < 7) : ∀ (n kd : Nat) (x : Int32) (st : List Nat × Bool) (S : Nat → Nat → Int32), kd < 7 → htP kd < n → VM k0 m k S st → ∃ S', gX9_asksAs n (E b S Q g) (b + 116) (nI kd) x = some ((asksR k0 m k n kd x st).1, E b S' Q g) ∧ VM k0 m k S' (asksR k0 m k n kd x st).2 ∧ OffU S S' := by
  intro n
  induction n with
  | zero => intro kd _ _ _ _ h; omega
  | succ n ih =>
    intro kd x st S hkd hn hV
    rw [gX9_asksAs, bX9_asksAs, asksR]
    by_cases h0 : kd = 0
    · obtain ⟨S1, e1, v1, o1⟩ := m_begins (b := b) (Q := Q) (g := g) hV 12
      obtain ⟨S2, e2, v2, o2⟩ := m_keepsAs (b := b) (Q := Q) (g := g) (x := x) hk hk0 hk0 v1
      refine ⟨S2, ?_, by rw [if_pos h0]; exact v2, o1.tr o2⟩
      rw [if_pos (show nI kd = 0 by rw [h0]; rfl), if_pos h0, show (12 : Int32) = nI 12 from rfl, e1, bind_sm, m_kindNow v1 hk, bind_sm, e2, bind_sm]
      dsimp only
      rw [m_mNow v2 hk, bind_sm]
    · rw [if_neg (show ¬ nI kd = 0 from kd_ne hkd (by decide) h0), if_neg h0]
      by_cases h3 : kd = 3
      · obtain ⟨S1, e1, v1, o1⟩ := m_begins (b := b) (Q := Q) (g := g) hV 40
        obtain ⟨S2, e2, v2, o2⟩ := ih 0 (x / nI 2) _ S1 (by decide) (by subst h3; unfold htP at *; simp at *; omega) v1
        refine ⟨S2, ?_, by rw [if_pos h3]; exact v2, o1.tr o2⟩
        rw [if_pos (show nI kd = 3 by rw [h3]; rfl), if_pos h3, show (40 : Int32) = nI 40 from rfl, e1, bind_sm, show fX9_above 3 = some (nI 0) from m_above 3 (by decide), bind_sm, show dvz x 2 = some (x / nI 2) from rfl, bind_sm, gO_M, e2, bind_sm]
      · rw [if_neg (show ¬ nI kd = 3 from kd_ne hkd (by decide) h3), if_neg h3]
        by_cases h4 : kd = 4
        · obtain ⟨S1, e1, v1, o1⟩ := m_begins (b := b) (Q := Q) (g := g) hV 51
          obtain ⟨S2, e2, v2, o2⟩ := ih 1 x _ S1 (by decide) (by subst h4; unfold htP at *; simp at *; omega) v1
          refine ⟨S2, ?_, by rw [if_pos h4]; exact v2, o1.tr o2⟩
          rw [if_pos (show nI kd = 4 by rw [h4]; rfl), if_pos h4, show (51 : Int32) = nI 51 from rfl, e1, bind_sm, show fX9_above 4 = some (nI 1) from m_above 4 (by decide), bind_sm, gO_M, e2, bind_sm]
          dsimp only
          rw [getI_M21, bind_sm, v2.1]
        · rw [if_neg (show ¬ nI kd = 4 from kd_ne hkd (by decide) h4), if_neg h4]
          have hab := abP_ht hkd h0
          obtain ⟨S2, e2, v2, o2⟩ := ih (abP kd) x st S hab.2 (by omega) hV
          refine ⟨S2, ?_, v2, o2⟩
          rw [m_above kd hkd, bind_sm, gO_M, e2, bind_sm]
theorem m_asksAs (hk : k < 4) (hk0 : k0 < 7) (hkd : c < 7) (hV : VM k0 m k S st) : ∃ S', fX9_asksAs (E b S Q g) (b + 116) (nI c) x = some ((asksR k0 m k 24 c x st).1, E b S' Q g) ∧ VM k0 m k S' (asksR k0 m k 24 c x st).2 ∧ OffU S S' := by
  obtain ⟨S', e, v, o⟩ := m_asksV (b := b) (Q := Q) (g := g) hk hk0 24 c x st S hkd (by unfold htP; split <;> (try split) <;> omega) hV
  exact ⟨S', by unfold fX9_asksAs; rw [gO_M, e], v, o⟩
def partsR (k0 m k : Nat) : Nat → Nat → Int32 → List Nat × Bool → Int32 × (List Nat × Bool)
  | 0, _, _, st => (nI 0, st)
  | n + 1, kd, x, st =>
    if kd = 0 then (if nI m - nI k = nI 0 then nI 0 else x / (nI m - nI k), (begP st.1 13, if nI m - nI k = nI 0 then true else false))
    else if kd = 1 then (let q := partsR k0 m k n 0 x (begP st.1 21, st.2); if q.2.2 = true then (nI 0, q.2) else (let r := keepsR k0 m k 16 k0 (nI 1) q.2; (q.1 + r.1, r.2)))
    else partsR k0 m k n (abP kd) x st
theorem m_partsV (hk : k < 4) (hk0 : k0 < 7) : ∀ (n kd : Nat) (x : Int32) (st : List Nat × Bool) (S : Nat → Nat → Int32), kd < 7 → htP kd < n → VM k0 m k S st → ∃ S', gX9_partsAs n (E b S Q g) (b + 116) (nI kd) x = some ((partsR k0 m k n kd x st).1, E b S' Q g) ∧ VM k0 m k S' (partsR k0 m k n kd x st).2 ∧ OffU S S' := by
  intro n
  induction n with
  | zero => intro kd _ _ _ _ h; omega
  | succ n ih =>
    intro kd x st S hkd hn hV
    rw [gX9_partsAs, bX9_partsAs, partsR]
    by_cases h0 : kd = 0
    · obtain ⟨S1, e1, v1, o1⟩ := m_begins (b := b) (Q := Q) (g := g) hV 13
      have fin : ∀ fl : Bool, ∃ S2, S2 = up2 S1 116 22 (if fl = true then nI 1 else nI 0) ∧ VM k0 m k S2 (begP st.1 13, fl) ∧ OffU S1 S2 := by
        intro fl
        obtain ⟨v3, v4, v5, v6, v7, v8, v9⟩ := v1
        refine ⟨_, rfl, ⟨by rw [up2_at, if_neg (by decide)]; exact v3, by rw [up2_row (by decide)]; exact v4, by rw [up2_row (by decide)]; exact v5, by rw [up2_at, if_neg (by decide)]; exact v6, by rw [up2_at, if_pos rfl], by rw [up2_row (by decide)]; exact v8, v9⟩, ⟨fun r h1 h2 => up2_row (by omega), fun j h1 h2 => by rw [up2_at, if_neg h2]⟩⟩
      rw [if_pos (show nI kd = 0 by rw [h0]; rfl), if_pos h0, show (13 : Int32) = nI 13 from rfl, e1, bind_sm, m_mNow v1 hk, bind_sm, getI_M21, v1.1, bind_sm]
      have put22 : ∀ z, putV (E b S1 Q g) 9 (b + 116) 22 (.int z) = some (E b (up2 S1 116 22 z) Q g) := fun z => by simp only [rM]
      by_cases hby : nI m - nI k = nI 0
      · obtain ⟨S2, hS2, v2, o2⟩ := fin true
        refine ⟨S2, ?_, by simp only [if_pos hby]; exact v2, o1.tr o2⟩
        simp only [if_pos hby]
        rw [if_pos (show nI m - nI k = 0 from hby)]
        unfold fX9_partsAs_54
        rw [show bz 1 = some (nI 1) from rfl, bind_sm, put22, bind_sm, if_pos (show nI m - nI k = 0 from hby), hS2]
        rfl
      · obtain ⟨S2, hS2, v2, o2⟩ := fin false
        refine ⟨S2, ?_, by simp only [if_neg hby]; exact v2, o1.tr o2⟩
        simp only [if_neg hby]
        rw [if_neg (show ¬ nI m - nI k = 0 from hby)]
        unfold fX9_partsAs_54
        rw [show bz 0 = some (nI 0) from rfl, bind_sm, put22, bind_sm, if_neg (show ¬ nI m - nI k = 0 from hby), hS2]
        by_cases hm1 : nI m - nI k = (-1)
        · rw [if_pos hm1, hm1, i32_divm1]
          rfl
        · rw [if_neg hm1, show dvz x (nI m - nI k) = some (x / (nI m - nI k)) from if_neg hby, bind_sm]
          rfl
    · rw [if_neg (show ¬ nI kd = 0 from kd_ne hkd (by decide) h0), if_neg h0]
      by_cases h1 : kd = 1
      · obtain ⟨S1, e1, v1, o1⟩ := m_begins (b := b) (Q := Q) (g := g) hV 21
        obtain ⟨S2, e2, v2, o2⟩ := ih 0 x _ S1 (by decide) (by subst h1; unfold htP at *; simp at *; omega) v1
        obtain ⟨q, hq⟩ : ∃ q, partsR k0 m k n 0 x (begP st.1 21, st.2) = q := ⟨_, rfl⟩
        rw [hq] at e2 v2
        rw [if_pos (show nI kd = 1 by rw [h1]; rfl), if_pos h1, show (21 : Int32) = nI 21 from rfl, e1, bind_sm, show fX9_above 1 = some (nI 0) from m_above 1 (by decide), bind_sm, gO_M, e2, bind_sm]
        dsimp only
        rw [hq, getI_M22, v2.2.2.2.2.1, bind_sm]
        by_cases hp : q.2.2 = true
        · simp only [if_pos hp]
          rw [if_neg (by decide)]
          exact ⟨S2, rfl, v2, o1.tr o2⟩
        · simp only [if_neg hp]
          rw [if_pos (by decide), m_kindNow v2 hk, bind_sm]
          obtain ⟨S3, e3, v3, o3⟩ := m_keepsAs (b := b) (Q := Q) (g := g) (x := nI 1) hk hk0 hk0 v2
          exact ⟨S3, by rw [show (1 : Int32) = nI 1 from rfl, e3, bind_sm], v3, (o1.tr o2).tr o3⟩
      · rw [if_neg (show ¬ nI kd = 1 from kd_ne hkd (by decide) h1), if_neg h1]
        have hab := abP_ht hkd h0
        obtain ⟨S2, e2, v2, o2⟩ := ih (abP kd) x st S hab.2 (by omega) hV
        refine ⟨S2, ?_, v2, o2⟩
        rw [m_above kd hkd, bind_sm, gO_M, e2, bind_sm]
theorem m_partsAs (hk : k < 4) (hk0 : k0 < 7) (hkd : c < 7) (hV : VM k0 m k S st) : ∃ S', fX9_partsAs (E b S Q g) (b + 116) (nI c) x = some ((partsR k0 m k 32 c x st).1, E b S' Q g) ∧ VM k0 m k S' (partsR k0 m k 32 c x st).2 ∧ OffU S S' := by
  obtain ⟨S', e, v, o⟩ := m_partsV (b := b) (Q := Q) (g := g) hk hk0 32 c x st S hkd (by unfold htP; split <;> (try split) <;> omega) hV
  exact ⟨S', by unfold fX9_partsAs; rw [gO_M, e], v, o⟩
end OZb
