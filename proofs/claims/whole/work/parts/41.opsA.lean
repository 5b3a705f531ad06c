/-! ===== acts: arguments, errors ===== -/
section OA
variable {b : Nat} {S S' S1 S2 : Nat → Nat → Int32} {Q Q' Q1 : Nat → Nat → Nat} {g g' g1 h : Hp} {f k j p n u c c0 c1 lo hi : Nat} {x y z v r : Int32} {w : Wo} {T : Tx} {K K2 : Nat → Nat} {a a' : Fs} {s s' : Nat → Int32}
theorem rO (b : Nat) (S : Nat → Nat → Int32) (Q : Nat → Nat → Nat) (g : Hp) : (∀ {α : Type} {B : Option α}, gO (E b S Q g) 8 b B = B) ∧ getR (E b S Q g) 8 b 0 = some (b + 1) ∧ getR (E b S Q g) 8 b 1 = some (b + 4) ∧ getR (E b S Q g) 8 b 2 = some (b + 21) ∧ getR (E b S Q g) 8 b 3 = some (b + 38) ∧ getR (E b S Q g) 8 b 4 = some (b + 105) ∧ getR (E b S Q g) 8 b 5 = some (b + 113) ∧ getR (E b S Q g) 8 b 6 = some (b + 115) ∧ getI (E b S Q g) 8 b 7 = some (S 0 7) ∧ (∀ x, putV (E b S Q g) 8 b 7 (.int x) = some (E b (up2 S 0 7 x) Q g)) := by
  have e : lay[0]? = some (.inl (8, [some 1, some 4, some 21, some 38, some 105, some 113, some 115, none])) := rfl
  exact ⟨fun {α} {B} => E_gO (c := 0) e, E_getR (c := 0) e rfl (by decide), E_getR (c := 0) e rfl (by decide), E_getR (c := 0) e rfl (by decide), E_getR (c := 0) e rfl (by decide), E_getR (c := 0) e rfl (by decide), E_getR (c := 0) e rfl (by decide), E_getR (c := 0) e rfl (by decide), E_getI (c := 0) e rfl, fun x => E_putI (c := 0) e rfl⟩
theorem w12 : isW 12 := by unfold isW; omega
theorem w29 : isW 29 := by unfold isW; omega
theorem z10 : (nI 1 = nI 0) = False := by rw [eq_iff_iff]; decide
theorem z01 : (nI 0 = nI 1) = False := by rw [eq_iff_iff]; decide
theorem isN_or (x : Int32) (n : Nat) : (∃ j, j < n ∧ x = nI j) ∨ ¬ isN x n := Classical.em (isN x n)
theorem notN (h : ¬ isN x n) (hn : n < 2 ^ 31) : x < nI 0 ∨ (¬ x < nI 0 ∧ nI n ≤ x ∧ ¬ x < nI n) := by
  rw [isN_iff hn] at h
  by_cases h1 : x < nI 0
  · exact Or.inl h1
  · have h2 : ¬ x < nI n := fun q => h ⟨h1, q⟩
    exact Or.inr ⟨h1, (i32_le_iff _ _).mpr h2, h2⟩
theorem m_in1 (hl : lo ≤ j) (hj : j ≤ hi) (hh : hi < 2 ^ 31) : fX9_in (nI j) (nI lo) (nI hi) = some (nI 1) := by
  rw [m_in, if_neg]
  rintro (q | q)
  · exact absurd ((nI_ltI (by omega) (by omega)).mp q) (by omega)
  · exact absurd ((nI_ltI (by omega) (by omega)).mp q) (by omega)
theorem m_in0 (hx : ¬ isN x (hi + 1)) (hh : hi + 1 < 2 ^ 31) : fX9_in x (nI 0) (nI hi) = some (nI 0) := by
  rw [m_in, if_pos]
  rw [isN_iff' hh, show nI (hi + 1) - 1 = nI hi from nI_subI (a := hi + 1) (b := 1) (by omega)] at hx
  by_cases h1 : x < nI 0
  · exact Or.inl h1
  · exact Or.inr (Classical.byContradiction (fun q => hx ⟨h1, q⟩))
theorem m_inS1 (hj : j < n) (hh : n < 2 ^ 31) : fX9_in (nI j) (nI 0) (nI n - nI 1) = some (nI 1) := by
  rw [nI_subI (by omega)]
  exact m_in1 (Nat.zero_le _) (by omega) (by omega)
theorem m_inS0 (hx : ¬ isN x n) (hh : n < 2 ^ 31) : fX9_in x (nI 0) (nI n - nI 1) = some (nI 0) := by
  rw [m_in, if_pos]
  rw [isN_iff' hh] at hx
  by_cases h1 : x < nI 0
  · exact Or.inl h1
  · exact Or.inr (Classical.byContradiction (fun q => hx ⟨h1, q⟩))
theorem m_isMan1 (hS : S 117 1 = nI n) (hn : n < 2 ^ 31) (hj : j < n) : fX9_isMan (E b S Q g) (b + 116) (nI j) = some (nI 1) := by
  rw [@m_isMan b S Q g n (nI j) hS hn (Classical.propDecidable _), if_pos ⟨j, hj, rfl⟩]
theorem m_isMan0 (hS : S 117 1 = nI n) (hn : n < 2 ^ 31) (hx : ¬ isN x n) : fX9_isMan (E b S Q g) (b + 116) x = some (nI 0) := by
  rw [@m_isMan b S Q g n x hS hn (Classical.propDecidable _), if_neg hx]
theorem m_isPerson1 (hS : S 117 0 = nI n) (hn : n < 2 ^ 31) (hj : j < n) : fX9_isPerson (E b S Q g) (b + 116) (nI j) = some (nI 1) := by
  rw [@m_isPerson b S Q g n (nI j) hS hn (Classical.propDecidable _), if_pos ⟨j, hj, rfl⟩]
theorem m_isPerson0 (hS : S 117 0 = nI n) (hn : n < 2 ^ 31) (hx : ¬ isN x n) : fX9_isPerson (E b S Q g) (b + 116) x = some (nI 0) := by
  rw [@m_isPerson b S Q g n x hS hn (Classical.propDecidable _), if_neg hx]
theorem c_hasMan1 (hc : isW c) (hS : S c 2 = nI n) (hn : n < 2 ^ 31) (hj : j < n) : fX7_hasMan (E b S Q g) (b + c) (nI j) = some (nI 1) := by
  rw [@c_hasMan b S Q g n c (nI j) hc hS hn (Classical.propDecidable _), if_pos ⟨j, hj, rfl⟩]
theorem c_hasMan0 (hc : isW c) (hS : S c 2 = nI n) (hn : n < 2 ^ 31) (hx : ¬ isN x n) : fX7_hasMan (E b S Q g) (b + c) x = some (nI 0) := by
  rw [@c_hasMan b S Q g n c x hc hS hn (Classical.propDecidable _), if_neg hx]
theorem c_hasPerson1 (hc : isW c) (hS : S c 1 = nI n) (hn : n < 2 ^ 31) (hj : j < n) : fX7_hasPerson (E b S Q g) (b + c) (nI j) = some (nI 1) := by
  rw [@c_hasPerson b S Q g n c (nI j) hc hS hn (Classical.propDecidable _), if_pos ⟨j, hj, rfl⟩]
theorem c_hasPerson0 (hc : isW c) (hS : S c 1 = nI n) (hn : n < 2 ^ 31) (hx : ¬ isN x n) : fX7_hasPerson (E b S Q g) (b + c) x = some (nI 0) := by
  rw [@c_hasPerson b S Q g n c x hc hS hn (Classical.propDecidable _), if_neg hx]
theorem c_isBank1 (hj : j < 2) : fX8_isBank (nI j) = some (nI 1) := by
  unfold fX8_isBank
  simp (disch := omega) only [rN, nI_ltI, nI_leI]
  rw [if_neg (by omega), if_neg (by omega)]
theorem c_isBank0 (hx : ¬ isN x 2) : fX8_isBank x = some (nI 0) := by
  unfold fX8_isBank
  simp only [rN]
  rcases notN hx (by decide) with h | ⟨h, h2, -⟩
  · rw [if_pos h]
  · rw [if_neg h, if_pos h2]
theorem c_isKind1 (hj : j < 7) : fX8_isKind (nI j) = some (nI 1) := by
  unfold fX8_isKind
  simp (disch := omega) only [rN, nI_ltI, nI_leI]
  rw [if_neg (by omega), if_neg (by omega)]
theorem c_isKind0 (hx : ¬ isN x 7) : fX8_isKind x = some (nI 0) := by
  unfold fX8_isKind
  simp only [rN]
  rcases notN hx (by decide) with h | ⟨h, h2, -⟩
  · rw [if_pos h]
  · rw [if_neg h, if_pos h2]
theorem c_isUse1 (hj : j < 2) : fX8_isUse (nI j) = some (nI 1) := by
  unfold fX8_isUse
  simp (disch := omega) only [rN, nI_ltI, nI_leI]
  rw [if_neg (by omega), if_neg (by omega)]
theorem c_isUse0 (hx : ¬ isN x 2) : fX8_isUse x = some (nI 0) := by
  unfold fX8_isUse
  simp only [rN]
  rcases notN hx (by decide) with h | ⟨h, h2, -⟩
  · rw [if_pos h]
  · rw [if_neg h, if_pos h2]
/-- both answer alike, and stand over one state again -/
def Both (b : Nat) (S : Nat → Nat → Int32) (Q : Nat → Nat → Nat) (g : Hp) (F G : Hp → Option (Int32 × Hp)) : Prop := ∃ r S1 Q1 g1 S2 K2, F (E b S Q g) = some (r, E b S1 Q1 g1) ∧ G (E b S1 Q1 g1) = some (r, E b S2 Q1 g1) ∧ Sim b K2 S2 Q1 g1
theorem Both.err {F G : Hp → Option (Int32 × Hp)} (h : Sim b K S Q g) (j : Nat) (hj : j < 7) (hF : F (E b S Q g) = (fX8_refuse (E b S Q g) b (nI j)).bind fun q => some (q.1, q.2)) (hG : ∀ S1 : Nat → Nat → Int32, (∀ r, r ≠ 115 → S1 r = S r) → G (E b S1 Q g) = (fX9_error (E b S1 Q g) (b + 116) (nI j)).bind fun q => some (q.1, q.2)) : Both b S Q g F G := by
  rw [c_refuse hj, bind_sm] at hF
  have h2 := hG _ (fun r hr => up2_row (f := S) (c := 115) (i := j) (v := S 115 j + nI 1) (fun q => hr q.symm))
  rw [m_error hj, bind_sm] at h2
  exact ⟨_, _, _, _, _, K, hF, h2, h.err hj⟩
theorem Both.act {F G : Hp → Option (Int32 × Hp)} (h : Sim b K S Q g) (hF : F (E b S Q g) = some (r, E b S1 Q1 g1)) (hc : OffC S S1) (hk : Lkg K g g1) (hQ : Q1 29 = Q 29) (hg : GlobK b K g1) (hI : Finv a) (h1 : FerC b K S1 Q1 g1 4 a) (hG : ∃ S2, G (E b S1 Q1 g1) = some (r, E b S2 Q1 g1) ∧ OffR S1 S2 ∧ FerM (S2 117) a) : Both b S Q g F G := by
  obtain ⟨S2, e2, o2, m2⟩ := hG
  exact ⟨r, S1, Q1, g1, S2, K, hF, e2, h.act hc o2 hk hQ hg hI h1 m2⟩
/-- nothing changes -/
theorem Both.rd {F G : Hp → Option (Int32 × Hp)} (h : Sim b K S Q g) (hF : F (E b S Q g) = some (r, E b S Q g)) (hG : G (E b S Q g) = some (r, E b S Q g)) : Both b S Q g F G := ⟨r, S, Q, g, S, K, hF, hG, h⟩
end OA
