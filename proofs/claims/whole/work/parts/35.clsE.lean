/-! ===== the class: the rest of a world ===== -/
def lenW (m : Nat) : Nat := if m = 0 then 3 else if m < 3 then 8 else if m < 8 then 4 else 32
theorem isW_apart {c0 c1 : Nat} (h0 : isW c0) (h1 : isW c1) (hne : c0 ≠ c1) : c0 + 9 ≤ c1 ∨ c1 + 9 ≤ c0 := by unfold isW at h0 h1; omega
section CE
variable {b : Nat} {S : Nat → Nat → Int32} {Q : Nat → Nat → Nat} {g h : Hp} {k j p n u c c0 c1 : Nat} {x y z v : Int32} {w : Wo} {T : Tx} {K : Nat → Nat}
theorem E_acopyS {α : Type} {ci a0 a1 s0 s1 n0 n1 : Nat} {fs0 fs1 : List (Option Nat)} {F : Hp → Option α} (h0 : lay[a0]? = some (.inl (ci, fs0))) (h1 : lay[a1]? = some (.inl (ci, fs1))) (hf0 : fs0[j]? = some (some s0)) (hf1 : fs1[j]? = some (some s1)) (l0 : lay[s0]? = some (.inr (.inl n0))) (l1 : lay[s1]? = some (.inr (.inl n1))) (hn0 : n ≤ n0) (hn1 : n ≤ n1) (hs0 : n0 < 2 ^ 31) (hs1 : n1 < 2 ^ 31) :
    ((getR (E b S Q g) ci (b + a0) j).bind fun r => (getR (E b S Q g) ci (b + a1) j).bind fun r' => (acopy (E b S Q g) r (nI 0) r' (nI 0) (nI n)).bind F) = F (E b (cpR S s0 s1 0 0 n) Q g) := by
  rw [E_getR h0 hf0 (by have := lay_lt l0; omega), bind_sm, E_getR h1 hf1 (by have := lay_lt l1; omega), bind_sm, E_acopy l0 l1 (by omega) (by omega) hs0 hs1, bind_sm]
theorem c_seg {α : Type} {F : Hp → Option α} (h0 : isW c0) (h1 : isW c1) (m : Nat) (hm : 1 ≤ m ∧ m < 9) :
    ((getR (E b S Q g) 7 (b + c0) (m + 2)).bind fun r => (getR (E b S Q g) 7 (b + c1) (m + 2)).bind fun r' => (acopy (E b S Q g) r (nI 0) r' (nI 0) (nI (lenW m))).bind F) = F (E b (cpR S (c0 + m) (c1 + m) 0 0 (lenW m)) Q g) := by
  obtain ⟨a0, a1, a2, a3, a4, a5, a6, a7, a8⟩ := lay_W h0
  obtain ⟨b0, b1, b2, b3, b4, b5, b6, b7, b8⟩ := lay_W h1
  have hm' : m = 1 ∨ m = 2 ∨ m = 3 ∨ m = 4 ∨ m = 5 ∨ m = 6 ∨ m = 7 ∨ m = 8 := by omega
  rcases hm' with rfl | rfl | rfl | rfl | rfl | rfl | rfl | rfl
  · exact E_acopyS a0 b0 rfl rfl a1 b1 (by decide) (by decide) (by decide) (by decide)
  · exact E_acopyS a0 b0 rfl rfl a2 b2 (by decide) (by decide) (by decide) (by decide)
  · exact E_acopyS a0 b0 rfl rfl a3 b3 (by decide) (by decide) (by decide) (by decide)
  · exact E_acopyS a0 b0 rfl rfl a4 b4 (by decide) (by decide) (by decide) (by decide)
  · exact E_acopyS a0 b0 rfl rfl a5 b5 (by decide) (by decide) (by decide) (by decide)
  · exact E_acopyS a0 b0 rfl rfl a6 b6 (by decide) (by decide) (by decide) (by decide)
  · exact E_acopyS a0 b0 rfl rfl a7 b7 (by decide) (by decide) (by decide) (by decide)
  · exact E_acopyS a0 b0 rfl rfl a8 b8 (by decide) (by decide) (by decide) (by decide)
theorem c_fld {α : Type} {F : Hp → Option α} (h0 : isW c0) (h1 : isW c1) (hm : j < 3) :
    ((getI (E b S Q g) 7 (b + c0) j).bind fun r => (putV (E b S Q g) 7 (b + c1) j (.int r)).bind F) = F (E b (up2 S c1 j (S c0 j)) Q g) := by
  have hm' : j = 0 ∨ j = 1 ∨ j = 2 := by omega
  rcases hm' with rfl | rfl | rfl <;> simp only [rW h0, rW h1, bind_sm]
theorem c_fldQ {α : Type} {F : Hp → Option α} (h0 : isW c0) (h1 : isW c1) (hm : j = 11 ∨ j = 12) :
    ((getR (E b S Q g) 7 (b + c0) j).bind fun r => (putV (E b S Q g) 7 (b + c1) j (.ref r)).bind F) = F (E b S (up2 Q c1 j (Q c0 j)) g) := by
  obtain ⟨a0, _⟩ := lay_W h0
  obtain ⟨b0, _⟩ := lay_W h1
  rcases hm with rfl | rfl
  · rw [E_getQ a0 rfl, bind_sm, E_putQ b0 rfl, bind_sm]
  · rw [E_getQ a0 rfl, bind_sm, E_putQ b0 rfl, bind_sm]
def cpQ (Q : Nat → Nat → Nat) (c0 c1 : Nat) : Nat → Nat → Nat := up2 (up2 Q c1 11 (Q c0 11)) c1 12 (Q c0 12)
theorem cpQ_ne {r : Nat} (h : r ≠ c1) : cpQ Q c0 c1 r = Q r := by unfold cpQ; rw [up2_row (fun q => h q.symm), up2_row (fun q => h q.symm)]
theorem cpQ_at (hj : j = 11 ∨ j = 12) (hne : c0 ≠ c1) : cpQ Q c0 c1 c1 j = Q c0 j := by
  unfold cpQ
  rcases hj with rfl | rfl <;> simp [up2]
theorem c_copyFrom (h0 : isW c0) (h1 : isW c1) (hne : c0 ≠ c1) : ∃ S', fX7_copyFrom (E b S Q g) (b + c1) (b + c0) = some (E b S' (cpQ Q c0 c1) g) ∧ OffW c1 S S' ∧ ∀ m < 9, ∀ i < lenW m, S' (c1 + m) i = S (c0 + m) i := by
  have hap := isW_apart h0 h1 hne
  unfold fX7_copyFrom
  rw [E_gO (lay_W h1).1, c_fld h0 h1 (by decide), c_fld h0 h1 (by decide), c_fld h0 h1 (by decide)]
  have sg := fun (S : Nat → Nat → Int32) (F : Hp → Option Hp) m hm => c_seg (b := b) (S := S) (Q := Q) (g := g) (F := F) h0 h1 m hm
  have s1 := fun S F => sg S F 1 (by decide)
  have s2 := fun S F => sg S F 2 (by decide)
  have s3 := fun S F => sg S F 3 (by decide)
  have s4 := fun S F => sg S F 4 (by decide)
  have s5 := fun S F => sg S F 5 (by decide)
  have s6 := fun S F => sg S F 6 (by decide)
  have s7 := fun S F => sg S F 7 (by decide)
  have s8 := fun S F => sg S F 8 (by decide)
  rw [show (0 : Int32) = nI 0 from rfl, show (8 : Int32) = nI (lenW 1) from rfl, s1, show lenW 1 = lenW 2 from rfl, s2, show (4 : Int32) = nI (lenW 3) from rfl, s3, show lenW 3 = lenW 4 from rfl, s4, show lenW 4 = lenW 5 from rfl, s5, show lenW 5 = lenW 6 from rfl, s6, show lenW 6 = lenW 7 from rfl, s7, show (32 : Int32) = nI (lenW 8) from rfl, s8, c_fldQ h0 h1 (Or.inl rfl), c_fldQ h0 h1 (Or.inr rfl)]
  refine ⟨_, by rw [show up2 Q c1 11 (Q c0 11) c0 12 = Q c0 12 from up2_ne hne]; rfl, fun r hr => ?_, fun m hm i hi => ?_⟩
  · simp (disch := omega) only [cpR_ne, up2_row]
  · have hc : ∀ (S : Nat → Nat → Int32) (m n i : Nat), i < n → cpR S (c0 + m) (c1 + m) 0 0 n (c1 + m) i = S (c0 + m) i := fun S m n i hi => by
      rw [cpR_at, if_pos (by omega)]
      congr 1
      omega
    have hm' : m = 0 ∨ m = 1 ∨ m = 2 ∨ m = 3 ∨ m = 4 ∨ m = 5 ∨ m = 6 ∨ m = 7 ∨ m = 8 := by omega
    rcases hm' with rfl | rfl | rfl | rfl | rfl | rfl | rfl | rfl | rfl
    · simp (disch := omega) only [cpR_ne, Nat.add_zero]
      simp only [lenW, if_true] at hi
      have hi' : i = 0 ∨ i = 1 ∨ i = 2 := by omega
      rcases hi' with rfl | rfl | rfl <;> simp (disch := omega) only [up2_at, up2_ne, if_true, if_false] <;> simp
    · simp (disch := omega) only [cpR_ne]; refine (hc _ _ _ _ ?_).trans ?_; exact hi; simp (disch := omega) only [cpR_ne, up2_row]
    · simp (disch := omega) only [cpR_ne]; refine (hc _ _ _ _ ?_).trans ?_; exact hi; simp (disch := omega) only [cpR_ne, up2_row]
    · simp (disch := omega) only [cpR_ne]; refine (hc _ _ _ _ ?_).trans ?_; exact hi; simp (disch := omega) only [cpR_ne, up2_row]
    · simp (disch := omega) only [cpR_ne]; refine (hc _ _ _ _ ?_).trans ?_; exact hi; simp (disch := omega) only [cpR_ne, up2_row]
    · simp (disch := omega) only [cpR_ne]; refine (hc _ _ _ _ ?_).trans ?_; exact hi; simp (disch := omega) only [cpR_ne, up2_row]
    · simp (disch := omega) only [cpR_ne]; refine (hc _ _ _ _ ?_).trans ?_; exact hi; simp (disch := omega) only [cpR_ne, up2_row]
    · simp (disch := omega) only [cpR_ne]; refine (hc _ _ _ _ ?_).trans ?_; exact hi; simp (disch := omega) only [cpR_ne, up2_row]
    · refine (hc _ _ _ _ ?_).trans ?_; exact hi; simp (disch := omega) only [cpR_ne, up2_row]
theorem RepW.copy {S' : Nat → Nat → Int32} (hR : RepW S c0 w) (hI : Winv w) (h : ∀ m < 9, ∀ i < lenW m, S' (c1 + m) i = S (c0 + m) i) : RepW S' c1 w := by
  obtain ⟨r1, r2, r3, r4, r5⟩ := hR
  have i2 := hI.2.1
  have i3 := hI.2.2.1
  have e0 := h 0 (by decide)
  rw [Nat.add_zero, Nat.add_zero] at e0
  refine ⟨by rw [e0 _ (by decide)]; exact r1, by rw [e0 _ (by decide)]; exact r2, by rw [e0 _ (by decide)]; exact r3, fun p hp => ?_, fun k hk => ?_⟩
  · rw [h 1 (by decide) p (by simp [lenW]; omega), h 2 (by decide) p (by simp [lenW]; omega)]
    exact r4 p hp
  · have hl := hI.len k
    rw [h 3 (by decide) k (by simp [lenW]; omega), h 4 (by decide) k (by simp [lenW]; omega), h 5 (by decide) k (by simp [lenW]; omega), h 6 (by decide) k (by simp [lenW]; omega), h 7 (by decide) k (by simp [lenW]; omega)]
    obtain ⟨q1, q2, q3, q4, q5, q6⟩ := r5 k hk
    refine ⟨q1, q2, q3, q4, q5, fun i v hv => ?_⟩
    have := (List.getElem?_eq_some_iff.mp hv).1
    rw [h 8 (by decide) _ (by simp [lenW]; omega)]
    exact q6 i v hv
theorem c_hasPerson (hc : isW c) (hR : S c 1 = nI n) (hn : n < 2 ^ 31) [Decidable (isN x n)] : fX7_hasPerson (E b S Q g) (b + c) x = some (if isN x n then nI 1 else nI 0) := by
  unfold fX7_hasPerson
  simp only [rW hc, rN, bind_sm, hR]
  have hi := isN_iff (x := x) hn
  by_cases h1 : x < nI 0
  · rw [if_pos h1, if_neg (fun q => (hi.mp q).1 h1)]
  · rw [if_neg h1]
    by_cases h2 : nI n ≤ x
    · rw [if_pos h2, if_neg (fun q => (i32_le_iff _ _).mp h2 (hi.mp q).2)]
    · rw [if_neg h2, if_pos (hi.mpr ⟨h1, Classical.byContradiction (fun q => h2 ((i32_le_iff _ _).mpr q))⟩)]
theorem c_hasMan (hc : isW c) (hR : S c 2 = nI n) (hn : n < 2 ^ 31) [Decidable (isN x n)] : fX7_hasMan (E b S Q g) (b + c) x = some (if isN x n then nI 1 else nI 0) := by
  unfold fX7_hasMan
  simp only [rW hc, rN, bind_sm, hR]
  have hi := isN_iff (x := x) hn
  by_cases h1 : x < nI 0
  · rw [if_pos h1, if_neg (fun q => (hi.mp q).1 h1)]
  · rw [if_neg h1]
    by_cases h2 : nI n ≤ x
    · rw [if_pos h2, if_neg (fun q => (i32_le_iff _ _).mp h2 (hi.mp q).2)]
    · rw [if_neg h2, if_pos (hi.mpr ⟨h1, Classical.byContradiction (fun q => h2 ((i32_le_iff _ _).mpr q))⟩)]
/-- man and one on one bank -/
def metP (w : Wo) (k p : Nat) : Bool := decide (w.1 5 k = w.1 1 p)
theorem c_meet (hc : isW c) (hR : RepW S c w) (hI : Winv w) (hk : k < w.1 0 2) (hp : p < w.1 0 1) : fX7_meet (E b S Q g) (b + c) (nI k) (nI p) = some (if metP w k p = true then nI 1 else nI 0) := by
  have hk4 : k < 4 := Nat.lt_of_lt_of_le hk hI.2.2.1
  have hp8 : p < 8 := Nat.lt_of_lt_of_le hp hI.2.1
  have a8 := hI.2.2.2.2.2.2.2.1 k
  have a4 := hI.2.2.2.1 p
  unfold fX7_meet metP
  simp (disch := omega) only [rW hc, rN, bind_sm, (hR.2.2.2.1 p hp).1, (hR.2.2.2.2 k hk).2.2.1, nI_eq, decide_eq_true_eq]
  split <;> rfl
theorem c_face (hc : isW c) (hR : RepW S c w) (hI : Winv w) (hk : k < w.1 0 2) (hj : j < 8) : fX7_face (E b S Q g) (b + c) (nI k) (nI j) = some (match (w.2 k)[j]? with | some q => nI q | none => -nI 1) := by
  have hk4 : k < 4 := Nat.lt_of_lt_of_le hk hI.2.2.1
  have hl := hI.len k
  obtain ⟨q1, q2, q3, q4, q5, q6⟩ := hR.2.2.2.2 k hk
  unfold fX7_face
  simp (disch := omega) only [rW hc, rN, bind_sm, q5, nI_leI, pk_mul, nI_add]
  by_cases h : (w.2 k).length ≤ j
  · rw [if_pos h, List.getElem?_eq_none h]
  · rw [if_neg h, List.getElem?_eq_getElem (by omega), Nat.mul_comm]
    exact congrArg some (q6.at (by omega))
theorem c_rowOver (hc : isW c) (hR : RepW S c w) (hI : Winv w) (hk : k < w.1 0 2) : ∃ S', fX7_rowOver (E b S Q g) (b + c) (nI k) = some (E b S' Q g) ∧ OffW c S S' ∧ RepW S' c (aloneP w k) := by
  have hk4 : k < 4 := Nat.lt_of_lt_of_le hk hI.2.2.1
  have a8 := hI.2.2.2.2.2.2.2.1 k
  obtain ⟨r1, r2, r3, r4, r5⟩ := hR
  unfold fX7_rowOver
  simp (disch := omega) only [rW hc, rN, bind_sm, (r5 k hk).2.2.1, nI_subI]
  rw [up2_ne (by omega), r1]
  simp only [nI_add]
  refine ⟨_, rfl, fun r hr => by rw [up2_row (by omega), up2_row (by omega)], ?_⟩
  have e : ∀ r i, ¬ (r = 0 ∧ i = 0) → r ≠ 5 → (aloneP w k).1 r i = w.1 r i := fun r i h h2 => by simp [aloneP, h, h2]
  have e0 : (aloneP w k).1 0 0 = w.1 0 0 + 1 := by simp [aloneP]
  have e2 : ∀ i, (aloneP w k).2 i = w.2 i := fun i => rfl
  have u : ∀ r, r ≠ c → r ≠ c + 5 → ∀ z z', up2 (up2 S (c + 5) k z) c 0 z' r = S r := fun r h1 h2 z z' => by rw [up2_row (by omega), up2_row (by omega)]
  refine ⟨by rw [up2_at, if_pos rfl, e0], by rw [up2_at, if_neg (by decide), up2_ne (by omega), r2, e _ _ (by omega) (by omega)], by rw [up2_at, if_neg (by decide), up2_ne (by omega), r3, e _ _ (by omega) (by omega)], fun q hq => ?_, fun i hi => ?_⟩
  · rw [e _ _ (by omega) (by omega)] at hq
    rw [u _ (by omega) (by omega), u _ (by omega) (by omega), e _ _ (by omega) (by omega), e _ _ (by omega) (by omega)]
    exact r4 q hq
  · rw [e _ _ (by omega) (by omega)] at hi
    obtain ⟨q1, q2, q3, q4, q5, q6⟩ := r5 i hi
    rw [u (c + 3) (by omega) (by omega), u (c + 4) (by omega) (by omega), u (c + 6) (by omega) (by omega), u (c + 7) (by omega) (by omega), u (c + 8) (by omega) (by omega), e 3 _ (by omega) (by omega), e 4 _ (by omega) (by omega), e 6 _ (by omega) (by omega), e2]
    refine ⟨q1, q2, ?_, q4, q5, q6⟩
    rw [up2_ne (by omega), up2_at]
    by_cases h : i = k
    · subst h; simp [aloneP]
    · simp [aloneP, h, q3]
end CE
