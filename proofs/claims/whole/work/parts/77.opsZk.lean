/-! ===== rows: the class ===== -/
section OZk
variable {b : Nat} {S S' S1 S2 S3 S5 S6 : Nat → Nat → Int32} {Q Q' Q1 Q2 : Nat → Nat → Nat} {g g' g1 g2 h : Hp} {f k j p q n u c c0 c1 lo hi i e m d bk L set gs : Nat} {x y z v r : Int32} {w to : Wo} {T : Tx} {K K2 : Nat → Nat} {a a' : Fs} {s s' s0 : Nat → Int32} {t : Dt} {l l' : List Nat} {st : Nat × Nat}

def uB (w to : Wo) : Nat → Nat
  | 0 => 0
  | k + 1 => if unB w to k = true then uB w to k ||| 2 ^ k else uB w to k
theorem uB_lt (w to : Wo) : ∀ n, uB w to n < 2 ^ n
  | 0 => show 0 < 2 ^ 0 by decide
  | n + 1 => by
    have h1 := uB_lt w to n
    have h2 : 2 ^ n < 2 ^ (n + 1) := Nat.pow_lt_pow_right (by decide) (by omega)
    rw [uB]
    split
    · exact bit_or_lt (Nat.lt_trans h1 h2) h2
    · exact Nat.lt_trans h1 h2
theorem uB_256 (hn : n ≤ 4) : uB w to n < 16 := Nat.lt_of_lt_of_le (uB_lt w to n) (Nat.pow_le_pow_right (by decide) hn)
theorem uB_bit : ∀ n j, j < n → ((uB w to n).testBit j = true ↔ unB w to j = true)
  | 0, j, h => by omega
  | n + 1, j, h => by
    rw [uB]
    have hlt := uB_lt w to n
    by_cases hj : j = n
    · subst hj
      by_cases hu : unB w to j = true
      · rw [if_pos hu, Nat.testBit_or, bit_pow.mpr rfl, Bool.or_true]
        exact ⟨fun _ => hu, fun _ => rfl⟩
      · rw [if_neg hu, Nat.testBit_lt_two_pow hlt]
        exact ⟨fun q => (by cases q), fun q => absurd q hu⟩
    · by_cases hu : unB w to n = true
      · rw [if_pos hu, Nat.testBit_or]
        have : (2 ^ n).testBit j = false := by
          cases hb : (2 ^ n).testBit j
          · rfl
          · exact absurd (bit_pow.mp hb) hj
        rw [this, Bool.or_false]
        exact uB_bit n j (by omega)
      · rw [if_neg hu]; exact uB_bit n j (by omega)
theorem uB_bc : ∀ n, n ≤ 8 → bcN (uB w to n) = cntP (unB w to) n
  | 0, _ => show bcN 0 = 0 by decide
  | n + 1, hn => by
    have h1 := uB_lt w to n
    have h2 : uB w to n < 256 := Nat.lt_of_lt_of_le h1 (Nat.pow_le_pow_right (by decide) (show n ≤ 8 by omega))
    have h3 : (uB w to n).testBit n = false := Nat.testBit_lt_two_pow h1
    have ih := uB_bc n (by omega)
    rw [uB, cntP]
    by_cases hp : unB w to n = true
    · rw [if_pos hp, bc_or _ h2 n (by omega), h3, if_neg (by decide), ih, if_pos hp]
    · rw [if_neg hp, ih, if_neg hp]
theorem bc_but : ∀ a < 16, ∀ k < 4, fJ6_bitCount_0f7a4 (nI a &&& (((1 : Int32) <<< (nI k &&& 31)) ^^^ ((-1)))) = some (nI (bcN a - (if a.testBit k = true then 1 else 0))) := by decide +kernel
theorem c_isMindLike (hc : isW c) (hc' : isW c0) (hR : RepW S c w) (hI : Winv w) (hR' : RepW S c0 to) (hJ : Winv to) (hk : k < w.1 0 2) (hk' : k < to.1 0 2) : fX7_isMindLike (E b S Q g) (b + c) (nI k) (b + c0) = some (if unB w to k = true then nI 0 else nI 1) := by
  obtain ⟨-, -, -, -, p5, -⟩ := hR.2.2.2.2 k hk
  obtain ⟨-, -, -, -, t5, -⟩ := hR'.2.2.2.2 k hk'
  have l1 := hI.len k
  have l2 := hJ.len k
  have b1 := hI.lt8 k
  have b2 := hJ.lt8 k
  have hk4 : k < 4 := Nat.lt_of_lt_of_le hk hI.2.2.1
  have n9 : getR (E b S Q g) 7 (b + c) 9 = some (b + (c + 7)) := by simp only [rW hc]
  have n9' : getR (E b S Q g) 7 (b + c0) 9 = some (b + (c0 + 7)) := by simp only [rW hc']
  have q7 : rdI (E b S Q g) (b + (c + 7)) (nI k) = some (S (c + 7) k) := by simp (disch := omega) only [rW hc]
  have q7' : rdI (E b S Q g) (b + (c0 + 7)) (nI k) = some (S (c0 + 7) k) := by simp (disch := omega) only [rW hc']
  unfold fX7_isMindLike
  rw [(rW hc b S Q g).1, n9, bind_sm, q7, bind_sm, n9', bind_sm, q7', bind_sm, p5, t5]
  have unl : w.2 k ≠ to.2 k → some (0 : Int32) = some (if unB w to k = true then nI 0 else nI 1) := by
    intro h
    rw [if_pos]
    · rfl
    · unfold unB
      rw [Bool.not_eq_true', decide_eq_false_iff_not]
      exact h
  by_cases hlen : (w.2 k).length = (to.2 k).length
  · rw [if_pos (by rw [hlen])]
    have loop : ∀ (m i : Nat), i ≤ (w.2 k).length → (w.2 k).length - i < m → (w.2 k).take i = (to.2 k).take i → fX7_isMindLike_19 (E b S Q g) m (b + c) (nI k) (b + c0) (nI i) = some (if unB w to k = true then nI 0 else nI 1) := by
      intro m
      induction m with
      | zero => intro i _ h; omega
      | succ m ih =>
        intro i hi hm hta
        rw [fX7_isMindLike_19, n9, bind_sm, q7, bind_sm, p5]
        by_cases hend : (w.2 k).length ≤ i
        · rw [if_pos ((nI_leI (by omega) (by omega)).mpr hend), if_neg]
          · rfl
          · have hi' : i = (w.2 k).length := by omega
            rw [hi', List.take_length, hlen, List.take_length] at hta
            unfold unB
            rw [hta]; simp
        · have hil : i < (w.2 k).length := by omega
          have bb1 := b1 _ (List.getElem_mem hil)
          have bb2 := b2 _ (List.getElem_mem (show i < (to.2 k).length by omega))
          have f1 : fX7_face (E b S Q g) (b + c) (nI k) (nI i) = some (nI (w.2 k)[i]) := by rw [c_face hc hR hI hk (by omega), List.getElem?_eq_getElem hil]
          have f2 : fX7_face (E b S Q g) (b + c0) (nI k) (nI i) = some (nI ((to.2 k)[i]'(by omega))) := by rw [c_face hc' hR' hJ hk' (by omega), List.getElem?_eq_getElem (by omega)]
          rw [if_neg (fun z => hend ((nI_leI (by omega) (by omega)).mp z)), f1, bind_sm, f2, bind_sm, show nI i + 1 = nI (i + 1) from nI_add i 1]
          by_cases heq : (w.2 k)[i] = (to.2 k)[i]'(by omega)
          · rw [if_pos (by rw [heq])]
            exact ih (i + 1) (by omega) (by omega) (list_step hlen hil hta heq)
          · rw [if_neg (fun z => heq ((nI_eq (by omega) (by omega)).mp z))]
            exact unl (fun q => heq (by simp only [q]))
    exact loop 1000 0 (Nat.zero_le _) (by omega) rfl
  · rw [if_neg (fun z => hlen ((nI_eq (by omega) (by omega)).mp z))]
    exact unl (fun q => hlen (by rw [q]))
theorem c_unlike (hc : isW c) (hc' : isW c0) (hR : RepW S c w) (hI : Winv w) (hR' : RepW S c0 to) (hJ : Winv to) (hmen : w.1 0 2 = to.1 0 2) : fX7_bitsOfUnlikeMinds (E b S Q g) (b + c) (b + c0) = some (nI (uB w to (w.1 0 2))) := by
  have hm4 := hI.2.2.1
  have loop : ∀ (m i : Nat), i ≤ w.1 0 2 → w.1 0 2 - i < m → fX7_bitsOfUnlikeMinds_4 (E b S Q g) m (b + c) (b + c0) (nI (uB w to i)) (nI i) = some (nI (uB w to (w.1 0 2))) := by
    intro m
    induction m with
    | zero => intro i _ h; omega
    | succ m ih =>
      intro i hi hm
      have e : uB w to (i + 1) = if unB w to i = true then uB w to i ||| 2 ^ i else uB w to i := rfl
      rw [fX7_bitsOfUnlikeMinds_4, (rW hc b S Q g).2.2.2.2.2.1, hR.2.2.1, bind_sm]
      by_cases hle : w.1 0 2 ≤ i
      · rw [if_pos ((nI_leI (by omega) (by omega)).mpr hle), show i = w.1 0 2 by omega]
      · rw [if_neg (fun z => hle ((nI_leI (by omega) (by omega)).mp z)), c_isMindLike hc hc' hR hI hR' hJ (by omega) (by omega), bind_sm, show nI i + 1 = nI (i + 1) from nI_add i 1]
        by_cases hu : unB w to i = true
        · rw [if_pos hu] at e
          rw [if_pos hu, if_pos (by decide), show (1 : Int32) <<< (nI i &&& 31) = nI (2 ^ i) from bit_sh i (by omega), bit_or, ← e]
          exact ih (i + 1) (by omega) (by omega)
        · rw [if_neg hu] at e
          rw [if_neg hu, if_neg (by decide), ← e]
          exact ih (i + 1) (by omega) (by omega)
  unfold fX7_bitsOfUnlikeMinds
  rw [(rW hc b S Q g).1]
  exact loop 1000 0 (Nat.zero_le _) (by omega)
theorem c_hasGossip (hc : isW c) (hR : RepW S c w) (hI : Winv w) : ∃ gs, fX7_hasGossip (E b S Q g) (b + c) = some (nI gs) ∧ gs ≤ 1 ∧ (gs = 0 → noG w) := by
  have hm4 := hI.2.2.1
  have loop : ∀ (m i : Nat), i ≤ w.1 0 2 → w.1 0 2 - i < m → (∀ k < i, w.1 3 k ≠ 4) → ∃ gs, fX7_hasGossip_2 (E b S Q g) m (b + c) (nI i) = some (nI gs) ∧ gs ≤ 1 ∧ (gs = 0 → noG w) := by
    intro m
    induction m with
    | zero => intro i _ h; omega
    | succ m ih =>
      intro i hi hm hacc
      rw [fX7_hasGossip_2, (rW hc b S Q g).2.2.2.2.2.1, hR.2.2.1, bind_sm]
      by_cases hle : w.1 0 2 ≤ i
      · rw [if_pos ((nI_leI (by omega) (by omega)).mpr hle)]
        exact ⟨0, rfl, by omega, fun _ k hk => hacc k (by omega)⟩
      · have h6 := hI.2.2.2.2.2.1 i
        have n5 : getR (E b S Q g) 7 (b + c) 5 = some (b + (c + 3)) := by simp only [rW hc]
        have q3 : rdI (E b S Q g) (b + (c + 3)) (nI i) = some (S (c + 3) i) := by simp (disch := omega) only [rW hc]
        rw [if_neg (fun z => hle ((nI_leI (by omega) (by omega)).mp z)), n5, bind_sm, q3, bind_sm, (hR.2.2.2.2 i (by omega)).1, show (4 : Int32) = nI 4 from rfl, c_isUnder _ (by omega) (by decide), bind_sm, show nI i + 1 = nI (i + 1) from nI_add i 1]
        cases hu : undP (w.1 3 i) 4
        · rw [if_neg (show ¬ (false = true) by decide), if_pos (show nI 0 = 0 from rfl)]
          refine ih (i + 1) (by omega) (by omega) (fun k hk => ?_)
          by_cases hki : k = i
          · subst hki
            intro q
            rw [q] at hu
            exact absurd hu (by decide)
          · exact hacc k (by omega)
        · rw [if_pos rfl, if_neg (by decide)]
          exact ⟨1, rfl, Nat.le_refl _, fun q => by omega⟩
  unfold fX7_hasGossip
  rw [(rW hc b S Q g).1]
  exact loop 1000 0 (Nat.zero_le _) (by omega) (fun k hk => by omega)
def CV (gs : Nat) (S : Nat → Nat → Int32) (st : Nat × Nat) : Prop := S 38 6 = nI st.1 ∧ S 38 7 = nI st.2 ∧ S 38 5 = nI gs
theorem getI_H5 : getI (E b S Q g) 6 (b + 38) 5 = some (S 38 5) := by simp only [rV]
theorem getI_H6 : getI (E b S Q g) 6 (b + 38) 6 = some (S 38 6) := by simp only [rV]
theorem getI_H7 : getI (E b S Q g) 6 (b + 38) 7 = some (S 38 7) := by simp only [rV]
theorem put6H {z : Int32} : putV (E b S Q g) 6 (b + 38) 6 (.int z) = some (E b (up2 S 38 6 z) Q g) := by simp only [rV]
theorem put7H {z : Int32} : putV (E b S Q g) 6 (b + 38) 7 (.int z) = some (E b (up2 S 38 7 z) Q g) := by simp only [rV]
theorem like_uB (hmen : w.1 0 2 = to.1 0 2) (hm4 : w.1 0 2 ≤ 4) : likeB w to = true ↔ uB w to (w.1 0 2) = 0 := by
  unfold likeB
  rw [Bool.and_eq_true, decide_eq_true_eq, decide_eq_true_eq, cntP_zero, bit_0]
  constructor
  · rintro ⟨-, h⟩ j
    by_cases hj : j < w.1 0 2
    · cases hb : (uB w to (w.1 0 2)).testBit j
      · rfl
      · rw [uB_bit _ _ hj, h j hj] at hb; cases hb
    · exact Nat.testBit_lt_two_pow (Nat.lt_of_lt_of_le (uB_lt w to _) (Nat.pow_le_pow_right (by decide) (by omega)))
  · intro h
    refine ⟨hmen, fun i hi => ?_⟩
    cases hu : unB w to i
    · rfl
    · have := (uB_bit (w := w) (to := to) (w.1 0 2) i hi).mpr hu
      rw [h i] at this; cases this
theorem c_follow (hok : ∀ u, txOk (T u)) (hJ : Winv to) (hn3 : n ≤ 3) : ∀ (fu h set : Nat) (w : Wo) (S : Nat → Nat → Int32) (Q : Nat → Nat → Nat) (g : Hp) (st : Nat × Nat), fu + h = 8 → h ≤ n → Winv w → w.1 0 0 + (6 - h) ≤ 10020 → Try b K T S Q g (wc h) w → RepW S 12 to → w.1 0 2 = to.1 0 2 → (gs = 0 → noG w) → gs ≤ 1 → CV gs S st → ∃ S' Q' g', gX6_follow fu (E b S Q g) (b + 38) (b + 12) (nI n) (nI h) (nI set) = some (E b S' Q' g') ∧ CV gs S' (resR T to (n - h) w set st) ∧ OffH h S S' ∧ OffQ h Q Q' ∧ Lkg K g g' := by
  intro fu
  induction fu with
  | zero => intro h set w S Q g st h1 h2; omega
  | succ fu ih =>
    intro h set w S Q g st hfu hh hI ht hT hTo hmen hgs hgs1 hC
    have hp8 := hI.2.1
    have hm4 := hI.2.2.1
    have hWc := wc_isW (h := h) (by omega)
    have hu16 := uB_256 (w := w) (to := to) hm4
    rw [gX6_follow, bX6_follow, getR_H0, bind_sm, c_behR (by omega), bind_sm, c_unlike hWc w12 hT.1 hI hTo hJ hmen, bind_sm]
    by_cases hend : n = h
    · rw [if_pos ((nI_leI (by omega) (by omega)).mpr (by omega)), hend, Nat.sub_self, resR]
      unfold fX6_follow_26
      by_cases hl : likeB w to = true
      · rw [if_pos hl, if_pos (show nI (uB w to (w.1 0 2)) = 0 by rw [(like_uB hmen hm4).mp hl]; rfl), getI_H6, hC.1, bind_sm, show nI st.1 + 1 = nI (st.1 + 1) from nI_add st.1 1, put6H, bind_sm, getI_H7, bind_sm, up2_at, if_neg (by decide), hC.2.1, bit_or, put7H, bind_sm]
        refine ⟨_, Q, g, rfl, ⟨by rw [up2_at, if_neg (by decide), up2_at, if_pos rfl], by rw [up2_at, if_pos rfl], by rw [up2_at, if_neg (by decide), up2_at, if_neg (by decide)]; exact hC.2.2⟩, fun r h1 h2 => by rw [up2_row (by omega), up2_row (by omega)], fun _ _ => rfl, Lkg.rf⟩
      · rw [if_neg hl, if_neg (show ¬ nI (uB w to (w.1 0 2)) = 0 from fun q => hl ((like_uB hmen hm4).mpr ((nI_eq (by omega) (by decide) : nI (uB w to (w.1 0 2)) = nI 0 ↔ _).mp q)))]
        exact ⟨S, Q, g, rfl, hC, fun _ _ _ => rfl, fun _ _ => rfl, Lkg.rf⟩
    · obtain ⟨n', hn'⟩ : ∃ n', n - h = n' + 1 := ⟨n - h - 1, by omega⟩
      have hWc1 := wc_isW (h := h + 1) (by omega)
      have sub1 : nI n - nI h - 1 = nI n' := by
        rw [nI_subI (by omega), show (1 : Int32) = nI 1 from rfl, nI_subI (by omega)]
        congr 1
        omega
      rw [if_neg (fun q => absurd ((nI_leI (by omega) (by omega)).mp q) (by omega)), if_pos (show nI h < 3 from (nI_ltI (by omega) (by decide) : nI h < nI 3 ↔ h < 3).mpr (by omega)), bind_sm, show nI h + 1 = nI (h + 1) from nI_add h 1, c_behR (by omega), bind_sm, hn', resR]
      have loopP : ∀ (k : Nat) (cont : Hp → Nat → Nat → Int32 → Int32 → Int32 → Nat → Int32 → Nat → Int32 → Option Hp) (R : (Nat → Nat → Int32) → Prop), k < w.1 0 2 → (∀ (S1 : Nat → Nat → Int32) (Q1 : Nat → Nat → Nat) (g1 : Hp), OffH h S S1 → OffQ h Q Q1 → Lkg K g g1 → R S1 → ∃ S' Q' g', cont (E b S1 Q1 g1) (b + 38) (b + 12) (nI n) (nI h) (nI set) (b + wc h) (nI (uB w to (w.1 0 2))) (b + wc (h + 1)) (nI (k + 1)) = some (E b S' Q' g') ∧ CV gs S' (itN (fun k st => itN (fun p st => if metP w k p = true then resR T to n' (crossP T w k p) (set ||| 2 ^ p) st else st) (w.1 0 1) st) (w.1 0 2) st) ∧ OffH h S S' ∧ OffQ h Q Q' ∧ Lkg K g g') → ∀ (st0 : Nat × Nat), (∀ S1, CV gs S1 (itN (fun p st => if metP w k p = true then resR T to n' (crossP T w k p) (set ||| 2 ^ p) st else st) (w.1 0 1) st0) → R S1) → ∀ (m p : Nat) (S1 : Nat → Nat → Int32) (Q1 : Nat → Nat → Nat) (g1 : Hp), p ≤ w.1 0 1 → w.1 0 1 - p < m → OffH h S S1 → OffQ h Q Q1 → Lkg K g g1 → CV gs S1 (itN (fun p st => if metP w k p = true then resR T to n' (crossP T w k p) (set ||| 2 ^ p) st else st) p st0) → ∃ S' Q' g', fX6_follow_113 (gX6_follow fu) cont m (E b S1 Q1 g1) (b + 38) (b + 12) (nI n) (nI h) (nI set) (b + wc h) (nI (uB w to (w.1 0 2))) (b + wc (h + 1)) (nI k) (nI p) = some (E b S' Q' g') ∧ CV gs S' (itN (fun k st => itN (fun p st => if metP w k p = true then resR T to n' (crossP T w k p) (set ||| 2 ^ p) st else st) (w.1 0 1) st) (w.1 0 2) st) ∧ OffH h S S' ∧ OffQ h Q Q' ∧ Lkg K g g' := by
        intro k cont R hk hcont st0 hRst m
        induction m with
        | zero => intro p _ _ _ _ h; omega
        | succ m ihm =>
          intro p S1 Q1 g1 hp hm hO hOQ hL hC1
          have hT1 : Try b K T S1 Q1 g1 (wc h) w := hT.fr (fun m hm => hO _ (by unfold wc; omega) (by unfold wc; omega)) (hOQ _ (by unfold wc; omega)) hL
          have eq1 : nI p + 1 = nI (p + 1) := nI_add p 1
          rw [fX6_follow_113, (rW hWc b S1 Q1 g1).2.2.2.1, hT1.1.2.1, bind_sm]
          by_cases hle : w.1 0 1 ≤ p
          · rw [if_pos ((nI_leI (by omega) (by omega)).mpr hle), show nI k + 1 = nI (k + 1) from nI_add k 1]
            have hpe : p = w.1 0 1 := by omega
            exact hcont S1 Q1 g1 hO hOQ hL (hRst S1 (by rw [← hpe]; exact hC1))
          · rw [if_neg (fun z => hle ((nI_leI (by omega) (by omega)).mp z)), c_meet hWc hT1.1 hI hk (by omega), bind_sm]
            have ea : itN (fun p st => if metP w k p = true then resR T to n' (crossP T w k p) (set ||| 2 ^ p) st else st) (p + 1) st0 = if metP w k p = true then resR T to n' (crossP T w k p) (set ||| 2 ^ p) (itN (fun p st => if metP w k p = true then resR T to n' (crossP T w k p) (set ||| 2 ^ p) st else st) p st0) else itN (fun p st => if metP w k p = true then resR T to n' (crossP T w k p) (set ||| 2 ^ p) st else st) p st0 := rfl
            by_cases hmt : metP w k p = true
            · rw [if_pos hmt] at ea
              rw [if_pos hmt, if_neg (by decide)]
              obtain ⟨S2, S3, Q3, g3, e2, e3, t3, o3, oq3, l3⟩ := c_next (p := p) hWc hWc1 (by unfold wc; omega) hT1 hI hok hk (by omega) hmt
              have hc0 := crossP_0 (T := T) (w := w) (k := k) (p := p)
              have o3' : ∀ r, r < 42 → S3 r = S1 r := fun r hr => o3 r (by unfold wc; omega)
              have c3 : CV gs S3 (itN (fun p st => if metP w k p = true then resR T to n' (crossP T w k p) (set ||| 2 ^ p) st else st) p st0) := ⟨by rw [o3' 38 (by omega)]; exact hC1.1, by rw [o3' 38 (by omega)]; exact hC1.2.1, by rw [o3' 38 (by omega)]; exact hC1.2.2⟩
              obtain ⟨S4, Q4, g4, e4, c4, o4, oq4, l4⟩ := ih (h + 1) (set ||| 2 ^ p) (crossP T w k p) S3 Q3 g3 _ (by omega) (by omega) (crossP_inv hI (by omega) (by omega)) (by rw [hc0.2.2]; omega) t3 (hTo.fr (fun m hm => by rw [o3' _ (by omega), hO _ (by omega) (by omega)])) (by rw [hc0.2.1]; exact hmen) (fun q => (hgs q).cross) hgs1 c3
              rw [e2, bind_sm, e3, bind_sm]
              dsimp only
              rw [show nI h + 1 = nI (h + 1) from nI_add h 1, show (1 : Int32) <<< (nI p &&& 31) = nI (2 ^ p) from bit_sh p (by omega), bit_or, e4, bind_sm, eq1]
              refine ihm (p + 1) S4 Q4 g4 (by omega) (by omega) (fun r h1 h2 => ?_) (fun r h1 => ?_) ((hL.tr l3).tr l4) ?_
              · rw [o4 r h1 (by omega), o3 r (by unfold wc; omega), hO r h1 h2]
              · rw [oq4 r (by omega), oq3 r (by unfold wc; omega), hOQ r h1]
              · rw [ea]
                rw [show n - (h + 1) = n' by omega] at c4
                exact c4
            · rw [if_neg hmt] at ea
              rw [if_neg hmt, if_pos (by decide), eq1]
              exact ihm (p + 1) S1 Q1 g1 (by omega) (by omega) hO hOQ hL (by rw [ea]; exact hC1)
      have loopK : ∀ (m k : Nat) (S1 : Nat → Nat → Int32) (Q1 : Nat → Nat → Nat) (g1 : Hp), k ≤ w.1 0 2 → w.1 0 2 - k < m → OffH h S S1 → OffQ h Q Q1 → Lkg K g g1 → CV gs S1 (itN (fun k st => itN (fun p st => if metP w k p = true then resR T to n' (crossP T w k p) (set ||| 2 ^ p) st else st) (w.1 0 1) st) k st) → ∃ S' Q' g', fX6_follow_66 (gX6_follow fu) m (E b S1 Q1 g1) (b + 38) (b + 12) (nI n) (nI h) (nI set) (b + wc h) (nI (uB w to (w.1 0 2))) (b + wc (h + 1)) (nI k) = some (E b S' Q' g') ∧ CV gs S' (itN (fun k st => itN (fun p st => if metP w k p = true then resR T to n' (crossP T w k p) (set ||| 2 ^ p) st else st) (w.1 0 1) st) (w.1 0 2) st) ∧ OffH h S S' ∧ OffQ h Q Q' ∧ Lkg K g g' := by
        intro m
        induction m with
        | zero => intro k _ _ _ _ h; omega
        | succ m ihm =>
          intro k S1 Q1 g1 hk hm hO hOQ hL hC1
          have hT1 : Try b K T S1 Q1 g1 (wc h) w := hT.fr (fun m hm => hO _ (by unfold wc; omega) (by unfold wc; omega)) (hOQ _ (by unfold wc; omega)) hL
          rw [fX6_follow_66, (rW hWc b S1 Q1 g1).2.2.2.2.2.1, hT1.1.2.2.1, bind_sm]
          by_cases hle : w.1 0 2 ≤ k
          · rw [if_pos ((nI_leI (by omega) (by omega)).mpr hle)]
            have hke : k = w.1 0 2 := by omega
            exact ⟨S1, Q1, g1, rfl, by rw [← hke]; exact hC1, hO, hOQ, hL⟩
          · have hk' : k < w.1 0 2 := by omega
            have hin := loopP k (fX6_follow_66 (gX6_follow fu) m) (fun S1 => CV gs S1 (itN (fun k st => itN (fun p st => if metP w k p = true then resR T to n' (crossP T w k p) (set ||| 2 ^ p) st else st) (w.1 0 1) st) (k + 1) st)) hk' (fun S1 Q1 g1 a1 a2 a3 a4 => ihm (k + 1) S1 Q1 g1 (by omega) (by omega) a1 a2 a3 a4) _ (fun S1 hs => hs) 1000 0 S1 Q1 g1 (Nat.zero_le _) (by omega) hO hOQ hL hC1
            rw [if_neg (fun z => hle ((nI_leI (by omega) (by omega)).mp z)), bc_but _ hu16 k (by omega), bind_sm, getI_H5, hC1.2.2, bind_sm]
            by_cases hg0 : gs = 0
            · rw [if_pos (show nI gs = 0 by rw [hg0]; rfl), sub1]
              have hbc := bc_le (uB w to (w.1 0 2))
              by_cases hcut : bcN (uB w to (w.1 0 2)) - (if (uB w to (w.1 0 2)).testBit k = true then 1 else 0) ≤ n'
              · rw [if_pos ((nI_leI (by omega) (by omega)).mpr hcut)]
                exact hin
              · rw [if_neg (fun z => hcut ((nI_leI (by omega) (by omega)).mp z)), show nI k + 1 = nI (k + 1) from nI_add k 1]
                refine ihm (k + 1) S1 Q1 g1 (by omega) (by omega) hO hOQ hL ?_
                have hid : itN (fun p st => if metP w k p = true then resR T to n' (crossP T w k p) (set ||| 2 ^ p) st else st) (w.1 0 1) (itN (fun k st => itN (fun p st => if metP w k p = true then resR T to n' (crossP T w k p) (set ||| 2 ^ p) st else st) (w.1 0 1) st) k st) = itN (fun k st => itN (fun p st => if metP w k p = true then resR T to n' (crossP T w k p) (set ||| 2 ^ p) st else st) (w.1 0 1) st) k st := by
                  refine itN_id _ _ (fun p hp st => ?_)
                  split
                  · refine noFit n' _ _ _ (hgs hg0).cross ?_
                    have hun := unlike_cross (T := T) (p := p) (to := to) (hgs hg0) hk'
                    rw [← uB_bc (w.1 0 2) (by omega)] at hun
                    have hbit := uB_bit (w := w) (to := to) (w.1 0 2) k hk'
                    by_cases hu : unB w to k = true
                    · rw [if_pos hu] at hun
                      rw [if_pos (hbit.mpr hu)] at hcut
                      omega
                    · rw [if_neg hu] at hun
                      rw [if_neg (fun q => hu (hbit.mp q))] at hcut
                      omega
                  · rfl
                show CV gs S1 (itN (fun p st => if metP w k p = true then resR T to n' (crossP T w k p) (set ||| 2 ^ p) st else st) (w.1 0 1) (itN (fun k st => itN (fun p st => if metP w k p = true then resR T to n' (crossP T w k p) (set ||| 2 ^ p) st else st) (w.1 0 1) st) k st))
                rw [hid]
                exact hC1
            · rw [if_neg (show ¬ nI gs = 0 from fun q => hg0 ((nI_eq (by omega) (by decide) : nI gs = nI 0 ↔ gs = 0).mp q))]
              exact hin
      exact loopK 1000 0 S Q g (Nat.zero_le _) (by omega) (fun _ _ _ => rfl) (fun _ _ => rfl) Lkg.rf hC
end OZk
