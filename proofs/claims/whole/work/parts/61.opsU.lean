/-! ===== check ===== -/
section OU
variable {b : Nat} {S S' S1 S2 S3 S5 S6 : Nat → Nat → Int32} {Q Q' Q1 : Nat → Nat → Nat} {g g' g1 h : Hp} {f k j p q n u c c0 c1 lo hi i e m : Nat} {x y z v r : Int32} {w : Wo} {T : Tx} {K K2 : Nat → Nat} {a a' : Fs} {s s' s0 : Nat → Int32} {t : Dt} {l : List Nat}

/-- an error behind an act -/
theorem Both.actErr {F G : Hp → Option (Int32 × Hp)} (h : Sim b K S Q g) (j : Nat) (hj : j < 7) (hF : F (E b S Q g) = (fX8_refuse (E b S1 Q1 g1) b (nI j)).bind fun q => some (q.1, q.2)) (hc : OffC S S1) (hk : Lkg K g g1) (hQ : Q1 29 = Q 29) (hg : GlobK b K g1) (hI : Finv a) (h1 : FerC b K S1 Q1 g1 4 a)
    (hG : ∀ S2 : Nat → Nat → Int32, (∀ r, r ≠ 115 → S2 r = S1 r) → ∃ S3, G (E b S2 Q1 g1) = (fX9_error (E b S3 Q1 g1) (b + 116) (nI j)).bind (fun q => some (q.1, q.2)) ∧ OffR S2 S3 ∧ FerM (S3 117) a) : Both b S Q g F G := by
  rw [c_refuse hj, bind_sm] at hF
  obtain ⟨S3, e3, o3, m3⟩ := hG (up2 S1 115 j (S1 115 j + nI 1)) (fun r hr => up2_row (fun q => hr q.symm))
  rw [m_error hj, bind_sm] at e3
  have e115 : S3 115 = up2 S1 115 j (S1 115 j + nI 1) 115 := o3.1 115 (by omega)
  have hL : Sim b K (fun r => if r = 115 then S1 115 else S3 r) Q1 g1 := by
    refine h.act (S2 := fun r => if r = 115 then S1 115 else S3 r) (a := a) hc ⟨fun r hr => ?_, ?_, ?_⟩ hk hQ hg hI h1 ?_
    · by_cases h5 : r = 115
      · simp only [h5, if_true]
      · simp only [h5, if_false]
        rw [o3.1 r hr, up2_row (fun q => h5 q.symm)]
    · simp only [show (116 : Nat) ≠ 115 by decide, if_false]
      rw [o3.2.1, up2_ne (by decide)]
    · simp only [show (116 : Nat) ≠ 115 by decide, if_false]
      rw [o3.2.2, up2_ne (by decide)]
    · simp only [show (117 : Nat) ≠ 115 by decide, if_false]
      exact m3
  have hE := hL.err hj
  have key : up2 (fun r => if r = 115 then S1 115 else S3 r) 115 j ((fun r => if r = 115 then S1 115 else S3 r) 115 j + nI 1) = S3 := by
    funext r i
    by_cases h5 : r = 115
    · subst h5
      rw [up2_at, e115, up2_at]
      simp only [if_true]
    · rw [up2_ne h5]
      simp only [h5, if_false]
  simp only [if_true] at hE key
  rw [key] at hE
  exact ⟨_, _, _, _, _, K, hF, e3, hE⟩
theorem c_placeOf_none (hc : isW c) (hR : RepW S c w) (hI : Winv w) (hk : k < w.1 0 2) (hx : ∀ q ∈ w.2 k, nI q ≠ x) : fX7_placeOf (E b S Q g) (b + c) (nI k) x = some (-nI 1) := by
  obtain ⟨-, -, -, -, h5, h6⟩ := hR.2.2.2.2 k hk
  have hl := hI.len k
  have hk4 : k < 4 := Nat.lt_of_lt_of_le hk hI.2.2.1
  have loop : ∀ (m i : Nat), i ≤ (w.2 k).length → (w.2 k).length - i < m → fX7_placeOf_2 (E b S Q g) m (b + c) (nI k) x (nI i) = some (-nI 1) := by
    intro m
    induction m with
    | zero => intro i _ h; omega
    | succ m ih =>
      intro i hi hm
      rw [fX7_placeOf_2]
      simp (disch := omega) only [rW hc, rN, bind_sm, h5, nI_leI, nI_add, pk_mul]
      by_cases hle : (w.2 k).length ≤ i
      · rw [if_pos hle]
      · rw [if_neg hle]
        have hlt : i < (w.2 k).length := by omega
        have hv : S (c + 8) (k * 8 + i) = nI (w.2 k)[i] := by rw [Nat.mul_comm]; exact h6.at hlt
        rw [hv, if_neg (hx _ (List.getElem_mem hlt))]
        exact ih (i + 1) (by omega) (by omega)
  unfold fX7_placeOf
  simp (disch := omega) only [rW hc, rN]
  exact loop 1000 0 (Nat.zero_le _) (by omega)
theorem c_knows0 (hc : isW c) (hR : RepW S c w) (hI : Winv w) (hk : k < w.1 0 2) (hx : ¬ isN x (w.1 0 1)) : fX7_knows (E b S Q g) (b + c) (nI k) x = some (nI 0) := by
  unfold fX7_knows
  rw [(rW hc b S Q g).1, c_placeOf_none hc hR hI hk (fun q hq e => hx ⟨q, (hI.2.2.2.2.2.2.2.2.2 k).2 q hq, e.symm⟩), bind_sm, if_pos (by decide)]
  rfl
theorem bc_mono {a c : Nat} (h : ∀ j, a.testBit j = true → c.testBit j = true) : bcN a ≤ bcN c := by
  have key : ∀ j, (a.testBit j).toNat ≤ (c.testBit j).toNat := by
    intro j
    have := h j
    cases ha : a.testBit j
    · exact Nat.zero_le _
    · rw [this ha]; exact Nat.le_refl _
  have h0 := key 0
  have h1 := key 1
  have h2 := key 2
  have h3 := key 3
  have h4 := key 4
  have h5 := key 5
  have h6 := key 6
  have h7 := key 7
  unfold bcN
  omega
theorem bc_faces : ∀ (n : Nat) (l : List Nat), l.length = n → (∀ q ∈ l, q < 8) → bcN (facesB l) ≤ n
  | 0, l, hn, _ => by
    have : l = [] := List.length_eq_zero_iff.mp hn
    subst this
    decide
  | n + 1, l, hn, h => by
    obtain ⟨l', q, rfl⟩ : ∃ l' q, l = l' ++ [q] := ⟨l.dropLast, l.getLast (by intro e; rw [e] at hn; cases hn), (List.dropLast_concat_getLast _).symm⟩
    have hl : l'.length = n := by rw [List.length_append] at hn; simpa using hn
    have ih := bc_faces n l' hl (fun q hq => h q (List.mem_append_left _ hq))
    have h8 := facesB_lt l' (fun q hq => h q (List.mem_append_left _ hq))
    have hq := h q (by simp)
    rw [facesB_app, bc_or _ h8 q hq]
    split <;> omega
/-- both go through what waits -/
theorem check_both (hI : Finv a) (hk : k < (fW a).1 0 2) : ∀ (d i seen : Nat), i + d = (fWt a).length → seen < 256 → bcN seen = i → (∀ j, seen.testBit j = true → j ∈ (fW a).2 k) → ∃ v, (∀ (S : Nat → Nat → Int32) (m : Nat), d < m → RepW S 12 (fW a) → rowV (S 10) 0 (fWt a) → fX8_check_41 m (E b S Q g) b (nI k) (nI (fWt a).length) (nI seen) (nI i) = some (v, E b S Q g)) ∧ ∀ (S : Nat → Nat → Int32) (m : Nat), d + 1 < m → RepM (S 117) (fW a) → rowV (S 117) 434 (fWt a) → fX9_check_38 m (E b S Q g) (b + 116) (nI k) (nI (fWt a).length) (nI seen) (nI i) (nI 1) = some (v, E b S Q g) := by
  have i1 := hI.1
  have hw := hI.2.2.2.2.1
  have hk4 : k < 4 := Nat.lt_of_lt_of_le hk i1.2.2.1
  have i2 := i1.2.1
  have hlen := i1.len k
  have hf8 := i1.lt8 k
  -- the reference's end, where one was not good
  have bad : ∀ (S : Nat → Nat → Int32) (m i seen : Nat), RepM (S 117) (fW a) → i ≤ 24 → fX9_check_38 (m + 1) (E b S Q g) (b + 116) (nI k) (nI (fWt a).length) (nI seen) (nI i) (nI 0) = some (nI (1 + i), E b S Q g) := by
    intro S m i seen hR hi
    have h131 : fX9_check_131 (E b S Q g) (b + 116) (nI k) (nI i) (nI 0) = some (nI (1 + i), E b S Q g) := by
      unfold fX9_check_131
      rw [if_pos (by decide), show (1 : Int32) = nI 1 from rfl, nI_add]
    rw [fX9_check_38, h131]
    split
    · rfl
    · rw [if_pos (by decide)]
  intro d
  induction d with
  | zero =>
    intro i seen hi hs hb hm
    have hil : i = (fWt a).length := by omega
    have hle : i ≤ ((fW a).2 k).length := by
      rw [← hb]
      refine Nat.le_trans (bc_mono (c := facesB ((fW a).2 k)) (fun j hj => (facesB_bit _ j).mpr (hm j hj))) (bc_faces _ _ rfl hf8)
    refine ⟨if i = ((fW a).2 k).length then nI 0 else nI (1 + i), fun S m hm hR hV => ?_, fun S m hm hR hV => ?_⟩
    · obtain ⟨m, rfl⟩ : ∃ m', m = m' + 1 := ⟨m - 1, by omega⟩
      obtain ⟨-, -, -, -, h5, -⟩ := hR.2.2.2.2 k hk
      rw [fX8_check_41, if_pos ((nI_leI (by omega) (by omega)).mpr (by omega))]
      simp (disch := omega) only [rO, rF, rW w12, rN, bind_sm, h5, nI_leI, nI_add]
      by_cases h0 : i = ((fW a).2 k).length
      · rw [if_pos (by omega), if_pos h0]
      · rw [if_neg (by omega), if_neg h0, ← hil, Nat.add_comm]
    · obtain ⟨m, rfl⟩ : ∃ m', m = m' + 1 := ⟨m - 1, by omega⟩
      obtain ⟨-, -, -, -, h5, -⟩ := hR.2.2.2.2 k hk
      rw [fX9_check_38, if_pos ((nI_leI (by omega) (by omega)).mpr (by omega))]
      unfold fX9_check_131
      rw [if_neg (by decide)]
      simp (disch := omega) only [rN, bind_sm, m_its, h5, nI_eq, nI_add]
      by_cases h0 : i = ((fW a).2 k).length
      · rw [if_pos h0, if_pos h0]
      · rw [if_neg h0, if_neg h0]
  | succ d ih =>
    intro i seen hi hs hb hmem
    have hlt : i < (fWt a).length := by omega
    generalize hx : (fWt a)[i] = x
    have hgx : (fWt a)[i]? = some x := by rw [List.getElem?_eq_getElem hlt, hx]
    have h18 : i ≤ 24 := by omega
    -- one that is not good
    have stop : ((∀ (S : Nat → Nat → Int32), RepW S 12 (fW a) → ∀ m, fX8_check_41 (m + 1) (E b S Q g) b (nI k) (nI (fWt a).length) (nI seen) (nI i) = some (nI (1 + i), E b S Q g)) ∨ True) := Or.inr trivial
    have cstart : ∀ (S : Nat → Nat → Int32) (m : Nat), RepW S 12 (fW a) → rowV (S 10) 0 (fWt a) → fX8_check_41 (m + 1) (E b S Q g) b (nI k) (nI (fWt a).length) (nI seen) (nI i) = (fX7_knows (E b S Q g) (b + 12) (nI k) x).bind fun q69 => if q69 = nI 0 then some (nI (1 + i), E b S Q g) else if ((nI seen >>> (x &&& nI 31)) &&& nI 1) = nI 1 then some (nI (1 + i), E b S Q g) else fX8_check_41 m (E b S Q g) b (nI k) (nI (fWt a).length) (nI seen ||| (nI 1 <<< (x &&& nI 31))) (nI (i + 1)) := by
      intro S m hR hV
      have hv : S 10 i = x := by have := hV i x hgx; rwa [Nat.zero_add] at this
      rw [fX8_check_41, if_neg (fun q => absurd ((nI_leI (by omega) (by omega)).mp q) (by omega))]
      simp (disch := omega) only [rO, rF, rN, bind_sm, hv, nI_add]
    have mstart : ∀ (S : Nat → Nat → Int32) (m : Nat), rowV (S 117) 434 (fWt a) → fX9_check_38 (m + 1) (E b S Q g) (b + 116) (nI k) (nI (fWt a).length) (nI seen) (nI i) (nI 1) = (fX9_isPerson (E b S Q g) (b + 116) x).bind fun q65 => if q65 = nI 0 then fX9_check_94 (fX9_check_38 m) (E b S Q g) (b + 116) (nI k) (nI (fWt a).length) (nI seen) (nI i) x else (fX9_knows (E b S Q g) (b + 116) (nI k) x).bind fun q75 => if q75 = nI 0 then fX9_check_94 (fX9_check_38 m) (E b S Q g) (b + 116) (nI k) (nI (fWt a).length) (nI seen) (nI i) x else if ((nI seen >>> (x &&& nI 31)) &&& nI 1) = nI 0 then fX9_check_95 (fX9_check_38 m) (E b S Q g) (b + 116) (nI k) (nI (fWt a).length) (nI seen) (nI i) x (nI 1) else fX9_check_94 (fX9_check_38 m) (E b S Q g) (b + 116) (nI k) (nI (fWt a).length) (nI seen) (nI i) x := by
      intro S m hV
      have hv : S 117 (434 + i) = x := hV i x hgx
      rw [fX9_check_38, if_neg (fun q => absurd ((nI_leI (by omega) (by omega)).mp q) (by omega)), if_neg (by decide)]
      simp (disch := omega) only [rM, rN, bind_sm, hv, nI_add]
    have m94 : ∀ (S : Nat → Nat → Int32) (m : Nat), RepM (S 117) (fW a) → fX9_check_94 (fX9_check_38 (m + 1)) (E b S Q g) (b + 116) (nI k) (nI (fWt a).length) (nI seen) (nI i) x = some (nI (1 + i), E b S Q g) := by
      intro S m hR
      unfold fX9_check_94 fX9_check_95
      rw [if_pos rfl]
      unfold fX9_check_111
      rw [if_pos rfl]
      simp only [rN, nI_add, bit_or, Nat.add_zero, Nat.or_zero]
      exact bad S m i seen hR h18
    rcases isN_or x ((fW a).1 0 1) with ⟨p, hp, rfl⟩ | hxN
    · have hp8 : p < 8 := by omega
      by_cases hin : p ∈ (fW a).2 k
      · cases hbit : seen.testBit p
        · have hor : seen ||| 2 ^ p < 256 := bit_or_lt (n := 8) hs (bit_pow_lt hp8)
          have hbc := bc_or seen hs p hp8
          rw [hbit, if_neg (by decide)] at hbc
          obtain ⟨v, vC, vM⟩ := ih (i + 1) (seen ||| 2 ^ p) (by omega) hor (by rw [hbc, hb]) (fun j hj => by
            rw [Nat.testBit_or, Bool.or_eq_true] at hj
            rcases hj with hj | hj
            · exact hmem j hj
            · rw [bit_pow.mp hj]; exact hin)
          refine ⟨v, fun S m hm hR hV => ?_, fun S m hm hR hV => ?_⟩
          · obtain ⟨m, rfl⟩ : ∃ m', m = m' + 1 := ⟨m - 1, by omega⟩
            rw [cstart S m hR hV, c_knows w12 hR i1 hk hp8, if_pos hin, bind_sm, if_neg (by decide), if_neg (fun q => by rw [(bit_t hs hp8).mp q] at hbit; cases hbit), bit_sh p (by omega), bit_or]
            exact vC S m (by omega) hR hV
          · obtain ⟨m, rfl⟩ : ∃ m', m = m' + 1 := ⟨m - 1, by omega⟩
            rw [mstart S m hV, m_isPerson1 hR.1 (by omega) hp, bind_sm, if_neg (by decide), m_knows hR i1 hk hp8, if_pos hin, bind_sm, if_neg (by decide), if_pos ((bit_t0z hs hp8).mpr hbit)]
            unfold fX9_check_95
            rw [if_neg (by decide)]
            unfold fX9_check_111
            rw [if_neg (by decide)]
            simp only [rN]
            rw [bit_sh p (by omega), bit_or, nI_add]
            exact vM S m (by omega) hR hV
        · refine ⟨nI (1 + i), fun S m hm hR hV => ?_, fun S m hm hR hV => ?_⟩
          · obtain ⟨m, rfl⟩ : ∃ m', m = m' + 1 := ⟨m - 1, by omega⟩
            rw [cstart S m hR hV, c_knows w12 hR i1 hk hp8, if_pos hin, bind_sm, if_neg (by decide), if_pos ((bit_t hs hp8).mpr hbit)]
          · obtain ⟨m, rfl⟩ : ∃ m', m = m' + 1 + 1 := ⟨m - 2, by omega⟩
            rw [mstart S (m + 1) hV, m_isPerson1 hR.1 (by omega) hp, bind_sm, if_neg (by decide), m_knows hR i1 hk hp8, if_pos hin, bind_sm, if_neg (by decide), if_neg (fun q => by rw [(bit_t0z hs hp8).mp q] at hbit; cases hbit)]
            exact m94 S m hR
      · refine ⟨nI (1 + i), fun S m hm hR hV => ?_, fun S m hm hR hV => ?_⟩
        · obtain ⟨m, rfl⟩ : ∃ m', m = m' + 1 := ⟨m - 1, by omega⟩
          rw [cstart S m hR hV, c_knows w12 hR i1 hk hp8, if_neg hin, bind_sm, if_pos rfl]
        · obtain ⟨m, rfl⟩ : ∃ m', m = m' + 1 + 1 := ⟨m - 2, by omega⟩
          rw [mstart S (m + 1) hV, m_isPerson1 hR.1 (by omega) hp, bind_sm, if_neg (by decide), m_knows hR i1 hk hp8, if_neg hin, bind_sm, if_pos rfl]
          exact m94 S m hR
    · refine ⟨nI (1 + i), fun S m hm hR hV => ?_, fun S m hm hR hV => ?_⟩
      · obtain ⟨m, rfl⟩ : ∃ m', m = m' + 1 := ⟨m - 1, by omega⟩
        rw [cstart S m hR hV, c_knows0 w12 hR i1 hk hxN, bind_sm, if_pos rfl]
      · obtain ⟨m, rfl⟩ : ∃ m', m = m' + 1 + 1 := ⟨m - 2, by omega⟩
        rw [mstart S (m + 1) hV, m_isPerson0 hR.1 (by omega) hxN, bind_sm, if_pos rfl]
        exact m94 S m hR
theorem op_check (h : Sim b K S Q g) : Both b S Q g (fun h => fX8_check h b x) (fun h => fX9_check h (b + 116) x) := by
  obtain ⟨⟨a, hI, hC, hM⟩, -, -, -, -, hg⟩ := id h
  obtain ⟨c1, c2, c4, c5, c6, c7, c8⟩ := id hC
  obtain ⟨m1, m2, m3, m4, m5, m6, m7⟩ := id hM
  obtain ⟨i1, i2, i3, i4, i5, i6, i7, i8⟩ := id hI
  have i33 := i1.2.2.1
  obtain ⟨c5a, c5b⟩ := c5
  obtain ⟨m4a, m4b⟩ := m4
  obtain ⟨S1, hS1⟩ : ∃ S1, S1 = up2 S 4 5 (nI 0) := ⟨_, rfl⟩
  have ne : ∀ r, r ≠ 4 → S1 r = S r := fun r h1 => by rw [hS1, up2_row (by omega)]
  have n4 : ∀ j, j ≠ 5 → S1 4 j = S 4 j := fun j hj => by rw [hS1, up2_at, if_neg hj]
  have e117 : S1 117 = S 117 := ne _ (by omega)
  have w1 : RepW S1 12 (fW a) := RepW.fr c1 (fun m hm => ne _ (by omega))
  have f1 : FerC b K S1 Q g 4 (fW a, fT a, fTp a, [], fBk a, fZ a, fDb a) := ⟨w1, c2, c4.fr (n4 _ (by omega)) (ne _ (by omega)), ⟨by rw [hS1, up2_at, if_pos rfl]; rfl, fun i v hv => by simp [fWt] at hv⟩, c6.fr (n4 _ (by omega)) (ne _ (by omega)), by rw [n4 _ (by omega)]; exact c7, c8.fr (by rw [ne _ (by omega)]) (ne _ (by omega)) (ne _ (by omega)) (ne _ (by omega))⟩
  have hI' : Finv (fW a, fT a, fTp a, [], fBk a, fZ a, fDb a) := ⟨i1, i2, i3, i4, Nat.zero_le _, i6, i7, i8⟩
  have mm : ∀ S2 : Nat → Nat → Int32, S2 117 = S 117 → FerM (up2 S2 117 6 (nI 0) 117) (fW a, fT a, fTp a, [], fBk a, fZ a, fDb a) := by
    intro S2 hS
    have e : ∀ j, j ≠ 6 → up2 S2 117 6 (nI 0) 117 j = S 117 j := fun j h1 => by rw [up2_at, if_neg h1, hS]
    exact ⟨m1.fr i1 (fun j hj => e j (by omega)), m2.fr i3 (fun j hj => e j (by omega)), m3.fr i4.1 (fun j hj => e j (by omega)), ⟨by rw [up2_at, if_pos rfl]; rfl, fun i v hv => by simp [fWt] at hv⟩, m5.fr i6.1 (fun j hj => e j (by omega)), by rw [e _ (by omega)]; exact m6, m7.fr i7 (fun j hj => e j (by omega))⟩
  rcases isN_or x ((fW a).1 0 2) with ⟨k, hk, rfl⟩ | hx
  · obtain ⟨v, vC, vM⟩ := check_both (b := b) (Q := Q) (g := g) hI hk (fWt a).length 0 0 (by omega) (by decide) (by decide) (fun j hj => by rw [Nat.zero_testBit] at hj; cases hj)
    have e1 := vC S1 1000 (by omega) w1 (by rw [ne _ (by omega)]; exact c5b)
    have e2 := vM (up2 S1 117 6 (nI 0)) 1000 (by omega) (mm S1 e117).1 (m4b.fr (fun i hi => by rw [up2_at, if_neg (by omega), e117]))
    refine Both.act h (S1 := S1) (Q1 := Q) (g1 := g) (r := v) ?_ (fun r hr => ne r (by omega)) Lkg.rf rfl hg hI' f1 ⟨up2 S1 117 6 (nI 0), ?_, OffR.of (X := [117]) (Off.up List.mem_cons_self) (by decide), mm S1 e117⟩
    · unfold fX8_check
      simp (disch := omega) only [rO, rF, rN, bind_sm, c5a, ← hS1, c_hasMan1 w12 w1.2.2.1, z10, if_false, e1]
    · have hw := hI.2.2.2.2.1
      have q1 : (up2 S1 117 6 (nI 0)) 117 1 = nI ((fW a).1 0 2) := (mm S1 e117).1.2.1
      unfold fX9_check
      simp (disch := omega) only [rM, rN, bind_sm, e117, m4a, m_isMan1 (S := up2 S1 117 6 (nI 0)) q1, z10, if_false]
      exact e2
  · refine Both.actErr h 1 (by decide) (S1 := S1) (Q1 := Q) (g1 := g) ?_ (fun r hr => ne r (by omega)) Lkg.rf rfl hg hI' f1 (fun S2 hS => ?_)
    · unfold fX8_check
      simp (disch := omega) only [rO, rF, rN, bind_sm, c5a, ← hS1, c_hasMan0 w12 w1.2.2.1 (by omega) hx, if_true]
    · have e2 : S2 117 = S 117 := by rw [hS _ (by decide), e117]
      have q1 : (up2 S2 117 6 (nI 0)) 117 1 = nI ((fW a).1 0 2) := (mm S2 e2).1.2.1
      refine ⟨up2 S2 117 6 (nI 0), ?_, OffR.of (X := [117]) (Off.up List.mem_cons_self) (by decide), mm S2 e2⟩
      unfold fX9_check
      simp (disch := omega) only [rM, rN, bind_sm, e2, m4a, m_isMan0 (S := up2 S2 117 6 (nI 0)) q1 (by omega) hx, if_true]
end OU
