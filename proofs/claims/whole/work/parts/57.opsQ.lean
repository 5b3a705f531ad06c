/-! ===== pay ===== -/
section OQ
variable {b : Nat} {S S' S1 S2 S3 : Nat → Nat → Int32} {Q Q' Q1 : Nat → Nat → Nat} {g g' g1 h : Hp} {f k j p q n u c c0 c1 lo hi i e m : Nat} {x y z v r : Int32} {w : Wo} {T : Tx} {K K2 : Nat → Nat} {a a' : Fs} {s s' s0 : Nat → Int32} {t : Dt}

def lessL (l : List Dt) (i : Nat) (t : Dt) (m : Nat) : List Dt := if m = 0 then l.eraseIdx i else l.set i (t.1, t.2.1, m)
theorem lessL_len {l : List Dt} : (lessL l i t m).length ≤ l.length := by
  unfold lessL
  split
  · exact List.length_eraseIdx_le l i
  · rw [List.length_set]; exact Nat.le_refl _
theorem lessL_mem {l : List Dt} {d : Dt} (h : d ∈ lessL l i t m) : d ∈ l ∨ d = (t.1, t.2.1, m) := by
  unfold lessL at h
  split at h
  · exact Or.inl (List.mem_of_mem_eraseIdx h)
  · exact List.mem_or_eq_of_mem_set h
theorem debtC.set {l : List Dt} (h : debtC S f l) (hi : l[i]? = some t) (e0 : S' (f + 1) 0 = S (f + 1) 0) (e2 : S' (f + 2) = S (f + 2)) (e3 : S' (f + 3) = S (f + 3)) (e4 : ∀ j, S' (f + 4) j = if j = i then nI m else S (f + 4) j) : debtC S' f (l.set i (t.1, t.2.1, m)) := by
  obtain ⟨h1, h2⟩ := h
  refine ⟨by rw [e0, h1, List.length_set], fun j d hd => ?_⟩
  rw [List.getElem?_set] at hd
  rw [e2, e3, e4]
  by_cases hij : i = j
  · subst hij
    have hl := (List.getElem?_eq_some_iff.mp hi).1
    rw [if_pos rfl, if_pos hl] at hd
    have hd' := Option.some.inj hd
    subst hd'
    obtain ⟨q1, q2, q3⟩ := h2 i t hi
    exact ⟨q1, q2, if_pos rfl⟩
  · rw [if_neg hij] at hd
    rw [if_neg (fun q => hij q.symm)]
    exact h2 j d hd
theorem debtC.erase {l : List Dt} (h : debtC S f l) (hi : i < l.length) (e0 : S' (f + 1) 0 = nI (l.length - 1)) (e2 : ∀ j, j < l.length - 1 → S' (f + 2) j = if i ≤ j then S (f + 2) (j + 1) else S (f + 2) j) (e3 : ∀ j, j < l.length - 1 → S' (f + 3) j = if i ≤ j then S (f + 3) (j + 1) else S (f + 3) j) (e4 : ∀ j, j < l.length - 1 → S' (f + 4) j = if i ≤ j then S (f + 4) (j + 1) else S (f + 4) j) : debtC S' f (l.eraseIdx i) := by
  obtain ⟨h1, h2⟩ := h
  have hlen : (l.eraseIdx i).length = l.length - 1 := by rw [List.length_eraseIdx, if_pos hi]
  refine ⟨by rw [e0, hlen], fun j d hd => ?_⟩
  have hj := (List.getElem?_eq_some_iff.mp hd).1
  rw [hlen] at hj
  rw [List.getElem?_eraseIdx] at hd
  rw [e2 j hj, e3 j hj, e4 j hj]
  by_cases hij : j < i
  · rw [if_pos hij] at hd
    rw [if_neg (by omega), if_neg (by omega), if_neg (by omega)]
    exact h2 j d hd
  · rw [if_neg hij] at hd
    rw [if_pos (by omega), if_pos (by omega), if_pos (by omega)]
    exact h2 (j + 1) d hd
theorem debtM.set {l : List Dt} (h : debtM s l) (hi : l[i]? = some t) (hl : l.length ≤ 8) (e : ∀ j, j = 3 ∨ (76 ≤ j ∧ j < 100) → s' j = if j = 76 + 3 * i + 2 then nI m else s j) : debtM s' (l.set i (t.1, t.2.1, m)) := by
  obtain ⟨h1, h2⟩ := h
  refine ⟨by rw [e _ (by omega), if_neg (by omega), h1, List.length_set], fun j d hd => ?_⟩
  have hj := (List.getElem?_eq_some_iff.mp hd).1
  rw [List.length_set] at hj
  rw [List.getElem?_set] at hd
  by_cases hij : i = j
  · subst hij
    have hl := (List.getElem?_eq_some_iff.mp hi).1
    rw [if_pos rfl, if_pos hl] at hd
    have hd' := Option.some.inj hd
    subst hd'
    obtain ⟨q1, q2, q3⟩ := h2 i t hi
    rw [e _ (by omega), e _ (by omega), e _ (by omega), if_neg (by omega), if_neg (by omega), if_pos rfl]
    exact ⟨q1, q2, rfl⟩
  · rw [if_neg hij] at hd
    rw [e _ (by omega), e _ (by omega), e _ (by omega), if_neg (by omega), if_neg (by omega), if_neg (by omega)]
    exact h2 j d hd
theorem debtM.erase {l : List Dt} (h : debtM s l) (hi : i < l.length) (hl : l.length ≤ 8) (h0 : ∀ j, 76 ≤ j → j < 100 → j ≠ 76 + 3 * i + 2 → s0 j = s j) (e0 : s' 3 = nI (l.length - 1)) (e : ∀ j, 76 ≤ j → j < 76 + 3 * (l.length - 1) → s' j = if 76 + 3 * i ≤ j then s0 (j + 3) else s0 j) : debtM s' (l.eraseIdx i) := by
  obtain ⟨h1, h2⟩ := h
  have hlen : (l.eraseIdx i).length = l.length - 1 := by rw [List.length_eraseIdx, if_pos hi]
  refine ⟨by rw [e0, hlen], fun j d hd => ?_⟩
  have hj := (List.getElem?_eq_some_iff.mp hd).1
  rw [hlen] at hj
  rw [List.getElem?_eraseIdx] at hd
  rw [e _ (by omega) (by omega), e _ (by omega) (by omega), e _ (by omega) (by omega)]
  by_cases hij : j < i
  · rw [if_pos hij] at hd
    rw [if_neg (by omega), if_neg (by omega), if_neg (by omega), h0 _ (by omega) (by omega) (by omega), h0 _ (by omega) (by omega) (by omega), h0 _ (by omega) (by omega) (by omega)]
    exact h2 j d hd
  · rw [if_neg hij] at hd
    rw [if_pos (by omega), if_pos (by omega), if_pos (by omega), h0 _ (by omega) (by omega) (by omega), h0 _ (by omega) (by omega) (by omega), h0 _ (by omega) (by omega) (by omega)]
    exact h2 (j + 1) d hd
theorem c_lessen {l : List Dt} (hD : debtC S 4 l) (hl : l.length ≤ 8) (hi : i < l.length) (hc : l[i].2.2 ≤ 999) (hp : p ≤ l[i].2.2) : ∃ S', fX0_lessen (E b S Q g) (b + 5) (nI i) (nI p) = some (E b S' Q g) ∧ (∀ r, r < 5 ∨ 9 ≤ r → S' r = S r) ∧ debtC S' 4 (lessL l i l[i] (l[i].2.2 - p)) := by
  have hg := List.getElem?_eq_getElem hi
  obtain ⟨q1, q2, q3⟩ := hD.2 i _ hg
  have q3' : S 8 i = nI l[i].2.2 := q3
  have c0 : S 5 0 = nI l.length := hD.1
  generalize hm : l[i].2.2 - p = m
  have hS8 : ∀ S : Nat → Nat → Int32, (up2 S 8 i (nI m)) 8 i = nI m := fun S => by rw [up2_at, if_pos rfl]
  by_cases h0 : m = 0
  · generalize hS1 : up2 S 8 i (nI m) = S1
    have e1 : ∀ r, r ≠ 8 → S1 r = S r := fun r hr => by rw [← hS1, up2_row (by omega)]
    have cp : ∀ (c : Nat) (S : Nat → Nat → Int32), c = 6 ∨ c = 7 ∨ c = 8 → acopy (E b S Q g) (b + c) (nI (i + 1)) (b + c) (nI i) (nI (l.length - i - 1)) = some (E b (cpR S c c (i + 1) i (l.length - i - 1)) Q g) := by
      intro c S hc
      rcases hc with rfl | rfl | rfl <;> exact E_acopy rfl rfl (by omega) (by omega) (by decide) (by decide)
    generalize hS2 : cpR (cpR (cpR S1 6 6 (i + 1) i (l.length - i - 1)) 7 7 (i + 1) i (l.length - i - 1)) 8 8 (i + 1) i (l.length - i - 1) = S2
    have e2 : ∀ r, r < 6 ∨ 9 ≤ r → S2 r = S1 r := fun r hr => by rw [← hS2, cpR_ne (by omega), cpR_ne (by omega), cpR_ne (by omega)]
    have at2 : ∀ c j, c = 6 ∨ c = 7 ∨ c = 8 → j < l.length - 1 → S2 c j = if i ≤ j then S1 c (j + 1) else S1 c j := by
      intro c j hc hj
      rw [← hS2]
      rcases hc with rfl | rfl | rfl
      · rw [cpR_ne (by omega), cpR_ne (by omega), cpR_at]
        by_cases hij : i ≤ j
        · rw [if_pos (by omega), if_pos hij, show i + 1 + (j - i) = j + 1 by omega]
        · rw [if_neg (by omega), if_neg hij]
      · rw [cpR_ne (by omega), cpR_at, cpR_ne (by omega)]
        by_cases hij : i ≤ j
        · rw [if_pos (by omega), if_pos hij, show i + 1 + (j - i) = j + 1 by omega]
        · rw [if_neg (by omega), if_neg hij]
      · rw [cpR_at, cpR_ne (by omega), cpR_ne (by omega)]
        by_cases hij : i ≤ j
        · rw [if_pos (by omega), if_pos hij, show i + 1 + (j - i) = j + 1 by omega]
        · rw [if_neg (by omega), if_neg hij]
    have at1 : ∀ c j, c = 6 ∨ c = 7 ∨ c = 8 → (c = 8 → j ≠ i) → S1 c j = S c j := by
      intro c j hc hj
      rw [← hS1]
      by_cases h8 : c = 8
      · subst h8; rw [up2_at, if_neg (hj rfl)]
      · rw [up2_ne h8]
    have s50 : S1 5 0 = nI l.length := by rw [e1 5 (by decide), c0]
    have s51 : S2 5 0 = nI l.length := by rw [e2 5 (by decide), s50]
    refine ⟨up2 S2 5 0 (nI (l.length - 1)), ?_, fun r hr => by rw [up2_row (by omega), e2 r (by omega), e1 r (by omega)], ?_⟩
    · unfold fX0_lessen
      simp (disch := omega) only [rF, rN, bind_sm, q3', nI_subI, hm, hS8]
      rw [if_pos (by rw [h0])]
      rw [hS1]
      simp (disch := omega) only [rF, bind_sm, s50, nI_subI, nI_add]
      rw [cp 6 S1 (by omega), bind_sm]
      simp only [rF, bind_sm]
      rw [cp 7 _ (by omega), bind_sm]
      simp only [rF, bind_sm]
      rw [cp 8 _ (by omega), bind_sm, hS2]
      simp (disch := omega) only [rF, bind_sm, s51, nI_subI]
    · unfold lessL
      rw [if_pos h0]
      have row : ∀ c, c = 6 ∨ c = 7 ∨ c = 8 → ∀ j, j < l.length - 1 → up2 S2 5 0 (nI (l.length - 1)) c j = if i ≤ j then S c (j + 1) else S c j := by
        intro c hc j hj
        rw [up2_ne (by omega), at2 c j hc hj]
        by_cases hij : i ≤ j
        · rw [if_pos hij, if_pos hij, at1 c _ hc (by omega)]
        · rw [if_neg hij, if_neg hij, at1 c _ hc (by omega)]
      exact hD.erase hi (by rw [up2_at, if_pos rfl]) (row 6 (by omega)) (row 7 (by omega)) (row 8 (by omega))
  · refine ⟨up2 S 8 i (nI m), ?_, fun r hr => up2_row (by omega), ?_⟩
    · unfold fX0_lessen
      simp (disch := omega) only [rF, rN, bind_sm, q3', nI_subI, hm, hS8]
      rw [if_neg (fun q => h0 ((nI_eq (by omega) (by decide)).mp q))]
    · unfold lessL
      rw [if_neg h0]
      exact hD.set hg (up2_ne (by decide)) (up2_row (by decide)) (up2_row (by decide)) (fun j => up2_at)
def payW (w : Wo) (t : Dt) (p : Nat) : Wo := upW (upW w 2 t.1 (w.1 2 t.1 - p)) 2 t.2.1 (min ((upW w 2 t.1 (w.1 2 t.1 - p)).1 2 t.2.1 + p) 9999)
def payA (a : Fs) (i : Nat) (t : Dt) (p : Nat) : Fs := (payW (fW a) t p, fT a, fTp a, fWt a, fBk a, fZ a, lessL (fDb a) i t (t.2.2 - p))
theorem payW_inv (h : Winv w) : Winv (payW w t p) := by
  have h5 := h.2.2.2.2.1 t.1
  refine (h.up (by omega) ?_).up (by omega) ?_
  · rw [if_neg (by decide), if_pos rfl]; omega
  · rw [if_neg (by decide), if_pos rfl]; exact Nat.min_le_right _ _
theorem payW_0 {j : Nat} : (payW w t p).1 0 j = w.1 0 j := by unfold payW; rw [upW_at, if_neg (by omega), upW_at, if_neg (by omega)]
theorem payA_inv (h : Finv a) (ht : t ∈ fDb a) : Finv (payA a i t p) := by
  obtain ⟨i1, i2, i3, i4, i5, i6, i7, i8⟩ := h
  refine ⟨payW_inv i1, by show (payW (fW a) t p).1 0 0 ≤ 9999; rw [payW_0]; exact i2, i3, i4, i5, i6, Nat.le_trans lessL_len i7, fun d hd => ?_⟩
  have e : (fW (payA a i t p)).1 0 1 = (fW a).1 0 1 := payW_0
  rw [e]
  rcases lessL_mem (show d ∈ lessL (fDb a) i t (t.2.2 - p) from hd) with h | rfl
  · exact i8 d h
  · have := i8 t ht
    exact ⟨this.1, this.2.1, by show t.2.2 - p ≤ 999; omega⟩
theorem m_pay184 {N : Nat} (hN : S 117 3 = nI N) (hN8 : N < 8) (hi : i ≤ N) (r : Int32) : ∃ S', fX9_pay_184 1000 (E b S Q g) (b + 116) r (nI (3 * i)) = some (r, E b S' Q g) ∧ Off [117] S S' ∧ ∀ j, S' 117 j = if 76 + 3 * i ≤ j ∧ j < 76 + 3 * N then S 117 (j + 3) else S 117 j := by
  have loop : ∀ (m k : Nat) (S1 : Nat → Nat → Int32), 3 * i ≤ k → k ≤ 3 * N → 3 * N - k < m → Off [117] S S1 → (∀ j, S1 117 j = if 76 + 3 * i ≤ j ∧ j < 76 + k then S 117 (j + 3) else S 117 j) → ∃ S', fX9_pay_184 m (E b S1 Q g) (b + 116) r (nI k) = some (r, E b S' Q g) ∧ Off [117] S S' ∧ ∀ j, S' 117 j = if 76 + 3 * i ≤ j ∧ j < 76 + 3 * N then S 117 (j + 3) else S 117 j := by
    intro m
    induction m with
    | zero => intro k _ _ _ h; omega
    | succ m ih =>
      intro k S1 h1 h2 hm hO hS
      have e3 : S1 117 3 = nI N := by rw [hS, if_neg (by omega), hN]
      rw [fX9_pay_184]
      simp (disch := omega) only [rM, rN, bind_sm, e3, pk_mul, nI_leI]
      by_cases hle : 3 * N ≤ k
      · rw [if_pos hle]
        exact ⟨S1, rfl, hO, by rw [show 3 * N = k by omega]; exact hS⟩
      · rw [if_neg hle]
        simp (disch := omega) only [rM, bind_sm, nI_add]
        refine ih (k + 1) _ (by omega) (by omega) (by omega) (hO.tr (Off.up (by decide))) (fun j => ?_)
        rw [up2_at]
        by_cases hj : j = 76 + k
        · rw [if_pos hj, if_pos (by omega), hS, if_neg (by omega), hj]
        · rw [if_neg hj, hS]
          by_cases hj2 : 76 + 3 * i ≤ j ∧ j < 76 + k
          · rw [if_pos hj2, if_pos (by omega)]
          · rw [if_neg hj2, if_neg (by omega)]
  exact loop 1000 (3 * i) S (Nat.le_refl _) (by omega) (by omega) Off.rf (fun j => by rw [if_neg (by omega)])
theorem m_pay (hM : FerM (S 117) a) (hI : Finv a) (hi : i < (fDb a).length) (ht : (fDb a)[i] = t) (hp : p ≤ t.2.2) (hp2 : p ≤ (fW a).1 2 t.1) : ∃ S', fX9_pay_93 (E b S Q g) (b + 116) (nI i) (nI t.1) (nI t.2.1) (nI p) = some (nI p, E b S' Q g) ∧ Off [117] S S' ∧ FerM (S' 117) (payA a i t p) := by
  have hg : (fDb a)[i]? = some t := by rw [List.getElem?_eq_getElem hi, ht]
  obtain ⟨i1, it, i3, i4, i5, i6, i7, i8⟩ := id hI
  have hb := i8 t (List.mem_of_getElem? hg)
  have h8 := i1.2.1
  have hw1 := i1.2.2.2.2.1 t.1
  have v1 : S 117 (8 + 2 * t.1 + 1) = nI ((fW a).1 2 t.1) := (hM.1.2.2.2.1 t.1 hb.1).2
  generalize hS1 : up2 S 117 (8 + 2 * t.1 + 1) (nI ((fW a).1 2 t.1 - p)) = S1
  have r1 : RepM (S1 117) (upW (fW a) 2 t.1 ((fW a).1 2 t.1 - p)) := hM.1.up i1 (by omega) (by rw [if_pos (by omega)]; exact hb.1) (fun j => by rw [← hS1, up2_at]; rfl)
  have k1 : Winv (upW (fW a) 2 t.1 ((fW a).1 2 t.1 - p)) := i1.up (by omega) (by rw [if_neg (by decide), if_pos rfl]; omega)
  have p1 : (upW (fW a) 2 t.1 ((fW a).1 2 t.1 - p)).1 0 1 = (fW a).1 0 1 := by rw [upW_at, if_neg (by omega)]
  have hw2 := k1.2.2.2.2.1 t.2.1
  have v2 : S1 117 (8 + 2 * t.2.1 + 1) = nI ((upW (fW a) 2 t.1 ((fW a).1 2 t.1 - p)).1 2 t.2.1) := (r1.2.2.2.1 t.2.1 (by rw [p1]; exact hb.2.1)).2
  generalize hS2 : up2 S1 117 (8 + 2 * t.2.1 + 1) (nI (min ((upW (fW a) 2 t.1 ((fW a).1 2 t.1 - p)).1 2 t.2.1 + p) 9999)) = S2
  have r2 : RepM (S2 117) (payW (fW a) t p) := r1.up k1 (by omega) (by rw [if_pos (by omega), p1]; exact hb.2.1) (fun j => by rw [← hS2, up2_at]; rfl)
  have o2 : ∀ j, j < 8 ∨ 24 ≤ j → S2 117 j = S 117 j := fun j hj => by rw [← hS2, up2_at, if_neg (by omega), ← hS1, up2_at, if_neg (by omega)]
  have O2 : Off [117] S S2 := by rw [← hS2, ← hS1]; exact (Off.up List.mem_cons_self).tr (Off.up List.mem_cons_self)
  have f2 : FerM (S2 117) (payW (fW a) t p, a.2) := hM.wo hI (fun j hj => o2 j (by omega)) r2
  have v3 : S2 117 (76 + 3 * i + 2) = nI t.2.2 := by rw [o2 _ (by omega)]; exact (hM.2.2.2.2.2.2.2 i t hg).2.2
  generalize hm : t.2.2 - p = m
  generalize hS3 : up2 S2 117 (76 + 3 * i + 2) (nI m) = S3
  have v4 : S3 117 (76 + 3 * i + 2) = nI m := by rw [← hS3, up2_at, if_pos rfl]
  have O3 : Off [117] S S3 := by rw [← hS3]; exact O2.tr (Off.up List.mem_cons_self)
  have v5 : S3 117 3 = nI (fDb a).length := by rw [← hS3, up2_at, if_neg (by omega), o2 _ (by omega)]; exact hM.2.2.2.2.2.2.1
  have fin : ∀ s5 : Nat → Int32, (∀ j, j ≠ 3 → ¬ (76 ≤ j ∧ j < 100) → s5 j = S2 117 j) → debtM s5 (lessL (fDb a) i t m) → FerM s5 (payA a i t p) := by
    intro s5 h5 hd
    obtain ⟨m1, m2, m3, m4, m5, m6, m7⟩ := f2
    exact ⟨r2.fr (payW_inv i1) (fun j hj => h5 j (by omega) (by omega)), m2.fr i3 (fun j hj => h5 j (by omega) (by omega)), m3.fr i4.1 (fun j hj => h5 j (by omega) (by omega)), m4.fr i5 (fun j hj => h5 j (by omega) (by omega)), m5.fr i6.1 (fun j hj => by rcases hj with rfl | hj; exact h5 4 (by omega) (by omega); exact h5 j (by omega) (by omega)), by rw [h5 _ (by omega) (by omega)]; exact m6, by rw [← hm] at hd; exact hd⟩
  have e0 : fX9_pay_93 (E b S Q g) (b + 116) (nI i) (nI t.1) (nI t.2.1) (nI p) = if nI m = nI 0 then fX9_pay_184 1000 (E b (up2 S3 117 3 (nI ((fDb a).length - 1))) Q g) (b + 116) (nI p) (nI (3 * i)) else some (nI p, E b S3 Q g) := by
    unfold fX9_pay_93
    simp (disch := omega) only [rM, rN, bind_sm, pk_mul, nI_add, v1, nI_subI, hS1, m_of, v2, m_heldN, hS2, v3, hm, hS3, m_owed, v4, v5]
  by_cases h0 : m = 0
  · generalize hS4 : up2 S3 117 3 (nI ((fDb a).length - 1)) = S4
    have O4 : Off [117] S S4 := by rw [← hS4]; exact O3.tr (Off.up List.mem_cons_self)
    obtain ⟨S5, e5, o5, k5⟩ := m_pay184 (b := b) (S := S4) (Q := Q) (g := g) (i := i) (N := (fDb a).length - 1) (by rw [← hS4, up2_at, if_pos rfl]) (by omega) (by omega) (nI p)
    refine ⟨S5, ?_, O4.tr o5, fin _ (fun j h1 h2 => ?_) ?_⟩
    · rw [e0, if_pos (by rw [h0]), hS4, e5]
    · rw [k5, if_neg (by omega), ← hS4, up2_at, if_neg h1, ← hS3, up2_at, if_neg (by omega)]
    · unfold lessL
      rw [if_pos h0]
      refine debtM.erase (s := S 117) (s0 := S4 117) hM.2.2.2.2.2.2 hi i7 (fun j j1 j2 hj => ?_) ?_ (fun j h1 h2 => ?_)
      · rw [← hS4, up2_at, if_neg (by omega), ← hS3, up2_at, if_neg hj, o2 _ (by omega)]
      · rw [k5, if_neg (by omega), ← hS4, up2_at, if_pos rfl]
      · rw [k5]
        by_cases hj : 76 + 3 * i ≤ j
        · rw [if_pos ⟨hj, h2⟩, if_pos hj]
        · rw [if_neg (by omega), if_neg hj]
  · refine ⟨S3, ?_, O3, fin _ (fun j h1 h2 => ?_) ?_⟩
    · rw [e0, if_neg (fun q => h0 ((nI_eq (by omega) (by decide)).mp q))]
    · rw [← hS3, up2_at, if_neg (by omega)]
    · unfold lessL
      rw [if_neg h0]
      exact debtM.set hM.2.2.2.2.2.2 hg i7 (fun j hj => by
        rw [← hS3, up2_at, o2 _ (by omega)])
theorem op_pay (h : Sim b K S Q g) : Both b S Q g (fun h => fX8_pay h b x) (fun h => fX9_pay h (b + 116) x) := by
  obtain ⟨⟨a, hI, hC, hM⟩, -, -, -, -, hg⟩ := id h
  have c1 : RepW S 12 (fW a) := hC.1
  obtain ⟨c8a, c8b⟩ := hC.2.2.2.2.2.2
  have c8a' : S 5 0 = nI (fDb a).length := c8a
  obtain ⟨m7a, m7b⟩ := hM.2.2.2.2.2.2
  have m1 := hM.1
  have i1 := hI.1
  have hl := hI.2.2.2.2.2.2.1
  have n117 : ∀ S1 : Nat → Nat → Int32, (∀ r, r ≠ 115 → S1 r = S r) → S1 117 = S 117 := fun S1 hS => hS _ (by decide)
  rcases isN_or x (fDb a).length with ⟨i, hi, rfl⟩ | hx
  · generalize ht : (fDb a)[i] = t
    have hgt : (fDb a)[i]? = some t := by rw [List.getElem?_eq_getElem hi, ht]
    have hmem := List.mem_of_getElem? hgt
    obtain ⟨q1, q2, q3⟩ := c8b i _ hgt
    obtain ⟨p1, p2, p3⟩ := m7b i _ hgt
    have q1' : S 6 i = nI t.1 := q1
    have q2' : S 7 i = nI t.2.1 := q2
    have q3' : S 8 i = nI t.2.2 := q3
    have hbi := hI.db _ hmem
    have hb := hI.2.2.2.2.2.2.2 _ hmem
    have hw1 := i1.2.2.2.2.1 t.1
    have ci1 : ¬ nI i < nI 0 := fun q => absurd ((nI_ltI (by omega) (by decide)).mp q) (by omega)
    have ci2 : nI i < nI (fDb a).length := (nI_ltI (by omega) (by omega)).mpr hi
    have e0 : 76 + 3 * i + 0 = 76 + 3 * i := rfl
    have w5 : S (12 + 2) t.1 = nI ((fW a).1 2 t.1) := (c1.2.2.2.1 t.1 hb.1).2
    have ch := c_holds (b := b) (Q := Q) (g := g) (t := t) w12 c1 i1 (show i < 8 by omega) q1' q2' hbi.1 hbi.2
    -- the reference behind its heaps
    have mh : ∀ S1 : Nat → Nat → Int32, S1 117 = S 117 → ∀ g, ∃ S', fX9_findHeaps (E b S1 Q g) (b + 116) = some (E b S' Q g) ∧ Off [125] S1 S' ∧ S' 117 = S 117 ∧ fX9_holds (E b S' Q g) (b + 116) (nI i) = some (if holdsP (fW a) t = true then nI 1 else nI 0) := by
      intro S1 hS g
      obtain ⟨S', e1, o1, L1⟩ := m_findHeaps (b := b) (S := S1) (Q := Q) (g := g) (by rw [hS]; exact m1) i1
      have e117 : S' 117 = S 117 := by rw [o1 117 (by decide), hS]
      exact ⟨S', e1, o1, e117, m_holds (t := t) L1 (show i < 8 by omega) (by rw [e117]; exact p1) (by rw [e117]; exact p2) hbi.1 hbi.2⟩
    have hfin : ∀ n : Nat, n < 7 → True := fun _ _ => trivial
    by_cases hh : holdsP (fW a) t = true
    · rw [if_pos hh] at ch
      by_cases h0 : (fW a).1 2 t.1 = 0
      · refine Both.lookErr (S1 := S) (Q1 := Q) (g1 := g) h 3 (by decide) ?_ (fun _ _ => rfl) Lkg.rf ⟨rfl, rfl⟩ (fun S2 hS => ?_)
        · unfold fX8_pay
          simp (disch := omega) only [rO, rF, rW w12, rN, bind_sm, c8a', ci1, ci2, if_true, if_false, q1', q2', ch, z10, w5, h0]
        · have e2 := n117 S2 hS
          obtain ⟨S', e1, o1, e117, mhd⟩ := mh S2 e2 g
          rw [if_pos hh] at mhd
          refine ⟨S', ?_, OffR.of o1 (by decide), by rw [e117, e2]⟩
          have q1 : S2 117 3 = nI (fDb a).length := by rw [e2, m7a]
          have q5 : S' 117 (8 + 2 * t.1 + 1) = nI 0 := by rw [e117, (m1.2.2.2.1 t.1 hb.1).2, h0]
          unfold fX9_pay
          simp (disch := omega) only [rM, rN, bind_sm, q1, m_inS1, z10, if_false, e1, m_owed, e0, e117, p1, p2, mhd, m_of, q5, if_true]
      · generalize hP : min t.2.2 ((fW a).1 2 t.1) = P
        generalize hS1 : up2 S (12 + 2) t.1 (nI ((fW a).1 2 t.1 - P)) = S1
        have r1 : RepW S1 12 (upW (fW a) 2 t.1 ((fW a).1 2 t.1 - P)) := by rw [← hS1]; exact c1.up (by omega) (fun q hq => up2_row (fun e => hq e.symm)) (fun j => up2_at)
        have k1 : Winv (upW (fW a) 2 t.1 ((fW a).1 2 t.1 - P)) := i1.up (by omega) (by rw [if_neg (by decide), if_pos rfl]; omega)
        have pp1 : (upW (fW a) 2 t.1 ((fW a).1 2 t.1 - P)).1 0 1 = (fW a).1 0 1 := by rw [upW_at, if_neg (by omega)]
        have hw2 := k1.2.2.2.2.1 t.2.1
        have v2 : S1 (12 + 2) t.2.1 = nI ((upW (fW a) 2 t.1 ((fW a).1 2 t.1 - P)).1 2 t.2.1) := (r1.2.2.2.1 t.2.1 (by rw [pp1]; exact hb.2.1)).2
        generalize hS2 : up2 S1 (12 + 2) t.2.1 (nI (min ((upW (fW a) 2 t.1 ((fW a).1 2 t.1 - P)).1 2 t.2.1 + P) 9999)) = S2
        have r2 : RepW S2 12 (payW (fW a) t P) := by rw [← hS2]; exact r1.up (by omega) (fun q hq => up2_row (fun e => hq e.symm)) (fun j => up2_at)
        have o2 : ∀ r, r ≠ 12 + 2 → S2 r = S r := fun r hr => by rw [← hS2, up2_row (fun q => hr q.symm), ← hS1, up2_row (fun q => hr q.symm)]
        have hD2 : debtC S2 4 (fDb a) := hC.2.2.2.2.2.2.fr (by rw [o2 _ (by omega)]) (o2 _ (by omega)) (o2 _ (by omega)) (o2 _ (by omega))
        obtain ⟨S3, e3, o3, d3⟩ := c_lessen (b := b) (Q := Q) (g := g) (i := i) (p := P) hD2 hl hi (by rw [ht]; exact hb.2.2) (by rw [ht]; omega)
        rw [ht] at d3
        have n3 : ∀ r, (r < 5 ∨ 9 ≤ r) → r ≠ 12 + 2 → S3 r = S r := fun r h1 h2 => by rw [o3 r h1, o2 r h2]
        have e117 : S3 117 = S 117 := n3 _ (by omega) (by omega)
        obtain ⟨S4, e4, o4, e4', mhd⟩ := mh S3 e117 g
        rw [if_pos hh] at mhd
        obtain ⟨S5, e5, o5, f5⟩ := m_pay (b := b) (S := S4) (Q := Q) (g := g) (by rw [e4']; exact hM) hI hi ht (p := P) (by omega) (by omega)
        obtain ⟨-, c2, c4, c5, c6, c7, c8⟩ := id hC
        refine Both.act h (a := payA a i t P) (S1 := S3) (Q1 := Q) (g1 := g) (r := nI P) ?_ (fun r hr => n3 r (by omega) (by omega)) Lkg.rf rfl hg (payA_inv hI hmem) ⟨r2.fr (fun m hm => o3 _ (by omega)), c2, c4.fr (by rw [n3 _ (by omega) (by omega)]) (n3 _ (by omega) (by omega)), c5.fr (by rw [n3 _ (by omega) (by omega)]) (n3 _ (by omega) (by omega)), c6.fr (by rw [n3 _ (by omega) (by omega)]) (n3 _ (by omega) (by omega)), by rw [n3 _ (by omega) (by omega)]; exact c7, d3⟩ ⟨S5, ?_, OffR.of (X := [125, 117]) ((o4.mono (by decide)).tr (o5.mono (by decide))) (by decide), f5⟩
        · unfold fX8_pay
          simp (disch := omega) only [rO, rF, rW w12, rN, bind_sm, c8a', ci1, ci2, if_true, if_false, q1', q2', ch, z10, w5, nI_eq, h0, Nat.one_ne_zero, q3', imin_nI, hP, nI_subI, hS1, v2, nI_add, hS2, e3]
        · have q1 : S3 117 3 = nI (fDb a).length := by rw [e117, m7a]
          have q5 : S 117 (8 + 2 * t.1 + 1) = nI ((fW a).1 2 t.1) := (m1.2.2.2.1 t.1 hb.1).2
          unfold fX9_pay
          simp (disch := omega) only [rM, rN, bind_sm, q1, m_inS1, z10, if_false, e4, m_owed, e0, e4', p1, p2, p3, mhd, m_of, q5, nI_eq, h0, nI_leI, Nat.one_ne_zero]
          by_cases hle : (fW a).1 2 t.1 ≤ t.2.2
          · rw [if_pos hle, show (fW a).1 2 t.1 = P by omega, e5]
          · rw [if_neg hle, show t.2.2 = P by omega, e5]
    · rw [if_neg hh] at ch
      refine Both.lookErr (S1 := S) (Q1 := Q) (g1 := g) h 3 (by decide) ?_ (fun _ _ => rfl) Lkg.rf ⟨rfl, rfl⟩ (fun S2 hS => ?_)
      · unfold fX8_pay
        simp (disch := omega) only [rO, rF, rW w12, rN, bind_sm, c8a', ci1, ci2, if_true, if_false, q1', q2', ch]
      · have e2 := n117 S2 hS
        obtain ⟨S', e1, o1, e117, mhd⟩ := mh S2 e2 g
        rw [if_neg hh] at mhd
        refine ⟨S', ?_, OffR.of o1 (by decide), by rw [e117, e2]⟩
        have q1 : S2 117 3 = nI (fDb a).length := by rw [e2, m7a]
        unfold fX9_pay
        simp (disch := omega) only [rM, rN, bind_sm, q1, m_inS1, z10, if_false, e1, m_owed, e0, mhd, if_true]
  · refine Both.err h 1 (by decide) ?_ (fun S1 hS => ?_)
    · unfold fX8_pay
      simp (disch := omega) only [rO, rF, rN, bind_sm, c8a']
      rcases notN hx (by omega) with q | ⟨q, -, q2⟩
      · rw [if_pos q]
      · rw [if_neg q, if_neg q2]
    · have q1 : S1 117 3 = nI (fDb a).length := by rw [n117 S1 hS, m7a]
      unfold fX9_pay
      simp (disch := omega) only [rM, rN, bind_sm, q1, m_inS0 hx, if_true]
end OQ
