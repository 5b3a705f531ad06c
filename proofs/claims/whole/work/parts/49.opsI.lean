/-! ===== a crossing, booked ===== -/
def crossA (a : Fs) (k p : Nat) : Fs := (crossP (fT a) (fW a) k p, fT a, fTp a, fWt a, ((10 * k + p) :: fBk a).take 24, fZ a, fDb a)
section OI
variable {b : Nat} {S S' S1 S2 : Nat → Nat → Int32} {Q Q' Q1 : Nat → Nat → Nat} {g g' g1 h : Hp} {f k j p n u c c0 c1 lo hi i d e : Nat} {x y z v r : Int32} {w : Wo} {T : Tx} {K K2 : Nat → Nat} {a a' : Fs} {s s' : Nat → Int32}
theorem crossA_inv (h : Finv a) (hk : k < (fW a).1 0 2) (hp : p < (fW a).1 0 1) (ht : (fW a).1 0 0 < 9999) : Finv (crossA a k p) := by
  obtain ⟨i1, i2, i3, i4, i5, i6, i7, i8⟩ := h
  have h4 := i1.2.2.1
  have h8 := i1.2.1
  refine ⟨crossP_inv i1 hp (by omega), by simp [crossA, fW, crossP] at *; omega, i3, i4, i5, ⟨?_, ?_⟩, i7, fun t ht => ?_⟩
  · show (((10 * k + p) :: fBk a).take 24).length ≤ 24
    rw [List.length_take]; omega
  · intro t ht
    have ht' : t ∈ ((10 * k + p) :: fBk a).take 24 := ht
    rcases List.mem_cons.mp (List.mem_of_mem_take ht') with rfl | h
    · omega
    · exact i6.2 t h
  · have := i8 t ht
    have e : (fW (crossA a k p)).1 0 1 = (fW a).1 0 1 := by simp [crossA, fW, crossP]
    rw [e]; exact this
theorem take_cons {l : List Nat} {m : Nat} (hl : l.length ≤ 24) : ((m :: l).take 24).length = min (l.length + 1) 24 := by rw [List.length_take, List.length_cons, Nat.min_comm]
theorem rowIs.push {f f' : Nat → Int32} {o m : Nat} {l : List Nat} (h : rowIs f o l) (h0 : f' o = nI m) (h1 : ∀ i < 23, f' (o + 1 + i) = f (o + i)) : rowIs f' o ((m :: l).take 24) := by
  intro i v hv
  rw [List.getElem?_take] at hv
  split at hv
  next hi =>
    cases i with
    | zero => simp at hv; rw [Nat.add_zero, h0, hv]
    | succ i =>
      simp at hv
      rw [show o + (i + 1) = o + 1 + i by omega, h1 i (by omega)]
      exact h i v hv
  next => cases hv
theorem c_carryAndBook (hC : FerC b K S Q g 4 a) (hI : Finv a) (hk : k < (fW a).1 0 2) (hp : p < (fW a).1 0 1) (hm : metP (fW a) k p = true) : ∃ S' g', fX1_carryAndBook (E b S Q g) (b + 4) (nI k) (nI p) = some (nI (paysP (fT a) (fW a) k p), E b S' Q g') ∧ OffC S S' ∧ Lkg K g g' ∧ FerC b K S' Q g' 4 (crossA a k p) := by
  obtain ⟨c1, ⟨c2, c3⟩, c4, c5, ⟨c6a, c6b⟩, c7, c8⟩ := hC
  obtain ⟨i1, i2, i3, i4, i5, i6, i7, i8⟩ := hI
  have hl := i6.1
  have h3 := i1.2.2.1
  have h2 := i1.2.1
  have hmt : (fW a).1 5 k = (fW a).1 1 p := by unfold metP at hm; simpa using hm
  generalize hS1 : up2 (up2 (cpR S 11 11 0 1 23) 11 0 (nI (10 * k + p))) 4 7 (nI (min ((fBk a).length + 1) 24)) = S1
  have ne : ∀ r, r ≠ 4 → r ≠ 11 → S1 r = S r := fun r h1 h2 => by rw [← hS1, up2_row (by omega), up2_row (by omega), cpR_ne h2]
  have n4 : ∀ j, j ≠ 7 → S1 4 j = S 4 j := fun j hj => by rw [← hS1, up2_at, if_neg hj, up2_ne (by omega), cpR_ne (by omega)]
  obtain ⟨S2, g2, e2, o2, r2, l2⟩ := c_carry (b := b) (S := S1) (Q := Q) (g := g) (K := K) (T := fT a) w12 (c1.fr (fun m hm => ne _ (by omega) (by omega))) i1 hk hp hmt c2 c3 i3
  have ne2 : ∀ r, r < 12 → S2 r = S1 r := fun r hr => o2 r (by omega)
  refine ⟨S2, g2, ?_, fun r hr => ?_, l2, r2, ⟨c2.lk l2, c3.lk l2⟩, ?_, ?_, ⟨?_, ?_⟩, ?_, ?_⟩
  · have cp : acopy (E b S Q g) (b + 11) (nI 0) (b + 11) (nI 1) (nI 23) = some (E b (cpR S 11 11 0 1 23) Q g) := E_acopy (c := 11) (c1 := 11) rfl rfl (by decide) (by decide) (by decide) (by decide)
    unfold fX1_carryAndBook
    simp (disch := omega) only [rF, rN, bind_sm, cp, pk_mul, nI_add]
    rw [up2_ne (show 4 ≠ 11 by omega), cpR_ne (show 4 ≠ 11 by omega), c6a]
    simp (disch := omega) only [nI_add, imin_nI, hS1, e2, bind_sm]
  · rw [o2 r (by omega), ne r (by omega) (by omega)]
  · exact c4.fr (by rw [ne2 _ (by omega), n4 _ (by omega)]) (by rw [ne2 _ (by omega), ne _ (by omega) (by omega)])
  · exact c5.fr (by rw [ne2 _ (by omega), n4 _ (by omega)]) (by rw [ne2 _ (by omega), ne _ (by omega) (by omega)])
  · show S2 4 7 = nI (((10 * k + p) :: fBk a).take 24).length
    rw [ne2 _ (by omega), ← hS1, up2_at, if_pos rfl, take_cons hl]
  · show rowIs (S2 (4 + 7)) 0 (((10 * k + p) :: fBk a).take 24)
    rw [ne2 _ (by omega)]
    refine c6b.push ?_ (fun i hi => ?_)
    · rw [← hS1, up2_ne (by omega), up2_at, if_pos rfl]
    · rw [← hS1, up2_ne (by omega), up2_at, if_neg (by omega), cpR_at, if_pos (by omega)]
      congr 1
      omega
  · rw [ne2 _ (by omega), n4 _ (by omega)]; exact c7
  · exact c8.fr (by rw [ne2 _ (by omega), ne _ (by omega) (by omega)]) (by rw [ne2 _ (by omega), ne _ (by omega) (by omega)]) (by rw [ne2 _ (by omega), ne _ (by omega) (by omega)]) (by rw [ne2 _ (by omega), ne _ (by omega) (by omega)])
theorem m_cross (hM : FerM (S 117) a) (hI : Finv a) (hk : k < (fW a).1 0 2) (hp : p < (fW a).1 0 1) : ∃ S', fX9_crosses (E b S Q g) (b + 116) (nI k) (nI p) = some (nI (paysP (fT a) (fW a) k p), E b S' Q g) ∧ Off [117, 123, 124] S S' ∧ FerM (S' 117) (crossA a k p) ∧ ∀ j, 124 ≤ j → S' 117 j = S 117 j := by
  obtain ⟨m1, m2, m3, m4, ⟨m5a, m5b⟩, m6, m7⟩ := hM
  obtain ⟨i1, i2, i3, i4, i5, i6, i7, i8⟩ := hI
  obtain ⟨S', e1, o1, r1, k1, k2, k3, k4⟩ := m_crosses (b := b) (Q := Q) (g := g) m1 i1 m2 i3 hk hp m5a i6.1
  refine ⟨S', e1, o1, ⟨r1, m2.fr i3 (fun j hj => k4 j (by omega)), m3.fr i4.1 (fun j hj => k4 j (by omega)), m4.fr i5 (fun j hj => k4 j (by omega)), ⟨?_, ?_⟩, by rw [k4 _ (by omega)]; exact m6, m7.fr i7 (fun j hj => k4 j (by omega))⟩, fun j hj => k4 j (by omega)⟩
  · show S' 117 4 = nI (((10 * k + p) :: fBk a).take 24).length
    rw [k1, take_cons i6.1]
  · show rowIs (S' 117) 100 (((10 * k + p) :: fBk a).take 24)
    exact m5b.push k2 (fun i hi => k3 i hi)
end OI
