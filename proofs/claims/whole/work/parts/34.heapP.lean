/-! ===== bits ===== -/
theorem bit_or (a c : Nat) : nI a ||| nI c = nI (a ||| c) := by
  apply Int32.toBitVec_inj.mp
  exact (BitVec.ofNat_or).symm
theorem bit_and (a c : Nat) : nI a &&& nI c = nI (a &&& c) := by
  apply Int32.toBitVec_inj.mp
  exact (BitVec.ofNat_and).symm
theorem bit_sh : ∀ i < 31, nI 1 <<< (nI i &&& nI 31) = nI (2 ^ i) := by decide +kernel
theorem bit_t0 : ∀ a < 256, ∀ i < 8, ((nI a >>> (nI i &&& nI 31)) &&& nI 1) = nI ((a >>> i) &&& 1) := by decide +kernel
theorem bit_t {a i : Nat} (ha : a < 256) (hi : i < 8) : ((nI a >>> (nI i &&& nI 31)) &&& nI 1 = nI 1) ↔ a.testBit i = true := by
  rw [bit_t0 a ha i hi, Nat.and_one_is_mod, nI_eq (by omega) (by decide), Nat.testBit_eq_decide_div_mod_eq, Nat.shiftRight_eq_div_pow]
  simp
theorem bit_pow {i j : Nat} : (2 ^ i).testBit j = true ↔ j = i := by
  rw [Nat.testBit_two_pow]
  simp [eq_comm]
theorem bit_0 (a : Nat) : a = 0 ↔ ∀ j, a.testBit j = false := ⟨fun h j => by rw [h]; exact Nat.zero_testBit j, fun h => Nat.eq_of_testBit_eq (fun j => by rw [h, Nat.zero_testBit])⟩
theorem bit_or_lt {a c n : Nat} (ha : a < 2 ^ n) (hc : c < 2 ^ n) : a ||| c < 2 ^ n := Nat.or_lt_two_pow ha hc
theorem bit_pow_lt {i n : Nat} (h : i < n) : 2 ^ i < 2 ^ n := Nat.pow_lt_pow_right (by decide) h
/-! ===== heaps, as labels ===== -/
def labM (L : Nat → Nat) (a c : Nat) : Nat → Nat := fun p => if L p = L a ∨ L p = L c then min (L a) (L c) else L p
def labG : List Nat → (Nat → Nat) → Nat → Nat
  | [], L => L
  | [_], L => L
  | a :: c :: t, L => labG (c :: t) (labM L a c)
def labN (w : Wo) : Nat → Nat → Nat
  | 0 => id
  | k + 1 => labG (w.2 k) (labN w k)
def labW (w : Wo) : Nat → Nat := labN w (w.1 0 2)
theorem labM_le {L : Nat → Nat} {a c : Nat} (h : ∀ p, L p ≤ p) (p : Nat) : labM L a c p ≤ p := by
  unfold labM
  have := h p
  split
  next q => rcases q with q | q <;> omega
  next => exact this
theorem labM_eq {L : Nat → Nat} {a c p q : Nat} (h : L p = L q) : labM L a c p = labM L a c q := by unfold labM; rw [h]
theorem labM_ac {L : Nat → Nat} {a c : Nat} : labM L a c a = labM L a c c := by unfold labM; simp
theorem labM_f {L f : Nat → Nat} {a c : Nat} (h : ∀ p, f (L p) = f p) (he : f a = f c) (p : Nat) : f (labM L a c p) = f p := by
  unfold labM
  have ha := h a
  have hc := h c
  have hp := h p
  split
  next q =>
    have hm : f (min (L a) (L c)) = f a := by
      rcases Nat.le_total (L a) (L c) with hl | hl
      · rw [Nat.min_eq_left hl, ha]
      · rw [Nat.min_eq_right hl, hc, he]
    rw [hm]
    rcases q with q | q
    · rw [← hp, q, ha]
    · rw [← hp, q, hc, he]
  next => exact hp
theorem labG_le : ∀ (l : List Nat) (L : Nat → Nat), (∀ p, L p ≤ p) → ∀ p, labG l L p ≤ p
  | [], _, h => h
  | [_], _, h => h
  | a :: c :: t, L, h => labG_le (c :: t) (labM L a c) (labM_le h)
theorem labG_eq : ∀ (l : List Nat) (L : Nat → Nat) (p q : Nat), L p = L q → labG l L p = labG l L q
  | [], _, _, _, h => h
  | [_], _, _, _, h => h
  | a :: c :: t, L, p, q, h => labG_eq (c :: t) (labM L a c) p q (labM_eq h)
theorem labG_in : ∀ (l : List Nat) (L : Nat → Nat), ∀ p ∈ l, labG l L p = labG l L (l.headD 0)
  | [], _, _, h => by cases h
  | [x], _, p, h => by rw [List.mem_singleton.mp h]; rfl
  | a :: c :: t, L, p, h => by
    show labG (c :: t) (labM L a c) p = labG (c :: t) (labM L a c) a
    have ha : labG (c :: t) (labM L a c) a = labG (c :: t) (labM L a c) c := labG_eq _ _ _ _ labM_ac
    rcases List.mem_cons.mp h with rfl | h
    · rfl
    · rw [ha]; exact labG_in (c :: t) (labM L a c) p h
theorem labG_f {f : Nat → Nat} : ∀ (l : List Nat) (L : Nat → Nat), (∀ p, f (L p) = f p) → (∀ a ∈ l, ∀ c ∈ l, f a = f c) → ∀ p, f (labG l L p) = f p
  | [], _, h, _ => h
  | [_], _, h, _ => h
  | a :: c :: t, L, h, h2 => labG_f (c :: t) (labM L a c) (labM_f h (h2 a (by simp) c (by simp))) (fun x hx y hy => h2 x (List.mem_cons_of_mem _ hx) y (List.mem_cons_of_mem _ hy))
theorem labN_le (w : Wo) : ∀ (n p : Nat), labN w n p ≤ p
  | 0, p => Nat.le_refl p
  | n + 1, p => labG_le _ _ (labN_le w n) p
theorem labN_f {w : Wo} {f : Nat → Nat} : ∀ (n : Nat), (∀ k < n, ∀ a ∈ w.2 k, ∀ c ∈ w.2 k, f a = f c) → ∀ p, f (labN w n p) = f p
  | 0, _, p => rfl
  | n + 1, h, p => labG_f _ _ (labN_f n (fun k hk => h k (by omega))) (h n (by omega)) p
theorem labN_in {w : Wo} : ∀ (n k : Nat), k < n → ∀ a ∈ w.2 k, ∀ c ∈ w.2 k, labN w n a = labN w n c
  | 0, k, h => by omega
  | n + 1, k, h => fun a ha c hc => by
    by_cases hk : k = n
    · subst hk
      show labG (w.2 k) (labN w k) a = labG (w.2 k) (labN w k) c
      rw [labG_in _ _ a ha, labG_in _ _ c hc]
    · exact labG_eq _ _ _ _ (labN_in n k (by omega) a ha c hc)
theorem labW_idem {w : Wo} (p : Nat) : labW w (labW w p) = labW w p := labN_f (f := labW w) (w.1 0 2) (fun k hk a ha c hc => labN_in _ k hk a ha c hc) p
/-- a set that holds p, is closed under groups, and holds none but p's heap is p's heap -/
theorem labW_set {w : Wo} {p : Nat} (H : Nat → Bool) (hp : H p = true) (hs : ∀ q, H q = true → labW w q = labW w p) (hc : ∀ k < w.1 0 2, ∀ a ∈ w.2 k, ∀ c ∈ w.2 k, H a = true → H c = true) (q : Nat) : H q = true ↔ labW w q = labW w p := by
  refine ⟨hs q, fun h => ?_⟩
  have key := labN_f (w := w) (f := fun q => if H q = true then 0 else 1) (w.1 0 2) (fun k hk a ha c hc' => by
    have h1 := hc k hk a ha c hc'
    have h2 := hc k hk c hc' a ha
    by_cases ha' : H a = true
    · simp [ha', h1 ha']
    · have : ¬ H c = true := fun q => ha' (h2 q)
      simp [ha', this])
  have k1 := key q
  have k2 := key p
  have e : labN w (w.1 0 2) q = labN w (w.1 0 2) p := h
  rw [e, k2] at k1
  simp only [hp, if_true] at k1
  by_cases hq : H q = true
  · exact hq
  · rw [if_neg hq] at k1; cases k1
/-! ===== rounds of joining ===== -/
theorem countP_lt {α : Type} {p q : α → Bool} : ∀ (l : List α), (∀ x ∈ l, p x = true → q x = true) → (∃ x ∈ l, q x = true ∧ p x = false) → l.countP p < l.countP q
  | [], _, ⟨x, h, _⟩ => by cases h
  | a :: t, h1, ⟨x, hx, h2, h3⟩ => by
    have hm : t.countP p ≤ t.countP q := List.countP_mono_left (fun y hy => h1 y (List.mem_cons_of_mem _ hy))
    rw [List.countP_cons, List.countP_cons]
    rcases List.mem_cons.mp hx with rfl | hx
    · rw [h2, h3]; simp; omega
    · have := countP_lt t (fun y hy => h1 y (List.mem_cons_of_mem _ hy)) ⟨x, hx, h2, h3⟩
      cases hpa : p a
      · cases q a <;> simp <;> omega
      · rw [h1 a List.mem_cons_self hpa]; simp; omega
/-- faces of k within H -/
def inH (w : Wo) (H : Nat) (k : Nat) : Bool := (w.2 k).all (fun q => H.testBit q)
def meetsH (w : Wo) (H : Nat) (k : Nat) : Bool := (w.2 k).any (fun q => H.testBit q)
/-- no more to join, or so many men joined -/
def doneH (w : Wo) (H r : Nat) : Prop := (∀ k < w.1 0 2, meetsH w H k = true → inH w H k = true) ∨ r ≤ (List.range (w.1 0 2)).countP (inH w H)
theorem doneH_end {w : Wo} {H : Nat} (h : doneH w H (w.1 0 2)) : ∀ k < w.1 0 2, meetsH w H k = true → inH w H k = true := by
  rcases h with h | h
  · exact h
  · intro k hk _
    have h2 : (List.range (w.1 0 2)).countP (inH w H) = (List.range (w.1 0 2)).length := by
      have := List.countP_le_length (p := inH w H) (l := List.range (w.1 0 2))
      rw [List.length_range] at this ⊢
      omega
    exact (List.countP_eq_length.mp h2) k (List.mem_range.mpr hk)
theorem inH_mono {w : Wo} {H H' k : Nat} (h : ∀ j, H.testBit j = true → H'.testBit j = true) (h2 : inH w H k = true) : inH w H' k = true := by
  unfold inH at *
  rw [List.all_eq_true] at *
  exact fun x hx => h x (h2 x hx)
theorem meetsH_mono {w : Wo} {H H' k : Nat} (h : ∀ j, H.testBit j = true → H'.testBit j = true) (h2 : meetsH w H k = true) : meetsH w H' k = true := by
  unfold meetsH at *
  rw [List.any_eq_true] at *
  obtain ⟨x, hx, hx2⟩ := h2
  exact ⟨x, hx, h x hx2⟩
/-- a round: every man that met the set ahead of it stands within it behind it -/
theorem doneH_step {w : Wo} {H H' r : Nat} (hd : doneH w H r) (hm : ∀ j, H.testBit j = true → H'.testBit j = true) (hj : ∀ k < w.1 0 2, meetsH w H k = true → inH w H' k = true) (hs : (∀ k < w.1 0 2, meetsH w H k = true → inH w H k = true) → H' = H) : doneH w H' (r + 1) := by
  rcases hd with h | h
  · left; rw [hs h]; exact h
  · by_cases hc : ∀ k < w.1 0 2, meetsH w H k = true → inH w H k = true
    · left; rw [hs hc]; exact hc
    · right
      have hc2 : ∃ k, k < w.1 0 2 ∧ meetsH w H k = true ∧ ¬ inH w H k = true := by
        refine Classical.byContradiction (fun hn => hc (fun k hk hmk => Classical.byContradiction (fun hi => hn ⟨k, hk, hmk, hi⟩)))
      obtain ⟨k, hk, hmk, hik⟩ := hc2
      have := countP_lt (p := inH w H) (q := inH w H') (List.range (w.1 0 2)) (fun x _ hx => inH_mono hm hx) ⟨k, List.mem_range.mpr hk, hj k hk hmk, by simpa using hik⟩
      omega
