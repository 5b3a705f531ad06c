/-! ===== the class: bits, heaps, counts ===== -/
def facesB : List Nat → Nat
  | [] => 0
  | q :: t => facesB t ||| 2 ^ q
theorem facesB_bit : ∀ (l : List Nat) (j : Nat), (facesB l).testBit j = true ↔ j ∈ l
  | [], j => by simp [facesB]
  | q :: t, j => by
    rw [facesB, Nat.testBit_or, Bool.or_eq_true, facesB_bit t j, bit_pow, List.mem_cons]
    exact Or.comm
theorem facesB_lt : ∀ (l : List Nat), (∀ q ∈ l, q < 8) → facesB l < 2 ^ 8
  | [], _ => by decide
  | q :: t, h => bit_or_lt (facesB_lt t (fun x hx => h x (List.mem_cons_of_mem _ hx))) (bit_pow_lt (h q List.mem_cons_self))
theorem bits_ext {a c : Nat} (h : ∀ j, a.testBit j = true ↔ c.testBit j = true) : a = c := Nat.eq_of_testBit_eq (fun j => by
  have := h j
  cases ha : a.testBit j <;> cases hc : c.testBit j <;> simp_all)
/-- one round of joining, men below i told -/
def rndH (w : Wo) (H : Nat) : Nat → Nat
  | 0 => H
  | k + 1 => if meetsH w (rndH w H k) k = true then rndH w H k ||| facesB (w.2 k) else rndH w H k
def rdsH (w : Wo) (H : Nat) : Nat → Nat
  | 0 => H
  | r + 1 => rndH w (rdsH w H r) (w.1 0 2)
def heapB (w : Wo) (p : Nat) : Nat := rdsH w (2 ^ p) (w.1 0 2)
theorem rndH_mono (w : Wo) (H : Nat) : ∀ (n j : Nat), H.testBit j = true → (rndH w H n).testBit j = true
  | 0, _, h => h
  | k + 1, j, h => by
    rw [rndH]
    split
    · rw [Nat.testBit_or, rndH_mono w H k j h]; rfl
    · exact rndH_mono w H k j h
theorem rndH_mono2 (w : Wo) (H : Nat) : ∀ (d n j : Nat), (rndH w H n).testBit j = true → (rndH w H (n + d)).testBit j = true
  | 0, _, _, h => h
  | d + 1, n, j, h => by
    have h2 := rndH_mono2 w H d n j h
    show (rndH w H ((n + d) + 1)).testBit j = true
    rw [rndH]
    split
    · rw [Nat.testBit_or, h2]; rfl
    · exact h2
theorem rndH_join {w : Wo} {H n k : Nat} (hk : k < n) (h : meetsH w H k = true) : inH w (rndH w H n) k = true := by
  have h1 : meetsH w (rndH w H k) k = true := meetsH_mono (rndH_mono w H k) h
  unfold inH
  rw [List.all_eq_true]
  intro q hq
  have h2 : (rndH w H (k + 1)).testBit q = true := by
    rw [rndH, if_pos h1, Nat.testBit_or, (facesB_bit _ q).mpr hq, Bool.or_true]
  have := rndH_mono2 w H (n - (k + 1)) (k + 1) q h2
  rw [show k + 1 + (n - (k + 1)) = n by omega] at this
  exact this
theorem or_same {a c : Nat} (h : ∀ j, c.testBit j = true → a.testBit j = true) : a ||| c = a := bits_ext (fun j => by
  rw [Nat.testBit_or, Bool.or_eq_true]
  exact ⟨fun q => q.elim id (h j), Or.inl⟩)
theorem rndH_same {w : Wo} {H : Nat} {N : Nat} (h : ∀ k < N, meetsH w H k = true → inH w H k = true) : ∀ n, n ≤ N → rndH w H n = H
  | 0, _ => rfl
  | n + 1, hn => by
    rw [rndH, rndH_same h n (by omega)]
    split
    next hm =>
      refine or_same (fun j hj => ?_)
      have h2 := h n (by omega) hm
      unfold inH at h2
      rw [List.all_eq_true] at h2
      exact h2 j ((facesB_bit _ j).mp hj)
    next => rfl
theorem rdsH_done (w : Wo) (H : Nat) : ∀ r, doneH w (rdsH w H r) r
  | 0 => Or.inr (Nat.zero_le _)
  | r + 1 => doneH_step (rdsH_done w H r) (rndH_mono w _ _) (fun k hk h => rndH_join hk h) (fun h => rndH_same h _ (Nat.le_refl _))
theorem rdsH_mono (w : Wo) (H : Nat) : ∀ (r j : Nat), H.testBit j = true → (rdsH w H r).testBit j = true
  | 0, _, h => h
  | r + 1, j, h => rndH_mono w _ _ j (rdsH_mono w H r j h)
theorem rndH_lab {w : Wo} {H p : Nat} (h : ∀ q, H.testBit q = true → labW w q = labW w p) : ∀ n, n ≤ w.1 0 2 → ∀ q, (rndH w H n).testBit q = true → labW w q = labW w p
  | 0, _, q, hq => h q hq
  | n + 1, hn, q, hq => by
    have ih := rndH_lab h n (by omega)
    rw [rndH] at hq
    split at hq
    next hm =>
      rw [Nat.testBit_or, Bool.or_eq_true] at hq
      rcases hq with hq | hq
      · exact ih q hq
      · unfold meetsH at hm
        rw [List.any_eq_true] at hm
        obtain ⟨a, ha, ha2⟩ := hm
        rw [← ih a ha2]
        exact labN_in _ n (by omega) q ((facesB_bit _ q).mp hq) a ha
    next => exact ih q hq
theorem rdsH_lab {w : Wo} {H p : Nat} (h : ∀ q, H.testBit q = true → labW w q = labW w p) : ∀ r q, (rdsH w H r).testBit q = true → labW w q = labW w p
  | 0 => h
  | r + 1 => rndH_lab (rdsH_lab h r) _ (Nat.le_refl _)
theorem heapB_bit (w : Wo) (p q : Nat) : (heapB w p).testBit q = true ↔ labW w q = labW w p := by
  refine labW_set (fun q => (heapB w p).testBit q) (rdsH_mono w _ _ p (bit_pow.mpr rfl)) (rdsH_lab (fun q hq => by rw [bit_pow.mp hq]) _) (fun k hk a ha c hc h => ?_) q
  have h1 := doneH_end (rdsH_done w (2 ^ p) (w.1 0 2)) k hk
  have h2 : meetsH w (rdsH w (2 ^ p) (w.1 0 2)) k = true := by
    unfold meetsH
    rw [List.any_eq_true]
    exact ⟨a, ha, h⟩
  have h3 := h1 h2
  unfold inH at h3
  rw [List.all_eq_true] at h3
  exact h3 c hc
theorem rndH_lt {w : Wo} {H : Nat} (hb : ∀ k, ∀ q ∈ w.2 k, q < 8) (h : H < 2 ^ 8) : ∀ n, rndH w H n < 2 ^ 8
  | 0 => h
  | n + 1 => by
    rw [rndH]
    split
    · exact bit_or_lt (rndH_lt hb h n) (facesB_lt _ (hb n))
    · exact rndH_lt hb h n
theorem rdsH_lt {w : Wo} {H : Nat} (hb : ∀ k, ∀ q ∈ w.2 k, q < 8) (h : H < 2 ^ 8) : ∀ n, rdsH w H n < 2 ^ 8
  | 0 => h
  | n + 1 => rndH_lt hb (rdsH_lt hb h n) _
def knowB (w : Wo) (p : Nat) : Nat → Nat
  | 0 => 0
  | k + 1 => if p ∈ w.2 k then knowB w p k ||| 2 ^ k else knowB w p k
theorem knowB_lt (w : Wo) (p : Nat) : ∀ n, knowB w p n < 2 ^ n
  | 0 => Nat.zero_lt_one
  | n + 1 => by
    have h := knowB_lt w p n
    have h2 : (2 : Nat) ^ n < 2 ^ (n + 1) := bit_pow_lt (by omega)
    rw [knowB]
    split
    · exact bit_or_lt (by omega) h2
    · omega
def sumP (f : Nat → Nat) : Nat → Nat
  | 0 => 0
  | k + 1 => sumP f k + f k
def cntP (f : Nat → Bool) : Nat → Nat
  | 0 => 0
  | k + 1 => if f k = true then cntP f k + 1 else cntP f k
theorem cntP_le (f : Nat → Bool) : ∀ n, cntP f n ≤ n
  | 0 => Nat.le_refl 0
  | n + 1 => by
    have := cntP_le f n
    rw [cntP]
    split <;> omega
theorem cntP_mono (f : Nat → Bool) : ∀ (d n : Nat), cntP f n ≤ cntP f (n + d)
  | 0, n => Nat.le_refl _
  | d + 1, n => by
    have := cntP_mono f d n
    show cntP f n ≤ cntP f ((n + d) + 1)
    rw [cntP]
    split <;> omega
theorem cntP_inj {f : Nat → Bool} {p q : Nat} (hp : f p = true) (hq : f q = true) (h : cntP f p = cntP f q) : p = q := by
  have key : ∀ a c, f a = true → a < c → cntP f a < cntP f c := fun a c ha hac => by
    have h1 : cntP f (a + 1) = cntP f a + 1 := by rw [cntP, if_pos ha]
    have h2 := cntP_mono f (c - (a + 1)) (a + 1)
    rw [show a + 1 + (c - (a + 1)) = c by omega] at h2
    omega
  rcases Nat.lt_trichotomy p q with h1 | h1 | h1
  · have := key p q hp h1; omega
  · exact h1
  · have := key q p hq h1; omega
section CF
variable {b : Nat} {S : Nat → Nat → Int32} {Q : Nat → Nat → Nat} {g h : Hp} {k j p n u c c0 c1 : Nat} {x y z v : Int32} {w : Wo} {T : Tx} {K : Nat → Nat}
theorem Winv.lt8 (hI : Winv w) (k : Nat) : ∀ q ∈ w.2 k, q < 8 := fun q hq => Nat.lt_of_lt_of_le ((hI.2.2.2.2.2.2.2.2.2 k).2 q hq) hI.2.1
theorem facesB_app (l : List Nat) (q : Nat) : facesB (l ++ [q]) = facesB l ||| 2 ^ q := bits_ext (fun j => by
  rw [facesB_bit, Nat.testBit_or, Bool.or_eq_true, facesB_bit, bit_pow, List.mem_append, List.mem_singleton])
theorem c_bitsOfFaces (hc : isW c) (hR : RepW S c w) (hI : Winv w) (hk : k < w.1 0 2) : fX7_bitsOfFaces (E b S Q g) (b + c) (nI k) = some (nI (facesB (w.2 k))) := by
  have hk4 : k < 4 := Nat.lt_of_lt_of_le hk hI.2.2.1
  have hl := hI.len k
  obtain ⟨q1, q2, q3, q4, q5, q6⟩ := hR.2.2.2.2 k hk
  have loop : ∀ (m i : Nat), i ≤ (w.2 k).length → (w.2 k).length - i < m → fX7_bitsOfFaces_4 (E b S Q g) m (b + c) (nI k) (nI (facesB ((w.2 k).take i))) (nI i) = some (nI (facesB (w.2 k))) := by
    intro m
    induction m with
    | zero => intro i _ h; omega
    | succ m ih =>
      intro i hi hm
      rw [fX7_bitsOfFaces_4]
      simp (disch := omega) only [rW hc, rN, bind_sm, q5, nI_leI, pk_mul, nI_add]
      by_cases hle : (w.2 k).length ≤ i
      · rw [if_pos hle, show i = (w.2 k).length by omega, List.take_length]
      · rw [if_neg hle]
        have hlt : i < (w.2 k).length := by omega
        have hv : S (c + 8) (k * 8 + i) = nI (w.2 k)[i] := by rw [Nat.mul_comm]; exact q6.at hlt
        have h8 := hI.lt8 k _ (List.getElem_mem hlt)
        rw [hv, bit_sh _ (by omega), bit_or, ← facesB_app]
        have htk : (w.2 k).take i ++ [(w.2 k)[i]] = (w.2 k).take (i + 1) := by rw [List.take_succ_eq_append_getElem hlt]
        rw [htk]
        exact ih (i + 1) (by omega) (by omega)
  unfold fX7_bitsOfFaces
  simp only [rW hc, rN]
  exact loop 1000 0 (Nat.zero_le _) (by omega)
theorem meetsH_and (w : Wo) (H k : Nat) : meetsH w H k = true ↔ ¬ facesB (w.2 k) &&& H = 0 := by
  rw [bit_0]
  unfold meetsH
  rw [List.any_eq_true]
  constructor
  · rintro ⟨q, hq, hq2⟩ h
    have := h q
    rw [Nat.testBit_and, (facesB_bit _ q).mpr hq, hq2] at this
    cases this
  · intro h
    refine Classical.byContradiction (fun hn => h (fun j => ?_))
    cases hj : (facesB (w.2 k) &&& H).testBit j
    · rfl
    · rw [Nat.testBit_and, Bool.and_eq_true] at hj
      exact absurd ⟨j, (facesB_bit _ j).mp hj.1, hj.2⟩ hn
theorem c_bitsOfHeap (hc : isW c) (hR : RepW S c w) (hI : Winv w) (hp : p < 8) : fX7_bitsOfHeap (E b S Q g) (b + c) (nI p) = some (nI (heapB w p)) := by
  have hm4 := hI.2.2.1
  have hb := hI.lt8
  have h256 : (2 : Nat) ^ 8 < 2 ^ 31 := by decide
  have inner : ∀ (k6 : Nat → Int32 → Int32 → Option Int32) (H r : Nat), H < 2 ^ 8 → ∀ (m i : Nat), i ≤ w.1 0 2 → w.1 0 2 - i < m → fX7_bitsOfHeap_17 k6 (E b S Q g) m (b + c) (nI (rndH w H i)) (nI r) (nI i) = k6 (b + c) (nI (rndH w H (w.1 0 2))) (nI (r + 1)) := by
    intro k6 H r hH m
    induction m with
    | zero => intro i _ h; omega
    | succ m ih =>
      intro i hi hm
      rw [fX7_bitsOfHeap_17]
      simp (disch := omega) only [rW hc, rN, bind_sm, hR.2.2.1, nI_leI, nI_add]
      by_cases hle : w.1 0 2 ≤ i
      · rw [if_pos hle, show i = w.1 0 2 by omega]
      · rw [if_neg hle]
        have h1 := rndH_lt hb hH i
        have h2 := facesB_lt _ (hb i)
        have h3 : facesB (w.2 i) &&& rndH w H i < 2 ^ 31 := Nat.lt_of_le_of_lt Nat.and_le_left (by omega)
        rw [c_bitsOfFaces hc hR hI (by omega), bind_sm, bit_and]
        simp only [nI_eq h3 (show (0 : Nat) < 2 ^ 31 by decide)]
        have e : rndH w H (i + 1) = if meetsH w (rndH w H i) i = true then rndH w H i ||| facesB (w.2 i) else rndH w H i := rfl
        by_cases h0 : facesB (w.2 i) &&& rndH w H i = 0
        · rw [if_pos h0]
          rw [if_neg (fun q => (meetsH_and w _ i).mp q h0)] at e
          rw [← e]
          exact ih (i + 1) (by omega) (by omega)
        · rw [if_neg h0, bit_or]
          rw [if_pos ((meetsH_and w _ i).mpr h0)] at e
          rw [← e]
          exact ih (i + 1) (by omega) (by omega)
  have outer : ∀ (m r : Nat), r ≤ w.1 0 2 → w.1 0 2 - r < m → fX7_bitsOfHeap_6 (E b S Q g) m (b + c) (nI (rdsH w (2 ^ p) r)) (nI r) = some (nI (heapB w p)) := by
    intro m
    induction m with
    | zero => intro i _ h; omega
    | succ m ih =>
      intro r hr hm
      rw [fX7_bitsOfHeap_6]
      simp (disch := omega) only [rW hc, rN, bind_sm, hR.2.2.1, nI_leI]
      by_cases hle : w.1 0 2 ≤ r
      · rw [if_pos hle, show r = w.1 0 2 by omega]; rfl
      · rw [if_neg hle]
        exact (inner (fX7_bitsOfHeap_6 (E b S Q g) m) (rdsH w (2 ^ p) r) r (rdsH_lt hb (bit_pow_lt hp) r) 1000 0 (Nat.zero_le _) (by omega)).trans (ih (r + 1) (by omega) (by omega))
  unfold fX7_bitsOfHeap
  simp only [rW hc, rN]
  rw [bit_sh _ (by omega)]
  exact outer 1000 0 (Nat.zero_le _) (by omega)
theorem heapB_lt (hI : Winv w) (hp : p < 8) : heapB w p < 256 := rdsH_lt hI.lt8 (bit_pow_lt hp) _
theorem c_leastOfHeap (hc : isW c) (hR : RepW S c w) (hI : Winv w) (hp : p < 8) : fX7_leastOfHeap (E b S Q g) (b + c) (nI p) = some (nI (labW w p)) := by
  have hlt := heapB_lt hI hp
  have hle := labN_le w (w.1 0 2) p
  have loop : ∀ (m i : Nat), i ≤ labW w p → p - i < m → fX7_leastOfHeap_8 (E b S Q g) m (nI p) (nI (heapB w p)) (nI i) = some (nI (labW w p)) := by
    intro m
    induction m with
    | zero => intro i _ h; omega
    | succ m ih =>
      intro i hi hm
      have hip : i ≤ p := Nat.le_trans hi hle
      rw [fX7_leastOfHeap_8]
      simp (disch := omega) only [rN, nI_leI, bit_t hlt (show i < 8 by omega), heapB_bit, nI_add]
      by_cases h1 : p ≤ i
      · rw [if_pos h1]
        have : labW w p = p := Nat.le_antisymm hle (by omega)
        rw [this]
      · rw [if_neg h1]
        by_cases h2 : labW w i = labW w p
        · rw [if_pos h2]
          have h3 : labW w i ≤ i := labN_le w (w.1 0 2) i
          rw [show i = labW w p by omega]
        · rw [if_neg h2]
          refine ih (i + 1) ?_ (by omega)
          rcases Nat.lt_or_ge i (labW w p) with h4 | h4
          · exact h4
          · exact absurd (by rw [show i = labW w p by omega]; exact labW_idem p) h2
  unfold fX7_leastOfHeap
  simp only [rW hc, rN, bind_sm, c_bitsOfHeap hc hR hI hp]
  exact loop 1000 0 (Nat.zero_le _) (by omega)
theorem c_bitsOfKnowers (hc : isW c) (hR : RepW S c w) (hI : Winv w) (hp : p < 8) : fX7_bitsOfKnowers (E b S Q g) (b + c) (nI p) = some (nI (knowB w p (w.1 0 2))) := by
  have hm4 := hI.2.2.1
  have loop : ∀ (m i : Nat), i ≤ w.1 0 2 → w.1 0 2 - i < m → fX7_bitsOfKnowers_4 (E b S Q g) m (b + c) (nI p) (nI (knowB w p i)) (nI i) = some (nI (knowB w p (w.1 0 2))) := by
    intro m
    induction m with
    | zero => intro i _ h; omega
    | succ m ih =>
      intro i hi hm
      rw [fX7_bitsOfKnowers_4]
      simp (disch := omega) only [rW hc, rN, bind_sm, hR.2.2.1, nI_leI, nI_add]
      by_cases hle : w.1 0 2 ≤ i
      · rw [if_pos hle, show i = w.1 0 2 by omega]
      · rw [if_neg hle]
        rw [c_knows hc hR hI (by omega) hp, bind_sm]
        have e : knowB w p (i + 1) = if p ∈ w.2 i then knowB w p i ||| 2 ^ i else knowB w p i := rfl
        by_cases h0 : p ∈ w.2 i
        · rw [if_pos h0] at e ⊢
          rw [if_neg (by decide), bit_sh _ (by omega), bit_or, ← e]
          exact ih (i + 1) (by omega) (by omega)
        · rw [if_neg h0] at e ⊢
          rw [if_pos rfl, ← e]
          exact ih (i + 1) (by omega) (by omega)
  unfold fX7_bitsOfKnowers
  simp only [rW hc, rN]
  exact loop 1000 0 (Nat.zero_le _) (by omega)
theorem c_allCoins (hc : isW c) (hR : RepW S c w) (hI : Winv w) : fX7_allCoins (E b S Q g) (b + c) = some (nI (sumP (w.1 2) (w.1 0 1) + sumP (w.1 6) (w.1 0 2))) := by
  have hm4 := hI.2.2.1
  have hp8 := hI.2.1
  have men : ∀ (A m i : Nat), i ≤ w.1 0 2 → w.1 0 2 - i < m → fX7_allCoins_29 (E b S Q g) m (b + c) (nI (A + sumP (w.1 6) i)) (nI i) = some (nI (A + sumP (w.1 6) (w.1 0 2))) := by
    intro A m
    induction m with
    | zero => intro i _ h; omega
    | succ m ih =>
      intro i hi hm
      rw [fX7_allCoins_29]
      simp (disch := omega) only [rW hc, rN, bind_sm, hR.2.2.1, nI_leI]
      by_cases hle : w.1 0 2 ≤ i
      · rw [if_pos hle, show i = w.1 0 2 by omega]
      · rw [if_neg hle]
        simp (disch := omega) only [rW hc, bind_sm, (hR.2.2.2.2 i (by omega)).2.2.2.1, nI_add]
        rw [show A + sumP (w.1 6) i + w.1 6 i = A + sumP (w.1 6) (i + 1) from Nat.add_assoc _ _ _]
        exact ih (i + 1) (by omega) (by omega)
  have ppl : ∀ (m i : Nat), i ≤ w.1 0 1 → w.1 0 1 - i < m → fX7_allCoins_4 (E b S Q g) m (b + c) (nI (sumP (w.1 2) i)) (nI i) = some (nI (sumP (w.1 2) (w.1 0 1) + sumP (w.1 6) (w.1 0 2))) := by
    intro m
    induction m with
    | zero => intro i _ h; omega
    | succ m ih =>
      intro i hi hm
      rw [fX7_allCoins_4]
      simp (disch := omega) only [rW hc, rN, bind_sm, hR.2.1, nI_leI]
      by_cases hle : w.1 0 1 ≤ i
      · rw [if_pos hle, show i = w.1 0 1 by omega]
        exact men _ 1000 0 (Nat.zero_le _) (by omega)
      · rw [if_neg hle]
        simp (disch := omega) only [rW hc, bind_sm, (hR.2.2.2.1 i (by omega)).2, nI_add]
        exact ih (i + 1) (by omega) (by omega)
  unfold fX7_allCoins
  simp only [rW hc, rN]
  exact ppl 1000 0 (Nat.zero_le _) (by omega)
theorem c_howManyWith (hc : isW c) (hR : RepW S c w) (hI : Winv w) (hk : k < w.1 0 2) : fX7_howManyWith (E b S Q g) (b + c) (nI k) = some (nI (cntP (metP w k) (w.1 0 1))) := by
  have hp8 := hI.2.1
  have loop : ∀ (m i : Nat), i ≤ w.1 0 1 → w.1 0 1 - i < m → fX7_howManyWith_4 (E b S Q g) m (b + c) (nI k) (nI (cntP (metP w k) i)) (nI i) = some (nI (cntP (metP w k) (w.1 0 1))) := by
    intro m
    induction m with
    | zero => intro i _ h; omega
    | succ m ih =>
      intro i hi hm
      rw [fX7_howManyWith_4]
      simp (disch := omega) only [rW hc, rN, bind_sm, hR.2.1, nI_leI, nI_add]
      by_cases hle : w.1 0 1 ≤ i
      · rw [if_pos hle, show i = w.1 0 1 by omega]
      · rw [if_neg hle, c_meet hc hR hI hk (by omega), bind_sm]
        have e : cntP (metP w k) (i + 1) = if metP w k i = true then cntP (metP w k) i + 1 else cntP (metP w k) i := rfl
        by_cases h0 : metP w k i = true
        · rw [if_pos h0] at e ⊢
          rw [if_neg (by decide), ← e]
          exact ih (i + 1) (by omega) (by omega)
        · rw [if_neg h0] at e ⊢
          rw [if_pos rfl, ← e]
          exact ih (i + 1) (by omega) (by omega)
  unfold fX7_howManyWith
  simp only [rW hc, rN]
  exact loop 1000 0 (Nat.zero_le _) (by omega)
theorem c_oneWith (hc : isW c) (hR : RepW S c w) (hI : Winv w) (hk : k < w.1 0 2) (hj : j < cntP (metP w k) (w.1 0 1)) : ∃ p, p < w.1 0 1 ∧ metP w k p = true ∧ cntP (metP w k) p = j ∧ fX7_oneWith (E b S Q g) (b + c) (nI k) (nI j) = some (nI p) := by
  have hp8 := hI.2.1
  have hcl := cntP_le (metP w k) (w.1 0 1)
  have loop : ∀ (m i : Nat), i ≤ w.1 0 1 → w.1 0 1 - i < m → cntP (metP w k) i ≤ j → ∃ p, p < w.1 0 1 ∧ metP w k p = true ∧ cntP (metP w k) p = j ∧ fX7_oneWith_5 (E b S Q g) m (b + c) (nI k) (nI (j - cntP (metP w k) i)) (nI i) = some (nI p) := by
    intro m
    induction m with
    | zero => intro i _ h; omega
    | succ m ih =>
      intro i hi hm hij
      rw [fX7_oneWith_5]
      simp (disch := omega) only [rW hc, rN, bind_sm, hR.2.1, nI_leI, nI_add]
      by_cases hle : w.1 0 1 ≤ i
      · have hi' : i = w.1 0 1 := by omega
        rw [hi'] at hij
        omega
      · rw [if_neg hle, c_meet hc hR hI hk (by omega), bind_sm]
        have e : cntP (metP w k) (i + 1) = if metP w k i = true then cntP (metP w k) i + 1 else cntP (metP w k) i := rfl
        by_cases h0 : metP w k i = true
        · rw [if_pos h0] at e ⊢
          rw [if_neg (by decide)]
          simp (disch := omega) only [nI_eq]
          by_cases h1 : j - cntP (metP w k) i = 0
          · rw [if_pos h1]
            exact ⟨i, by omega, h0, by omega, rfl⟩
          · rw [if_neg h1, nI_addm1 (by omega), show j - cntP (metP w k) i - 1 = j - cntP (metP w k) (i + 1) by omega]
            exact ih (i + 1) (by omega) (by omega) (by omega)
        · rw [if_neg h0] at e ⊢
          rw [if_pos rfl, ← e]
          exact ih (i + 1) (by omega) (by omega) (by omega)
  unfold fX7_oneWith
  simp only [rW hc, rN]
  exact loop 1000 0 (Nat.zero_le _) (by omega) (Nat.zero_le _)
end CF
