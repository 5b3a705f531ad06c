/-! ===== the reference: texts worked out ===== -/
theorem i32_divm1 (x : Int32) : x / (-1) = -x := by
  refine Int32.toInt_inj.1 ?_
  rw [Int32.toInt_div, show ((-1 : Int32)).toInt = -1 from rfl, Int.tdiv_neg, Int.tdiv_one]
  exact (Int32.toInt_neg x).symm
theorem i32_lt_or (x z : Int32) : x < z ∨ z ≤ x := by
  rw [Int32.le_iff_toInt_le, Int32.lt_iff_toInt_lt]; omega
theorem neg1 : -nI 1 = (-1 : Int32) := rfl
theorem m_joined (c : Nat) (hc : c < 2 ^ 31) (x z : Int32) : fX9_joined (nI c) x z = some (joinP c x z) := by
  unfold fX9_joined joinP
  have e : ∀ n : Nat, n < 2 ^ 31 → (nI c = nI n ↔ c = n) := fun n hn => nI_eq hc hn
  rw [show (37 : Int32) = nI 37 from rfl, show (38 : Int32) = nI 38 from rfl, show (42 : Int32) = nI 42 from rfl, show (43 : Int32) = nI 43 from rfl, show (45 : Int32) = nI 45 from rfl, show (47 : Int32) = nI 47 from rfl, show (60 : Int32) = nI 60 from rfl, show (61 : Int32) = nI 61 from rfl, show (62 : Int32) = nI 62 from rfl]
  simp only [e 37 (by decide), e 38 (by decide), e 42 (by decide), e 43 (by decide), e 45 (by decide), e 47 (by decide), e 60 (by decide), e 61 (by decide), e 62 (by decide)]
  by_cases h37 : c = 37
  · subst h37
    by_cases h0 : z = 0
    · simp [h0]
    · by_cases h1 : z = -1
      · subst h1
        simp only [h0, if_true, if_false, i32_divm1]
        simp
        rw [Int32.mul_neg, Int32.mul_one, Int32.neg_neg, Int32.sub_self]
      · simp [h0, h1, rmz]
  · by_cases h38 : c = 38
    · subst h38
      by_cases hx : x = 0 <;> by_cases hz : z = 0 <;> simp [hx, hz]
    · by_cases h42 : c = 42
      · subst h42; simp
      · by_cases h43 : c = 43
        · subst h43; simp
        · by_cases h45 : c = 45
          · subst h45; simp
          · by_cases h47 : c = 47
            · subst h47
              by_cases h0 : z = 0
              · simp [h0]
              · by_cases h1 : z = -1
                · subst h1
                  simp only [h0, if_true, if_false, i32_divm1]
                  simp
                · simp [h0, h1, dvz]
            · by_cases h60 : c = 60
              · subst h60
                rcases i32_lt_or x z with h | h
                · have h2 : ¬ z ≤ x := fun q => (i32_le_iff z x).mp q h
                  simp [h, h2]
                · have h2 : ¬ x < z := (i32_le_iff z x).mp h
                  simp [h, h2]
              · by_cases h61 : c = 61
                · subst h61; by_cases h : x = z <;> simp [h]
                · by_cases h62 : c = 62
                  · subst h62
                    rcases i32_lt_or z x with h | h
                    · have h2 : ¬ x ≤ z := fun q => (i32_le_iff x z).mp q h
                      simp [h, h2]
                    · have h2 : ¬ z < x := (i32_le_iff x z).mp h
                      simp [h, h2]
                  · simp only [h37, h38, h42, h43, h45, h47, h60, h61, h62, if_false]
                    by_cases hx : x = 0 <;> by_cases hz : z = 0 <;> simp [hx, hz]
/-- how high the pile stands behind a text -/
def depP : Nat → List Tk → Option Nat
  | d, [] => some d
  | d, t :: ts => if t.1 = 0 ∨ t.1 = 1 then depP (d + 1) ts else if t.1 = 2 then (if 1 ≤ d then depP d ts else none) else (if 2 ≤ d then depP (d - 1) ts else none)
def isSg (c : Nat) : Prop := c = 37 ∨ c = 38 ∨ c = 42 ∨ c = 43 ∨ c = 45 ∨ c = 47 ∨ c = 60 ∨ c = 61 ∨ c = 62 ∨ c = 124
def tokOk (t : Tk) : Prop := (t.1 = 0 ∧ t.2 ≤ 9999) ∨ (t.1 = 1 ∧ t.2 < 3) ∨ t.1 = 2 ∨ (t.1 = 3 ∧ isSg t.2)
def txOk (ts : List Tk) : Prop := ts.length ≤ 60 ∧ (∀ t ∈ ts, tokOk t) ∧ (ts ≠ [] → depP 0 ts = some 1)
def nmc (u i : Nat) : Nat := if i = 0 then 109 else if u = 0 then (if i = 1 then 116 else 112) else (if i = 1 then 107 else 98)
def encM (u : Nat) (t : Tk) : Nat := if t.1 = 1 then nmc u t.2 else if t.1 = 2 then 0 else t.2
/-- the texts as the reference's row has them -/
def RepT (s : Nat → Int32) (T : Tx) : Prop := ∀ u, u < 2 → s (124 + 125 * u) = nI (T u).length ∧ ∀ i t, (T u)[i]? = some t → s (124 + 125 * u + 1 + 2 * i) = nI t.1 ∧ s (124 + 125 * u + 2 + 2 * i) = nI (encM u t)
def pileIs (f : Nat → Int32) (st : List Int32) : Prop := ∀ j x, st[j]? = some x → f (st.length - 1 - j) = x
theorem pileIs.push {f : Nat → Int32} {st : List Int32} (h : pileIs f st) {x : Int32} {f' : Nat → Int32} (h1 : f' st.length = x) (h2 : ∀ j, j < st.length → f' j = f j) : pileIs f' (x :: st) := by
  intro j y hj
  cases j with
  | zero => simp at hj; subst hj; simpa using h1
  | succ j =>
    have hl := (List.getElem?_eq_some_iff.mp hj).1
    simp at hj hl
    rw [show (x :: st).length - 1 - (j + 1) = st.length - 1 - j by simp; omega, h2 _ (by omega)]
    exact h j y hj
theorem pileIs.top {f : Nat → Int32} {st : List Int32} {x : Int32} (h : pileIs f (x :: st)) : f st.length = x ∧ pileIs f st := by
  refine ⟨by have := h 0 x rfl; simpa using this, fun j y hj => ?_⟩
  have := h (j + 1) y (by simpa using hj)
  rw [show (x :: st).length - 1 - (j + 1) = st.length - 1 - j by simp; omega] at this
  exact this
section RB
variable {b : Nat} {S : Nat → Nat → Int32} {Q : Nat → Nat → Nat} {g : Hp} {k j p n u : Nat} {x z : Int32} {w : Wo} {T : Tx}
theorem m_hasText (hT : RepT (S 117) T) (hu : u < 2) (hl : (T u).length ≤ 60) : fX9_hasText (E b S Q g) (b + 116) (nI u) = some (if T u = [] then nI 0 else nI 1) := by
  unfold fX9_hasText
  simp (disch := omega) only [rM, rN, pk_mul, nI_add, bind_sm, (hT u hu).1, nI_leI]
  cases h : T u with
  | nil => simp
  | cons a t => simp
theorem m_worked_loop (nm : Nat → Int32) (hT : RepT (S 117) T) (hu : u < 2) (hok : txOk (T u)) :
    ∀ (rest : List Tk) (m i : Nat) (st : List Int32) (S1 : Nat → Nat → Int32), (T u).drop i = rest → i + rest.length = (T u).length → rest.length < m → depP st.length rest = some 1 → st.length + rest.length ≤ 60 → pileIs (S1 124) st → Off [124] S S1 → (∀ i, i < 3 → S1 123 (nmc u i) = nm i) →
      ∃ S', fX9_worked_13 m (E b S1 Q g) (b + 116) (nI (124 + 125 * u)) (nI st.length) (nI i) = some ((rest.foldl (ev1 nm) st).headD 0, E b S' Q g) ∧ Off [124] S S' := by
  intro rest
  induction rest with
  | nil =>
    intro m i st S1 hd hi hm hdep hlen hp hO hnm
    obtain ⟨m, rfl⟩ : ∃ q, m = q + 1 := ⟨m - 1, by simp at hm; omega⟩
    have hs : S1 117 = S 117 := hO 117 (by decide)
    have hL : i = (T u).length := by simpa using hi
    have hl60 := hok.1
    rw [fX9_worked_13]
    simp (disch := omega) only [rM, rN, bind_sm, hs, (hT u hu).1, nI_leI]
    rw [if_pos (by omega)]
    refine ⟨S1, ?_, hO⟩
    simp only [depP, Option.some.injEq] at hdep
    match st, hdep with
    | [y], _ => rw [show S1 124 0 = y from hp.top.1]; rfl
  | cons t ts ih =>
    intro m i st S1 hd hi hm hdep hlen hp hO hnm
    obtain ⟨m, rfl⟩ : ∃ q, m = q + 1 := ⟨m - 1, by simp at hm; omega⟩
    have hs : S1 117 = S 117 := hO 117 (by decide)
    have hl60 := hok.1
    simp only [List.length_cons] at hi hm hlen
    have hlt : i < (T u).length := by omega
    have hti : (T u)[i]? = some t := by
      have h1 := List.getElem?_drop (xs := T u) (i := i) (j := 0)
      rw [hd] at h1
      simpa using h1.symm
    have htm : t ∈ T u := List.mem_of_getElem? hti
    have hd' : (T u).drop (i + 1) = ts := by
      have h1 : (T u).drop (i + 1) = ((T u).drop i).drop 1 := by rw [List.drop_drop]
      rw [h1, hd]; rfl
    obtain ⟨ht1, ht2⟩ := (hT u hu).2 i t hti
    have e1 : S 117 (124 + 125 * u + 1 + 2 * i) = nI t.1 := ht1
    have e2 : S 117 (124 + 125 * u + 2 + 2 * i) = nI (encM u t) := ht2
    have hk := hok.2.1 t htm
    have hlt1 : t.1 ≤ 3 := by rcases hk with h | h | h | h <;> omega
    rw [fX9_worked_13]
    simp (disch := omega) only [rM, rN, bind_sm, hs, (hT u hu).1, nI_leI, nI_add, pk_mul, e1, e2, nI_eq]
    rw [if_neg (by omega)]
    have go : ∀ (st' : List Int32) (S2 : Nat → Nat → Int32), depP st'.length ts = some 1 → st'.length ≤ st.length + 1 → pileIs (S2 124) st' → Off [124] S S2 → ev1 nm st t = st' →
        ∃ S', fX9_worked_13 m (E b S2 Q g) (b + 116) (nI (124 + 125 * u)) (nI st'.length) (nI (i + 1)) = some (((t :: ts).foldl (ev1 nm) st).headD 0, E b S' Q g) ∧ Off [124] S S' := by
      intro st' S2 h1 h2 h3 h4 h5
      have h6 := ih m (i + 1) st' S2 hd' (by omega) (by omega) h1 (by omega) h3 h4 (fun q hq => by
        rw [show S2 123 = S 123 from h4 123 (by decide), ← show S1 123 = S 123 from hO 123 (by decide)]; exact hnm q hq)
      rw [List.foldl_cons, h5]
      exact h6
    rcases hk with ⟨h0, hv⟩ | ⟨h0, hv⟩ | h0 | ⟨h0, hv⟩
    · have hE : encM u t = t.2 := by simp [encM, h0]
      simp only [h0, if_true, hE]
      unfold fX9_worked_65 fX9_worked_87
      simp (disch := omega) only [rM, rN, bind_sm, if_true, nI_add]
      have hdep' : depP (st.length + 1) ts = some 1 := by simpa [depP, h0] using hdep
      exact go (nI t.2 :: st) _ hdep' (Nat.le_refl _) (hp.push (by simp [up2]) (fun j hj => by simp [up2]; omega)) (hO.tr (Off.up (by decide))) (by simp [ev1, h0])
    · have hE : encM u t = nmc u t.2 := by simp [encM, h0]
      have hn : nmc u t.2 < 128 := by unfold nmc; split <;> (try split) <;> (try split) <;> omega
      simp only [h0, hE, if_true]
      rw [if_neg (by decide)]
      unfold fX9_worked_65 fX9_worked_87
      simp (disch := omega) only [rM, rN, bind_sm, if_true, nI_add, nI_eq]
      rw [if_neg (by decide)]
      have hdep' : depP (st.length + 1) ts = some 1 := by simpa [depP, h0] using hdep
      exact go (nm t.2 :: st) _ hdep' (Nat.le_refl _) (hp.push (by simp [up2, hnm _ hv]) (fun j hj => by simp [up2]; omega)) (hO.tr (Off.up (by decide))) (by simp [ev1, h0])
    · simp only [h0]
      rw [if_neg (by decide), if_neg (by decide), if_pos trivial]
      have hd2 : 1 ≤ st.length ∧ depP st.length ts = some 1 := by
        simp only [depP, h0] at hdep
        by_cases h1 : 1 ≤ st.length
        · exact ⟨h1, by simpa [h1] using hdep⟩
        · simp [h1] at hdep
      match st, hp, hd2, go with
      | y :: st, hp, ⟨_, hd3⟩, go =>
        obtain ⟨p1, p2⟩ := hp.top
        simp only [List.length_cons] at *
        simp (disch := omega) only [rM, rN, bind_sm, nI_subI, Nat.add_sub_cancel, p1]
        by_cases hy : y = nI 0
        · rw [if_pos hy]
          exact go (nI 1 :: st) _ hd3 (by simp) (p2.push (by simp [up2]) (fun j hj => by simp [up2]; omega)) (hO.tr (Off.up (by decide))) (by
            have : y = 0 := hy
            simp [ev1, h0, this]; rfl)
        · rw [if_neg hy]
          exact go (nI 0 :: st) _ hd3 (by simp) (p2.push (by simp [up2]) (fun j hj => by simp [up2]; omega)) (hO.tr (Off.up (by decide))) (by
            have : ¬ y = 0 := hy
            simp [ev1, h0, this]; rfl)
    · have hE : encM u t = t.2 := by simp [encM, h0]
      simp only [h0, hE]
      rw [if_neg (by decide), if_neg (by decide), if_neg (by decide)]
      have hd2 : 2 ≤ st.length ∧ depP (st.length - 1) ts = some 1 := by
        simp only [depP, h0] at hdep
        by_cases h1 : 2 ≤ st.length
        · exact ⟨h1, by simpa [h1] using hdep⟩
        · simp [h1] at hdep
      match st, hp, hd2, go with
      | y :: x :: st, hp, ⟨_, hd3⟩, go =>
        obtain ⟨p1, p2⟩ := hp.top
        obtain ⟨p3, p4⟩ := p2.top
        simp only [List.length_cons] at *
        simp (disch := omega) only [rM, rN, bind_sm, nI_subI, nI_addm1, Nat.add_sub_cancel, p1, p3, m_joined t.2 (by unfold isSg at hv; omega)]
        exact go (joinP t.2 x y :: st) _ (by simpa using hd3) (by simp) (p4.push (by simp [up2]) (fun j hj => by simp [up2]; omega)) (hO.tr (Off.up (by decide))) (by simp [ev1, h0])
theorem m_worked (nm : Nat → Int32) (hT : RepT (S 117) T) (hu : u < 2) (hok : txOk (T u)) (hne : T u ≠ []) (hnm : ∀ i, i < 3 → S 123 (nmc u i) = nm i) : ∃ S', fX9_worked (E b S Q g) (b + 116) (nI u) = some (evT (T u) nm, E b S' Q g) ∧ Off [124] S S' := by
  unfold fX9_worked
  simp (disch := omega) only [rM, rN, bind_sm, pk_mul, nI_add]
  exact m_worked_loop nm hT hu hok (T u) 1000 0 [] S (by simp) (by simp) (by have := hok.1; omega) (hok.2.2 hne) (by have := hok.1; simp; omega) (fun j x h => by simp at h) Off.rf hnm
end RB
