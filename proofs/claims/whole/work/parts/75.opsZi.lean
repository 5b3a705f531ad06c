/-! ===== rows: what is counted, and the reference ===== -/
section OZi
variable {b : Nat} {S S' S1 S2 S3 S5 S6 : Nat → Nat → Int32} {Q Q' Q1 Q2 : Nat → Nat → Nat} {g g' g1 g2 h : Hp} {f k j p q n u c c0 c1 lo hi i e m d bk L set : Nat} {x y z v r : Int32} {w to : Wo} {T : Tx} {K K2 : Nat → Nat} {a a' : Fs} {s s' s0 : Nat → Int32} {t : Dt} {l l' : List Nat} {st : Nat × Nat}

def itN {α : Type} (f : Nat → α → α) : Nat → α → α
  | 0, st => st
  | i + 1, st => f i (itN f i st)
def unB (w to : Wo) (k : Nat) : Bool := !decide (w.2 k = to.2 k)
def likeB (w to : Wo) : Bool := decide (w.1 0 2 = to.1 0 2) && decide (cntP (unB w to) (w.1 0 2) = 0)
def resR (T : Tx) (to : Wo) : Nat → Wo → Nat → Nat × Nat → Nat × Nat
  | 0, w, set, st => if likeB w to = true then (st.1 + 1, st.2 ||| set) else st
  | n + 1, w, set, st => itN (fun k st => itN (fun p st => if metP w k p = true then resR T to n (crossP T w k p) (set ||| 2 ^ p) st else st) (w.1 0 1) st) (w.1 0 2) st
theorem itN_id {α : Type} {f : Nat → α → α} : ∀ (n : Nat) (st : α), (∀ i < n, ∀ st, f i st = st) → itN f n st = st
  | 0, _, _ => rfl
  | n + 1, st, h => by rw [itN, itN_id n st (fun i hi => h i (by omega)), h n (by omega)]
theorem cntP_but {f g : Nat → Bool} {k : Nat} : ∀ n, (∀ i < n, i ≠ k → f i = true → g i = true) → cntP f n ≤ cntP g n + (if k < n ∧ f k = true then 1 else 0)
  | 0, _ => Nat.zero_le _
  | n + 1, h => by
    have ih := cntP_but (f := f) (g := g) (k := k) n (fun i hi => h i (by omega))
    rw [cntP, cntP]
    by_cases hk : k = n
    · subst hk
      rw [if_neg (by omega)] at ih
      by_cases hf : f k = true
      · rw [if_pos hf, if_pos (show k < k + 1 ∧ f k = true from ⟨by omega, hf⟩)]
        split <;> omega
      · rw [if_neg hf, if_neg (show ¬ (k < k + 1 ∧ f k = true) from fun q => hf q.2)]
        split <;> omega
    · have e : (if k < n + 1 ∧ f k = true then 1 else 0) = (if k < n ∧ f k = true then (1 : Nat) else 0) := by
        by_cases hc : k < n ∧ f k = true
        · rw [if_pos hc, if_pos ⟨by omega, hc.2⟩]
        · rw [if_neg hc, if_neg (fun q => hc ⟨by omega, q.2⟩)]
      rw [e]
      by_cases hf : f n = true
      · rw [if_pos hf, if_pos (h n (by omega) (fun q => hk q.symm) hf)]; omega
      · rw [if_neg hf]
        split <;> omega
theorem cross_mind (hk4 : w.1 3 k ≠ 4) (hik : i ≠ k) : (crossP T w k p).2 i = w.2 i := by
  show (if i = k then _ else if w.1 3 k = 4 ∧ i < w.1 0 2 ∧ w.1 5 i = 1 - w.1 1 p then _ else w.2 i) = w.2 i
  rw [if_neg hik, if_neg (fun q => hk4 q.1)]
theorem cross_kind (i : Nat) : (crossP T w k p).1 3 i = w.1 3 i := by simp [crossP]
def noG (w : Wo) : Prop := ∀ k < w.1 0 2, w.1 3 k ≠ 4
theorem noG.cross (h : noG w) : noG (crossP T w k p) := fun i hi => by
  rw [cross_kind]; exact h i (by rw [crossP_0.2.1] at hi; exact hi)
/-- how many minds are unlike but his -/
theorem unlike_cross (h : noG w) (hk : k < w.1 0 2) : cntP (unB w to) (w.1 0 2) ≤ cntP (unB (crossP T w k p) to) ((crossP T w k p).1 0 2) + (if unB w to k = true then 1 else 0) := by
  rw [crossP_0.2.1]
  have := cntP_but (f := unB w to) (g := unB (crossP T w k p) to) (k := k) (w.1 0 2) (fun i hi hik hf => by
    unfold unB at hf ⊢
    rw [cross_mind (h k hk) hik]; exact hf)
  have e : (if k < w.1 0 2 ∧ unB w to k = true then 1 else 0) = (if unB w to k = true then (1 : Nat) else 0) := by
    by_cases hc : unB w to k = true
    · rw [if_pos hc, if_pos ⟨hk, hc⟩]
    · rw [if_neg hc, if_neg (fun q => hc q.2)]
  rw [e] at this
  exact this
theorem noFit : ∀ (n : Nat) (w : Wo) (set : Nat) (st : Nat × Nat), noG w → n < cntP (unB w to) (w.1 0 2) → resR T to n w set st = st
  | 0, w, set, st, _, h => by
    rw [resR, if_neg]
    unfold likeB
    rw [Bool.and_eq_true, decide_eq_true_eq, decide_eq_true_eq]
    omega
  | n + 1, w, set, st, hg, h => by
    rw [resR]
    refine itN_id _ _ (fun k hk st => itN_id _ _ (fun p hp st => ?_))
    split
    · refine noFit n _ _ _ hg.cross ?_
      have := unlike_cross (T := T) (p := p) (to := to) hg hk
      split at this <;> omega
    · rfl
theorem noMen : ∀ (n : Nat) (w : Wo) (set : Nat) (st : Nat × Nat), w.1 0 2 ≠ to.1 0 2 → resR T to n w set st = st
  | 0, w, set, st, h => by
    rw [resR, if_neg]
    unfold likeB
    rw [Bool.and_eq_true, decide_eq_true_eq]
    exact fun q => h q.1
  | n + 1, w, set, st, h => by
    rw [resR]
    refine itN_id _ _ (fun k hk st => itN_id _ _ (fun p hp st => ?_))
    split
    · exact noMen n _ _ _ (by rw [crossP_0.2.1]; exact h)
    · rfl
theorem list_step {i : Nat} (hl : l.length = l'.length) (hi : i < l.length) (ht : l.take i = l'.take i) : l[i] = l'[i]'(by omega) → l.take (i + 1) = l'.take (i + 1) := by
  intro h
  rw [List.take_succ_eq_append_getElem hi, List.take_succ_eq_append_getElem (by omega), ht, h]
theorem cntP_zero {f : Nat → Bool} : ∀ n, cntP f n = 0 ↔ ∀ i < n, f i = false
  | 0 => ⟨fun _ i hi => by omega, fun _ => rfl⟩
  | n + 1 => by
    rw [cntP]
    by_cases h : f n = true
    · rw [if_pos h]
      exact ⟨fun q => by omega, fun q => by have := q n (by omega); rw [h] at this; cases this⟩
    · rw [if_neg h, cntP_zero n]
      refine ⟨fun q i hi => ?_, fun q i hi => q i (by omega)⟩
      by_cases hin : i = n
      · subst hin; simpa using h
      · exact q i (by omega)
/-- the reference holds minds against those that it laid aside -/
theorem m_areAsPut (hR : RepM (S 117) w) (hI : Winv w) (hP : RepM (S 119) to) (hJ : Winv to) : fX9_areAsPut (E b S Q g) (b + 116) = some (if likeB w to = true then nI 1 else nI 0) := by
  have hm4 := hI.2.2.1
  have hm4' := hJ.2.2.1
  have g2 : getR (E b S Q g) 9 (b + 116) 2 = some (b + 119) := by simp only [rM]
  have q119 : ∀ i, i < 458 → rdI (E b S Q g) (b + 119) (nI i) = some (S 119 i) := fun i hi => E_rdI (c := 119) rfl hi (by decide)
  have q117 : ∀ i, i < 458 → rdI (E b S Q g) (b + 117) (nI i) = some (S 117 i) := fun i hi => E_rdI (c := 117) rfl hi (by decide)
  have off : ∀ (m k : Nat), fX9_areAsPut_23 (E b S Q g) (m + 1) (b + 116) (nI 0) (nI k) = some (nI 0) := by
    intro m k
    rw [fX9_areAsPut_23, getR_M0, bind_sm, show (1 : Int32) = nI 1 from rfl, q117 1 (by omega), bind_sm, if_pos (show nI 0 = 0 from rfl), bz0, bind_sm]
    split <;> rfl
  unfold fX9_areAsPut
  rw [gO_M, getR_M0, bind_sm, show (1 : Int32) = nI 1 from rfl, q117 1 (by omega), bind_sm, g2, bind_sm, q119 1 (by omega), bind_sm, hR.2.1, hP.2.1]
  by_cases hmen : w.1 0 2 = to.1 0 2
  · rw [if_pos (by rw [hmen])]
    have loop : ∀ (m k : Nat), k ≤ w.1 0 2 → w.1 0 2 - k + 1 < m → (∀ i < k, unB w to i = false) → fX9_areAsPut_23 (E b S Q g) m (b + 116) (nI 1) (nI k) = some (if likeB w to = true then nI 1 else nI 0) := by
      intro m
      induction m with
      | zero => intro k _ h; omega
      | succ m ih =>
        intro k hk hm hacc
        obtain ⟨m', rfl⟩ : ∃ m', m = m' + 1 := ⟨m - 1, by omega⟩
        rw [fX9_areAsPut_23, getR_M0, bind_sm, show (1 : Int32) = nI 1 from rfl, q117 1 (by omega), bind_sm, hR.2.1]
        by_cases hle : w.1 0 2 ≤ k
        · rw [if_pos ((nI_leI (by omega) (by omega)).mpr hle), bz1, bind_sm, if_pos]
          unfold likeB
          rw [Bool.and_eq_true, decide_eq_true_eq, decide_eq_true_eq]
          exact ⟨hmen, (cntP_zero _).mpr (fun i hi => hacc i (by omega))⟩
        · have hlt : k < w.1 0 2 := by omega
          obtain ⟨-, -, -, -, p5, p6⟩ := hR.2.2.2.2 k hlt
          obtain ⟨-, -, -, -, t5, t6⟩ := hP.2.2.2.2 k (by omega)
          have l1 := hI.len k
          have l2 := hJ.len k
          have b1 := hI.lt8 k
          have b2 := hJ.lt8 k
          have notlike : unB w to k = true → some (nI 0) = some (if likeB w to = true then nI 1 else nI 0) := by
            intro hu
            rw [if_neg]
            unfold likeB
            rw [Bool.and_eq_true, decide_eq_true_eq, decide_eq_true_eq]
            intro q
            have := (cntP_zero _).mp q.2 k hlt
            rw [hu] at this; cases this
          rw [if_neg (fun z => hle ((nI_leI (by omega) (by omega)).mp z)), if_neg (show ¬ nI 1 = 0 by decide), show (4 : Int32) = nI 4 from rfl, m_its (by omega), bind_sm, g2, bind_sm, show (24 : Int32) = nI 24 from rfl, show (13 : Int32) = nI 13 from rfl, pk_mul, nI_add, nI_add, q119 _ (by omega), bind_sm, p5, t5]
          by_cases hlen : (w.2 k).length = (to.2 k).length
          · rw [if_pos (by rw [hlen])]
            have inner : ∀ (mm i : Nat), i ≤ (w.2 k).length → (w.2 k).length - i + 1 < mm → (w.2 k).take i = (to.2 k).take i → fX9_areAsPut_68 (fX9_areAsPut_23 (E b S Q g) (m' + 1)) (E b S Q g) mm (b + 116) (nI 1) (nI k) (nI i) = some (if likeB w to = true then nI 1 else nI 0) := by
              intro mm
              induction mm with
              | zero => intro i _ h; omega
              | succ mm ihm =>
                intro i hi hmm hta
                obtain ⟨mm', rfl⟩ : ∃ mm', mm = mm' + 1 := ⟨mm - 1, by omega⟩
                rw [fX9_areAsPut_68, show (4 : Int32) = nI 4 from rfl, m_its (by omega), bind_sm, p5]
                by_cases hend : (w.2 k).length ≤ i
                · rw [if_pos ((nI_leI (by omega) (by omega)).mpr hend), show nI k + 1 = nI (k + 1) from nI_add k 1]
                  refine ih (k + 1) (by omega) (by omega) (fun j hj => ?_)
                  by_cases hjk : j = k
                  · subst hjk
                    unfold unB
                    have : w.2 j = to.2 j := by
                      have hi' : i = (w.2 j).length := by omega
                      rw [hi', List.take_length, hlen, List.take_length] at hta
                      exact hta
                    rw [this]; simp
                  · exact hacc j (by omega)
                · have hil : i < (w.2 k).length := by omega
                  have v1 : S 117 (24 + 13 * k + (5 + i)) = nI (w.2 k)[i] := by rw [← Nat.add_assoc]; exact p6.at hil
                  have v2 : S 119 (24 + 13 * k + 5 + i) = nI ((to.2 k)[i]'(by omega)) := t6.at (by omega)
                  have bb1 := b1 _ (List.getElem_mem hil)
                  have bb2 := b2 _ (List.getElem_mem (show i < (to.2 k).length by omega))
                  rw [if_neg (fun z => hend ((nI_leI (by omega) (by omega)).mp z)), if_neg (show ¬ nI 1 = 0 by decide), show (5 : Int32) = nI 5 from rfl, nI_add, m_its (by omega), bind_sm, g2, bind_sm, show (24 : Int32) = nI 24 from rfl, show (13 : Int32) = nI 13 from rfl, pk_mul, nI_add, nI_add, nI_add, q119 _ (by omega), bind_sm, v1, v2, show nI i + 1 = nI (i + 1) from nI_add i 1]
                  by_cases heq : (w.2 k)[i] = (to.2 k)[i]'(by omega)
                  · rw [if_pos (by rw [heq])]
                    exact ihm (i + 1) (by omega) (by omega) (list_step hlen hil hta heq)
                  · rw [if_neg (fun z => heq ((nI_eq (by omega) (by omega)).mp z)), fX9_areAsPut_68, show (4 : Int32) = nI 4 from rfl, m_its (by omega), bind_sm, show (0 : Int32) = nI 0 from rfl, show nI k + 1 = nI (k + 1) from nI_add k 1, off, if_pos rfl]
                    have hu : unB w to k = true := by
                      unfold unB
                      rw [Bool.not_eq_true', decide_eq_false_iff_not]
                      intro q
                      exact heq (by simp only [q])
                    rw [← notlike hu]
                    split <;> rfl
            exact inner 1000 0 (Nat.zero_le _) (by omega) rfl
          · rw [if_neg (fun z => hlen ((nI_eq (by omega) (by omega)).mp z)), fX9_areAsPut_68, show (4 : Int32) = nI 4 from rfl, m_its (by omega), bind_sm, show (0 : Int32) = nI 0 from rfl, show nI k + 1 = nI (k + 1) from nI_add k 1, off, if_pos rfl]
            have hu : unB w to k = true := by
              unfold unB
              rw [Bool.not_eq_true', decide_eq_false_iff_not]
              intro q
              exact hlen (by rw [q])
            rw [← notlike hu]
            split <;> rfl
    exact loop 1000 0 (Nat.zero_le _) (by omega) (fun i hi => by omega)
  · rw [if_neg (fun z => hmen ((nI_eq (by omega) (by omega)).mp z)), show (0 : Int32) = nI 0 from rfl, off 999 0, if_neg]
    unfold likeB
    rw [Bool.and_eq_true, decide_eq_true_eq]
    exact fun q => hmen q.1
end OZi
