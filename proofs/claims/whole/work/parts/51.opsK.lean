/-! ===== a debt comes ===== -/
section OK
variable {b : Nat} {S S' S1 S2 : Nat → Nat → Int32} {Q Q' Q1 : Nat → Nat → Nat} {g g' g1 h : Hp} {f k j p q n u c c0 c1 lo hi i d e : Nat} {x y z v r : Int32} {w : Wo} {T : Tx} {K K2 : Nat → Nat} {a a' : Fs} {s s' : Nat → Int32}
theorem debtC.snoc {l : List Dt} {t : Dt} (h : debtC S f l) (e1 : S' (f + 1) 0 = nI (l.length + 1)) (e2 : ∀ j, S' (f + 2) j = if j = l.length then nI t.1 else S (f + 2) j) (e3 : ∀ j, S' (f + 3) j = if j = l.length then nI t.2.1 else S (f + 3) j) (e4 : ∀ j, S' (f + 4) j = if j = l.length then nI t.2.2 else S (f + 4) j) : debtC S' f (l ++ [t]) := by
  refine ⟨by rw [e1, List.length_append]; rfl, fun i v hv => ?_⟩
  rw [e2, e3, e4]
  by_cases hi : i < l.length
  · rw [List.getElem?_append_left hi] at hv
    rw [if_neg (by omega), if_neg (by omega), if_neg (by omega)]
    exact h.2 i v hv
  · rw [List.getElem?_append_right (by omega)] at hv
    have hi2 : i - l.length = 0 := by
      have := (List.getElem?_eq_some_iff.mp hv).1
      simp at this; omega
    rw [hi2] at hv
    simp at hv
    rw [if_pos (by omega), if_pos (by omega), if_pos (by omega), hv]
    exact ⟨rfl, rfl, rfl⟩
theorem debtM.snoc {l : List Dt} {t : Dt} (h : debtM s l) (e : ∀ j, s' j = if j = 3 then nI (l.length + 1) else if j = 76 + 3 * l.length then nI t.1 else if j = 76 + 3 * l.length + 1 then nI t.2.1 else if j = 76 + 3 * l.length + 2 then nI t.2.2 else s j) : debtM s' (l ++ [t]) := by
  refine ⟨by rw [e, if_pos rfl, List.length_append]; rfl, fun i v hv => ?_⟩
  by_cases hi : i < l.length
  · rw [List.getElem?_append_left hi] at hv
    rw [e, e, e, if_neg (by omega), if_neg (by omega), if_neg (by omega), if_neg (by omega), if_neg (by omega), if_neg (by omega), if_neg (by omega), if_neg (by omega), if_neg (by omega), if_neg (by omega), if_neg (by omega), if_neg (by omega)]
    exact h.2 i v hv
  · rw [List.getElem?_append_right (by omega)] at hv
    have hi2 : i - l.length = 0 := by
      have := (List.getElem?_eq_some_iff.mp hv).1
      simp at this; omega
    rw [hi2] at hv
    simp at hv
    have hi3 : i = l.length := by omega
    subst hi3
    rw [e, e, e, if_neg (by omega), if_pos rfl, if_neg (by omega), if_neg (by omega), if_pos rfl, if_neg (by omega), if_neg (by omega), if_neg (by omega), if_pos rfl, hv]
    exact ⟨rfl, rfl, rfl⟩
end OK
