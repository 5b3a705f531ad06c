/-! ===== the first heap: cells as a list ===== -/
def Lh (b : Nat) (cs : List Ce) : Hp := (fun a => if b ≤ a then cs[a - b]? else none, b + cs.length)
def r0 (k : Nat) : Ce := .inr (.inl (k, fun _ => 0))
section LH
variable {b c n k i j ci cap r : Nat} {cs L L' A B X : List Ce} {e : Ce} {z x : Int32} {v : Value} {fs : List Value}
theorem Lh_at : (Lh b cs).1 (b + c) = cs[c]? := by
  unfold Lh
  dsimp only
  rw [if_pos (Nat.le_add_right _ _), show b + c - b = c by omega]
theorem Lh_new : newC (Lh b cs) e = Lh b (cs ++ [e]) := by
  unfold newC Lh
  refine Prod.ext (funext fun a => ?_) ?_
  · dsimp only
    by_cases h : a = b + cs.length
    · subst h
      rw [if_pos rfl, if_pos (by omega), show b + cs.length - b = cs.length by omega, List.getElem?_append_right (Nat.le_refl _), Nat.sub_self]
      rfl
    · rw [if_neg h]
      by_cases h2 : b ≤ a
      · rw [if_pos h2, if_pos h2]
        by_cases h3 : a - b < cs.length
        · rw [List.getElem?_append_left h3]
        · rw [List.getElem?_eq_none (by omega), List.getElem?_eq_none (by rw [List.length_append]; show cs.length + 1 ≤ _; omega)]
      · rw [if_neg h2, if_neg h2]
  · dsimp only
    rw [List.length_append]
    rfl
theorem Lh_set (h : c < cs.length) : setC (Lh b cs) (b + c) e = Lh b (cs.set c e) := by
  unfold setC Lh
  refine Prod.ext (funext fun a => ?_) ?_
  · dsimp only
    by_cases q : a = b + c
    · subst q
      rw [if_pos rfl, if_pos (by omega), show b + c - b = c by omega, List.getElem?_set_self h]
    · rw [if_neg q]
      by_cases h2 : b ≤ a
      · rw [if_pos h2, if_pos h2, List.getElem?_set_ne (by omega)]
      · rw [if_neg h2, if_neg h2]
  · dsimp only
    rw [List.length_set]
theorem L_app (hn : cs.length = n) : (cs ++ L)[n + i]? = L[i]? := by
  subst hn
  rw [List.getElem?_append_right (Nat.le_add_right _ _), show cs.length + i - cs.length = i by omega]
theorem L_upd (hn : cs.length = n) : (cs ++ L).set (n + i) e = cs ++ L.set i e := by
  subst hn
  rw [List.set_append_right _ _ (Nat.le_add_right _ _), show cs.length + i - cs.length = i by omega]
theorem L_len (hn : cs.length = n) (hi : L[i]? = some e) : n + i < (cs ++ L).length := by
  have := (List.getElem?_eq_some_iff.mp hi).1
  rw [List.length_append, hn]
  omega
theorem L_newA (hn : cs.length = n) (hl : L.length = i) (hz : ¬ (z < 0 ∨ cap < k)) (hk : z.toNatClampNeg = k) (hL : L ++ [r0 k] = L') : newA cap (Lh b (cs ++ L)) z = some (b + (n + i), Lh b (cs ++ L')) := by
  unfold newA
  rw [hk, if_neg hz, Lh_new, List.append_assoc, ← hL, ← hn, ← hl, ← List.length_append]
  rfl
theorem L_newO (hn : cs.length = n) (hl : L.length = i) (hL : L ++ [.inl (ci, fs)] = L') : newO (Lh b (cs ++ L)) ci fs = some (b + (n + i), Lh b (cs ++ L')) := by
  unfold newO
  rw [Lh_new, List.append_assoc, ← hL, ← hn, ← hl, ← List.length_append]
  rfl
theorem L_newR (hn : cs.length = n) (hl : L.length = i) (hz : ¬ (z < 0 ∨ cap < k)) (hk : z.toNatClampNeg = k) (hL : L ++ [.inr (.inr (1, k, fun _ => none))] = L') : newR cap (Lh b (cs ++ L)) z = some (b + (n + i), Lh b (cs ++ L')) := by
  unfold newR
  rw [hk, if_neg hz, Lh_new, List.append_assoc, ← hL, ← hn, ← hl, ← List.length_append]
  rfl
theorem L_newM (hn : cs.length = n) (hl : L.length = i) (hL : L ++ [eO (b + (n + i)), eI, eI, eI, eI] = L') : newM (Lh b (cs ++ L)) = some (b + (n + i), Lh b (cs ++ L')) := by
  unfold newM
  have e2 : (Lh b (cs ++ L)).2 = b + (n + i) := by
    show b + (cs ++ L).length = _
    rw [List.length_append, hn, hl]
  rw [e2, Lh_new, Lh_new, Lh_new, Lh_new, Lh_new, ← hL]
  simp only [List.append_assoc, List.cons_append, List.nil_append]
theorem L_put (hn : cs.length = n) (hi : L[i]? = some (.inl (ci, fs))) (hj : j < fs.length) (hL : L.set i (.inl (ci, fs.set j v)) = L') : putV (Lh b (cs ++ L)) ci (b + (n + i)) j v = some (Lh b (cs ++ L')) := by
  unfold putV
  rw [Lh_at, L_app hn, hi]
  dsimp only
  rw [if_pos ⟨rfl, hj⟩, Lh_set (L_len hn hi), L_upd hn, hL]
theorem L_getR (hn : cs.length = n) (hi : L[i]? = some (.inl (ci, fs))) (hj : fs[j]? = some (.ref r)) : getR (Lh b (cs ++ L)) ci (b + (n + i)) j = some r := by
  unfold getR getV
  rw [Lh_at, L_app hn, hi]
  dsimp only
  rw [if_pos rfl, hj]
theorem L_lenA (hn : cs.length = n) (hi : L[i]? = some (r0 k)) : lenA (Lh b (cs ++ L)) (b + (n + i)) = some (Int32.ofNat k) := by
  unfold lenA
  rw [Lh_at, L_app hn, hi]
  rfl
theorem L_wrI {f : Nat → Int32} {q : Nat} (hn : cs.length = n) (hi : L[i]? = some (.inr (.inl (k, f)))) (hz : ¬ (z < 0 ∨ k ≤ q)) (hq : z.toNatClampNeg = q) (hL : L.set i (.inr (.inl (k, upd f q x))) = L') : wrI (Lh b (cs ++ L)) (b + (n + i)) z x = some (Lh b (cs ++ L')) := by
  unfold wrI
  rw [Lh_at, L_app hn, hi]
  dsimp only
  rw [hq, if_neg hz, Lh_set (L_len hn hi), L_upd hn, hL]
theorem L_wrR {f : Nat → Option Nat} {q u : Nat} (hn : cs.length = n) (hi : L[i]? = some (.inr (.inr (1, k, f)))) (hu : L[u]? = some (.inl (7, fs))) (hz : ¬ (z < 0 ∨ k ≤ q)) (hq : z.toNatClampNeg = q) (hL : L.set i (.inr (.inr (1, k, va_up f q (some (b + (n + u)))))) = L') : wrR (Lh b (cs ++ L)) (b + (n + i)) z (b + (n + u)) = some (Lh b (cs ++ L')) := by
  unfold wrR
  rw [Lh_at, Lh_at, L_app hn, L_app hn, hi, hu]
  dsimp only
  rw [hq, if_pos ⟨rfl, rfl, hz⟩, Lh_set (L_len hn hi), L_upd hn, hL]
theorem L_sub {f : Hp → Option Hp} (hL : A ++ X = L) (hL' : A ++ B = L') (h : f (Lh b ((cs ++ A) ++ X)) = some (Lh b ((cs ++ A) ++ B))) : f (Lh b (cs ++ L)) = some (Lh b (cs ++ L')) := by
  subst hL; subst hL'
  rw [List.append_assoc, List.append_assoc] at h
  exact h
theorem L_more (hn : cs.length = n) (hA : A.length = i) : (cs ++ A).length = n + i := by rw [List.length_append, hn, hA]
def B0 (b n : Nat) : List Ce := ([.inl (0, [.int 0, .ref (b + (n + 1)), .ref (b + (n + 2)), .ref (b + (n + 3))]), r0 8, r0 8, r0 8])
set_option maxRecDepth 100000 in
theorem i_X0 (hn : cs.length = n) : fX0_init (Lh b (cs ++ ([.inl (0, [.int 0, .null, .null, .null])]))) (b + n) = some (Lh b (cs ++ B0 b n)) := by
  unfold fX0_init
  rw [show b + n = b + (n + 0) from rfl]
  have s1 : newA 8 (Lh b (cs ++ ([.inl (0, [.int 0, .null, .null, .null])]))) 8 = some (b + (n + 1), Lh b (cs ++ ([.inl (0, [.int 0, .null, .null, .null]), r0 8]))) := L_newA hn (i := 1) rfl (by decide) rfl rfl
  rw [s1, bind_sm]
  try dsimp only
  have s2 : putV (Lh b (cs ++ ([.inl (0, [.int 0, .null, .null, .null]), r0 8]))) 0 (b + (n + 0)) 1 (.ref (b + (n + 1))) = some (Lh b (cs ++ ([.inl (0, [.int 0, .ref (b + (n + 1)), .null, .null]), r0 8]))) := L_put hn (i := 0) rfl (Nat.le_of_ble_eq_true rfl) rfl
  rw [s2, bind_sm]
  try dsimp only
  have s3 : newA 8 (Lh b (cs ++ ([.inl (0, [.int 0, .ref (b + (n + 1)), .null, .null]), r0 8]))) 8 = some (b + (n + 2), Lh b (cs ++ ([.inl (0, [.int 0, .ref (b + (n + 1)), .null, .null]), r0 8, r0 8]))) := L_newA hn (i := 2) rfl (by decide) rfl rfl
  rw [s3, bind_sm]
  try dsimp only
  have s4 : putV (Lh b (cs ++ ([.inl (0, [.int 0, .ref (b + (n + 1)), .null, .null]), r0 8, r0 8]))) 0 (b + (n + 0)) 2 (.ref (b + (n + 2))) = some (Lh b (cs ++ ([.inl (0, [.int 0, .ref (b + (n + 1)), .ref (b + (n + 2)), .null]), r0 8, r0 8]))) := L_put hn (i := 0) rfl (Nat.le_of_ble_eq_true rfl) rfl
  rw [s4, bind_sm]
  try dsimp only
  have s5 : newA 8 (Lh b (cs ++ ([.inl (0, [.int 0, .ref (b + (n + 1)), .ref (b + (n + 2)), .null]), r0 8, r0 8]))) 8 = some (b + (n + 3), Lh b (cs ++ ([.inl (0, [.int 0, .ref (b + (n + 1)), .ref (b + (n + 2)), .null]), r0 8, r0 8, r0 8]))) := L_newA hn (i := 3) rfl (by decide) rfl rfl
  rw [s5, bind_sm]
  try dsimp only
  have s6 : putV (Lh b (cs ++ ([.inl (0, [.int 0, .ref (b + (n + 1)), .ref (b + (n + 2)), .null]), r0 8, r0 8, r0 8]))) 0 (b + (n + 0)) 3 (.ref (b + (n + 3))) = some (Lh b (cs ++ ([.inl (0, [.int 0, .ref (b + (n + 1)), .ref (b + (n + 2)), .ref (b + (n + 3))]), r0 8, r0 8, r0 8]))) := L_put hn (i := 0) rfl (Nat.le_of_ble_eq_true rfl) rfl
  rw [s6, bind_sm]
  try dsimp only
  rfl
def B7 (b n : Nat) (a1 : Nat) : List Ce := ([.inl (7, [.int 0, .int 0, .int 0, .ref (b + (n + 1)), .ref (b + (n + 2)), .ref (b + (n + 3)), .ref (b + (n + 4)), .ref (b + (n + 5)), .ref (b + (n + 6)), .ref (b + (n + 7)), .ref (b + (n + 8)), .ref a1, .ref a1]), r0 8, r0 8, r0 4, r0 4, r0 4, r0 4, r0 4, r0 32])
set_option maxRecDepth 100000 in
theorem i_X7 {a1 : Nat} (hn : cs.length = n) : fX7_init (Lh b (cs ++ ([.inl (7, [.int 0, .int 0, .int 0, .null, .null, .null, .null, .null, .null, .null, .null, .null, .null])]))) (b + n) a1 = some (Lh b (cs ++ B7 b n a1)) := by
  unfold fX7_init
  rw [show b + n = b + (n + 0) from rfl]
  have s1 : newA 8 (Lh b (cs ++ ([.inl (7, [.int 0, .int 0, .int 0, .null, .null, .null, .null, .null, .null, .null, .null, .null, .null])]))) 8 = some (b + (n + 1), Lh b (cs ++ ([.inl (7, [.int 0, .int 0, .int 0, .null, .null, .null, .null, .null, .null, .null, .null, .null, .null]), r0 8]))) := L_newA hn (i := 1) rfl (by decide) rfl rfl
  rw [s1, bind_sm]
  try dsimp only
  have s2 : putV (Lh b (cs ++ ([.inl (7, [.int 0, .int 0, .int 0, .null, .null, .null, .null, .null, .null, .null, .null, .null, .null]), r0 8]))) 7 (b + (n + 0)) 3 (.ref (b + (n + 1))) = some (Lh b (cs ++ ([.inl (7, [.int 0, .int 0, .int 0, .ref (b + (n + 1)), .null, .null, .null, .null, .null, .null, .null, .null, .null]), r0 8]))) := L_put hn (i := 0) rfl (Nat.le_of_ble_eq_true rfl) rfl
  rw [s2, bind_sm]
  try dsimp only
  have s3 : newA 8 (Lh b (cs ++ ([.inl (7, [.int 0, .int 0, .int 0, .ref (b + (n + 1)), .null, .null, .null, .null, .null, .null, .null, .null, .null]), r0 8]))) 8 = some (b + (n + 2), Lh b (cs ++ ([.inl (7, [.int 0, .int 0, .int 0, .ref (b + (n + 1)), .null, .null, .null, .null, .null, .null, .null, .null, .null]), r0 8, r0 8]))) := L_newA hn (i := 2) rfl (by decide) rfl rfl
  rw [s3, bind_sm]
  try dsimp only
  have s4 : putV (Lh b (cs ++ ([.inl (7, [.int 0, .int 0, .int 0, .ref (b + (n + 1)), .null, .null, .null, .null, .null, .null, .null, .null, .null]), r0 8, r0 8]))) 7 (b + (n + 0)) 4 (.ref (b + (n + 2))) = some (Lh b (cs ++ ([.inl (7, [.int 0, .int 0, .int 0, .ref (b + (n + 1)), .ref (b + (n + 2)), .null, .null, .null, .null, .null, .null, .null, .null]), r0 8, r0 8]))) := L_put hn (i := 0) rfl (Nat.le_of_ble_eq_true rfl) rfl
  rw [s4, bind_sm]
  try dsimp only
  have s5 : newA 4 (Lh b (cs ++ ([.inl (7, [.int 0, .int 0, .int 0, .ref (b + (n + 1)), .ref (b + (n + 2)), .null, .null, .null, .null, .null, .null, .null, .null]), r0 8, r0 8]))) 4 = some (b + (n + 3), Lh b (cs ++ ([.inl (7, [.int 0, .int 0, .int 0, .ref (b + (n + 1)), .ref (b + (n + 2)), .null, .null, .null, .null, .null, .null, .null, .null]), r0 8, r0 8, r0 4]))) := L_newA hn (i := 3) rfl (by decide) rfl rfl
  rw [s5, bind_sm]
  try dsimp only
  have s6 : putV (Lh b (cs ++ ([.inl (7, [.int 0, .int 0, .int 0, .ref (b + (n + 1)), .ref (b + (n + 2)), .null, .null, .null, .null, .null, .null, .null, .null]), r0 8, r0 8, r0 4]))) 7 (b + (n + 0)) 5 (.ref (b + (n + 3))) = some (Lh b (cs ++ ([.inl (7, [.int 0, .int 0, .int 0, .ref (b + (n + 1)), .ref (b + (n + 2)), .ref (b + (n + 3)), .null, .null, .null, .null, .null, .null, .null]), r0 8, r0 8, r0 4]))) := L_put hn (i := 0) rfl (Nat.le_of_ble_eq_true rfl) rfl
  rw [s6, bind_sm]
  try dsimp only
  have s7 : newA 4 (Lh b (cs ++ ([.inl (7, [.int 0, .int 0, .int 0, .ref (b + (n + 1)), .ref (b + (n + 2)), .ref (b + (n + 3)), .null, .null, .null, .null, .null, .null, .null]), r0 8, r0 8, r0 4]))) 4 = some (b + (n + 4), Lh b (cs ++ ([.inl (7, [.int 0, .int 0, .int 0, .ref (b + (n + 1)), .ref (b + (n + 2)), .ref (b + (n + 3)), .null, .null, .null, .null, .null, .null, .null]), r0 8, r0 8, r0 4, r0 4]))) := L_newA hn (i := 4) rfl (by decide) rfl rfl
  rw [s7, bind_sm]
  try dsimp only
  have s8 : putV (Lh b (cs ++ ([.inl (7, [.int 0, .int 0, .int 0, .ref (b + (n + 1)), .ref (b + (n + 2)), .ref (b + (n + 3)), .null, .null, .null, .null, .null, .null, .null]), r0 8, r0 8, r0 4, r0 4]))) 7 (b + (n + 0)) 6 (.ref (b + (n + 4))) = some (Lh b (cs ++ ([.inl (7, [.int 0, .int 0, .int 0, .ref (b + (n + 1)), .ref (b + (n + 2)), .ref (b + (n + 3)), .ref (b + (n + 4)), .null, .null, .null, .null, .null, .null]), r0 8, r0 8, r0 4, r0 4]))) := L_put hn (i := 0) rfl (Nat.le_of_ble_eq_true rfl) rfl
  rw [s8, bind_sm]
  try dsimp only
  have s9 : newA 4 (Lh b (cs ++ ([.inl (7, [.int 0, .int 0, .int 0, .ref (b + (n + 1)), .ref (b + (n + 2)), .ref (b + (n + 3)), .ref (b + (n + 4)), .null, .null, .null, .null, .null, .null]), r0 8, r0 8, r0 4, r0 4]))) 4 = some (b + (n + 5), Lh b (cs ++ ([.inl (7, [.int 0, .int 0, .int 0, .ref (b + (n + 1)), .ref (b + (n + 2)), .ref (b + (n + 3)), .ref (b + (n + 4)), .null, .null, .null, .null, .null, .null]), r0 8, r0 8, r0 4, r0 4, r0 4]))) := L_newA hn (i := 5) rfl (by decide) rfl rfl
  rw [s9, bind_sm]
  try dsimp only
  have s10 : putV (Lh b (cs ++ ([.inl (7, [.int 0, .int 0, .int 0, .ref (b + (n + 1)), .ref (b + (n + 2)), .ref (b + (n + 3)), .ref (b + (n + 4)), .null, .null, .null, .null, .null, .null]), r0 8, r0 8, r0 4, r0 4, r0 4]))) 7 (b + (n + 0)) 7 (.ref (b + (n + 5))) = some (Lh b (cs ++ ([.inl (7, [.int 0, .int 0, .int 0, .ref (b + (n + 1)), .ref (b + (n + 2)), .ref (b + (n + 3)), .ref (b + (n + 4)), .ref (b + (n + 5)), .null, .null, .null, .null, .null]), r0 8, r0 8, r0 4, r0 4, r0 4]))) := L_put hn (i := 0) rfl (Nat.le_of_ble_eq_true rfl) rfl
  rw [s10, bind_sm]
  try dsimp only
  have s11 : newA 4 (Lh b (cs ++ ([.inl (7, [.int 0, .int 0, .int 0, .ref (b + (n + 1)), .ref (b + (n + 2)), .ref (b + (n + 3)), .ref (b + (n + 4)), .ref (b + (n + 5)), .null, .null, .null, .null, .null]), r0 8, r0 8, r0 4, r0 4, r0 4]))) 4 = some (b + (n + 6), Lh b (cs ++ ([.inl (7, [.int 0, .int 0, .int 0, .ref (b + (n + 1)), .ref (b + (n + 2)), .ref (b + (n + 3)), .ref (b + (n + 4)), .ref (b + (n + 5)), .null, .null, .null, .null, .null]), r0 8, r0 8, r0 4, r0 4, r0 4, r0 4]))) := L_newA hn (i := 6) rfl (by decide) rfl rfl
  rw [s11, bind_sm]
  try dsimp only
  have s12 : putV (Lh b (cs ++ ([.inl (7, [.int 0, .int 0, .int 0, .ref (b + (n + 1)), .ref (b + (n + 2)), .ref (b + (n + 3)), .ref (b + (n + 4)), .ref (b + (n + 5)), .null, .null, .null, .null, .null]), r0 8, r0 8, r0 4, r0 4, r0 4, r0 4]))) 7 (b + (n + 0)) 8 (.ref (b + (n + 6))) = some (Lh b (cs ++ ([.inl (7, [.int 0, .int 0, .int 0, .ref (b + (n + 1)), .ref (b + (n + 2)), .ref (b + (n + 3)), .ref (b + (n + 4)), .ref (b + (n + 5)), .ref (b + (n + 6)), .null, .null, .null, .null]), r0 8, r0 8, r0 4, r0 4, r0 4, r0 4]))) := L_put hn (i := 0) rfl (Nat.le_of_ble_eq_true rfl) rfl
  rw [s12, bind_sm]
  try dsimp only
  have s13 : newA 4 (Lh b (cs ++ ([.inl (7, [.int 0, .int 0, .int 0, .ref (b + (n + 1)), .ref (b + (n + 2)), .ref (b + (n + 3)), .ref (b + (n + 4)), .ref (b + (n + 5)), .ref (b + (n + 6)), .null, .null, .null, .null]), r0 8, r0 8, r0 4, r0 4, r0 4, r0 4]))) 4 = some (b + (n + 7), Lh b (cs ++ ([.inl (7, [.int 0, .int 0, .int 0, .ref (b + (n + 1)), .ref (b + (n + 2)), .ref (b + (n + 3)), .ref (b + (n + 4)), .ref (b + (n + 5)), .ref (b + (n + 6)), .null, .null, .null, .null]), r0 8, r0 8, r0 4, r0 4, r0 4, r0 4, r0 4]))) := L_newA hn (i := 7) rfl (by decide) rfl rfl
  rw [s13, bind_sm]
  try dsimp only
  have s14 : putV (Lh b (cs ++ ([.inl (7, [.int 0, .int 0, .int 0, .ref (b + (n + 1)), .ref (b + (n + 2)), .ref (b + (n + 3)), .ref (b + (n + 4)), .ref (b + (n + 5)), .ref (b + (n + 6)), .null, .null, .null, .null]), r0 8, r0 8, r0 4, r0 4, r0 4, r0 4, r0 4]))) 7 (b + (n + 0)) 9 (.ref (b + (n + 7))) = some (Lh b (cs ++ ([.inl (7, [.int 0, .int 0, .int 0, .ref (b + (n + 1)), .ref (b + (n + 2)), .ref (b + (n + 3)), .ref (b + (n + 4)), .ref (b + (n + 5)), .ref (b + (n + 6)), .ref (b + (n + 7)), .null, .null, .null]), r0 8, r0 8, r0 4, r0 4, r0 4, r0 4, r0 4]))) := L_put hn (i := 0) rfl (Nat.le_of_ble_eq_true rfl) rfl
  rw [s14, bind_sm]
  try dsimp only
  have s15 : newA 32 (Lh b (cs ++ ([.inl (7, [.int 0, .int 0, .int 0, .ref (b + (n + 1)), .ref (b + (n + 2)), .ref (b + (n + 3)), .ref (b + (n + 4)), .ref (b + (n + 5)), .ref (b + (n + 6)), .ref (b + (n + 7)), .null, .null, .null]), r0 8, r0 8, r0 4, r0 4, r0 4, r0 4, r0 4]))) 32 = some (b + (n + 8), Lh b (cs ++ ([.inl (7, [.int 0, .int 0, .int 0, .ref (b + (n + 1)), .ref (b + (n + 2)), .ref (b + (n + 3)), .ref (b + (n + 4)), .ref (b + (n + 5)), .ref (b + (n + 6)), .ref (b + (n + 7)), .null, .null, .null]), r0 8, r0 8, r0 4, r0 4, r0 4, r0 4, r0 4, r0 32]))) := L_newA hn (i := 8) rfl (by decide) rfl rfl
  rw [s15, bind_sm]
  try dsimp only
  have s16 : putV (Lh b (cs ++ ([.inl (7, [.int 0, .int 0, .int 0, .ref (b + (n + 1)), .ref (b + (n + 2)), .ref (b + (n + 3)), .ref (b + (n + 4)), .ref (b + (n + 5)), .ref (b + (n + 6)), .ref (b + (n + 7)), .null, .null, .null]), r0 8, r0 8, r0 4, r0 4, r0 4, r0 4, r0 4, r0 32]))) 7 (b + (n + 0)) 10 (.ref (b + (n + 8))) = some (Lh b (cs ++ ([.inl (7, [.int 0, .int 0, .int 0, .ref (b + (n + 1)), .ref (b + (n + 2)), .ref (b + (n + 3)), .ref (b + (n + 4)), .ref (b + (n + 5)), .ref (b + (n + 6)), .ref (b + (n + 7)), .ref (b + (n + 8)), .null, .null]), r0 8, r0 8, r0 4, r0 4, r0 4, r0 4, r0 4, r0 32]))) := L_put hn (i := 0) rfl (Nat.le_of_ble_eq_true rfl) rfl
  rw [s16, bind_sm]
  try dsimp only
  have s17 : putV (Lh b (cs ++ ([.inl (7, [.int 0, .int 0, .int 0, .ref (b + (n + 1)), .ref (b + (n + 2)), .ref (b + (n + 3)), .ref (b + (n + 4)), .ref (b + (n + 5)), .ref (b + (n + 6)), .ref (b + (n + 7)), .ref (b + (n + 8)), .null, .null]), r0 8, r0 8, r0 4, r0 4, r0 4, r0 4, r0 4, r0 32]))) 7 (b + (n + 0)) 11 (.ref a1) = some (Lh b (cs ++ ([.inl (7, [.int 0, .int 0, .int 0, .ref (b + (n + 1)), .ref (b + (n + 2)), .ref (b + (n + 3)), .ref (b + (n + 4)), .ref (b + (n + 5)), .ref (b + (n + 6)), .ref (b + (n + 7)), .ref (b + (n + 8)), .ref a1, .null]), r0 8, r0 8, r0 4, r0 4, r0 4, r0 4, r0 4, r0 32]))) := L_put hn (i := 0) rfl (Nat.le_of_ble_eq_true rfl) rfl
  rw [s17, bind_sm]
  try dsimp only
  have s18 : putV (Lh b (cs ++ ([.inl (7, [.int 0, .int 0, .int 0, .ref (b + (n + 1)), .ref (b + (n + 2)), .ref (b + (n + 3)), .ref (b + (n + 4)), .ref (b + (n + 5)), .ref (b + (n + 6)), .ref (b + (n + 7)), .ref (b + (n + 8)), .ref a1, .null]), r0 8, r0 8, r0 4, r0 4, r0 4, r0 4, r0 4, r0 32]))) 7 (b + (n + 0)) 12 (.ref a1) = some (Lh b (cs ++ ([.inl (7, [.int 0, .int 0, .int 0, .ref (b + (n + 1)), .ref (b + (n + 2)), .ref (b + (n + 3)), .ref (b + (n + 4)), .ref (b + (n + 5)), .ref (b + (n + 6)), .ref (b + (n + 7)), .ref (b + (n + 8)), .ref a1, .ref a1]), r0 8, r0 8, r0 4, r0 4, r0 4, r0 4, r0 4, r0 32]))) := L_put hn (i := 0) rfl (Nat.le_of_ble_eq_true rfl) rfl
  rw [s18, bind_sm]
  try dsimp only
  rfl
def B1 (b n : Nat) (a1 : Nat) : List Ce := ([.inl (1, [.ref (b + (n + 8)), .ref (b + (n + 1)), .ref (b + (n + 5)), .int 0, .ref (b + (n + 6)), .int 0, .ref (b + (n + 7)), .int 0, .int 1])] ++ B0 b (n + 1) ++ [r0 60, r0 24, r0 24] ++ B7 b (n + 8) a1)
set_option maxRecDepth 100000 in
theorem i_X1 {a1 : Nat} (hn : cs.length = n) : fX1_init (Lh b (cs ++ ([.inl (1, [.null, .null, .null, .int 0, .null, .int 0, .null, .int 0, .int 0])]))) (b + n) a1 = some (Lh b (cs ++ B1 b n a1)) := by
  unfold fX1_init
  rw [show b + n = b + (n + 0) from rfl]
  have s1 : newO (Lh b (cs ++ ([.inl (1, [.null, .null, .null, .int 0, .null, .int 0, .null, .int 0, .int 0])]))) 0 [.int 0, .null, .null, .null] = some (b + (n + 1), Lh b (cs ++ ([.inl (1, [.null, .null, .null, .int 0, .null, .int 0, .null, .int 0, .int 0]), .inl (0, [.int 0, .null, .null, .null])]))) := L_newO hn (i := 1) rfl rfl
  rw [s1, bind_sm]
  try dsimp only
  have s2 : fX0_init (Lh b (cs ++ ([.inl (1, [.null, .null, .null, .int 0, .null, .int 0, .null, .int 0, .int 0]), .inl (0, [.int 0, .null, .null, .null])]))) (b + (n + 1)) = some (Lh b (cs ++ ([.inl (1, [.null, .null, .null, .int 0, .null, .int 0, .null, .int 0, .int 0])] ++ B0 b (n + 1)))) := L_sub (f := fun h => fX0_init h (b + (n + 1))) (A := ([.inl (1, [.null, .null, .null, .int 0, .null, .int 0, .null, .int 0, .int 0])])) (X := [.inl (0, [.int 0, .null, .null, .null])]) (B := B0 b (n + 1)) rfl rfl (i_X0 (L_more hn rfl))
  rw [s2, bind_sm]
  try dsimp only
  have s3 : putV (Lh b (cs ++ ([.inl (1, [.null, .null, .null, .int 0, .null, .int 0, .null, .int 0, .int 0])] ++ B0 b (n + 1)))) 1 (b + (n + 0)) 1 (.ref (b + (n + 1))) = some (Lh b (cs ++ ([.inl (1, [.null, .ref (b + (n + 1)), .null, .int 0, .null, .int 0, .null, .int 0, .int 0])] ++ B0 b (n + 1)))) := L_put hn (i := 0) rfl (Nat.le_of_ble_eq_true rfl) rfl
  rw [s3, bind_sm]
  try dsimp only
  have s4 : newA 60 (Lh b (cs ++ ([.inl (1, [.null, .ref (b + (n + 1)), .null, .int 0, .null, .int 0, .null, .int 0, .int 0])] ++ B0 b (n + 1)))) 60 = some (b + (n + 5), Lh b (cs ++ ([.inl (1, [.null, .ref (b + (n + 1)), .null, .int 0, .null, .int 0, .null, .int 0, .int 0])] ++ B0 b (n + 1) ++ [r0 60]))) := L_newA hn (i := 5) rfl (by decide) rfl rfl
  rw [s4, bind_sm]
  try dsimp only
  have s5 : putV (Lh b (cs ++ ([.inl (1, [.null, .ref (b + (n + 1)), .null, .int 0, .null, .int 0, .null, .int 0, .int 0])] ++ B0 b (n + 1) ++ [r0 60]))) 1 (b + (n + 0)) 2 (.ref (b + (n + 5))) = some (Lh b (cs ++ ([.inl (1, [.null, .ref (b + (n + 1)), .ref (b + (n + 5)), .int 0, .null, .int 0, .null, .int 0, .int 0])] ++ B0 b (n + 1) ++ [r0 60]))) := L_put hn (i := 0) rfl (Nat.le_of_ble_eq_true rfl) rfl
  rw [s5, bind_sm]
  try dsimp only
  have s6 : newA 24 (Lh b (cs ++ ([.inl (1, [.null, .ref (b + (n + 1)), .ref (b + (n + 5)), .int 0, .null, .int 0, .null, .int 0, .int 0])] ++ B0 b (n + 1) ++ [r0 60]))) 24 = some (b + (n + 6), Lh b (cs ++ ([.inl (1, [.null, .ref (b + (n + 1)), .ref (b + (n + 5)), .int 0, .null, .int 0, .null, .int 0, .int 0])] ++ B0 b (n + 1) ++ [r0 60, r0 24]))) := L_newA hn (i := 6) rfl (by decide) rfl rfl
  rw [s6, bind_sm]
  try dsimp only
  have s7 : putV (Lh b (cs ++ ([.inl (1, [.null, .ref (b + (n + 1)), .ref (b + (n + 5)), .int 0, .null, .int 0, .null, .int 0, .int 0])] ++ B0 b (n + 1) ++ [r0 60, r0 24]))) 1 (b + (n + 0)) 4 (.ref (b + (n + 6))) = some (Lh b (cs ++ ([.inl (1, [.null, .ref (b + (n + 1)), .ref (b + (n + 5)), .int 0, .ref (b + (n + 6)), .int 0, .null, .int 0, .int 0])] ++ B0 b (n + 1) ++ [r0 60, r0 24]))) := L_put hn (i := 0) rfl (Nat.le_of_ble_eq_true rfl) rfl
  rw [s7, bind_sm]
  try dsimp only
  have s8 : newA 24 (Lh b (cs ++ ([.inl (1, [.null, .ref (b + (n + 1)), .ref (b + (n + 5)), .int 0, .ref (b + (n + 6)), .int 0, .null, .int 0, .int 0])] ++ B0 b (n + 1) ++ [r0 60, r0 24]))) 24 = some (b + (n + 7), Lh b (cs ++ ([.inl (1, [.null, .ref (b + (n + 1)), .ref (b + (n + 5)), .int 0, .ref (b + (n + 6)), .int 0, .null, .int 0, .int 0])] ++ B0 b (n + 1) ++ [r0 60, r0 24, r0 24]))) := L_newA hn (i := 7) rfl (by decide) rfl rfl
  rw [s8, bind_sm]
  try dsimp only
  have s9 : putV (Lh b (cs ++ ([.inl (1, [.null, .ref (b + (n + 1)), .ref (b + (n + 5)), .int 0, .ref (b + (n + 6)), .int 0, .null, .int 0, .int 0])] ++ B0 b (n + 1) ++ [r0 60, r0 24, r0 24]))) 1 (b + (n + 0)) 6 (.ref (b + (n + 7))) = some (Lh b (cs ++ ([.inl (1, [.null, .ref (b + (n + 1)), .ref (b + (n + 5)), .int 0, .ref (b + (n + 6)), .int 0, .ref (b + (n + 7)), .int 0, .int 0])] ++ B0 b (n + 1) ++ [r0 60, r0 24, r0 24]))) := L_put hn (i := 0) rfl (Nat.le_of_ble_eq_true rfl) rfl
  rw [s9, bind_sm]
  try dsimp only
  have s10 : putV (Lh b (cs ++ ([.inl (1, [.null, .ref (b + (n + 1)), .ref (b + (n + 5)), .int 0, .ref (b + (n + 6)), .int 0, .ref (b + (n + 7)), .int 0, .int 0])] ++ B0 b (n + 1) ++ [r0 60, r0 24, r0 24]))) 1 (b + (n + 0)) 8 (.int 1) = some (Lh b (cs ++ ([.inl (1, [.null, .ref (b + (n + 1)), .ref (b + (n + 5)), .int 0, .ref (b + (n + 6)), .int 0, .ref (b + (n + 7)), .int 0, .int 1])] ++ B0 b (n + 1) ++ [r0 60, r0 24, r0 24]))) := L_put hn (i := 0) rfl (Nat.le_of_ble_eq_true rfl) rfl
  rw [s10, bind_sm]
  try dsimp only
  have s11 : newO (Lh b (cs ++ ([.inl (1, [.null, .ref (b + (n + 1)), .ref (b + (n + 5)), .int 0, .ref (b + (n + 6)), .int 0, .ref (b + (n + 7)), .int 0, .int 1])] ++ B0 b (n + 1) ++ [r0 60, r0 24, r0 24]))) 7 [.int 0, .int 0, .int 0, .null, .null, .null, .null, .null, .null, .null, .null, .null, .null] = some (b + (n + 8), Lh b (cs ++ ([.inl (1, [.null, .ref (b + (n + 1)), .ref (b + (n + 5)), .int 0, .ref (b + (n + 6)), .int 0, .ref (b + (n + 7)), .int 0, .int 1])] ++ B0 b (n + 1) ++ [r0 60, r0 24, r0 24, .inl (7, [.int 0, .int 0, .int 0, .null, .null, .null, .null, .null, .null, .null, .null, .null, .null])]))) := L_newO hn (i := 8) rfl rfl
  rw [s11, bind_sm]
  try dsimp only
  have s12 : fX7_init (Lh b (cs ++ ([.inl (1, [.null, .ref (b + (n + 1)), .ref (b + (n + 5)), .int 0, .ref (b + (n + 6)), .int 0, .ref (b + (n + 7)), .int 0, .int 1])] ++ B0 b (n + 1) ++ [r0 60, r0 24, r0 24, .inl (7, [.int 0, .int 0, .int 0, .null, .null, .null, .null, .null, .null, .null, .null, .null, .null])]))) (b + (n + 8)) a1 = some (Lh b (cs ++ ([.inl (1, [.null, .ref (b + (n + 1)), .ref (b + (n + 5)), .int 0, .ref (b + (n + 6)), .int 0, .ref (b + (n + 7)), .int 0, .int 1])] ++ B0 b (n + 1) ++ [r0 60, r0 24, r0 24] ++ B7 b (n + 8) a1))) := L_sub (f := fun h => fX7_init h (b + (n + 8)) a1) (A := ([.inl (1, [.null, .ref (b + (n + 1)), .ref (b + (n + 5)), .int 0, .ref (b + (n + 6)), .int 0, .ref (b + (n + 7)), .int 0, .int 1])] ++ B0 b (n + 1) ++ [r0 60, r0 24, r0 24])) (X := [.inl (7, [.int 0, .int 0, .int 0, .null, .null, .null, .null, .null, .null, .null, .null, .null, .null])]) (B := B7 b (n + 8) a1) rfl rfl (i_X7 (L_more hn rfl) (a1 := a1))
  rw [s12, bind_sm]
  try dsimp only
  have s13 : putV (Lh b (cs ++ ([.inl (1, [.null, .ref (b + (n + 1)), .ref (b + (n + 5)), .int 0, .ref (b + (n + 6)), .int 0, .ref (b + (n + 7)), .int 0, .int 1])] ++ B0 b (n + 1) ++ [r0 60, r0 24, r0 24] ++ B7 b (n + 8) a1))) 1 (b + (n + 0)) 0 (.ref (b + (n + 8))) = some (Lh b (cs ++ ([.inl (1, [.ref (b + (n + 8)), .ref (b + (n + 1)), .ref (b + (n + 5)), .int 0, .ref (b + (n + 6)), .int 0, .ref (b + (n + 7)), .int 0, .int 1])] ++ B0 b (n + 1) ++ [r0 60, r0 24, r0 24] ++ B7 b (n + 8) a1))) := L_put hn (i := 0) rfl (Nat.le_of_ble_eq_true rfl) rfl
  rw [s13, bind_sm]
  try dsimp only
  rfl
def B5 (b n : Nat) : List Ce := ([.inl (5, [.ref (b + (n + 1)), .int 0, .int 0, .int 0, .int 0, .int 0]), r0 30])
set_option maxRecDepth 100000 in
theorem i_X5 (hn : cs.length = n) : fX5_init (Lh b (cs ++ ([.inl (5, [.null, .int 0, .int 0, .int 0, .int 0, .int 0])]))) (b + n) = some (Lh b (cs ++ B5 b n)) := by
  unfold fX5_init
  rw [show b + n = b + (n + 0) from rfl]
  have s1 : newA 30 (Lh b (cs ++ ([.inl (5, [.null, .int 0, .int 0, .int 0, .int 0, .int 0])]))) 30 = some (b + (n + 1), Lh b (cs ++ ([.inl (5, [.null, .int 0, .int 0, .int 0, .int 0, .int 0]), r0 30]))) := L_newA hn (i := 1) rfl (by decide) rfl rfl
  rw [s1, bind_sm]
  try dsimp only
  have s2 : putV (Lh b (cs ++ ([.inl (5, [.null, .int 0, .int 0, .int 0, .int 0, .int 0]), r0 30]))) 5 (b + (n + 0)) 0 (.ref (b + (n + 1))) = some (Lh b (cs ++ ([.inl (5, [.ref (b + (n + 1)), .int 0, .int 0, .int 0, .int 0, .int 0]), r0 30]))) := L_put hn (i := 0) rfl (Nat.le_of_ble_eq_true rfl) rfl
  rw [s2, bind_sm]
  try dsimp only
  rfl
def B4 (b n : Nat) : List Ce := ([.inl (4, [.ref (b + (n + 1)), .ref (b + (n + 2)), .ref (b + (n + 3))]), r0 4, r0 4, eO (b + (n + 3)), eI, eI, eI, eI])
set_option maxRecDepth 100000 in
theorem i_X4 (hn : cs.length = n) : fX4_init (Lh b (cs ++ ([.inl (4, [.null, .null, .null])]))) (b + n) = some (Lh b (cs ++ B4 b n)) := by
  unfold fX4_init
  rw [show b + n = b + (n + 0) from rfl]
  have s1 : newA 4 (Lh b (cs ++ ([.inl (4, [.null, .null, .null])]))) 4 = some (b + (n + 1), Lh b (cs ++ ([.inl (4, [.null, .null, .null]), r0 4]))) := L_newA hn (i := 1) rfl (by decide) rfl rfl
  rw [s1, bind_sm]
  try dsimp only
  have s2 : putV (Lh b (cs ++ ([.inl (4, [.null, .null, .null]), r0 4]))) 4 (b + (n + 0)) 0 (.ref (b + (n + 1))) = some (Lh b (cs ++ ([.inl (4, [.ref (b + (n + 1)), .null, .null]), r0 4]))) := L_put hn (i := 0) rfl (Nat.le_of_ble_eq_true rfl) rfl
  rw [s2, bind_sm]
  try dsimp only
  have s3 : newA 4 (Lh b (cs ++ ([.inl (4, [.ref (b + (n + 1)), .null, .null]), r0 4]))) 4 = some (b + (n + 2), Lh b (cs ++ ([.inl (4, [.ref (b + (n + 1)), .null, .null]), r0 4, r0 4]))) := L_newA hn (i := 2) rfl (by decide) rfl rfl
  rw [s3, bind_sm]
  try dsimp only
  have s4 : putV (Lh b (cs ++ ([.inl (4, [.ref (b + (n + 1)), .null, .null]), r0 4, r0 4]))) 4 (b + (n + 0)) 1 (.ref (b + (n + 2))) = some (Lh b (cs ++ ([.inl (4, [.ref (b + (n + 1)), .ref (b + (n + 2)), .null]), r0 4, r0 4]))) := L_put hn (i := 0) rfl (Nat.le_of_ble_eq_true rfl) rfl
  rw [s4, bind_sm]
  try dsimp only
  have s5 : newM (Lh b (cs ++ ([.inl (4, [.ref (b + (n + 1)), .ref (b + (n + 2)), .null]), r0 4, r0 4]))) = some (b + (n + 3), Lh b (cs ++ ([.inl (4, [.ref (b + (n + 1)), .ref (b + (n + 2)), .null]), r0 4, r0 4, eO (b + (n + 3)), eI, eI, eI, eI]))) := L_newM hn (i := 3) rfl rfl
  rw [s5, bind_sm]
  try dsimp only
  have s6 : putV (Lh b (cs ++ ([.inl (4, [.ref (b + (n + 1)), .ref (b + (n + 2)), .null]), r0 4, r0 4, eO (b + (n + 3)), eI, eI, eI, eI]))) 4 (b + (n + 0)) 2 (.ref (b + (n + 3))) = some (Lh b (cs ++ ([.inl (4, [.ref (b + (n + 1)), .ref (b + (n + 2)), .ref (b + (n + 3))]), r0 4, r0 4, eO (b + (n + 3)), eI, eI, eI, eI]))) := L_put hn (i := 0) rfl (Nat.le_of_ble_eq_true rfl) rfl
  rw [s6, bind_sm]
  try dsimp only
  rfl
def B6 (b n : Nat) (a1 : Nat) : List Ce := ([.inl (6, [.ref (b + (n + 1)), .int 0, .int 0, .ref (b + (n + 2)), .ref (b + (n + 3)), .int 0, .int 0, .int 0]), .inr (.inr (1, 7, va_up (va_up (va_up (va_up (va_up (va_up (va_up (fun _ => none) 0 (some (b + (n + 4)))) 1 (some (b + (n + 13)))) 2 (some (b + (n + 22)))) 3 (some (b + (n + 31)))) 4 (some (b + (n + 40)))) 5 (some (b + (n + 49)))) 6 (some (b + (n + 58))))), r0 6, r0 6] ++ B7 b (n + 4) a1 ++ B7 b (n + 13) a1 ++ B7 b (n + 22) a1 ++ B7 b (n + 31) a1 ++ B7 b (n + 40) a1 ++ B7 b (n + 49) a1 ++ B7 b (n + 58) a1)
set_option maxRecDepth 100000 in
theorem i_X6 {a1 : Nat} (hn : cs.length = n) : fX6_init (Lh b (cs ++ ([.inl (6, [.null, .int 0, .int 0, .null, .null, .int 0, .int 0, .int 0])]))) (b + n) a1 = some (Lh b (cs ++ B6 b n a1)) := by
  unfold fX6_init
  rw [show b + n = b + (n + 0) from rfl]
  have s1 : newR 7 (Lh b (cs ++ ([.inl (6, [.null, .int 0, .int 0, .null, .null, .int 0, .int 0, .int 0])]))) 7 = some (b + (n + 1), Lh b (cs ++ ([.inl (6, [.null, .int 0, .int 0, .null, .null, .int 0, .int 0, .int 0]), .inr (.inr (1, 7, fun _ => none))]))) := L_newR hn (i := 1) rfl (by decide) rfl rfl
  rw [s1, bind_sm]
  try dsimp only
  have s2 : putV (Lh b (cs ++ ([.inl (6, [.null, .int 0, .int 0, .null, .null, .int 0, .int 0, .int 0]), .inr (.inr (1, 7, fun _ => none))]))) 6 (b + (n + 0)) 0 (.ref (b + (n + 1))) = some (Lh b (cs ++ ([.inl (6, [.ref (b + (n + 1)), .int 0, .int 0, .null, .null, .int 0, .int 0, .int 0]), .inr (.inr (1, 7, fun _ => none))]))) := L_put hn (i := 0) rfl (Nat.le_of_ble_eq_true rfl) rfl
  rw [s2, bind_sm]
  try dsimp only
  have s3 : newA 6 (Lh b (cs ++ ([.inl (6, [.ref (b + (n + 1)), .int 0, .int 0, .null, .null, .int 0, .int 0, .int 0]), .inr (.inr (1, 7, fun _ => none))]))) 6 = some (b + (n + 2), Lh b (cs ++ ([.inl (6, [.ref (b + (n + 1)), .int 0, .int 0, .null, .null, .int 0, .int 0, .int 0]), .inr (.inr (1, 7, fun _ => none)), r0 6]))) := L_newA hn (i := 2) rfl (by decide) rfl rfl
  rw [s3, bind_sm]
  try dsimp only
  have s4 : putV (Lh b (cs ++ ([.inl (6, [.ref (b + (n + 1)), .int 0, .int 0, .null, .null, .int 0, .int 0, .int 0]), .inr (.inr (1, 7, fun _ => none)), r0 6]))) 6 (b + (n + 0)) 3 (.ref (b + (n + 2))) = some (Lh b (cs ++ ([.inl (6, [.ref (b + (n + 1)), .int 0, .int 0, .ref (b + (n + 2)), .null, .int 0, .int 0, .int 0]), .inr (.inr (1, 7, fun _ => none)), r0 6]))) := L_put hn (i := 0) rfl (Nat.le_of_ble_eq_true rfl) rfl
  rw [s4, bind_sm]
  try dsimp only
  have s5 : newA 6 (Lh b (cs ++ ([.inl (6, [.ref (b + (n + 1)), .int 0, .int 0, .ref (b + (n + 2)), .null, .int 0, .int 0, .int 0]), .inr (.inr (1, 7, fun _ => none)), r0 6]))) 6 = some (b + (n + 3), Lh b (cs ++ ([.inl (6, [.ref (b + (n + 1)), .int 0, .int 0, .ref (b + (n + 2)), .null, .int 0, .int 0, .int 0]), .inr (.inr (1, 7, fun _ => none)), r0 6, r0 6]))) := L_newA hn (i := 3) rfl (by decide) rfl rfl
  rw [s5, bind_sm]
  try dsimp only
  have s6 : putV (Lh b (cs ++ ([.inl (6, [.ref (b + (n + 1)), .int 0, .int 0, .ref (b + (n + 2)), .null, .int 0, .int 0, .int 0]), .inr (.inr (1, 7, fun _ => none)), r0 6, r0 6]))) 6 (b + (n + 0)) 4 (.ref (b + (n + 3))) = some (Lh b (cs ++ ([.inl (6, [.ref (b + (n + 1)), .int 0, .int 0, .ref (b + (n + 2)), .ref (b + (n + 3)), .int 0, .int 0, .int 0]), .inr (.inr (1, 7, fun _ => none)), r0 6, r0 6]))) := L_put hn (i := 0) rfl (Nat.le_of_ble_eq_true rfl) rfl
  rw [s6, bind_sm]
  try dsimp only
  rw [if_neg (by decide)]
  have s7 : getR (Lh b (cs ++ ([.inl (6, [.ref (b + (n + 1)), .int 0, .int 0, .ref (b + (n + 2)), .ref (b + (n + 3)), .int 0, .int 0, .int 0]), .inr (.inr (1, 7, fun _ => none)), r0 6, r0 6]))) 6 (b + (n + 0)) 0 = some (b + (n + 1)) := L_getR hn (i := 0) rfl rfl
  rw [s7, bind_sm]
  try dsimp only
  have s8 : newO (Lh b (cs ++ ([.inl (6, [.ref (b + (n + 1)), .int 0, .int 0, .ref (b + (n + 2)), .ref (b + (n + 3)), .int 0, .int 0, .int 0]), .inr (.inr (1, 7, fun _ => none)), r0 6, r0 6]))) 7 [.int 0, .int 0, .int 0, .null, .null, .null, .null, .null, .null, .null, .null, .null, .null] = some (b + (n + 4), Lh b (cs ++ ([.inl (6, [.ref (b + (n + 1)), .int 0, .int 0, .ref (b + (n + 2)), .ref (b + (n + 3)), .int 0, .int 0, .int 0]), .inr (.inr (1, 7, fun _ => none)), r0 6, r0 6, .inl (7, [.int 0, .int 0, .int 0, .null, .null, .null, .null, .null, .null, .null, .null, .null, .null])]))) := L_newO hn (i := 4) rfl rfl
  rw [s8, bind_sm]
  try dsimp only
  have s9 : fX7_init (Lh b (cs ++ ([.inl (6, [.ref (b + (n + 1)), .int 0, .int 0, .ref (b + (n + 2)), .ref (b + (n + 3)), .int 0, .int 0, .int 0]), .inr (.inr (1, 7, fun _ => none)), r0 6, r0 6, .inl (7, [.int 0, .int 0, .int 0, .null, .null, .null, .null, .null, .null, .null, .null, .null, .null])]))) (b + (n + 4)) a1 = some (Lh b (cs ++ ([.inl (6, [.ref (b + (n + 1)), .int 0, .int 0, .ref (b + (n + 2)), .ref (b + (n + 3)), .int 0, .int 0, .int 0]), .inr (.inr (1, 7, fun _ => none)), r0 6, r0 6] ++ B7 b (n + 4) a1))) := L_sub (f := fun h => fX7_init h (b + (n + 4)) a1) (A := ([.inl (6, [.ref (b + (n + 1)), .int 0, .int 0, .ref (b + (n + 2)), .ref (b + (n + 3)), .int 0, .int 0, .int 0]), .inr (.inr (1, 7, fun _ => none)), r0 6, r0 6])) (X := [.inl (7, [.int 0, .int 0, .int 0, .null, .null, .null, .null, .null, .null, .null, .null, .null, .null])]) (B := B7 b (n + 4) a1) rfl rfl (i_X7 (L_more hn rfl) (a1 := a1))
  rw [s9, bind_sm]
  try dsimp only
  have s10 : wrR (Lh b (cs ++ ([.inl (6, [.ref (b + (n + 1)), .int 0, .int 0, .ref (b + (n + 2)), .ref (b + (n + 3)), .int 0, .int 0, .int 0]), .inr (.inr (1, 7, fun _ => none)), r0 6, r0 6] ++ B7 b (n + 4) a1))) (b + (n + 1)) ((0 : Int32)) (b + (n + 4)) = some (Lh b (cs ++ ([.inl (6, [.ref (b + (n + 1)), .int 0, .int 0, .ref (b + (n + 2)), .ref (b + (n + 3)), .int 0, .int 0, .int 0]), .inr (.inr (1, 7, va_up (fun _ => none) 0 (some (b + (n + 4))))), r0 6, r0 6] ++ B7 b (n + 4) a1))) := L_wrR hn (i := 1) (u := 4) (k := 7) (q := 0) rfl rfl (by decide) (by decide) rfl
  rw [s10, bind_sm]
  try dsimp only
  rw [if_neg (by decide)]
  have s11 : getR (Lh b (cs ++ ([.inl (6, [.ref (b + (n + 1)), .int 0, .int 0, .ref (b + (n + 2)), .ref (b + (n + 3)), .int 0, .int 0, .int 0]), .inr (.inr (1, 7, va_up (fun _ => none) 0 (some (b + (n + 4))))), r0 6, r0 6] ++ B7 b (n + 4) a1))) 6 (b + (n + 0)) 0 = some (b + (n + 1)) := L_getR hn (i := 0) rfl rfl
  rw [s11, bind_sm]
  try dsimp only
  have s12 : newO (Lh b (cs ++ ([.inl (6, [.ref (b + (n + 1)), .int 0, .int 0, .ref (b + (n + 2)), .ref (b + (n + 3)), .int 0, .int 0, .int 0]), .inr (.inr (1, 7, va_up (fun _ => none) 0 (some (b + (n + 4))))), r0 6, r0 6] ++ B7 b (n + 4) a1))) 7 [.int 0, .int 0, .int 0, .null, .null, .null, .null, .null, .null, .null, .null, .null, .null] = some (b + (n + 13), Lh b (cs ++ ([.inl (6, [.ref (b + (n + 1)), .int 0, .int 0, .ref (b + (n + 2)), .ref (b + (n + 3)), .int 0, .int 0, .int 0]), .inr (.inr (1, 7, va_up (fun _ => none) 0 (some (b + (n + 4))))), r0 6, r0 6] ++ B7 b (n + 4) a1 ++ [.inl (7, [.int 0, .int 0, .int 0, .null, .null, .null, .null, .null, .null, .null, .null, .null, .null])]))) := L_newO hn (i := 13) rfl rfl
  rw [s12, bind_sm]
  try dsimp only
  have s13 : fX7_init (Lh b (cs ++ ([.inl (6, [.ref (b + (n + 1)), .int 0, .int 0, .ref (b + (n + 2)), .ref (b + (n + 3)), .int 0, .int 0, .int 0]), .inr (.inr (1, 7, va_up (fun _ => none) 0 (some (b + (n + 4))))), r0 6, r0 6] ++ B7 b (n + 4) a1 ++ [.inl (7, [.int 0, .int 0, .int 0, .null, .null, .null, .null, .null, .null, .null, .null, .null, .null])]))) (b + (n + 13)) a1 = some (Lh b (cs ++ ([.inl (6, [.ref (b + (n + 1)), .int 0, .int 0, .ref (b + (n + 2)), .ref (b + (n + 3)), .int 0, .int 0, .int 0]), .inr (.inr (1, 7, va_up (fun _ => none) 0 (some (b + (n + 4))))), r0 6, r0 6] ++ B7 b (n + 4) a1 ++ B7 b (n + 13) a1))) := L_sub (f := fun h => fX7_init h (b + (n + 13)) a1) (A := ([.inl (6, [.ref (b + (n + 1)), .int 0, .int 0, .ref (b + (n + 2)), .ref (b + (n + 3)), .int 0, .int 0, .int 0]), .inr (.inr (1, 7, va_up (fun _ => none) 0 (some (b + (n + 4))))), r0 6, r0 6] ++ B7 b (n + 4) a1)) (X := [.inl (7, [.int 0, .int 0, .int 0, .null, .null, .null, .null, .null, .null, .null, .null, .null, .null])]) (B := B7 b (n + 13) a1) rfl rfl (i_X7 (L_more hn rfl) (a1 := a1))
  rw [s13, bind_sm]
  try dsimp only
  have s14 : wrR (Lh b (cs ++ ([.inl (6, [.ref (b + (n + 1)), .int 0, .int 0, .ref (b + (n + 2)), .ref (b + (n + 3)), .int 0, .int 0, .int 0]), .inr (.inr (1, 7, va_up (fun _ => none) 0 (some (b + (n + 4))))), r0 6, r0 6] ++ B7 b (n + 4) a1 ++ B7 b (n + 13) a1))) (b + (n + 1)) (((0 : Int32) + 1)) (b + (n + 13)) = some (Lh b (cs ++ ([.inl (6, [.ref (b + (n + 1)), .int 0, .int 0, .ref (b + (n + 2)), .ref (b + (n + 3)), .int 0, .int 0, .int 0]), .inr (.inr (1, 7, va_up (va_up (fun _ => none) 0 (some (b + (n + 4)))) 1 (some (b + (n + 13))))), r0 6, r0 6] ++ B7 b (n + 4) a1 ++ B7 b (n + 13) a1))) := L_wrR hn (i := 1) (u := 13) (k := 7) (q := 1) rfl rfl (by decide) (by decide) rfl
  rw [s14, bind_sm]
  try dsimp only
  rw [if_neg (by decide)]
  have s15 : getR (Lh b (cs ++ ([.inl (6, [.ref (b + (n + 1)), .int 0, .int 0, .ref (b + (n + 2)), .ref (b + (n + 3)), .int 0, .int 0, .int 0]), .inr (.inr (1, 7, va_up (va_up (fun _ => none) 0 (some (b + (n + 4)))) 1 (some (b + (n + 13))))), r0 6, r0 6] ++ B7 b (n + 4) a1 ++ B7 b (n + 13) a1))) 6 (b + (n + 0)) 0 = some (b + (n + 1)) := L_getR hn (i := 0) rfl rfl
  rw [s15, bind_sm]
  try dsimp only
  have s16 : newO (Lh b (cs ++ ([.inl (6, [.ref (b + (n + 1)), .int 0, .int 0, .ref (b + (n + 2)), .ref (b + (n + 3)), .int 0, .int 0, .int 0]), .inr (.inr (1, 7, va_up (va_up (fun _ => none) 0 (some (b + (n + 4)))) 1 (some (b + (n + 13))))), r0 6, r0 6] ++ B7 b (n + 4) a1 ++ B7 b (n + 13) a1))) 7 [.int 0, .int 0, .int 0, .null, .null, .null, .null, .null, .null, .null, .null, .null, .null] = some (b + (n + 22), Lh b (cs ++ ([.inl (6, [.ref (b + (n + 1)), .int 0, .int 0, .ref (b + (n + 2)), .ref (b + (n + 3)), .int 0, .int 0, .int 0]), .inr (.inr (1, 7, va_up (va_up (fun _ => none) 0 (some (b + (n + 4)))) 1 (some (b + (n + 13))))), r0 6, r0 6] ++ B7 b (n + 4) a1 ++ B7 b (n + 13) a1 ++ [.inl (7, [.int 0, .int 0, .int 0, .null, .null, .null, .null, .null, .null, .null, .null, .null, .null])]))) := L_newO hn (i := 22) rfl rfl
  rw [s16, bind_sm]
  try dsimp only
  have s17 : fX7_init (Lh b (cs ++ ([.inl (6, [.ref (b + (n + 1)), .int 0, .int 0, .ref (b + (n + 2)), .ref (b + (n + 3)), .int 0, .int 0, .int 0]), .inr (.inr (1, 7, va_up (va_up (fun _ => none) 0 (some (b + (n + 4)))) 1 (some (b + (n + 13))))), r0 6, r0 6] ++ B7 b (n + 4) a1 ++ B7 b (n + 13) a1 ++ [.inl (7, [.int 0, .int 0, .int 0, .null, .null, .null, .null, .null, .null, .null, .null, .null, .null])]))) (b + (n + 22)) a1 = some (Lh b (cs ++ ([.inl (6, [.ref (b + (n + 1)), .int 0, .int 0, .ref (b + (n + 2)), .ref (b + (n + 3)), .int 0, .int 0, .int 0]), .inr (.inr (1, 7, va_up (va_up (fun _ => none) 0 (some (b + (n + 4)))) 1 (some (b + (n + 13))))), r0 6, r0 6] ++ B7 b (n + 4) a1 ++ B7 b (n + 13) a1 ++ B7 b (n + 22) a1))) := L_sub (f := fun h => fX7_init h (b + (n + 22)) a1) (A := ([.inl (6, [.ref (b + (n + 1)), .int 0, .int 0, .ref (b + (n + 2)), .ref (b + (n + 3)), .int 0, .int 0, .int 0]), .inr (.inr (1, 7, va_up (va_up (fun _ => none) 0 (some (b + (n + 4)))) 1 (some (b + (n + 13))))), r0 6, r0 6] ++ B7 b (n + 4) a1 ++ B7 b (n + 13) a1)) (X := [.inl (7, [.int 0, .int 0, .int 0, .null, .null, .null, .null, .null, .null, .null, .null, .null, .null])]) (B := B7 b (n + 22) a1) rfl rfl (i_X7 (L_more hn rfl) (a1 := a1))
  rw [s17, bind_sm]
  try dsimp only
  have s18 : wrR (Lh b (cs ++ ([.inl (6, [.ref (b + (n + 1)), .int 0, .int 0, .ref (b + (n + 2)), .ref (b + (n + 3)), .int 0, .int 0, .int 0]), .inr (.inr (1, 7, va_up (va_up (fun _ => none) 0 (some (b + (n + 4)))) 1 (some (b + (n + 13))))), r0 6, r0 6] ++ B7 b (n + 4) a1 ++ B7 b (n + 13) a1 ++ B7 b (n + 22) a1))) (b + (n + 1)) ((((0 : Int32) + 1) + 1)) (b + (n + 22)) = some (Lh b (cs ++ ([.inl (6, [.ref (b + (n + 1)), .int 0, .int 0, .ref (b + (n + 2)), .ref (b + (n + 3)), .int 0, .int 0, .int 0]), .inr (.inr (1, 7, va_up (va_up (va_up (fun _ => none) 0 (some (b + (n + 4)))) 1 (some (b + (n + 13)))) 2 (some (b + (n + 22))))), r0 6, r0 6] ++ B7 b (n + 4) a1 ++ B7 b (n + 13) a1 ++ B7 b (n + 22) a1))) := L_wrR hn (i := 1) (u := 22) (k := 7) (q := 2) rfl rfl (by decide) (by decide) rfl
  rw [s18, bind_sm]
  try dsimp only
  rw [if_neg (by decide)]
  have s19 : getR (Lh b (cs ++ ([.inl (6, [.ref (b + (n + 1)), .int 0, .int 0, .ref (b + (n + 2)), .ref (b + (n + 3)), .int 0, .int 0, .int 0]), .inr (.inr (1, 7, va_up (va_up (va_up (fun _ => none) 0 (some (b + (n + 4)))) 1 (some (b + (n + 13)))) 2 (some (b + (n + 22))))), r0 6, r0 6] ++ B7 b (n + 4) a1 ++ B7 b (n + 13) a1 ++ B7 b (n + 22) a1))) 6 (b + (n + 0)) 0 = some (b + (n + 1)) := L_getR hn (i := 0) rfl rfl
  rw [s19, bind_sm]
  try dsimp only
  have s20 : newO (Lh b (cs ++ ([.inl (6, [.ref (b + (n + 1)), .int 0, .int 0, .ref (b + (n + 2)), .ref (b + (n + 3)), .int 0, .int 0, .int 0]), .inr (.inr (1, 7, va_up (va_up (va_up (fun _ => none) 0 (some (b + (n + 4)))) 1 (some (b + (n + 13)))) 2 (some (b + (n + 22))))), r0 6, r0 6] ++ B7 b (n + 4) a1 ++ B7 b (n + 13) a1 ++ B7 b (n + 22) a1))) 7 [.int 0, .int 0, .int 0, .null, .null, .null, .null, .null, .null, .null, .null, .null, .null] = some (b + (n + 31), Lh b (cs ++ ([.inl (6, [.ref (b + (n + 1)), .int 0, .int 0, .ref (b + (n + 2)), .ref (b + (n + 3)), .int 0, .int 0, .int 0]), .inr (.inr (1, 7, va_up (va_up (va_up (fun _ => none) 0 (some (b + (n + 4)))) 1 (some (b + (n + 13)))) 2 (some (b + (n + 22))))), r0 6, r0 6] ++ B7 b (n + 4) a1 ++ B7 b (n + 13) a1 ++ B7 b (n + 22) a1 ++ [.inl (7, [.int 0, .int 0, .int 0, .null, .null, .null, .null, .null, .null, .null, .null, .null, .null])]))) := L_newO hn (i := 31) rfl rfl
  rw [s20, bind_sm]
  try dsimp only
  have s21 : fX7_init (Lh b (cs ++ ([.inl (6, [.ref (b + (n + 1)), .int 0, .int 0, .ref (b + (n + 2)), .ref (b + (n + 3)), .int 0, .int 0, .int 0]), .inr (.inr (1, 7, va_up (va_up (va_up (fun _ => none) 0 (some (b + (n + 4)))) 1 (some (b + (n + 13)))) 2 (some (b + (n + 22))))), r0 6, r0 6] ++ B7 b (n + 4) a1 ++ B7 b (n + 13) a1 ++ B7 b (n + 22) a1 ++ [.inl (7, [.int 0, .int 0, .int 0, .null, .null, .null, .null, .null, .null, .null, .null, .null, .null])]))) (b + (n + 31)) a1 = some (Lh b (cs ++ ([.inl (6, [.ref (b + (n + 1)), .int 0, .int 0, .ref (b + (n + 2)), .ref (b + (n + 3)), .int 0, .int 0, .int 0]), .inr (.inr (1, 7, va_up (va_up (va_up (fun _ => none) 0 (some (b + (n + 4)))) 1 (some (b + (n + 13)))) 2 (some (b + (n + 22))))), r0 6, r0 6] ++ B7 b (n + 4) a1 ++ B7 b (n + 13) a1 ++ B7 b (n + 22) a1 ++ B7 b (n + 31) a1))) := L_sub (f := fun h => fX7_init h (b + (n + 31)) a1) (A := ([.inl (6, [.ref (b + (n + 1)), .int 0, .int 0, .ref (b + (n + 2)), .ref (b + (n + 3)), .int 0, .int 0, .int 0]), .inr (.inr (1, 7, va_up (va_up (va_up (fun _ => none) 0 (some (b + (n + 4)))) 1 (some (b + (n + 13)))) 2 (some (b + (n + 22))))), r0 6, r0 6] ++ B7 b (n + 4) a1 ++ B7 b (n + 13) a1 ++ B7 b (n + 22) a1)) (X := [.inl (7, [.int 0, .int 0, .int 0, .null, .null, .null, .null, .null, .null, .null, .null, .null, .null])]) (B := B7 b (n + 31) a1) rfl rfl (i_X7 (L_more hn rfl) (a1 := a1))
  rw [s21, bind_sm]
  try dsimp only
  have s22 : wrR (Lh b (cs ++ ([.inl (6, [.ref (b + (n + 1)), .int 0, .int 0, .ref (b + (n + 2)), .ref (b + (n + 3)), .int 0, .int 0, .int 0]), .inr (.inr (1, 7, va_up (va_up (va_up (fun _ => none) 0 (some (b + (n + 4)))) 1 (some (b + (n + 13)))) 2 (some (b + (n + 22))))), r0 6, r0 6] ++ B7 b (n + 4) a1 ++ B7 b (n + 13) a1 ++ B7 b (n + 22) a1 ++ B7 b (n + 31) a1))) (b + (n + 1)) (((((0 : Int32) + 1) + 1) + 1)) (b + (n + 31)) = some (Lh b (cs ++ ([.inl (6, [.ref (b + (n + 1)), .int 0, .int 0, .ref (b + (n + 2)), .ref (b + (n + 3)), .int 0, .int 0, .int 0]), .inr (.inr (1, 7, va_up (va_up (va_up (va_up (fun _ => none) 0 (some (b + (n + 4)))) 1 (some (b + (n + 13)))) 2 (some (b + (n + 22)))) 3 (some (b + (n + 31))))), r0 6, r0 6] ++ B7 b (n + 4) a1 ++ B7 b (n + 13) a1 ++ B7 b (n + 22) a1 ++ B7 b (n + 31) a1))) := L_wrR hn (i := 1) (u := 31) (k := 7) (q := 3) rfl rfl (by decide) (by decide) rfl
  rw [s22, bind_sm]
  try dsimp only
  rw [if_neg (by decide)]
  have s23 : getR (Lh b (cs ++ ([.inl (6, [.ref (b + (n + 1)), .int 0, .int 0, .ref (b + (n + 2)), .ref (b + (n + 3)), .int 0, .int 0, .int 0]), .inr (.inr (1, 7, va_up (va_up (va_up (va_up (fun _ => none) 0 (some (b + (n + 4)))) 1 (some (b + (n + 13)))) 2 (some (b + (n + 22)))) 3 (some (b + (n + 31))))), r0 6, r0 6] ++ B7 b (n + 4) a1 ++ B7 b (n + 13) a1 ++ B7 b (n + 22) a1 ++ B7 b (n + 31) a1))) 6 (b + (n + 0)) 0 = some (b + (n + 1)) := L_getR hn (i := 0) rfl rfl
  rw [s23, bind_sm]
  try dsimp only
  have s24 : newO (Lh b (cs ++ ([.inl (6, [.ref (b + (n + 1)), .int 0, .int 0, .ref (b + (n + 2)), .ref (b + (n + 3)), .int 0, .int 0, .int 0]), .inr (.inr (1, 7, va_up (va_up (va_up (va_up (fun _ => none) 0 (some (b + (n + 4)))) 1 (some (b + (n + 13)))) 2 (some (b + (n + 22)))) 3 (some (b + (n + 31))))), r0 6, r0 6] ++ B7 b (n + 4) a1 ++ B7 b (n + 13) a1 ++ B7 b (n + 22) a1 ++ B7 b (n + 31) a1))) 7 [.int 0, .int 0, .int 0, .null, .null, .null, .null, .null, .null, .null, .null, .null, .null] = some (b + (n + 40), Lh b (cs ++ ([.inl (6, [.ref (b + (n + 1)), .int 0, .int 0, .ref (b + (n + 2)), .ref (b + (n + 3)), .int 0, .int 0, .int 0]), .inr (.inr (1, 7, va_up (va_up (va_up (va_up (fun _ => none) 0 (some (b + (n + 4)))) 1 (some (b + (n + 13)))) 2 (some (b + (n + 22)))) 3 (some (b + (n + 31))))), r0 6, r0 6] ++ B7 b (n + 4) a1 ++ B7 b (n + 13) a1 ++ B7 b (n + 22) a1 ++ B7 b (n + 31) a1 ++ [.inl (7, [.int 0, .int 0, .int 0, .null, .null, .null, .null, .null, .null, .null, .null, .null, .null])]))) := L_newO hn (i := 40) rfl rfl
  rw [s24, bind_sm]
  try dsimp only
  have s25 : fX7_init (Lh b (cs ++ ([.inl (6, [.ref (b + (n + 1)), .int 0, .int 0, .ref (b + (n + 2)), .ref (b + (n + 3)), .int 0, .int 0, .int 0]), .inr (.inr (1, 7, va_up (va_up (va_up (va_up (fun _ => none) 0 (some (b + (n + 4)))) 1 (some (b + (n + 13)))) 2 (some (b + (n + 22)))) 3 (some (b + (n + 31))))), r0 6, r0 6] ++ B7 b (n + 4) a1 ++ B7 b (n + 13) a1 ++ B7 b (n + 22) a1 ++ B7 b (n + 31) a1 ++ [.inl (7, [.int 0, .int 0, .int 0, .null, .null, .null, .null, .null, .null, .null, .null, .null, .null])]))) (b + (n + 40)) a1 = some (Lh b (cs ++ ([.inl (6, [.ref (b + (n + 1)), .int 0, .int 0, .ref (b + (n + 2)), .ref (b + (n + 3)), .int 0, .int 0, .int 0]), .inr (.inr (1, 7, va_up (va_up (va_up (va_up (fun _ => none) 0 (some (b + (n + 4)))) 1 (some (b + (n + 13)))) 2 (some (b + (n + 22)))) 3 (some (b + (n + 31))))), r0 6, r0 6] ++ B7 b (n + 4) a1 ++ B7 b (n + 13) a1 ++ B7 b (n + 22) a1 ++ B7 b (n + 31) a1 ++ B7 b (n + 40) a1))) := L_sub (f := fun h => fX7_init h (b + (n + 40)) a1) (A := ([.inl (6, [.ref (b + (n + 1)), .int 0, .int 0, .ref (b + (n + 2)), .ref (b + (n + 3)), .int 0, .int 0, .int 0]), .inr (.inr (1, 7, va_up (va_up (va_up (va_up (fun _ => none) 0 (some (b + (n + 4)))) 1 (some (b + (n + 13)))) 2 (some (b + (n + 22)))) 3 (some (b + (n + 31))))), r0 6, r0 6] ++ B7 b (n + 4) a1 ++ B7 b (n + 13) a1 ++ B7 b (n + 22) a1 ++ B7 b (n + 31) a1)) (X := [.inl (7, [.int 0, .int 0, .int 0, .null, .null, .null, .null, .null, .null, .null, .null, .null, .null])]) (B := B7 b (n + 40) a1) rfl rfl (i_X7 (L_more hn rfl) (a1 := a1))
  rw [s25, bind_sm]
  try dsimp only
  have s26 : wrR (Lh b (cs ++ ([.inl (6, [.ref (b + (n + 1)), .int 0, .int 0, .ref (b + (n + 2)), .ref (b + (n + 3)), .int 0, .int 0, .int 0]), .inr (.inr (1, 7, va_up (va_up (va_up (va_up (fun _ => none) 0 (some (b + (n + 4)))) 1 (some (b + (n + 13)))) 2 (some (b + (n + 22)))) 3 (some (b + (n + 31))))), r0 6, r0 6] ++ B7 b (n + 4) a1 ++ B7 b (n + 13) a1 ++ B7 b (n + 22) a1 ++ B7 b (n + 31) a1 ++ B7 b (n + 40) a1))) (b + (n + 1)) ((((((0 : Int32) + 1) + 1) + 1) + 1)) (b + (n + 40)) = some (Lh b (cs ++ ([.inl (6, [.ref (b + (n + 1)), .int 0, .int 0, .ref (b + (n + 2)), .ref (b + (n + 3)), .int 0, .int 0, .int 0]), .inr (.inr (1, 7, va_up (va_up (va_up (va_up (va_up (fun _ => none) 0 (some (b + (n + 4)))) 1 (some (b + (n + 13)))) 2 (some (b + (n + 22)))) 3 (some (b + (n + 31)))) 4 (some (b + (n + 40))))), r0 6, r0 6] ++ B7 b (n + 4) a1 ++ B7 b (n + 13) a1 ++ B7 b (n + 22) a1 ++ B7 b (n + 31) a1 ++ B7 b (n + 40) a1))) := L_wrR hn (i := 1) (u := 40) (k := 7) (q := 4) rfl rfl (by decide) (by decide) rfl
  rw [s26, bind_sm]
  try dsimp only
  rw [if_neg (by decide)]
  have s27 : getR (Lh b (cs ++ ([.inl (6, [.ref (b + (n + 1)), .int 0, .int 0, .ref (b + (n + 2)), .ref (b + (n + 3)), .int 0, .int 0, .int 0]), .inr (.inr (1, 7, va_up (va_up (va_up (va_up (va_up (fun _ => none) 0 (some (b + (n + 4)))) 1 (some (b + (n + 13)))) 2 (some (b + (n + 22)))) 3 (some (b + (n + 31)))) 4 (some (b + (n + 40))))), r0 6, r0 6] ++ B7 b (n + 4) a1 ++ B7 b (n + 13) a1 ++ B7 b (n + 22) a1 ++ B7 b (n + 31) a1 ++ B7 b (n + 40) a1))) 6 (b + (n + 0)) 0 = some (b + (n + 1)) := L_getR hn (i := 0) rfl rfl
  rw [s27, bind_sm]
  try dsimp only
  have s28 : newO (Lh b (cs ++ ([.inl (6, [.ref (b + (n + 1)), .int 0, .int 0, .ref (b + (n + 2)), .ref (b + (n + 3)), .int 0, .int 0, .int 0]), .inr (.inr (1, 7, va_up (va_up (va_up (va_up (va_up (fun _ => none) 0 (some (b + (n + 4)))) 1 (some (b + (n + 13)))) 2 (some (b + (n + 22)))) 3 (some (b + (n + 31)))) 4 (some (b + (n + 40))))), r0 6, r0 6] ++ B7 b (n + 4) a1 ++ B7 b (n + 13) a1 ++ B7 b (n + 22) a1 ++ B7 b (n + 31) a1 ++ B7 b (n + 40) a1))) 7 [.int 0, .int 0, .int 0, .null, .null, .null, .null, .null, .null, .null, .null, .null, .null] = some (b + (n + 49), Lh b (cs ++ ([.inl (6, [.ref (b + (n + 1)), .int 0, .int 0, .ref (b + (n + 2)), .ref (b + (n + 3)), .int 0, .int 0, .int 0]), .inr (.inr (1, 7, va_up (va_up (va_up (va_up (va_up (fun _ => none) 0 (some (b + (n + 4)))) 1 (some (b + (n + 13)))) 2 (some (b + (n + 22)))) 3 (some (b + (n + 31)))) 4 (some (b + (n + 40))))), r0 6, r0 6] ++ B7 b (n + 4) a1 ++ B7 b (n + 13) a1 ++ B7 b (n + 22) a1 ++ B7 b (n + 31) a1 ++ B7 b (n + 40) a1 ++ [.inl (7, [.int 0, .int 0, .int 0, .null, .null, .null, .null, .null, .null, .null, .null, .null, .null])]))) := L_newO hn (i := 49) rfl rfl
  rw [s28, bind_sm]
  try dsimp only
  have s29 : fX7_init (Lh b (cs ++ ([.inl (6, [.ref (b + (n + 1)), .int 0, .int 0, .ref (b + (n + 2)), .ref (b + (n + 3)), .int 0, .int 0, .int 0]), .inr (.inr (1, 7, va_up (va_up (va_up (va_up (va_up (fun _ => none) 0 (some (b + (n + 4)))) 1 (some (b + (n + 13)))) 2 (some (b + (n + 22)))) 3 (some (b + (n + 31)))) 4 (some (b + (n + 40))))), r0 6, r0 6] ++ B7 b (n + 4) a1 ++ B7 b (n + 13) a1 ++ B7 b (n + 22) a1 ++ B7 b (n + 31) a1 ++ B7 b (n + 40) a1 ++ [.inl (7, [.int 0, .int 0, .int 0, .null, .null, .null, .null, .null, .null, .null, .null, .null, .null])]))) (b + (n + 49)) a1 = some (Lh b (cs ++ ([.inl (6, [.ref (b + (n + 1)), .int 0, .int 0, .ref (b + (n + 2)), .ref (b + (n + 3)), .int 0, .int 0, .int 0]), .inr (.inr (1, 7, va_up (va_up (va_up (va_up (va_up (fun _ => none) 0 (some (b + (n + 4)))) 1 (some (b + (n + 13)))) 2 (some (b + (n + 22)))) 3 (some (b + (n + 31)))) 4 (some (b + (n + 40))))), r0 6, r0 6] ++ B7 b (n + 4) a1 ++ B7 b (n + 13) a1 ++ B7 b (n + 22) a1 ++ B7 b (n + 31) a1 ++ B7 b (n + 40) a1 ++ B7 b (n + 49) a1))) := L_sub (f := fun h => fX7_init h (b + (n + 49)) a1) (A := ([.inl (6, [.ref (b + (n + 1)), .int 0, .int 0, .ref (b + (n + 2)), .ref (b + (n + 3)), .int 0, .int 0, .int 0]), .inr (.inr (1, 7, va_up (va_up (va_up (va_up (va_up (fun _ => none) 0 (some (b + (n + 4)))) 1 (some (b + (n + 13)))) 2 (some (b + (n + 22)))) 3 (some (b + (n + 31)))) 4 (some (b + (n + 40))))), r0 6, r0 6] ++ B7 b (n + 4) a1 ++ B7 b (n + 13) a1 ++ B7 b (n + 22) a1 ++ B7 b (n + 31) a1 ++ B7 b (n + 40) a1)) (X := [.inl (7, [.int 0, .int 0, .int 0, .null, .null, .null, .null, .null, .null, .null, .null, .null, .null])]) (B := B7 b (n + 49) a1) rfl rfl (i_X7 (L_more hn rfl) (a1 := a1))
  rw [s29, bind_sm]
  try dsimp only
  have s30 : wrR (Lh b (cs ++ ([.inl (6, [.ref (b + (n + 1)), .int 0, .int 0, .ref (b + (n + 2)), .ref (b + (n + 3)), .int 0, .int 0, .int 0]), .inr (.inr (1, 7, va_up (va_up (va_up (va_up (va_up (fun _ => none) 0 (some (b + (n + 4)))) 1 (some (b + (n + 13)))) 2 (some (b + (n + 22)))) 3 (some (b + (n + 31)))) 4 (some (b + (n + 40))))), r0 6, r0 6] ++ B7 b (n + 4) a1 ++ B7 b (n + 13) a1 ++ B7 b (n + 22) a1 ++ B7 b (n + 31) a1 ++ B7 b (n + 40) a1 ++ B7 b (n + 49) a1))) (b + (n + 1)) (((((((0 : Int32) + 1) + 1) + 1) + 1) + 1)) (b + (n + 49)) = some (Lh b (cs ++ ([.inl (6, [.ref (b + (n + 1)), .int 0, .int 0, .ref (b + (n + 2)), .ref (b + (n + 3)), .int 0, .int 0, .int 0]), .inr (.inr (1, 7, va_up (va_up (va_up (va_up (va_up (va_up (fun _ => none) 0 (some (b + (n + 4)))) 1 (some (b + (n + 13)))) 2 (some (b + (n + 22)))) 3 (some (b + (n + 31)))) 4 (some (b + (n + 40)))) 5 (some (b + (n + 49))))), r0 6, r0 6] ++ B7 b (n + 4) a1 ++ B7 b (n + 13) a1 ++ B7 b (n + 22) a1 ++ B7 b (n + 31) a1 ++ B7 b (n + 40) a1 ++ B7 b (n + 49) a1))) := L_wrR hn (i := 1) (u := 49) (k := 7) (q := 5) rfl rfl (by decide) (by decide) rfl
  rw [s30, bind_sm]
  try dsimp only
  rw [if_neg (by decide)]
  have s31 : getR (Lh b (cs ++ ([.inl (6, [.ref (b + (n + 1)), .int 0, .int 0, .ref (b + (n + 2)), .ref (b + (n + 3)), .int 0, .int 0, .int 0]), .inr (.inr (1, 7, va_up (va_up (va_up (va_up (va_up (va_up (fun _ => none) 0 (some (b + (n + 4)))) 1 (some (b + (n + 13)))) 2 (some (b + (n + 22)))) 3 (some (b + (n + 31)))) 4 (some (b + (n + 40)))) 5 (some (b + (n + 49))))), r0 6, r0 6] ++ B7 b (n + 4) a1 ++ B7 b (n + 13) a1 ++ B7 b (n + 22) a1 ++ B7 b (n + 31) a1 ++ B7 b (n + 40) a1 ++ B7 b (n + 49) a1))) 6 (b + (n + 0)) 0 = some (b + (n + 1)) := L_getR hn (i := 0) rfl rfl
  rw [s31, bind_sm]
  try dsimp only
  have s32 : newO (Lh b (cs ++ ([.inl (6, [.ref (b + (n + 1)), .int 0, .int 0, .ref (b + (n + 2)), .ref (b + (n + 3)), .int 0, .int 0, .int 0]), .inr (.inr (1, 7, va_up (va_up (va_up (va_up (va_up (va_up (fun _ => none) 0 (some (b + (n + 4)))) 1 (some (b + (n + 13)))) 2 (some (b + (n + 22)))) 3 (some (b + (n + 31)))) 4 (some (b + (n + 40)))) 5 (some (b + (n + 49))))), r0 6, r0 6] ++ B7 b (n + 4) a1 ++ B7 b (n + 13) a1 ++ B7 b (n + 22) a1 ++ B7 b (n + 31) a1 ++ B7 b (n + 40) a1 ++ B7 b (n + 49) a1))) 7 [.int 0, .int 0, .int 0, .null, .null, .null, .null, .null, .null, .null, .null, .null, .null] = some (b + (n + 58), Lh b (cs ++ ([.inl (6, [.ref (b + (n + 1)), .int 0, .int 0, .ref (b + (n + 2)), .ref (b + (n + 3)), .int 0, .int 0, .int 0]), .inr (.inr (1, 7, va_up (va_up (va_up (va_up (va_up (va_up (fun _ => none) 0 (some (b + (n + 4)))) 1 (some (b + (n + 13)))) 2 (some (b + (n + 22)))) 3 (some (b + (n + 31)))) 4 (some (b + (n + 40)))) 5 (some (b + (n + 49))))), r0 6, r0 6] ++ B7 b (n + 4) a1 ++ B7 b (n + 13) a1 ++ B7 b (n + 22) a1 ++ B7 b (n + 31) a1 ++ B7 b (n + 40) a1 ++ B7 b (n + 49) a1 ++ [.inl (7, [.int 0, .int 0, .int 0, .null, .null, .null, .null, .null, .null, .null, .null, .null, .null])]))) := L_newO hn (i := 58) rfl rfl
  rw [s32, bind_sm]
  try dsimp only
  have s33 : fX7_init (Lh b (cs ++ ([.inl (6, [.ref (b + (n + 1)), .int 0, .int 0, .ref (b + (n + 2)), .ref (b + (n + 3)), .int 0, .int 0, .int 0]), .inr (.inr (1, 7, va_up (va_up (va_up (va_up (va_up (va_up (fun _ => none) 0 (some (b + (n + 4)))) 1 (some (b + (n + 13)))) 2 (some (b + (n + 22)))) 3 (some (b + (n + 31)))) 4 (some (b + (n + 40)))) 5 (some (b + (n + 49))))), r0 6, r0 6] ++ B7 b (n + 4) a1 ++ B7 b (n + 13) a1 ++ B7 b (n + 22) a1 ++ B7 b (n + 31) a1 ++ B7 b (n + 40) a1 ++ B7 b (n + 49) a1 ++ [.inl (7, [.int 0, .int 0, .int 0, .null, .null, .null, .null, .null, .null, .null, .null, .null, .null])]))) (b + (n + 58)) a1 = some (Lh b (cs ++ ([.inl (6, [.ref (b + (n + 1)), .int 0, .int 0, .ref (b + (n + 2)), .ref (b + (n + 3)), .int 0, .int 0, .int 0]), .inr (.inr (1, 7, va_up (va_up (va_up (va_up (va_up (va_up (fun _ => none) 0 (some (b + (n + 4)))) 1 (some (b + (n + 13)))) 2 (some (b + (n + 22)))) 3 (some (b + (n + 31)))) 4 (some (b + (n + 40)))) 5 (some (b + (n + 49))))), r0 6, r0 6] ++ B7 b (n + 4) a1 ++ B7 b (n + 13) a1 ++ B7 b (n + 22) a1 ++ B7 b (n + 31) a1 ++ B7 b (n + 40) a1 ++ B7 b (n + 49) a1 ++ B7 b (n + 58) a1))) := L_sub (f := fun h => fX7_init h (b + (n + 58)) a1) (A := ([.inl (6, [.ref (b + (n + 1)), .int 0, .int 0, .ref (b + (n + 2)), .ref (b + (n + 3)), .int 0, .int 0, .int 0]), .inr (.inr (1, 7, va_up (va_up (va_up (va_up (va_up (va_up (fun _ => none) 0 (some (b + (n + 4)))) 1 (some (b + (n + 13)))) 2 (some (b + (n + 22)))) 3 (some (b + (n + 31)))) 4 (some (b + (n + 40)))) 5 (some (b + (n + 49))))), r0 6, r0 6] ++ B7 b (n + 4) a1 ++ B7 b (n + 13) a1 ++ B7 b (n + 22) a1 ++ B7 b (n + 31) a1 ++ B7 b (n + 40) a1 ++ B7 b (n + 49) a1)) (X := [.inl (7, [.int 0, .int 0, .int 0, .null, .null, .null, .null, .null, .null, .null, .null, .null, .null])]) (B := B7 b (n + 58) a1) rfl rfl (i_X7 (L_more hn rfl) (a1 := a1))
  rw [s33, bind_sm]
  try dsimp only
  have s34 : wrR (Lh b (cs ++ ([.inl (6, [.ref (b + (n + 1)), .int 0, .int 0, .ref (b + (n + 2)), .ref (b + (n + 3)), .int 0, .int 0, .int 0]), .inr (.inr (1, 7, va_up (va_up (va_up (va_up (va_up (va_up (fun _ => none) 0 (some (b + (n + 4)))) 1 (some (b + (n + 13)))) 2 (some (b + (n + 22)))) 3 (some (b + (n + 31)))) 4 (some (b + (n + 40)))) 5 (some (b + (n + 49))))), r0 6, r0 6] ++ B7 b (n + 4) a1 ++ B7 b (n + 13) a1 ++ B7 b (n + 22) a1 ++ B7 b (n + 31) a1 ++ B7 b (n + 40) a1 ++ B7 b (n + 49) a1 ++ B7 b (n + 58) a1))) (b + (n + 1)) ((((((((0 : Int32) + 1) + 1) + 1) + 1) + 1) + 1)) (b + (n + 58)) = some (Lh b (cs ++ ([.inl (6, [.ref (b + (n + 1)), .int 0, .int 0, .ref (b + (n + 2)), .ref (b + (n + 3)), .int 0, .int 0, .int 0]), .inr (.inr (1, 7, va_up (va_up (va_up (va_up (va_up (va_up (va_up (fun _ => none) 0 (some (b + (n + 4)))) 1 (some (b + (n + 13)))) 2 (some (b + (n + 22)))) 3 (some (b + (n + 31)))) 4 (some (b + (n + 40)))) 5 (some (b + (n + 49)))) 6 (some (b + (n + 58))))), r0 6, r0 6] ++ B7 b (n + 4) a1 ++ B7 b (n + 13) a1 ++ B7 b (n + 22) a1 ++ B7 b (n + 31) a1 ++ B7 b (n + 40) a1 ++ B7 b (n + 49) a1 ++ B7 b (n + 58) a1))) := L_wrR hn (i := 1) (u := 58) (k := 7) (q := 6) rfl rfl (by decide) (by decide) rfl
  rw [s34, bind_sm]
  try dsimp only
  rw [if_pos (by decide)]
  rfl
def B9 (b n : Nat) : List Ce := ([.inl (9, [.ref (b + (n + 1)), .ref (b + (n + 2)), .ref (b + (n + 3)), .ref (b + (n + 4)), .int 0, .ref (b + (n + 5)), .int 0, .int 0, .int 0, .int 0, .ref (b + (n + 6)), .ref (b + (n + 7)), .ref (b + (n + 8)), .ref (b + (n + 9)), .ref (b + (n + 10)), .ref (b + (n + 11)), .int 0, .int 0, .int 0, .ref (b + (n + 12)), .int 0, .int 0, .int 0, .ref (b + (n + 13)), .ref (b + (n + 14)), .ref (b + (n + 15)), .ref (b + (n + 16))]), .inr (.inl (458, upd (fun _ => 0) 7 1)), r0 458, r0 458, r0 992, r0 7, r0 124, r0 128, r0 64, r0 8, r0 6, r0 6, r0 30, r0 4, r0 4, r0 96, r0 24])
set_option maxRecDepth 100000 in
theorem i_X9 (hn : cs.length = n) : fX9_init (Lh b (cs ++ ([.inl (9, [.null, .null, .null, .null, .int 0, .null, .int 0, .int 0, .int 0, .int 0, .null, .null, .null, .null, .null, .null, .int 0, .int 0, .int 0, .null, .int 0, .int 0, .int 0, .null, .null, .null, .null])]))) (b + n) = some (Lh b (cs ++ B9 b n)) := by
  unfold fX9_init
  rw [show b + n = b + (n + 0) from rfl]
  have s1 : newA 458 (Lh b (cs ++ ([.inl (9, [.null, .null, .null, .null, .int 0, .null, .int 0, .int 0, .int 0, .int 0, .null, .null, .null, .null, .null, .null, .int 0, .int 0, .int 0, .null, .int 0, .int 0, .int 0, .null, .null, .null, .null])]))) 458 = some (b + (n + 1), Lh b (cs ++ ([.inl (9, [.null, .null, .null, .null, .int 0, .null, .int 0, .int 0, .int 0, .int 0, .null, .null, .null, .null, .null, .null, .int 0, .int 0, .int 0, .null, .int 0, .int 0, .int 0, .null, .null, .null, .null]), r0 458]))) := L_newA hn (i := 1) rfl (by decide) rfl rfl
  rw [s1, bind_sm]
  try dsimp only
  have s2 : putV (Lh b (cs ++ ([.inl (9, [.null, .null, .null, .null, .int 0, .null, .int 0, .int 0, .int 0, .int 0, .null, .null, .null, .null, .null, .null, .int 0, .int 0, .int 0, .null, .int 0, .int 0, .int 0, .null, .null, .null, .null]), r0 458]))) 9 (b + (n + 0)) 0 (.ref (b + (n + 1))) = some (Lh b (cs ++ ([.inl (9, [.ref (b + (n + 1)), .null, .null, .null, .int 0, .null, .int 0, .int 0, .int 0, .int 0, .null, .null, .null, .null, .null, .null, .int 0, .int 0, .int 0, .null, .int 0, .int 0, .int 0, .null, .null, .null, .null]), r0 458]))) := L_put hn (i := 0) rfl (Nat.le_of_ble_eq_true rfl) rfl
  rw [s2, bind_sm]
  try dsimp only
  have s3 : newA 458 (Lh b (cs ++ ([.inl (9, [.ref (b + (n + 1)), .null, .null, .null, .int 0, .null, .int 0, .int 0, .int 0, .int 0, .null, .null, .null, .null, .null, .null, .int 0, .int 0, .int 0, .null, .int 0, .int 0, .int 0, .null, .null, .null, .null]), r0 458]))) 458 = some (b + (n + 2), Lh b (cs ++ ([.inl (9, [.ref (b + (n + 1)), .null, .null, .null, .int 0, .null, .int 0, .int 0, .int 0, .int 0, .null, .null, .null, .null, .null, .null, .int 0, .int 0, .int 0, .null, .int 0, .int 0, .int 0, .null, .null, .null, .null]), r0 458, r0 458]))) := L_newA hn (i := 2) rfl (by decide) rfl rfl
  rw [s3, bind_sm]
  try dsimp only
  have s4 : putV (Lh b (cs ++ ([.inl (9, [.ref (b + (n + 1)), .null, .null, .null, .int 0, .null, .int 0, .int 0, .int 0, .int 0, .null, .null, .null, .null, .null, .null, .int 0, .int 0, .int 0, .null, .int 0, .int 0, .int 0, .null, .null, .null, .null]), r0 458, r0 458]))) 9 (b + (n + 0)) 1 (.ref (b + (n + 2))) = some (Lh b (cs ++ ([.inl (9, [.ref (b + (n + 1)), .ref (b + (n + 2)), .null, .null, .int 0, .null, .int 0, .int 0, .int 0, .int 0, .null, .null, .null, .null, .null, .null, .int 0, .int 0, .int 0, .null, .int 0, .int 0, .int 0, .null, .null, .null, .null]), r0 458, r0 458]))) := L_put hn (i := 0) rfl (Nat.le_of_ble_eq_true rfl) rfl
  rw [s4, bind_sm]
  try dsimp only
  have s5 : newA 458 (Lh b (cs ++ ([.inl (9, [.ref (b + (n + 1)), .ref (b + (n + 2)), .null, .null, .int 0, .null, .int 0, .int 0, .int 0, .int 0, .null, .null, .null, .null, .null, .null, .int 0, .int 0, .int 0, .null, .int 0, .int 0, .int 0, .null, .null, .null, .null]), r0 458, r0 458]))) 458 = some (b + (n + 3), Lh b (cs ++ ([.inl (9, [.ref (b + (n + 1)), .ref (b + (n + 2)), .null, .null, .int 0, .null, .int 0, .int 0, .int 0, .int 0, .null, .null, .null, .null, .null, .null, .int 0, .int 0, .int 0, .null, .int 0, .int 0, .int 0, .null, .null, .null, .null]), r0 458, r0 458, r0 458]))) := L_newA hn (i := 3) rfl (by decide) rfl rfl
  rw [s5, bind_sm]
  try dsimp only
  have s6 : putV (Lh b (cs ++ ([.inl (9, [.ref (b + (n + 1)), .ref (b + (n + 2)), .null, .null, .int 0, .null, .int 0, .int 0, .int 0, .int 0, .null, .null, .null, .null, .null, .null, .int 0, .int 0, .int 0, .null, .int 0, .int 0, .int 0, .null, .null, .null, .null]), r0 458, r0 458, r0 458]))) 9 (b + (n + 0)) 2 (.ref (b + (n + 3))) = some (Lh b (cs ++ ([.inl (9, [.ref (b + (n + 1)), .ref (b + (n + 2)), .ref (b + (n + 3)), .null, .int 0, .null, .int 0, .int 0, .int 0, .int 0, .null, .null, .null, .null, .null, .null, .int 0, .int 0, .int 0, .null, .int 0, .int 0, .int 0, .null, .null, .null, .null]), r0 458, r0 458, r0 458]))) := L_put hn (i := 0) rfl (Nat.le_of_ble_eq_true rfl) rfl
  rw [s6, bind_sm]
  try dsimp only
  have s7 : newA 992 (Lh b (cs ++ ([.inl (9, [.ref (b + (n + 1)), .ref (b + (n + 2)), .ref (b + (n + 3)), .null, .int 0, .null, .int 0, .int 0, .int 0, .int 0, .null, .null, .null, .null, .null, .null, .int 0, .int 0, .int 0, .null, .int 0, .int 0, .int 0, .null, .null, .null, .null]), r0 458, r0 458, r0 458]))) 992 = some (b + (n + 4), Lh b (cs ++ ([.inl (9, [.ref (b + (n + 1)), .ref (b + (n + 2)), .ref (b + (n + 3)), .null, .int 0, .null, .int 0, .int 0, .int 0, .int 0, .null, .null, .null, .null, .null, .null, .int 0, .int 0, .int 0, .null, .int 0, .int 0, .int 0, .null, .null, .null, .null]), r0 458, r0 458, r0 458, r0 992]))) := L_newA hn (i := 4) rfl (by decide) rfl rfl
  rw [s7, bind_sm]
  try dsimp only
  have s8 : putV (Lh b (cs ++ ([.inl (9, [.ref (b + (n + 1)), .ref (b + (n + 2)), .ref (b + (n + 3)), .null, .int 0, .null, .int 0, .int 0, .int 0, .int 0, .null, .null, .null, .null, .null, .null, .int 0, .int 0, .int 0, .null, .int 0, .int 0, .int 0, .null, .null, .null, .null]), r0 458, r0 458, r0 458, r0 992]))) 9 (b + (n + 0)) 3 (.ref (b + (n + 4))) = some (Lh b (cs ++ ([.inl (9, [.ref (b + (n + 1)), .ref (b + (n + 2)), .ref (b + (n + 3)), .ref (b + (n + 4)), .int 0, .null, .int 0, .int 0, .int 0, .int 0, .null, .null, .null, .null, .null, .null, .int 0, .int 0, .int 0, .null, .int 0, .int 0, .int 0, .null, .null, .null, .null]), r0 458, r0 458, r0 458, r0 992]))) := L_put hn (i := 0) rfl (Nat.le_of_ble_eq_true rfl) rfl
  rw [s8, bind_sm]
  try dsimp only
  have s9 : newA 7 (Lh b (cs ++ ([.inl (9, [.ref (b + (n + 1)), .ref (b + (n + 2)), .ref (b + (n + 3)), .ref (b + (n + 4)), .int 0, .null, .int 0, .int 0, .int 0, .int 0, .null, .null, .null, .null, .null, .null, .int 0, .int 0, .int 0, .null, .int 0, .int 0, .int 0, .null, .null, .null, .null]), r0 458, r0 458, r0 458, r0 992]))) 7 = some (b + (n + 5), Lh b (cs ++ ([.inl (9, [.ref (b + (n + 1)), .ref (b + (n + 2)), .ref (b + (n + 3)), .ref (b + (n + 4)), .int 0, .null, .int 0, .int 0, .int 0, .int 0, .null, .null, .null, .null, .null, .null, .int 0, .int 0, .int 0, .null, .int 0, .int 0, .int 0, .null, .null, .null, .null]), r0 458, r0 458, r0 458, r0 992, r0 7]))) := L_newA hn (i := 5) rfl (by decide) rfl rfl
  rw [s9, bind_sm]
  try dsimp only
  have s10 : putV (Lh b (cs ++ ([.inl (9, [.ref (b + (n + 1)), .ref (b + (n + 2)), .ref (b + (n + 3)), .ref (b + (n + 4)), .int 0, .null, .int 0, .int 0, .int 0, .int 0, .null, .null, .null, .null, .null, .null, .int 0, .int 0, .int 0, .null, .int 0, .int 0, .int 0, .null, .null, .null, .null]), r0 458, r0 458, r0 458, r0 992, r0 7]))) 9 (b + (n + 0)) 5 (.ref (b + (n + 5))) = some (Lh b (cs ++ ([.inl (9, [.ref (b + (n + 1)), .ref (b + (n + 2)), .ref (b + (n + 3)), .ref (b + (n + 4)), .int 0, .ref (b + (n + 5)), .int 0, .int 0, .int 0, .int 0, .null, .null, .null, .null, .null, .null, .int 0, .int 0, .int 0, .null, .int 0, .int 0, .int 0, .null, .null, .null, .null]), r0 458, r0 458, r0 458, r0 992, r0 7]))) := L_put hn (i := 0) rfl (Nat.le_of_ble_eq_true rfl) rfl
  rw [s10, bind_sm]
  try dsimp only
  have s11 : newA 124 (Lh b (cs ++ ([.inl (9, [.ref (b + (n + 1)), .ref (b + (n + 2)), .ref (b + (n + 3)), .ref (b + (n + 4)), .int 0, .ref (b + (n + 5)), .int 0, .int 0, .int 0, .int 0, .null, .null, .null, .null, .null, .null, .int 0, .int 0, .int 0, .null, .int 0, .int 0, .int 0, .null, .null, .null, .null]), r0 458, r0 458, r0 458, r0 992, r0 7]))) 124 = some (b + (n + 6), Lh b (cs ++ ([.inl (9, [.ref (b + (n + 1)), .ref (b + (n + 2)), .ref (b + (n + 3)), .ref (b + (n + 4)), .int 0, .ref (b + (n + 5)), .int 0, .int 0, .int 0, .int 0, .null, .null, .null, .null, .null, .null, .int 0, .int 0, .int 0, .null, .int 0, .int 0, .int 0, .null, .null, .null, .null]), r0 458, r0 458, r0 458, r0 992, r0 7, r0 124]))) := L_newA hn (i := 6) rfl (by decide) rfl rfl
  rw [s11, bind_sm]
  try dsimp only
  have s12 : putV (Lh b (cs ++ ([.inl (9, [.ref (b + (n + 1)), .ref (b + (n + 2)), .ref (b + (n + 3)), .ref (b + (n + 4)), .int 0, .ref (b + (n + 5)), .int 0, .int 0, .int 0, .int 0, .null, .null, .null, .null, .null, .null, .int 0, .int 0, .int 0, .null, .int 0, .int 0, .int 0, .null, .null, .null, .null]), r0 458, r0 458, r0 458, r0 992, r0 7, r0 124]))) 9 (b + (n + 0)) 10 (.ref (b + (n + 6))) = some (Lh b (cs ++ ([.inl (9, [.ref (b + (n + 1)), .ref (b + (n + 2)), .ref (b + (n + 3)), .ref (b + (n + 4)), .int 0, .ref (b + (n + 5)), .int 0, .int 0, .int 0, .int 0, .ref (b + (n + 6)), .null, .null, .null, .null, .null, .int 0, .int 0, .int 0, .null, .int 0, .int 0, .int 0, .null, .null, .null, .null]), r0 458, r0 458, r0 458, r0 992, r0 7, r0 124]))) := L_put hn (i := 0) rfl (Nat.le_of_ble_eq_true rfl) rfl
  rw [s12, bind_sm]
  try dsimp only
  have s13 : newA 128 (Lh b (cs ++ ([.inl (9, [.ref (b + (n + 1)), .ref (b + (n + 2)), .ref (b + (n + 3)), .ref (b + (n + 4)), .int 0, .ref (b + (n + 5)), .int 0, .int 0, .int 0, .int 0, .ref (b + (n + 6)), .null, .null, .null, .null, .null, .int 0, .int 0, .int 0, .null, .int 0, .int 0, .int 0, .null, .null, .null, .null]), r0 458, r0 458, r0 458, r0 992, r0 7, r0 124]))) 128 = some (b + (n + 7), Lh b (cs ++ ([.inl (9, [.ref (b + (n + 1)), .ref (b + (n + 2)), .ref (b + (n + 3)), .ref (b + (n + 4)), .int 0, .ref (b + (n + 5)), .int 0, .int 0, .int 0, .int 0, .ref (b + (n + 6)), .null, .null, .null, .null, .null, .int 0, .int 0, .int 0, .null, .int 0, .int 0, .int 0, .null, .null, .null, .null]), r0 458, r0 458, r0 458, r0 992, r0 7, r0 124, r0 128]))) := L_newA hn (i := 7) rfl (by decide) rfl rfl
  rw [s13, bind_sm]
  try dsimp only
  have s14 : putV (Lh b (cs ++ ([.inl (9, [.ref (b + (n + 1)), .ref (b + (n + 2)), .ref (b + (n + 3)), .ref (b + (n + 4)), .int 0, .ref (b + (n + 5)), .int 0, .int 0, .int 0, .int 0, .ref (b + (n + 6)), .null, .null, .null, .null, .null, .int 0, .int 0, .int 0, .null, .int 0, .int 0, .int 0, .null, .null, .null, .null]), r0 458, r0 458, r0 458, r0 992, r0 7, r0 124, r0 128]))) 9 (b + (n + 0)) 11 (.ref (b + (n + 7))) = some (Lh b (cs ++ ([.inl (9, [.ref (b + (n + 1)), .ref (b + (n + 2)), .ref (b + (n + 3)), .ref (b + (n + 4)), .int 0, .ref (b + (n + 5)), .int 0, .int 0, .int 0, .int 0, .ref (b + (n + 6)), .ref (b + (n + 7)), .null, .null, .null, .null, .int 0, .int 0, .int 0, .null, .int 0, .int 0, .int 0, .null, .null, .null, .null]), r0 458, r0 458, r0 458, r0 992, r0 7, r0 124, r0 128]))) := L_put hn (i := 0) rfl (Nat.le_of_ble_eq_true rfl) rfl
  rw [s14, bind_sm]
  try dsimp only
  have s15 : newA 64 (Lh b (cs ++ ([.inl (9, [.ref (b + (n + 1)), .ref (b + (n + 2)), .ref (b + (n + 3)), .ref (b + (n + 4)), .int 0, .ref (b + (n + 5)), .int 0, .int 0, .int 0, .int 0, .ref (b + (n + 6)), .ref (b + (n + 7)), .null, .null, .null, .null, .int 0, .int 0, .int 0, .null, .int 0, .int 0, .int 0, .null, .null, .null, .null]), r0 458, r0 458, r0 458, r0 992, r0 7, r0 124, r0 128]))) 64 = some (b + (n + 8), Lh b (cs ++ ([.inl (9, [.ref (b + (n + 1)), .ref (b + (n + 2)), .ref (b + (n + 3)), .ref (b + (n + 4)), .int 0, .ref (b + (n + 5)), .int 0, .int 0, .int 0, .int 0, .ref (b + (n + 6)), .ref (b + (n + 7)), .null, .null, .null, .null, .int 0, .int 0, .int 0, .null, .int 0, .int 0, .int 0, .null, .null, .null, .null]), r0 458, r0 458, r0 458, r0 992, r0 7, r0 124, r0 128, r0 64]))) := L_newA hn (i := 8) rfl (by decide) rfl rfl
  rw [s15, bind_sm]
  try dsimp only
  have s16 : putV (Lh b (cs ++ ([.inl (9, [.ref (b + (n + 1)), .ref (b + (n + 2)), .ref (b + (n + 3)), .ref (b + (n + 4)), .int 0, .ref (b + (n + 5)), .int 0, .int 0, .int 0, .int 0, .ref (b + (n + 6)), .ref (b + (n + 7)), .null, .null, .null, .null, .int 0, .int 0, .int 0, .null, .int 0, .int 0, .int 0, .null, .null, .null, .null]), r0 458, r0 458, r0 458, r0 992, r0 7, r0 124, r0 128, r0 64]))) 9 (b + (n + 0)) 12 (.ref (b + (n + 8))) = some (Lh b (cs ++ ([.inl (9, [.ref (b + (n + 1)), .ref (b + (n + 2)), .ref (b + (n + 3)), .ref (b + (n + 4)), .int 0, .ref (b + (n + 5)), .int 0, .int 0, .int 0, .int 0, .ref (b + (n + 6)), .ref (b + (n + 7)), .ref (b + (n + 8)), .null, .null, .null, .int 0, .int 0, .int 0, .null, .int 0, .int 0, .int 0, .null, .null, .null, .null]), r0 458, r0 458, r0 458, r0 992, r0 7, r0 124, r0 128, r0 64]))) := L_put hn (i := 0) rfl (Nat.le_of_ble_eq_true rfl) rfl
  rw [s16, bind_sm]
  try dsimp only
  have s17 : newA 8 (Lh b (cs ++ ([.inl (9, [.ref (b + (n + 1)), .ref (b + (n + 2)), .ref (b + (n + 3)), .ref (b + (n + 4)), .int 0, .ref (b + (n + 5)), .int 0, .int 0, .int 0, .int 0, .ref (b + (n + 6)), .ref (b + (n + 7)), .ref (b + (n + 8)), .null, .null, .null, .int 0, .int 0, .int 0, .null, .int 0, .int 0, .int 0, .null, .null, .null, .null]), r0 458, r0 458, r0 458, r0 992, r0 7, r0 124, r0 128, r0 64]))) 8 = some (b + (n + 9), Lh b (cs ++ ([.inl (9, [.ref (b + (n + 1)), .ref (b + (n + 2)), .ref (b + (n + 3)), .ref (b + (n + 4)), .int 0, .ref (b + (n + 5)), .int 0, .int 0, .int 0, .int 0, .ref (b + (n + 6)), .ref (b + (n + 7)), .ref (b + (n + 8)), .null, .null, .null, .int 0, .int 0, .int 0, .null, .int 0, .int 0, .int 0, .null, .null, .null, .null]), r0 458, r0 458, r0 458, r0 992, r0 7, r0 124, r0 128, r0 64, r0 8]))) := L_newA hn (i := 9) rfl (by decide) rfl rfl
  rw [s17, bind_sm]
  try dsimp only
  have s18 : putV (Lh b (cs ++ ([.inl (9, [.ref (b + (n + 1)), .ref (b + (n + 2)), .ref (b + (n + 3)), .ref (b + (n + 4)), .int 0, .ref (b + (n + 5)), .int 0, .int 0, .int 0, .int 0, .ref (b + (n + 6)), .ref (b + (n + 7)), .ref (b + (n + 8)), .null, .null, .null, .int 0, .int 0, .int 0, .null, .int 0, .int 0, .int 0, .null, .null, .null, .null]), r0 458, r0 458, r0 458, r0 992, r0 7, r0 124, r0 128, r0 64, r0 8]))) 9 (b + (n + 0)) 13 (.ref (b + (n + 9))) = some (Lh b (cs ++ ([.inl (9, [.ref (b + (n + 1)), .ref (b + (n + 2)), .ref (b + (n + 3)), .ref (b + (n + 4)), .int 0, .ref (b + (n + 5)), .int 0, .int 0, .int 0, .int 0, .ref (b + (n + 6)), .ref (b + (n + 7)), .ref (b + (n + 8)), .ref (b + (n + 9)), .null, .null, .int 0, .int 0, .int 0, .null, .int 0, .int 0, .int 0, .null, .null, .null, .null]), r0 458, r0 458, r0 458, r0 992, r0 7, r0 124, r0 128, r0 64, r0 8]))) := L_put hn (i := 0) rfl (Nat.le_of_ble_eq_true rfl) rfl
  rw [s18, bind_sm]
  try dsimp only
  have s19 : newA 6 (Lh b (cs ++ ([.inl (9, [.ref (b + (n + 1)), .ref (b + (n + 2)), .ref (b + (n + 3)), .ref (b + (n + 4)), .int 0, .ref (b + (n + 5)), .int 0, .int 0, .int 0, .int 0, .ref (b + (n + 6)), .ref (b + (n + 7)), .ref (b + (n + 8)), .ref (b + (n + 9)), .null, .null, .int 0, .int 0, .int 0, .null, .int 0, .int 0, .int 0, .null, .null, .null, .null]), r0 458, r0 458, r0 458, r0 992, r0 7, r0 124, r0 128, r0 64, r0 8]))) 6 = some (b + (n + 10), Lh b (cs ++ ([.inl (9, [.ref (b + (n + 1)), .ref (b + (n + 2)), .ref (b + (n + 3)), .ref (b + (n + 4)), .int 0, .ref (b + (n + 5)), .int 0, .int 0, .int 0, .int 0, .ref (b + (n + 6)), .ref (b + (n + 7)), .ref (b + (n + 8)), .ref (b + (n + 9)), .null, .null, .int 0, .int 0, .int 0, .null, .int 0, .int 0, .int 0, .null, .null, .null, .null]), r0 458, r0 458, r0 458, r0 992, r0 7, r0 124, r0 128, r0 64, r0 8, r0 6]))) := L_newA hn (i := 10) rfl (by decide) rfl rfl
  rw [s19, bind_sm]
  try dsimp only
  have s20 : putV (Lh b (cs ++ ([.inl (9, [.ref (b + (n + 1)), .ref (b + (n + 2)), .ref (b + (n + 3)), .ref (b + (n + 4)), .int 0, .ref (b + (n + 5)), .int 0, .int 0, .int 0, .int 0, .ref (b + (n + 6)), .ref (b + (n + 7)), .ref (b + (n + 8)), .ref (b + (n + 9)), .null, .null, .int 0, .int 0, .int 0, .null, .int 0, .int 0, .int 0, .null, .null, .null, .null]), r0 458, r0 458, r0 458, r0 992, r0 7, r0 124, r0 128, r0 64, r0 8, r0 6]))) 9 (b + (n + 0)) 14 (.ref (b + (n + 10))) = some (Lh b (cs ++ ([.inl (9, [.ref (b + (n + 1)), .ref (b + (n + 2)), .ref (b + (n + 3)), .ref (b + (n + 4)), .int 0, .ref (b + (n + 5)), .int 0, .int 0, .int 0, .int 0, .ref (b + (n + 6)), .ref (b + (n + 7)), .ref (b + (n + 8)), .ref (b + (n + 9)), .ref (b + (n + 10)), .null, .int 0, .int 0, .int 0, .null, .int 0, .int 0, .int 0, .null, .null, .null, .null]), r0 458, r0 458, r0 458, r0 992, r0 7, r0 124, r0 128, r0 64, r0 8, r0 6]))) := L_put hn (i := 0) rfl (Nat.le_of_ble_eq_true rfl) rfl
  rw [s20, bind_sm]
  try dsimp only
  have s21 : newA 6 (Lh b (cs ++ ([.inl (9, [.ref (b + (n + 1)), .ref (b + (n + 2)), .ref (b + (n + 3)), .ref (b + (n + 4)), .int 0, .ref (b + (n + 5)), .int 0, .int 0, .int 0, .int 0, .ref (b + (n + 6)), .ref (b + (n + 7)), .ref (b + (n + 8)), .ref (b + (n + 9)), .ref (b + (n + 10)), .null, .int 0, .int 0, .int 0, .null, .int 0, .int 0, .int 0, .null, .null, .null, .null]), r0 458, r0 458, r0 458, r0 992, r0 7, r0 124, r0 128, r0 64, r0 8, r0 6]))) 6 = some (b + (n + 11), Lh b (cs ++ ([.inl (9, [.ref (b + (n + 1)), .ref (b + (n + 2)), .ref (b + (n + 3)), .ref (b + (n + 4)), .int 0, .ref (b + (n + 5)), .int 0, .int 0, .int 0, .int 0, .ref (b + (n + 6)), .ref (b + (n + 7)), .ref (b + (n + 8)), .ref (b + (n + 9)), .ref (b + (n + 10)), .null, .int 0, .int 0, .int 0, .null, .int 0, .int 0, .int 0, .null, .null, .null, .null]), r0 458, r0 458, r0 458, r0 992, r0 7, r0 124, r0 128, r0 64, r0 8, r0 6, r0 6]))) := L_newA hn (i := 11) rfl (by decide) rfl rfl
  rw [s21, bind_sm]
  try dsimp only
  have s22 : putV (Lh b (cs ++ ([.inl (9, [.ref (b + (n + 1)), .ref (b + (n + 2)), .ref (b + (n + 3)), .ref (b + (n + 4)), .int 0, .ref (b + (n + 5)), .int 0, .int 0, .int 0, .int 0, .ref (b + (n + 6)), .ref (b + (n + 7)), .ref (b + (n + 8)), .ref (b + (n + 9)), .ref (b + (n + 10)), .null, .int 0, .int 0, .int 0, .null, .int 0, .int 0, .int 0, .null, .null, .null, .null]), r0 458, r0 458, r0 458, r0 992, r0 7, r0 124, r0 128, r0 64, r0 8, r0 6, r0 6]))) 9 (b + (n + 0)) 15 (.ref (b + (n + 11))) = some (Lh b (cs ++ ([.inl (9, [.ref (b + (n + 1)), .ref (b + (n + 2)), .ref (b + (n + 3)), .ref (b + (n + 4)), .int 0, .ref (b + (n + 5)), .int 0, .int 0, .int 0, .int 0, .ref (b + (n + 6)), .ref (b + (n + 7)), .ref (b + (n + 8)), .ref (b + (n + 9)), .ref (b + (n + 10)), .ref (b + (n + 11)), .int 0, .int 0, .int 0, .null, .int 0, .int 0, .int 0, .null, .null, .null, .null]), r0 458, r0 458, r0 458, r0 992, r0 7, r0 124, r0 128, r0 64, r0 8, r0 6, r0 6]))) := L_put hn (i := 0) rfl (Nat.le_of_ble_eq_true rfl) rfl
  rw [s22, bind_sm]
  try dsimp only
  have s23 : newA 30 (Lh b (cs ++ ([.inl (9, [.ref (b + (n + 1)), .ref (b + (n + 2)), .ref (b + (n + 3)), .ref (b + (n + 4)), .int 0, .ref (b + (n + 5)), .int 0, .int 0, .int 0, .int 0, .ref (b + (n + 6)), .ref (b + (n + 7)), .ref (b + (n + 8)), .ref (b + (n + 9)), .ref (b + (n + 10)), .ref (b + (n + 11)), .int 0, .int 0, .int 0, .null, .int 0, .int 0, .int 0, .null, .null, .null, .null]), r0 458, r0 458, r0 458, r0 992, r0 7, r0 124, r0 128, r0 64, r0 8, r0 6, r0 6]))) 30 = some (b + (n + 12), Lh b (cs ++ ([.inl (9, [.ref (b + (n + 1)), .ref (b + (n + 2)), .ref (b + (n + 3)), .ref (b + (n + 4)), .int 0, .ref (b + (n + 5)), .int 0, .int 0, .int 0, .int 0, .ref (b + (n + 6)), .ref (b + (n + 7)), .ref (b + (n + 8)), .ref (b + (n + 9)), .ref (b + (n + 10)), .ref (b + (n + 11)), .int 0, .int 0, .int 0, .null, .int 0, .int 0, .int 0, .null, .null, .null, .null]), r0 458, r0 458, r0 458, r0 992, r0 7, r0 124, r0 128, r0 64, r0 8, r0 6, r0 6, r0 30]))) := L_newA hn (i := 12) rfl (by decide) rfl rfl
  rw [s23, bind_sm]
  try dsimp only
  have s24 : putV (Lh b (cs ++ ([.inl (9, [.ref (b + (n + 1)), .ref (b + (n + 2)), .ref (b + (n + 3)), .ref (b + (n + 4)), .int 0, .ref (b + (n + 5)), .int 0, .int 0, .int 0, .int 0, .ref (b + (n + 6)), .ref (b + (n + 7)), .ref (b + (n + 8)), .ref (b + (n + 9)), .ref (b + (n + 10)), .ref (b + (n + 11)), .int 0, .int 0, .int 0, .null, .int 0, .int 0, .int 0, .null, .null, .null, .null]), r0 458, r0 458, r0 458, r0 992, r0 7, r0 124, r0 128, r0 64, r0 8, r0 6, r0 6, r0 30]))) 9 (b + (n + 0)) 19 (.ref (b + (n + 12))) = some (Lh b (cs ++ ([.inl (9, [.ref (b + (n + 1)), .ref (b + (n + 2)), .ref (b + (n + 3)), .ref (b + (n + 4)), .int 0, .ref (b + (n + 5)), .int 0, .int 0, .int 0, .int 0, .ref (b + (n + 6)), .ref (b + (n + 7)), .ref (b + (n + 8)), .ref (b + (n + 9)), .ref (b + (n + 10)), .ref (b + (n + 11)), .int 0, .int 0, .int 0, .ref (b + (n + 12)), .int 0, .int 0, .int 0, .null, .null, .null, .null]), r0 458, r0 458, r0 458, r0 992, r0 7, r0 124, r0 128, r0 64, r0 8, r0 6, r0 6, r0 30]))) := L_put hn (i := 0) rfl (Nat.le_of_ble_eq_true rfl) rfl
  rw [s24, bind_sm]
  try dsimp only
  have s25 : newA 4 (Lh b (cs ++ ([.inl (9, [.ref (b + (n + 1)), .ref (b + (n + 2)), .ref (b + (n + 3)), .ref (b + (n + 4)), .int 0, .ref (b + (n + 5)), .int 0, .int 0, .int 0, .int 0, .ref (b + (n + 6)), .ref (b + (n + 7)), .ref (b + (n + 8)), .ref (b + (n + 9)), .ref (b + (n + 10)), .ref (b + (n + 11)), .int 0, .int 0, .int 0, .ref (b + (n + 12)), .int 0, .int 0, .int 0, .null, .null, .null, .null]), r0 458, r0 458, r0 458, r0 992, r0 7, r0 124, r0 128, r0 64, r0 8, r0 6, r0 6, r0 30]))) 4 = some (b + (n + 13), Lh b (cs ++ ([.inl (9, [.ref (b + (n + 1)), .ref (b + (n + 2)), .ref (b + (n + 3)), .ref (b + (n + 4)), .int 0, .ref (b + (n + 5)), .int 0, .int 0, .int 0, .int 0, .ref (b + (n + 6)), .ref (b + (n + 7)), .ref (b + (n + 8)), .ref (b + (n + 9)), .ref (b + (n + 10)), .ref (b + (n + 11)), .int 0, .int 0, .int 0, .ref (b + (n + 12)), .int 0, .int 0, .int 0, .null, .null, .null, .null]), r0 458, r0 458, r0 458, r0 992, r0 7, r0 124, r0 128, r0 64, r0 8, r0 6, r0 6, r0 30, r0 4]))) := L_newA hn (i := 13) rfl (by decide) rfl rfl
  rw [s25, bind_sm]
  try dsimp only
  have s26 : putV (Lh b (cs ++ ([.inl (9, [.ref (b + (n + 1)), .ref (b + (n + 2)), .ref (b + (n + 3)), .ref (b + (n + 4)), .int 0, .ref (b + (n + 5)), .int 0, .int 0, .int 0, .int 0, .ref (b + (n + 6)), .ref (b + (n + 7)), .ref (b + (n + 8)), .ref (b + (n + 9)), .ref (b + (n + 10)), .ref (b + (n + 11)), .int 0, .int 0, .int 0, .ref (b + (n + 12)), .int 0, .int 0, .int 0, .null, .null, .null, .null]), r0 458, r0 458, r0 458, r0 992, r0 7, r0 124, r0 128, r0 64, r0 8, r0 6, r0 6, r0 30, r0 4]))) 9 (b + (n + 0)) 23 (.ref (b + (n + 13))) = some (Lh b (cs ++ ([.inl (9, [.ref (b + (n + 1)), .ref (b + (n + 2)), .ref (b + (n + 3)), .ref (b + (n + 4)), .int 0, .ref (b + (n + 5)), .int 0, .int 0, .int 0, .int 0, .ref (b + (n + 6)), .ref (b + (n + 7)), .ref (b + (n + 8)), .ref (b + (n + 9)), .ref (b + (n + 10)), .ref (b + (n + 11)), .int 0, .int 0, .int 0, .ref (b + (n + 12)), .int 0, .int 0, .int 0, .ref (b + (n + 13)), .null, .null, .null]), r0 458, r0 458, r0 458, r0 992, r0 7, r0 124, r0 128, r0 64, r0 8, r0 6, r0 6, r0 30, r0 4]))) := L_put hn (i := 0) rfl (Nat.le_of_ble_eq_true rfl) rfl
  rw [s26, bind_sm]
  try dsimp only
  have s27 : newA 4 (Lh b (cs ++ ([.inl (9, [.ref (b + (n + 1)), .ref (b + (n + 2)), .ref (b + (n + 3)), .ref (b + (n + 4)), .int 0, .ref (b + (n + 5)), .int 0, .int 0, .int 0, .int 0, .ref (b + (n + 6)), .ref (b + (n + 7)), .ref (b + (n + 8)), .ref (b + (n + 9)), .ref (b + (n + 10)), .ref (b + (n + 11)), .int 0, .int 0, .int 0, .ref (b + (n + 12)), .int 0, .int 0, .int 0, .ref (b + (n + 13)), .null, .null, .null]), r0 458, r0 458, r0 458, r0 992, r0 7, r0 124, r0 128, r0 64, r0 8, r0 6, r0 6, r0 30, r0 4]))) 4 = some (b + (n + 14), Lh b (cs ++ ([.inl (9, [.ref (b + (n + 1)), .ref (b + (n + 2)), .ref (b + (n + 3)), .ref (b + (n + 4)), .int 0, .ref (b + (n + 5)), .int 0, .int 0, .int 0, .int 0, .ref (b + (n + 6)), .ref (b + (n + 7)), .ref (b + (n + 8)), .ref (b + (n + 9)), .ref (b + (n + 10)), .ref (b + (n + 11)), .int 0, .int 0, .int 0, .ref (b + (n + 12)), .int 0, .int 0, .int 0, .ref (b + (n + 13)), .null, .null, .null]), r0 458, r0 458, r0 458, r0 992, r0 7, r0 124, r0 128, r0 64, r0 8, r0 6, r0 6, r0 30, r0 4, r0 4]))) := L_newA hn (i := 14) rfl (by decide) rfl rfl
  rw [s27, bind_sm]
  try dsimp only
  have s28 : putV (Lh b (cs ++ ([.inl (9, [.ref (b + (n + 1)), .ref (b + (n + 2)), .ref (b + (n + 3)), .ref (b + (n + 4)), .int 0, .ref (b + (n + 5)), .int 0, .int 0, .int 0, .int 0, .ref (b + (n + 6)), .ref (b + (n + 7)), .ref (b + (n + 8)), .ref (b + (n + 9)), .ref (b + (n + 10)), .ref (b + (n + 11)), .int 0, .int 0, .int 0, .ref (b + (n + 12)), .int 0, .int 0, .int 0, .ref (b + (n + 13)), .null, .null, .null]), r0 458, r0 458, r0 458, r0 992, r0 7, r0 124, r0 128, r0 64, r0 8, r0 6, r0 6, r0 30, r0 4, r0 4]))) 9 (b + (n + 0)) 24 (.ref (b + (n + 14))) = some (Lh b (cs ++ ([.inl (9, [.ref (b + (n + 1)), .ref (b + (n + 2)), .ref (b + (n + 3)), .ref (b + (n + 4)), .int 0, .ref (b + (n + 5)), .int 0, .int 0, .int 0, .int 0, .ref (b + (n + 6)), .ref (b + (n + 7)), .ref (b + (n + 8)), .ref (b + (n + 9)), .ref (b + (n + 10)), .ref (b + (n + 11)), .int 0, .int 0, .int 0, .ref (b + (n + 12)), .int 0, .int 0, .int 0, .ref (b + (n + 13)), .ref (b + (n + 14)), .null, .null]), r0 458, r0 458, r0 458, r0 992, r0 7, r0 124, r0 128, r0 64, r0 8, r0 6, r0 6, r0 30, r0 4, r0 4]))) := L_put hn (i := 0) rfl (Nat.le_of_ble_eq_true rfl) rfl
  rw [s28, bind_sm]
  try dsimp only
  have s29 : newA 96 (Lh b (cs ++ ([.inl (9, [.ref (b + (n + 1)), .ref (b + (n + 2)), .ref (b + (n + 3)), .ref (b + (n + 4)), .int 0, .ref (b + (n + 5)), .int 0, .int 0, .int 0, .int 0, .ref (b + (n + 6)), .ref (b + (n + 7)), .ref (b + (n + 8)), .ref (b + (n + 9)), .ref (b + (n + 10)), .ref (b + (n + 11)), .int 0, .int 0, .int 0, .ref (b + (n + 12)), .int 0, .int 0, .int 0, .ref (b + (n + 13)), .ref (b + (n + 14)), .null, .null]), r0 458, r0 458, r0 458, r0 992, r0 7, r0 124, r0 128, r0 64, r0 8, r0 6, r0 6, r0 30, r0 4, r0 4]))) 96 = some (b + (n + 15), Lh b (cs ++ ([.inl (9, [.ref (b + (n + 1)), .ref (b + (n + 2)), .ref (b + (n + 3)), .ref (b + (n + 4)), .int 0, .ref (b + (n + 5)), .int 0, .int 0, .int 0, .int 0, .ref (b + (n + 6)), .ref (b + (n + 7)), .ref (b + (n + 8)), .ref (b + (n + 9)), .ref (b + (n + 10)), .ref (b + (n + 11)), .int 0, .int 0, .int 0, .ref (b + (n + 12)), .int 0, .int 0, .int 0, .ref (b + (n + 13)), .ref (b + (n + 14)), .null, .null]), r0 458, r0 458, r0 458, r0 992, r0 7, r0 124, r0 128, r0 64, r0 8, r0 6, r0 6, r0 30, r0 4, r0 4, r0 96]))) := L_newA hn (i := 15) rfl (by decide) rfl rfl
  rw [s29, bind_sm]
  try dsimp only
  have s30 : putV (Lh b (cs ++ ([.inl (9, [.ref (b + (n + 1)), .ref (b + (n + 2)), .ref (b + (n + 3)), .ref (b + (n + 4)), .int 0, .ref (b + (n + 5)), .int 0, .int 0, .int 0, .int 0, .ref (b + (n + 6)), .ref (b + (n + 7)), .ref (b + (n + 8)), .ref (b + (n + 9)), .ref (b + (n + 10)), .ref (b + (n + 11)), .int 0, .int 0, .int 0, .ref (b + (n + 12)), .int 0, .int 0, .int 0, .ref (b + (n + 13)), .ref (b + (n + 14)), .null, .null]), r0 458, r0 458, r0 458, r0 992, r0 7, r0 124, r0 128, r0 64, r0 8, r0 6, r0 6, r0 30, r0 4, r0 4, r0 96]))) 9 (b + (n + 0)) 25 (.ref (b + (n + 15))) = some (Lh b (cs ++ ([.inl (9, [.ref (b + (n + 1)), .ref (b + (n + 2)), .ref (b + (n + 3)), .ref (b + (n + 4)), .int 0, .ref (b + (n + 5)), .int 0, .int 0, .int 0, .int 0, .ref (b + (n + 6)), .ref (b + (n + 7)), .ref (b + (n + 8)), .ref (b + (n + 9)), .ref (b + (n + 10)), .ref (b + (n + 11)), .int 0, .int 0, .int 0, .ref (b + (n + 12)), .int 0, .int 0, .int 0, .ref (b + (n + 13)), .ref (b + (n + 14)), .ref (b + (n + 15)), .null]), r0 458, r0 458, r0 458, r0 992, r0 7, r0 124, r0 128, r0 64, r0 8, r0 6, r0 6, r0 30, r0 4, r0 4, r0 96]))) := L_put hn (i := 0) rfl (Nat.le_of_ble_eq_true rfl) rfl
  rw [s30, bind_sm]
  try dsimp only
  have s31 : newA 24 (Lh b (cs ++ ([.inl (9, [.ref (b + (n + 1)), .ref (b + (n + 2)), .ref (b + (n + 3)), .ref (b + (n + 4)), .int 0, .ref (b + (n + 5)), .int 0, .int 0, .int 0, .int 0, .ref (b + (n + 6)), .ref (b + (n + 7)), .ref (b + (n + 8)), .ref (b + (n + 9)), .ref (b + (n + 10)), .ref (b + (n + 11)), .int 0, .int 0, .int 0, .ref (b + (n + 12)), .int 0, .int 0, .int 0, .ref (b + (n + 13)), .ref (b + (n + 14)), .ref (b + (n + 15)), .null]), r0 458, r0 458, r0 458, r0 992, r0 7, r0 124, r0 128, r0 64, r0 8, r0 6, r0 6, r0 30, r0 4, r0 4, r0 96]))) 24 = some (b + (n + 16), Lh b (cs ++ ([.inl (9, [.ref (b + (n + 1)), .ref (b + (n + 2)), .ref (b + (n + 3)), .ref (b + (n + 4)), .int 0, .ref (b + (n + 5)), .int 0, .int 0, .int 0, .int 0, .ref (b + (n + 6)), .ref (b + (n + 7)), .ref (b + (n + 8)), .ref (b + (n + 9)), .ref (b + (n + 10)), .ref (b + (n + 11)), .int 0, .int 0, .int 0, .ref (b + (n + 12)), .int 0, .int 0, .int 0, .ref (b + (n + 13)), .ref (b + (n + 14)), .ref (b + (n + 15)), .null]), r0 458, r0 458, r0 458, r0 992, r0 7, r0 124, r0 128, r0 64, r0 8, r0 6, r0 6, r0 30, r0 4, r0 4, r0 96, r0 24]))) := L_newA hn (i := 16) rfl (by decide) rfl rfl
  rw [s31, bind_sm]
  try dsimp only
  have s32 : putV (Lh b (cs ++ ([.inl (9, [.ref (b + (n + 1)), .ref (b + (n + 2)), .ref (b + (n + 3)), .ref (b + (n + 4)), .int 0, .ref (b + (n + 5)), .int 0, .int 0, .int 0, .int 0, .ref (b + (n + 6)), .ref (b + (n + 7)), .ref (b + (n + 8)), .ref (b + (n + 9)), .ref (b + (n + 10)), .ref (b + (n + 11)), .int 0, .int 0, .int 0, .ref (b + (n + 12)), .int 0, .int 0, .int 0, .ref (b + (n + 13)), .ref (b + (n + 14)), .ref (b + (n + 15)), .null]), r0 458, r0 458, r0 458, r0 992, r0 7, r0 124, r0 128, r0 64, r0 8, r0 6, r0 6, r0 30, r0 4, r0 4, r0 96, r0 24]))) 9 (b + (n + 0)) 26 (.ref (b + (n + 16))) = some (Lh b (cs ++ ([.inl (9, [.ref (b + (n + 1)), .ref (b + (n + 2)), .ref (b + (n + 3)), .ref (b + (n + 4)), .int 0, .ref (b + (n + 5)), .int 0, .int 0, .int 0, .int 0, .ref (b + (n + 6)), .ref (b + (n + 7)), .ref (b + (n + 8)), .ref (b + (n + 9)), .ref (b + (n + 10)), .ref (b + (n + 11)), .int 0, .int 0, .int 0, .ref (b + (n + 12)), .int 0, .int 0, .int 0, .ref (b + (n + 13)), .ref (b + (n + 14)), .ref (b + (n + 15)), .ref (b + (n + 16))]), r0 458, r0 458, r0 458, r0 992, r0 7, r0 124, r0 128, r0 64, r0 8, r0 6, r0 6, r0 30, r0 4, r0 4, r0 96, r0 24]))) := L_put hn (i := 0) rfl (Nat.le_of_ble_eq_true rfl) rfl
  rw [s32, bind_sm]
  try dsimp only
  have s33 : getR (Lh b (cs ++ ([.inl (9, [.ref (b + (n + 1)), .ref (b + (n + 2)), .ref (b + (n + 3)), .ref (b + (n + 4)), .int 0, .ref (b + (n + 5)), .int 0, .int 0, .int 0, .int 0, .ref (b + (n + 6)), .ref (b + (n + 7)), .ref (b + (n + 8)), .ref (b + (n + 9)), .ref (b + (n + 10)), .ref (b + (n + 11)), .int 0, .int 0, .int 0, .ref (b + (n + 12)), .int 0, .int 0, .int 0, .ref (b + (n + 13)), .ref (b + (n + 14)), .ref (b + (n + 15)), .ref (b + (n + 16))]), r0 458, r0 458, r0 458, r0 992, r0 7, r0 124, r0 128, r0 64, r0 8, r0 6, r0 6, r0 30, r0 4, r0 4, r0 96, r0 24]))) 9 (b + (n + 0)) 0 = some (b + (n + 1)) := L_getR hn (i := 0) rfl rfl
  rw [s33, bind_sm]
  try dsimp only
  have s34 : wrI (Lh b (cs ++ ([.inl (9, [.ref (b + (n + 1)), .ref (b + (n + 2)), .ref (b + (n + 3)), .ref (b + (n + 4)), .int 0, .ref (b + (n + 5)), .int 0, .int 0, .int 0, .int 0, .ref (b + (n + 6)), .ref (b + (n + 7)), .ref (b + (n + 8)), .ref (b + (n + 9)), .ref (b + (n + 10)), .ref (b + (n + 11)), .int 0, .int 0, .int 0, .ref (b + (n + 12)), .int 0, .int 0, .int 0, .ref (b + (n + 13)), .ref (b + (n + 14)), .ref (b + (n + 15)), .ref (b + (n + 16))]), r0 458, r0 458, r0 458, r0 992, r0 7, r0 124, r0 128, r0 64, r0 8, r0 6, r0 6, r0 30, r0 4, r0 4, r0 96, r0 24]))) (b + (n + 1)) 7 1 = some (Lh b (cs ++ ([.inl (9, [.ref (b + (n + 1)), .ref (b + (n + 2)), .ref (b + (n + 3)), .ref (b + (n + 4)), .int 0, .ref (b + (n + 5)), .int 0, .int 0, .int 0, .int 0, .ref (b + (n + 6)), .ref (b + (n + 7)), .ref (b + (n + 8)), .ref (b + (n + 9)), .ref (b + (n + 10)), .ref (b + (n + 11)), .int 0, .int 0, .int 0, .ref (b + (n + 12)), .int 0, .int 0, .int 0, .ref (b + (n + 13)), .ref (b + (n + 14)), .ref (b + (n + 15)), .ref (b + (n + 16))]), .inr (.inl (458, upd (fun _ => 0) 7 1)), r0 458, r0 458, r0 992, r0 7, r0 124, r0 128, r0 64, r0 8, r0 6, r0 6, r0 30, r0 4, r0 4, r0 96, r0 24]))) := L_wrI hn (i := 1) (k := 458) (q := 7) rfl (by decide) (by decide) rfl
  rw [s34, bind_sm]
  try dsimp only
  rfl
set_option maxRecDepth 100000 in
theorem i_X2 (hn : cs.length = n) : fX2_init (Lh b (cs ++ [.inl (2, [.null, .null]), r0 0])) (b + (n + 0)) (b + (n + 1)) = some (Lh b (cs ++ [.inl (2, [.ref (b + (n + 1)), .ref (b + (n + 2))]), r0 0, r0 0])) := by
  unfold fX2_init
  have s1 : putV (Lh b (cs ++ [.inl (2, [.null, .null]), r0 0])) 2 (b + (n + 0)) 0 (.ref (b + (n + 1))) = some (Lh b (cs ++ [.inl (2, [.ref (b + (n + 1)), .null]), r0 0])) := L_put hn (i := 0) rfl (Nat.le_of_ble_eq_true rfl) rfl
  rw [s1, bind_sm]
  have s2 : lenA (Lh b (cs ++ [.inl (2, [.ref (b + (n + 1)), .null]), r0 0])) (b + (n + 1)) = some (Int32.ofNat 0) := L_lenA hn (i := 1) rfl
  rw [s2, bind_sm]
  have s3 : newA 60 (Lh b (cs ++ [.inl (2, [.ref (b + (n + 1)), .null]), r0 0])) (Int32.ofNat 0) = some (b + (n + 2), Lh b (cs ++ [.inl (2, [.ref (b + (n + 1)), .null]), r0 0, r0 0])) := L_newA hn (i := 2) (k := 0) rfl (by decide) (by decide) rfl
  rw [s3, bind_sm]
  dsimp only
  have s4 : putV (Lh b (cs ++ [.inl (2, [.ref (b + (n + 1)), .null]), r0 0, r0 0])) 2 (b + (n + 0)) 1 (.ref (b + (n + 2))) = some (Lh b (cs ++ [.inl (2, [.ref (b + (n + 1)), .ref (b + (n + 2))]), r0 0, r0 0])) := L_put hn (i := 0) rfl (Nat.le_of_ble_eq_true rfl) rfl
  rw [s4, bind_sm]
def B8 (b n : Nat) : List Ce := ([.inl (8, [.ref (b + (n + 1)), .ref (b + (n + 4)), .ref (b + (n + 21)), .ref (b + (n + 38)), .ref (b + (n + 105)), .ref (b + (n + 113)), .ref (b + (n + 115)), .int 0]), .inl (2, [.ref (b + (n + 2)), .ref (b + (n + 3))]), r0 0, r0 0] ++ B1 b (n + 4) (b + (n + 1)) ++ B1 b (n + 21) (b + (n + 1)) ++ B6 b (n + 38) (b + (n + 1)) ++ B4 b (n + 105) ++ B5 b (n + 113) ++ [r0 7])
set_option maxRecDepth 100000 in
theorem i_X8 (hn : cs.length = n) : fX8_init (Lh b (cs ++ ([.inl (8, [.null, .null, .null, .null, .null, .null, .null, .int 0])]))) (b + n) = some (Lh b (cs ++ B8 b n)) := by
  unfold fX8_init
  rw [show b + n = b + (n + 0) from rfl]
  have s1 : newO (Lh b (cs ++ ([.inl (8, [.null, .null, .null, .null, .null, .null, .null, .int 0])]))) 2 [.null, .null] = some (b + (n + 1), Lh b (cs ++ ([.inl (8, [.null, .null, .null, .null, .null, .null, .null, .int 0]), .inl (2, [.null, .null])]))) := L_newO hn (i := 1) rfl rfl
  rw [s1, bind_sm]
  try dsimp only
  have s2 : newA 0 (Lh b (cs ++ ([.inl (8, [.null, .null, .null, .null, .null, .null, .null, .int 0]), .inl (2, [.null, .null])]))) 0 = some (b + (n + 2), Lh b (cs ++ ([.inl (8, [.null, .null, .null, .null, .null, .null, .null, .int 0]), .inl (2, [.null, .null]), r0 0]))) := L_newA hn (i := 2) rfl (by decide) rfl rfl
  rw [s2, bind_sm]
  try dsimp only
  have s3 : fX2_init (Lh b (cs ++ ([.inl (8, [.null, .null, .null, .null, .null, .null, .null, .int 0]), .inl (2, [.null, .null]), r0 0]))) (b + (n + 1)) (b + (n + 2)) = some (Lh b (cs ++ ([.inl (8, [.null, .null, .null, .null, .null, .null, .null, .int 0]), .inl (2, [.ref (b + (n + 2)), .ref (b + (n + 3))]), r0 0, r0 0]))) := L_sub (f := fun h => fX2_init h (b + (n + 1)) (b + (n + 2))) (A := [.inl (8, [.null, .null, .null, .null, .null, .null, .null, .int 0])]) (X := [.inl (2, [.null, .null]), r0 0]) (B := [.inl (2, [.ref (b + (n + 2)), .ref (b + (n + 3))]), r0 0, r0 0]) rfl rfl (i_X2 (L_more hn rfl))
  rw [s3, bind_sm]
  try dsimp only
  have s4 : putV (Lh b (cs ++ ([.inl (8, [.null, .null, .null, .null, .null, .null, .null, .int 0]), .inl (2, [.ref (b + (n + 2)), .ref (b + (n + 3))]), r0 0, r0 0]))) 8 (b + (n + 0)) 0 (.ref (b + (n + 1))) = some (Lh b (cs ++ ([.inl (8, [.ref (b + (n + 1)), .null, .null, .null, .null, .null, .null, .int 0]), .inl (2, [.ref (b + (n + 2)), .ref (b + (n + 3))]), r0 0, r0 0]))) := L_put hn (i := 0) rfl (Nat.le_of_ble_eq_true rfl) rfl
  rw [s4, bind_sm]
  try dsimp only
  have s5 : newO (Lh b (cs ++ ([.inl (8, [.ref (b + (n + 1)), .null, .null, .null, .null, .null, .null, .int 0]), .inl (2, [.ref (b + (n + 2)), .ref (b + (n + 3))]), r0 0, r0 0]))) 1 [.null, .null, .null, .int 0, .null, .int 0, .null, .int 0, .int 0] = some (b + (n + 4), Lh b (cs ++ ([.inl (8, [.ref (b + (n + 1)), .null, .null, .null, .null, .null, .null, .int 0]), .inl (2, [.ref (b + (n + 2)), .ref (b + (n + 3))]), r0 0, r0 0, .inl (1, [.null, .null, .null, .int 0, .null, .int 0, .null, .int 0, .int 0])]))) := L_newO hn (i := 4) rfl rfl
  rw [s5, bind_sm]
  try dsimp only
  have s6 : getR (Lh b (cs ++ ([.inl (8, [.ref (b + (n + 1)), .null, .null, .null, .null, .null, .null, .int 0]), .inl (2, [.ref (b + (n + 2)), .ref (b + (n + 3))]), r0 0, r0 0, .inl (1, [.null, .null, .null, .int 0, .null, .int 0, .null, .int 0, .int 0])]))) 8 (b + (n + 0)) 0 = some (b + (n + 1)) := L_getR hn (i := 0) rfl rfl
  rw [s6, bind_sm]
  try dsimp only
  have s7 : fX1_init (Lh b (cs ++ ([.inl (8, [.ref (b + (n + 1)), .null, .null, .null, .null, .null, .null, .int 0]), .inl (2, [.ref (b + (n + 2)), .ref (b + (n + 3))]), r0 0, r0 0, .inl (1, [.null, .null, .null, .int 0, .null, .int 0, .null, .int 0, .int 0])]))) (b + (n + 4)) (b + (n + 1)) = some (Lh b (cs ++ ([.inl (8, [.ref (b + (n + 1)), .null, .null, .null, .null, .null, .null, .int 0]), .inl (2, [.ref (b + (n + 2)), .ref (b + (n + 3))]), r0 0, r0 0] ++ B1 b (n + 4) (b + (n + 1))))) := L_sub (f := fun h => fX1_init h (b + (n + 4)) (b + (n + 1))) (A := ([.inl (8, [.ref (b + (n + 1)), .null, .null, .null, .null, .null, .null, .int 0]), .inl (2, [.ref (b + (n + 2)), .ref (b + (n + 3))]), r0 0, r0 0])) (X := [.inl (1, [.null, .null, .null, .int 0, .null, .int 0, .null, .int 0, .int 0])]) (B := B1 b (n + 4) (b + (n + 1))) rfl rfl (i_X1 (L_more hn rfl) (a1 := (b + (n + 1))))
  rw [s7, bind_sm]
  try dsimp only
  have s8 : putV (Lh b (cs ++ ([.inl (8, [.ref (b + (n + 1)), .null, .null, .null, .null, .null, .null, .int 0]), .inl (2, [.ref (b + (n + 2)), .ref (b + (n + 3))]), r0 0, r0 0] ++ B1 b (n + 4) (b + (n + 1))))) 8 (b + (n + 0)) 1 (.ref (b + (n + 4))) = some (Lh b (cs ++ ([.inl (8, [.ref (b + (n + 1)), .ref (b + (n + 4)), .null, .null, .null, .null, .null, .int 0]), .inl (2, [.ref (b + (n + 2)), .ref (b + (n + 3))]), r0 0, r0 0] ++ B1 b (n + 4) (b + (n + 1))))) := L_put hn (i := 0) rfl (Nat.le_of_ble_eq_true rfl) rfl
  rw [s8, bind_sm]
  try dsimp only
  have s9 : newO (Lh b (cs ++ ([.inl (8, [.ref (b + (n + 1)), .ref (b + (n + 4)), .null, .null, .null, .null, .null, .int 0]), .inl (2, [.ref (b + (n + 2)), .ref (b + (n + 3))]), r0 0, r0 0] ++ B1 b (n + 4) (b + (n + 1))))) 1 [.null, .null, .null, .int 0, .null, .int 0, .null, .int 0, .int 0] = some (b + (n + 21), Lh b (cs ++ ([.inl (8, [.ref (b + (n + 1)), .ref (b + (n + 4)), .null, .null, .null, .null, .null, .int 0]), .inl (2, [.ref (b + (n + 2)), .ref (b + (n + 3))]), r0 0, r0 0] ++ B1 b (n + 4) (b + (n + 1)) ++ [.inl (1, [.null, .null, .null, .int 0, .null, .int 0, .null, .int 0, .int 0])]))) := L_newO hn (i := 21) rfl rfl
  rw [s9, bind_sm]
  try dsimp only
  have s10 : getR (Lh b (cs ++ ([.inl (8, [.ref (b + (n + 1)), .ref (b + (n + 4)), .null, .null, .null, .null, .null, .int 0]), .inl (2, [.ref (b + (n + 2)), .ref (b + (n + 3))]), r0 0, r0 0] ++ B1 b (n + 4) (b + (n + 1)) ++ [.inl (1, [.null, .null, .null, .int 0, .null, .int 0, .null, .int 0, .int 0])]))) 8 (b + (n + 0)) 0 = some (b + (n + 1)) := L_getR hn (i := 0) rfl rfl
  rw [s10, bind_sm]
  try dsimp only
  have s11 : fX1_init (Lh b (cs ++ ([.inl (8, [.ref (b + (n + 1)), .ref (b + (n + 4)), .null, .null, .null, .null, .null, .int 0]), .inl (2, [.ref (b + (n + 2)), .ref (b + (n + 3))]), r0 0, r0 0] ++ B1 b (n + 4) (b + (n + 1)) ++ [.inl (1, [.null, .null, .null, .int 0, .null, .int 0, .null, .int 0, .int 0])]))) (b + (n + 21)) (b + (n + 1)) = some (Lh b (cs ++ ([.inl (8, [.ref (b + (n + 1)), .ref (b + (n + 4)), .null, .null, .null, .null, .null, .int 0]), .inl (2, [.ref (b + (n + 2)), .ref (b + (n + 3))]), r0 0, r0 0] ++ B1 b (n + 4) (b + (n + 1)) ++ B1 b (n + 21) (b + (n + 1))))) := L_sub (f := fun h => fX1_init h (b + (n + 21)) (b + (n + 1))) (A := ([.inl (8, [.ref (b + (n + 1)), .ref (b + (n + 4)), .null, .null, .null, .null, .null, .int 0]), .inl (2, [.ref (b + (n + 2)), .ref (b + (n + 3))]), r0 0, r0 0] ++ B1 b (n + 4) (b + (n + 1)))) (X := [.inl (1, [.null, .null, .null, .int 0, .null, .int 0, .null, .int 0, .int 0])]) (B := B1 b (n + 21) (b + (n + 1))) rfl rfl (i_X1 (L_more hn rfl) (a1 := (b + (n + 1))))
  rw [s11, bind_sm]
  try dsimp only
  have s12 : putV (Lh b (cs ++ ([.inl (8, [.ref (b + (n + 1)), .ref (b + (n + 4)), .null, .null, .null, .null, .null, .int 0]), .inl (2, [.ref (b + (n + 2)), .ref (b + (n + 3))]), r0 0, r0 0] ++ B1 b (n + 4) (b + (n + 1)) ++ B1 b (n + 21) (b + (n + 1))))) 8 (b + (n + 0)) 2 (.ref (b + (n + 21))) = some (Lh b (cs ++ ([.inl (8, [.ref (b + (n + 1)), .ref (b + (n + 4)), .ref (b + (n + 21)), .null, .null, .null, .null, .int 0]), .inl (2, [.ref (b + (n + 2)), .ref (b + (n + 3))]), r0 0, r0 0] ++ B1 b (n + 4) (b + (n + 1)) ++ B1 b (n + 21) (b + (n + 1))))) := L_put hn (i := 0) rfl (Nat.le_of_ble_eq_true rfl) rfl
  rw [s12, bind_sm]
  try dsimp only
  have s13 : newO (Lh b (cs ++ ([.inl (8, [.ref (b + (n + 1)), .ref (b + (n + 4)), .ref (b + (n + 21)), .null, .null, .null, .null, .int 0]), .inl (2, [.ref (b + (n + 2)), .ref (b + (n + 3))]), r0 0, r0 0] ++ B1 b (n + 4) (b + (n + 1)) ++ B1 b (n + 21) (b + (n + 1))))) 6 [.null, .int 0, .int 0, .null, .null, .int 0, .int 0, .int 0] = some (b + (n + 38), Lh b (cs ++ ([.inl (8, [.ref (b + (n + 1)), .ref (b + (n + 4)), .ref (b + (n + 21)), .null, .null, .null, .null, .int 0]), .inl (2, [.ref (b + (n + 2)), .ref (b + (n + 3))]), r0 0, r0 0] ++ B1 b (n + 4) (b + (n + 1)) ++ B1 b (n + 21) (b + (n + 1)) ++ [.inl (6, [.null, .int 0, .int 0, .null, .null, .int 0, .int 0, .int 0])]))) := L_newO hn (i := 38) rfl rfl
  rw [s13, bind_sm]
  try dsimp only
  have s14 : getR (Lh b (cs ++ ([.inl (8, [.ref (b + (n + 1)), .ref (b + (n + 4)), .ref (b + (n + 21)), .null, .null, .null, .null, .int 0]), .inl (2, [.ref (b + (n + 2)), .ref (b + (n + 3))]), r0 0, r0 0] ++ B1 b (n + 4) (b + (n + 1)) ++ B1 b (n + 21) (b + (n + 1)) ++ [.inl (6, [.null, .int 0, .int 0, .null, .null, .int 0, .int 0, .int 0])]))) 8 (b + (n + 0)) 0 = some (b + (n + 1)) := L_getR hn (i := 0) rfl rfl
  rw [s14, bind_sm]
  try dsimp only
  have s15 : fX6_init (Lh b (cs ++ ([.inl (8, [.ref (b + (n + 1)), .ref (b + (n + 4)), .ref (b + (n + 21)), .null, .null, .null, .null, .int 0]), .inl (2, [.ref (b + (n + 2)), .ref (b + (n + 3))]), r0 0, r0 0] ++ B1 b (n + 4) (b + (n + 1)) ++ B1 b (n + 21) (b + (n + 1)) ++ [.inl (6, [.null, .int 0, .int 0, .null, .null, .int 0, .int 0, .int 0])]))) (b + (n + 38)) (b + (n + 1)) = some (Lh b (cs ++ ([.inl (8, [.ref (b + (n + 1)), .ref (b + (n + 4)), .ref (b + (n + 21)), .null, .null, .null, .null, .int 0]), .inl (2, [.ref (b + (n + 2)), .ref (b + (n + 3))]), r0 0, r0 0] ++ B1 b (n + 4) (b + (n + 1)) ++ B1 b (n + 21) (b + (n + 1)) ++ B6 b (n + 38) (b + (n + 1))))) := L_sub (f := fun h => fX6_init h (b + (n + 38)) (b + (n + 1))) (A := ([.inl (8, [.ref (b + (n + 1)), .ref (b + (n + 4)), .ref (b + (n + 21)), .null, .null, .null, .null, .int 0]), .inl (2, [.ref (b + (n + 2)), .ref (b + (n + 3))]), r0 0, r0 0] ++ B1 b (n + 4) (b + (n + 1)) ++ B1 b (n + 21) (b + (n + 1)))) (X := [.inl (6, [.null, .int 0, .int 0, .null, .null, .int 0, .int 0, .int 0])]) (B := B6 b (n + 38) (b + (n + 1))) rfl rfl (i_X6 (L_more hn rfl) (a1 := (b + (n + 1))))
  rw [s15, bind_sm]
  try dsimp only
  have s16 : putV (Lh b (cs ++ ([.inl (8, [.ref (b + (n + 1)), .ref (b + (n + 4)), .ref (b + (n + 21)), .null, .null, .null, .null, .int 0]), .inl (2, [.ref (b + (n + 2)), .ref (b + (n + 3))]), r0 0, r0 0] ++ B1 b (n + 4) (b + (n + 1)) ++ B1 b (n + 21) (b + (n + 1)) ++ B6 b (n + 38) (b + (n + 1))))) 8 (b + (n + 0)) 3 (.ref (b + (n + 38))) = some (Lh b (cs ++ ([.inl (8, [.ref (b + (n + 1)), .ref (b + (n + 4)), .ref (b + (n + 21)), .ref (b + (n + 38)), .null, .null, .null, .int 0]), .inl (2, [.ref (b + (n + 2)), .ref (b + (n + 3))]), r0 0, r0 0] ++ B1 b (n + 4) (b + (n + 1)) ++ B1 b (n + 21) (b + (n + 1)) ++ B6 b (n + 38) (b + (n + 1))))) := L_put hn (i := 0) rfl (Nat.le_of_ble_eq_true rfl) rfl
  rw [s16, bind_sm]
  try dsimp only
  have s17 : newO (Lh b (cs ++ ([.inl (8, [.ref (b + (n + 1)), .ref (b + (n + 4)), .ref (b + (n + 21)), .ref (b + (n + 38)), .null, .null, .null, .int 0]), .inl (2, [.ref (b + (n + 2)), .ref (b + (n + 3))]), r0 0, r0 0] ++ B1 b (n + 4) (b + (n + 1)) ++ B1 b (n + 21) (b + (n + 1)) ++ B6 b (n + 38) (b + (n + 1))))) 4 [.null, .null, .null] = some (b + (n + 105), Lh b (cs ++ ([.inl (8, [.ref (b + (n + 1)), .ref (b + (n + 4)), .ref (b + (n + 21)), .ref (b + (n + 38)), .null, .null, .null, .int 0]), .inl (2, [.ref (b + (n + 2)), .ref (b + (n + 3))]), r0 0, r0 0] ++ B1 b (n + 4) (b + (n + 1)) ++ B1 b (n + 21) (b + (n + 1)) ++ B6 b (n + 38) (b + (n + 1)) ++ [.inl (4, [.null, .null, .null])]))) := L_newO hn (i := 105) rfl rfl
  rw [s17, bind_sm]
  try dsimp only
  have s18 : fX4_init (Lh b (cs ++ ([.inl (8, [.ref (b + (n + 1)), .ref (b + (n + 4)), .ref (b + (n + 21)), .ref (b + (n + 38)), .null, .null, .null, .int 0]), .inl (2, [.ref (b + (n + 2)), .ref (b + (n + 3))]), r0 0, r0 0] ++ B1 b (n + 4) (b + (n + 1)) ++ B1 b (n + 21) (b + (n + 1)) ++ B6 b (n + 38) (b + (n + 1)) ++ [.inl (4, [.null, .null, .null])]))) (b + (n + 105)) = some (Lh b (cs ++ ([.inl (8, [.ref (b + (n + 1)), .ref (b + (n + 4)), .ref (b + (n + 21)), .ref (b + (n + 38)), .null, .null, .null, .int 0]), .inl (2, [.ref (b + (n + 2)), .ref (b + (n + 3))]), r0 0, r0 0] ++ B1 b (n + 4) (b + (n + 1)) ++ B1 b (n + 21) (b + (n + 1)) ++ B6 b (n + 38) (b + (n + 1)) ++ B4 b (n + 105)))) := L_sub (f := fun h => fX4_init h (b + (n + 105))) (A := ([.inl (8, [.ref (b + (n + 1)), .ref (b + (n + 4)), .ref (b + (n + 21)), .ref (b + (n + 38)), .null, .null, .null, .int 0]), .inl (2, [.ref (b + (n + 2)), .ref (b + (n + 3))]), r0 0, r0 0] ++ B1 b (n + 4) (b + (n + 1)) ++ B1 b (n + 21) (b + (n + 1)) ++ B6 b (n + 38) (b + (n + 1)))) (X := [.inl (4, [.null, .null, .null])]) (B := B4 b (n + 105)) rfl rfl (i_X4 (L_more hn rfl))
  rw [s18, bind_sm]
  try dsimp only
  have s19 : putV (Lh b (cs ++ ([.inl (8, [.ref (b + (n + 1)), .ref (b + (n + 4)), .ref (b + (n + 21)), .ref (b + (n + 38)), .null, .null, .null, .int 0]), .inl (2, [.ref (b + (n + 2)), .ref (b + (n + 3))]), r0 0, r0 0] ++ B1 b (n + 4) (b + (n + 1)) ++ B1 b (n + 21) (b + (n + 1)) ++ B6 b (n + 38) (b + (n + 1)) ++ B4 b (n + 105)))) 8 (b + (n + 0)) 4 (.ref (b + (n + 105))) = some (Lh b (cs ++ ([.inl (8, [.ref (b + (n + 1)), .ref (b + (n + 4)), .ref (b + (n + 21)), .ref (b + (n + 38)), .ref (b + (n + 105)), .null, .null, .int 0]), .inl (2, [.ref (b + (n + 2)), .ref (b + (n + 3))]), r0 0, r0 0] ++ B1 b (n + 4) (b + (n + 1)) ++ B1 b (n + 21) (b + (n + 1)) ++ B6 b (n + 38) (b + (n + 1)) ++ B4 b (n + 105)))) := L_put hn (i := 0) rfl (Nat.le_of_ble_eq_true rfl) rfl
  rw [s19, bind_sm]
  try dsimp only
  have s20 : newO (Lh b (cs ++ ([.inl (8, [.ref (b + (n + 1)), .ref (b + (n + 4)), .ref (b + (n + 21)), .ref (b + (n + 38)), .ref (b + (n + 105)), .null, .null, .int 0]), .inl (2, [.ref (b + (n + 2)), .ref (b + (n + 3))]), r0 0, r0 0] ++ B1 b (n + 4) (b + (n + 1)) ++ B1 b (n + 21) (b + (n + 1)) ++ B6 b (n + 38) (b + (n + 1)) ++ B4 b (n + 105)))) 5 [.null, .int 0, .int 0, .int 0, .int 0, .int 0] = some (b + (n + 113), Lh b (cs ++ ([.inl (8, [.ref (b + (n + 1)), .ref (b + (n + 4)), .ref (b + (n + 21)), .ref (b + (n + 38)), .ref (b + (n + 105)), .null, .null, .int 0]), .inl (2, [.ref (b + (n + 2)), .ref (b + (n + 3))]), r0 0, r0 0] ++ B1 b (n + 4) (b + (n + 1)) ++ B1 b (n + 21) (b + (n + 1)) ++ B6 b (n + 38) (b + (n + 1)) ++ B4 b (n + 105) ++ [.inl (5, [.null, .int 0, .int 0, .int 0, .int 0, .int 0])]))) := L_newO hn (i := 113) rfl rfl
  rw [s20, bind_sm]
  try dsimp only
  have s21 : fX5_init (Lh b (cs ++ ([.inl (8, [.ref (b + (n + 1)), .ref (b + (n + 4)), .ref (b + (n + 21)), .ref (b + (n + 38)), .ref (b + (n + 105)), .null, .null, .int 0]), .inl (2, [.ref (b + (n + 2)), .ref (b + (n + 3))]), r0 0, r0 0] ++ B1 b (n + 4) (b + (n + 1)) ++ B1 b (n + 21) (b + (n + 1)) ++ B6 b (n + 38) (b + (n + 1)) ++ B4 b (n + 105) ++ [.inl (5, [.null, .int 0, .int 0, .int 0, .int 0, .int 0])]))) (b + (n + 113)) = some (Lh b (cs ++ ([.inl (8, [.ref (b + (n + 1)), .ref (b + (n + 4)), .ref (b + (n + 21)), .ref (b + (n + 38)), .ref (b + (n + 105)), .null, .null, .int 0]), .inl (2, [.ref (b + (n + 2)), .ref (b + (n + 3))]), r0 0, r0 0] ++ B1 b (n + 4) (b + (n + 1)) ++ B1 b (n + 21) (b + (n + 1)) ++ B6 b (n + 38) (b + (n + 1)) ++ B4 b (n + 105) ++ B5 b (n + 113)))) := L_sub (f := fun h => fX5_init h (b + (n + 113))) (A := ([.inl (8, [.ref (b + (n + 1)), .ref (b + (n + 4)), .ref (b + (n + 21)), .ref (b + (n + 38)), .ref (b + (n + 105)), .null, .null, .int 0]), .inl (2, [.ref (b + (n + 2)), .ref (b + (n + 3))]), r0 0, r0 0] ++ B1 b (n + 4) (b + (n + 1)) ++ B1 b (n + 21) (b + (n + 1)) ++ B6 b (n + 38) (b + (n + 1)) ++ B4 b (n + 105))) (X := [.inl (5, [.null, .int 0, .int 0, .int 0, .int 0, .int 0])]) (B := B5 b (n + 113)) rfl rfl (i_X5 (L_more hn rfl))
  rw [s21, bind_sm]
  try dsimp only
  have s22 : putV (Lh b (cs ++ ([.inl (8, [.ref (b + (n + 1)), .ref (b + (n + 4)), .ref (b + (n + 21)), .ref (b + (n + 38)), .ref (b + (n + 105)), .null, .null, .int 0]), .inl (2, [.ref (b + (n + 2)), .ref (b + (n + 3))]), r0 0, r0 0] ++ B1 b (n + 4) (b + (n + 1)) ++ B1 b (n + 21) (b + (n + 1)) ++ B6 b (n + 38) (b + (n + 1)) ++ B4 b (n + 105) ++ B5 b (n + 113)))) 8 (b + (n + 0)) 5 (.ref (b + (n + 113))) = some (Lh b (cs ++ ([.inl (8, [.ref (b + (n + 1)), .ref (b + (n + 4)), .ref (b + (n + 21)), .ref (b + (n + 38)), .ref (b + (n + 105)), .ref (b + (n + 113)), .null, .int 0]), .inl (2, [.ref (b + (n + 2)), .ref (b + (n + 3))]), r0 0, r0 0] ++ B1 b (n + 4) (b + (n + 1)) ++ B1 b (n + 21) (b + (n + 1)) ++ B6 b (n + 38) (b + (n + 1)) ++ B4 b (n + 105) ++ B5 b (n + 113)))) := L_put hn (i := 0) rfl (Nat.le_of_ble_eq_true rfl) rfl
  rw [s22, bind_sm]
  try dsimp only
  have s23 : newA 7 (Lh b (cs ++ ([.inl (8, [.ref (b + (n + 1)), .ref (b + (n + 4)), .ref (b + (n + 21)), .ref (b + (n + 38)), .ref (b + (n + 105)), .ref (b + (n + 113)), .null, .int 0]), .inl (2, [.ref (b + (n + 2)), .ref (b + (n + 3))]), r0 0, r0 0] ++ B1 b (n + 4) (b + (n + 1)) ++ B1 b (n + 21) (b + (n + 1)) ++ B6 b (n + 38) (b + (n + 1)) ++ B4 b (n + 105) ++ B5 b (n + 113)))) 7 = some (b + (n + 115), Lh b (cs ++ ([.inl (8, [.ref (b + (n + 1)), .ref (b + (n + 4)), .ref (b + (n + 21)), .ref (b + (n + 38)), .ref (b + (n + 105)), .ref (b + (n + 113)), .null, .int 0]), .inl (2, [.ref (b + (n + 2)), .ref (b + (n + 3))]), r0 0, r0 0] ++ B1 b (n + 4) (b + (n + 1)) ++ B1 b (n + 21) (b + (n + 1)) ++ B6 b (n + 38) (b + (n + 1)) ++ B4 b (n + 105) ++ B5 b (n + 113) ++ [r0 7]))) := L_newA hn (i := 115) rfl (by decide) rfl rfl
  rw [s23, bind_sm]
  try dsimp only
  have s24 : putV (Lh b (cs ++ ([.inl (8, [.ref (b + (n + 1)), .ref (b + (n + 4)), .ref (b + (n + 21)), .ref (b + (n + 38)), .ref (b + (n + 105)), .ref (b + (n + 113)), .null, .int 0]), .inl (2, [.ref (b + (n + 2)), .ref (b + (n + 3))]), r0 0, r0 0] ++ B1 b (n + 4) (b + (n + 1)) ++ B1 b (n + 21) (b + (n + 1)) ++ B6 b (n + 38) (b + (n + 1)) ++ B4 b (n + 105) ++ B5 b (n + 113) ++ [r0 7]))) 8 (b + (n + 0)) 6 (.ref (b + (n + 115))) = some (Lh b (cs ++ ([.inl (8, [.ref (b + (n + 1)), .ref (b + (n + 4)), .ref (b + (n + 21)), .ref (b + (n + 38)), .ref (b + (n + 105)), .ref (b + (n + 113)), .ref (b + (n + 115)), .int 0]), .inl (2, [.ref (b + (n + 2)), .ref (b + (n + 3))]), r0 0, r0 0] ++ B1 b (n + 4) (b + (n + 1)) ++ B1 b (n + 21) (b + (n + 1)) ++ B6 b (n + 38) (b + (n + 1)) ++ B4 b (n + 105) ++ B5 b (n + 113) ++ [r0 7]))) := L_put hn (i := 0) rfl (Nat.le_of_ble_eq_true rfl) rfl
  rw [s24, bind_sm]
  try dsimp only
  rfl
end LH
