/-! ===== the picture: both objects' cells, from b on, in the order in which they are made ===== -/
def up2 {α : Type} (f : Nat → Nat → α) (c i : Nat) (v : α) : Nat → Nat → α := fun x y => if x = c ∧ y = i then v else f x y
abbrev Lk : Type := (Nat × List (Option Nat)) ⊕ (Nat ⊕ (Nat × List Nat))
def lay : List Lk := [.inl (8, [some 1, some 4, some 21, some 38, some 105, some 113, some 115, none]), .inl (2, [some 2, some 3]), .inr (.inl 0), .inr (.inl 0), .inl (1, [some 12, some 5, some 9, none, some 10, none, some 11, none, none]), .inl (0, [none, some 6, some 7, some 8]), .inr (.inl 8), .inr (.inl 8), .inr (.inl 8), .inr (.inl 60), .inr (.inl 24), .inr (.inl 24), .inl (7, [none, none, none, some 13, some 14, some 15, some 16, some 17, some 18, some 19, some 20, some 500, some 500]), .inr (.inl 8), .inr (.inl 8), .inr (.inl 4), .inr (.inl 4), .inr (.inl 4), .inr (.inl 4), .inr (.inl 4), .inr (.inl 32), .inl (1, [some 29, some 22, some 26, none, some 27, none, some 28, none, none]), .inl (0, [none, some 23, some 24, some 25]), .inr (.inl 8), .inr (.inl 8), .inr (.inl 8), .inr (.inl 60), .inr (.inl 24), .inr (.inl 24), .inl (7, [none, none, none, some 30, some 31, some 32, some 33, some 34, some 35, some 36, some 37, some 500, some 500]), .inr (.inl 8), .inr (.inl 8), .inr (.inl 4), .inr (.inl 4), .inr (.inl 4), .inr (.inl 4), .inr (.inl 4), .inr (.inl 32), .inl (6, [some 39, none, none, some 40, some 41, none, none, none]), .inr (.inr (1, [42, 51, 60, 69, 78, 87, 96])), .inr (.inl 6), .inr (.inl 6), .inl (7, [none, none, none, some 43, some 44, some 45, some 46, some 47, some 48, some 49, some 50, some 500, some 500]), .inr (.inl 8), .inr (.inl 8), .inr (.inl 4), .inr (.inl 4), .inr (.inl 4), .inr (.inl 4), .inr (.inl 4), .inr (.inl 32), .inl (7, [none, none, none, some 52, some 53, some 54, some 55, some 56, some 57, some 58, some 59, some 500, some 500]), .inr (.inl 8), .inr (.inl 8), .inr (.inl 4), .inr (.inl 4), .inr (.inl 4), .inr (.inl 4), .inr (.inl 4), .inr (.inl 32), .inl (7, [none, none, none, some 61, some 62, some 63, some 64, some 65, some 66, some 67, some 68, some 500, some 500]), .inr (.inl 8), .inr (.inl 8), .inr (.inl 4), .inr (.inl 4), .inr (.inl 4), .inr (.inl 4), .inr (.inl 4), .inr (.inl 32), .inl (7, [none, none, none, some 70, some 71, some 72, some 73, some 74, some 75, some 76, some 77, some 500, some 500]), .inr (.inl 8), .inr (.inl 8), .inr (.inl 4), .inr (.inl 4), .inr (.inl 4), .inr (.inl 4), .inr (.inl 4), .inr (.inl 32), .inl (7, [none, none, none, some 79, some 80, some 81, some 82, some 83, some 84, some 85, some 86, some 500, some 500]), .inr (.inl 8), .inr (.inl 8), .inr (.inl 4), .inr (.inl 4), .inr (.inl 4), .inr (.inl 4), .inr (.inl 4), .inr (.inl 32), .inl (7, [none, none, none, some 88, some 89, some 90, some 91, some 92, some 93, some 94, some 95, some 500, some 500]), .inr (.inl 8), .inr (.inl 8), .inr (.inl 4), .inr (.inl 4), .inr (.inl 4), .inr (.inl 4), .inr (.inl 4), .inr (.inl 32), .inl (7, [none, none, none, some 97, some 98, some 99, some 100, some 101, some 102, some 103, some 104, some 500, some 500]), .inr (.inl 8), .inr (.inl 8), .inr (.inl 4), .inr (.inl 4), .inr (.inl 4), .inr (.inl 4), .inr (.inl 4), .inr (.inl 32), .inl (4, [some 106, some 107, some 108]), .inr (.inl 4), .inr (.inl 4), .inr (.inr (0, [109, 110, 111, 112])), .inr (.inl 24), .inr (.inl 24), .inr (.inl 24), .inr (.inl 24), .inl (5, [some 114, none, none, none, none, none]), .inr (.inl 30), .inr (.inl 7), .inl (9, [some 117, some 118, some 119, some 120, none, some 121, none, none, none, none, some 122, some 123, some 124, some 125, some 126, some 127, none, none, none, some 128, none, none, none, some 129, some 130, some 131, some 132]), .inr (.inl 458), .inr (.inl 458), .inr (.inl 458), .inr (.inl 992), .inr (.inl 7), .inr (.inl 124), .inr (.inl 128), .inr (.inl 64), .inr (.inl 8), .inr (.inl 6), .inr (.inl 6), .inr (.inl 30), .inr (.inl 4), .inr (.inl 4), .inr (.inl 96), .inr (.inl 24)]
def fieldV (b : Nat) (S : Nat → Nat → Int32) (Q : Nat → Nat → Nat) (c : Nat) : Nat → List (Option Nat) → List Value
  | _, [] => []
  | j, none :: t => .int (S c j) :: fieldV b S Q c (j + 1) t
  | j, some o :: t => .ref (if o = 500 then Q c j else b + o) :: fieldV b S Q c (j + 1) t
def cellL (b : Nat) (S : Nat → Nat → Int32) (Q : Nat → Nat → Nat) (c : Nat) : Lk → Ce
  | .inl (ci, fs) => .inl (ci, fieldV b S Q c 0 fs)
  | .inr (.inl n) => .inr (.inl (n, S c))
  | .inr (.inr (k, os)) => .inr (.inr (k, os.length, fun i => (os[i]?).map (fun x => b + x)))
def cellC (b : Nat) (S : Nat → Nat → Int32) (Q : Nat → Nat → Nat) (c : Nat) : Ce := match lay[c]? with
  | some x => cellL b S Q c x
  | none => .inr (.inl (0, fun _ => 0))
/-- the heap: the picture from b on, all else by g -/
def E (b : Nat) (S : Nat → Nat → Int32) (Q : Nat → Nat → Nat) (g : Hp) : Hp := (fun a => if b ≤ a ∧ a < b + 133 then some (cellC b S Q (a - b)) else g.1 a, g.2)
set_option maxRecDepth 10000 in
theorem lay_len : lay.length = 133 := rfl
section EE
variable {b : Nat} {S : Nat → Nat → Int32} {Q : Nat → Nat → Nat} {g : Hp} {c ci j i n o v k : Nat} {x : Int32} {fs : List (Option Nat)} {os : List Nat}
theorem E_at {l : Lk} (h : lay[c]? = some l) : (E b S Q g).1 (b + c) = some (cellL b S Q c l) := by
  have hc : c < 133 := by have h9 := (List.getElem?_eq_some_iff.mp h).1; rwa [lay_len] at h9
  unfold E
  dsimp only
  rw [if_pos ⟨by omega, by omega⟩, show b + c - b = c by omega]
  unfold cellC
  rw [h]
theorem fieldV_get : ∀ (fs : List (Option Nat)) (j0 j : Nat), (fieldV b S Q c j0 fs)[j]? = (fs[j]?).map (fun q => match q with | none => Value.int (S c (j0 + j)) | some o => Value.ref (if o = 500 then Q c (j0 + j) else b + o))
  | [], j0, j => by simp [fieldV]
  | none :: t, j0, 0 => by simp [fieldV]
  | some o :: t, j0, 0 => by simp [fieldV]
  | none :: t, j0, j + 1 => by
    rw [fieldV, List.getElem?_cons_succ, List.getElem?_cons_succ, fieldV_get t (j0 + 1) j, show j0 + 1 + j = j0 + (j + 1) by omega]
  | some o :: t, j0, j + 1 => by
    rw [fieldV, List.getElem?_cons_succ, List.getElem?_cons_succ, fieldV_get t (j0 + 1) j, show j0 + 1 + j = j0 + (j + 1) by omega]
theorem fieldV_len : ∀ (fs : List (Option Nat)) (j0 : Nat), (fieldV b S Q c j0 fs).length = fs.length
  | [], _ => rfl
  | none :: t, j0 => by simp [fieldV, fieldV_len t (j0 + 1)]
  | some o :: t, j0 => by simp [fieldV, fieldV_len t (j0 + 1)]
theorem E_gO {α : Type} {B : Option α} (h : lay[c]? = some (.inl (ci, fs))) : gO (E b S Q g) ci (b + c) B = B := by
  unfold gO isO
  rw [E_at h]
  simp [cellL]
theorem E_getV (h : lay[c]? = some (.inl (ci, fs))) : getV (E b S Q g) ci (b + c) j = (fs[j]?).map (fun q => match q with | none => Value.int (S c j) | some o => Value.ref (if o = 500 then Q c j else b + o)) := by
  unfold getV
  rw [E_at h]
  simp only [cellL, if_pos, fieldV_get, Nat.zero_add]
  try rfl
theorem E_getI (h : lay[c]? = some (.inl (ci, fs))) (hj : fs[j]? = some none) : getI (E b S Q g) ci (b + c) j = some (S c j) := by
  unfold getI
  rw [E_getV h, hj]
  rfl
theorem E_getR (h : lay[c]? = some (.inl (ci, fs))) (hj : fs[j]? = some (some o)) (ho : o ≠ 500) : getR (E b S Q g) ci (b + c) j = some (b + o) := by
  unfold getR
  rw [E_getV h, hj]
  simp [ho]
theorem E_getQ (h : lay[c]? = some (.inl (ci, fs))) (hj : fs[j]? = some (some 500)) : getR (E b S Q g) ci (b + c) j = some (Q c j) := by
  unfold getR
  rw [E_getV h, hj]
  simp
theorem E_ext {S' : Nat → Nat → Int32} {Q' : Nat → Nat → Nat} {e : Ce} (hc : c < 133) (he : e = cellC b S' Q' c) (ho : ∀ c', c' < 133 → c' ≠ c → cellC b S Q c' = cellC b S' Q' c') : setC (E b S Q g) (b + c) e = E b S' Q' g := by
  unfold setC E
  refine Prod.ext (funext fun a => ?_) rfl
  dsimp only
  by_cases h1 : a = b + c
  · subst h1
    rw [if_pos rfl, if_pos ⟨by omega, by omega⟩, he, show b + c - b = c by omega]
  · rw [if_neg h1]
    by_cases h2 : b ≤ a ∧ a < b + 133
    · rw [if_pos h2, if_pos h2, ho (a - b) (by omega) (by omega)]
    · rw [if_neg h2, if_neg h2]
theorem fieldV_same {S' : Nat → Nat → Int32} {Q' : Nat → Nat → Nat} : ∀ (fs : List (Option Nat)) (j0 : Nat), (∀ j, S c j = S' c j) → (∀ j, Q c j = Q' c j) → fieldV b S Q c j0 fs = fieldV b S' Q' c j0 fs
  | [], _, _, _ => rfl
  | none :: t, j0, h1, h2 => by rw [fieldV, fieldV, h1, fieldV_same t (j0 + 1) h1 h2]
  | some o :: t, j0, h1, h2 => by rw [fieldV, fieldV, h2, fieldV_same t (j0 + 1) h1 h2]
theorem cellC_same {S' : Nat → Nat → Int32} {Q' : Nat → Nat → Nat} (h1 : S c = S' c) (h2 : Q c = Q' c) : cellC b S Q c = cellC b S' Q' c := by
  unfold cellC
  split
  next l hl =>
    match l with
    | .inl (ci, fs) => simp only [cellL]; rw [fieldV_same fs 0 (fun j => by rw [h1]) (fun j => by rw [h2])]
    | .inr (.inl n) => simp only [cellL]; rw [h1]
    | .inr (.inr (k, os)) => rfl
  next => rfl
theorem up2_row {α : Type} {f : Nat → Nat → α} {v : α} (h : c ≠ k) : up2 f c i v k = f k := by
  funext y
  unfold up2
  rw [if_neg (fun q => h q.1.symm)]
theorem fieldV_setI : ∀ (fs : List (Option Nat)) (j0 j : Nat) (x : Int32), fs[j]? = some none → (fieldV b S Q c j0 fs).set j (.int x) = fieldV b (up2 S c (j0 + j) x) Q c j0 fs
  | [], _, _, _, h => by simp at h
  | none :: t, j0, 0, x, h => by
    rw [fieldV, fieldV, List.set_cons_zero]
    congr 1
    · simp [up2]
    · have key : ∀ (fs : List (Option Nat)) (j1 : Nat), j0 < j1 → fieldV b S Q c j1 fs = fieldV b (up2 S c (j0 + 0) x) Q c j1 fs := by
        intro fs
        induction fs with
        | nil => intro _ _; rfl
        | cons q t ih =>
          intro j1 hj
          cases q with
          | none => rw [fieldV, fieldV, ih (j1 + 1) (by omega)]; congr 2; unfold up2; rw [if_neg (by omega)]
          | some o => rw [fieldV, fieldV, ih (j1 + 1) (by omega)]
      exact key t (j0 + 1) (by omega)
  | some o :: t, j0, 0, x, h => by simp at h
  | none :: t, j0, j + 1, x, h => by
    rw [fieldV, fieldV, List.set_cons_succ, fieldV_setI t (j0 + 1) j x (by simpa using h), show j0 + 1 + j = j0 + (j + 1) by omega]
    congr 2
    unfold up2
    rw [if_neg (by omega)]
  | some o :: t, j0, j + 1, x, h => by
    rw [fieldV, fieldV, List.set_cons_succ, fieldV_setI t (j0 + 1) j x (by simpa using h), show j0 + 1 + j = j0 + (j + 1) by omega]
theorem fieldV_setQ : ∀ (fs : List (Option Nat)) (j0 j : Nat) (x : Nat), fs[j]? = some (some 500) → (fieldV b S Q c j0 fs).set j (.ref x) = fieldV b S (up2 Q c (j0 + j) x) c j0 fs
  | [], _, _, _, h => by simp at h
  | some o :: t, j0, 0, x, h => by
    simp at h
    subst h
    rw [fieldV, fieldV, List.set_cons_zero]
    congr 1
    · simp [up2]
    · have key : ∀ (fs : List (Option Nat)) (j1 : Nat), j0 < j1 → fieldV b S Q c j1 fs = fieldV b S (up2 Q c (j0 + 0) x) c j1 fs := by
        intro fs
        induction fs with
        | nil => intro _ _; rfl
        | cons q t ih =>
          intro j1 hj
          cases q with
          | some o => rw [fieldV, fieldV, ih (j1 + 1) (by omega)]; congr 3; unfold up2; rw [if_neg (by omega)]
          | none => rw [fieldV, fieldV, ih (j1 + 1) (by omega)]
      exact key t (j0 + 1) (by omega)
  | none :: t, j0, 0, x, h => by simp at h
  | none :: t, j0, j + 1, x, h => by
    rw [fieldV, fieldV, List.set_cons_succ, fieldV_setQ t (j0 + 1) j x (by simpa using h), show j0 + 1 + j = j0 + (j + 1) by omega]
  | some o :: t, j0, j + 1, x, h => by
    rw [fieldV, fieldV, List.set_cons_succ, fieldV_setQ t (j0 + 1) j x (by simpa using h), show j0 + 1 + j = j0 + (j + 1) by omega]
    congr 3
    unfold up2
    rw [if_neg (by omega)]
theorem lay_lt {l : Lk} (h : lay[c]? = some l) : c < 133 := by have h9 := (List.getElem?_eq_some_iff.mp h).1; rwa [lay_len] at h9
theorem E_putI (h : lay[c]? = some (.inl (ci, fs))) (hj : fs[j]? = some none) : putV (E b S Q g) ci (b + c) j (.int x) = some (E b (up2 S c j x) Q g) := by
  unfold putV
  rw [E_at h]
  have hl : j < fs.length := (List.getElem?_eq_some_iff.mp hj).1
  simp only [cellL, fieldV_len]
  rw [if_pos ⟨trivial, hl⟩]
  refine congrArg some (E_ext (lay_lt h) ?_ (fun c' _ hne => cellC_same (up2_row (fun q => hne q.symm)).symm rfl))
  unfold cellC
  rw [h]
  simp only [cellL]
  rw [fieldV_setI fs 0 j x hj, Nat.zero_add]
theorem E_putQ (h : lay[c]? = some (.inl (ci, fs))) (hj : fs[j]? = some (some 500)) : putV (E b S Q g) ci (b + c) j (.ref v) = some (E b S (up2 Q c j v) g) := by
  unfold putV
  rw [E_at h]
  have hl : j < fs.length := (List.getElem?_eq_some_iff.mp hj).1
  simp only [cellL, fieldV_len]
  rw [if_pos ⟨trivial, hl⟩]
  refine congrArg some (E_ext (lay_lt h) ?_ (fun c' _ hne => cellC_same rfl (up2_row (fun q => hne q.symm)).symm))
  unfold cellC
  rw [h]
  simp only [cellL]
  rw [fieldV_setQ fs 0 j v hj, Nat.zero_add]
theorem nI_in2 (hi : i < n) (hn : n < 2 ^ 31) : ¬ (nI i < 0 ∨ n ≤ (nI i).toNatClampNeg) := nI_in hi hn
theorem E_rdI (h : lay[c]? = some (.inr (.inl n))) (hi : i < n) (hn : n < 2 ^ 31) : rdI (E b S Q g) (b + c) (nI i) = some (S c i) := by
  unfold rdI
  rw [E_at h]
  simp only [cellL]
  rw [if_neg (nI_in2 hi hn), nI_clamp (by omega)]
theorem E_wrI (h : lay[c]? = some (.inr (.inl n))) (hi : i < n) (hn : n < 2 ^ 31) : wrI (E b S Q g) (b + c) (nI i) x = some (E b (up2 S c i x) Q g) := by
  unfold wrI
  rw [E_at h]
  simp only [cellL]
  rw [if_neg (nI_in2 hi hn), nI_clamp (by omega)]
  refine congrArg some (E_ext (lay_lt h) ?_ (fun c' _ hne => cellC_same (up2_row (fun q => hne q.symm)).symm rfl))
  unfold cellC
  rw [h]
  simp only [cellL]
  congr 3
  funext y
  simp [upd, up2]
theorem E_lenA (h : lay[c]? = some (.inr (.inl n))) : lenA (E b S Q g) (b + c) = some (nI n) := by
  unfold lenA
  rw [E_at h]
  rfl
theorem E_rdR (h : lay[c]? = some (.inr (.inr (k, os)))) (hi : os[i]? = some o) (hn : os.length < 2 ^ 31) : rdR (E b S Q g) (b + c) (nI i) = some (b + o) := by
  have hl : i < os.length := (List.getElem?_eq_some_iff.mp hi).1
  unfold rdR
  rw [E_at h]
  simp only [cellL]
  rw [if_neg (nI_in2 hl hn), nI_clamp (by omega), hi]
  rfl
/-- a stretch copied -/
def cpR (S : Nat → Nat → Int32) (c0 c1 sp dp n : Nat) : Nat → Nat → Int32 := fun r => if r = c1 then va_cpy (S c0) (S c1) sp dp n else S r
theorem nI_nneg (hn : n < 2 ^ 31) : ¬ nI n < 0 := nI_pos hn
theorem E_acopy {c1 n0 n1 sp dp : Nat} (h : lay[c]? = some (.inr (.inl n0))) (h1 : lay[c1]? = some (.inr (.inl n1))) (hs : sp + n ≤ n0) (hd : dp + n ≤ n1) (hn0 : n0 < 2 ^ 31) (hn1 : n1 < 2 ^ 31) : acopy (E b S Q g) (b + c) (nI sp) (b + c1) (nI dp) (nI n) = some (E b (cpR S c c1 sp dp n) Q g) := by
  unfold acopy
  rw [E_at h, E_at h1]
  simp only [cellL]
  rw [nI_clamp (n := sp) (by omega), nI_clamp (n := dp) (by omega), nI_clamp (n := n) (by omega), if_neg (by
    have a1 := nI_nneg (n := sp) (by omega)
    have a2 := nI_nneg (n := dp) (by omega)
    have a3 := nI_nneg (n := n) (by omega)
    simp only [a1, a2, a3, false_or]
    omega)]
  refine congrArg some (E_ext (lay_lt h1) ?_ (fun c' _ hne => cellC_same (by unfold cpR; rw [if_neg hne]) rfl))
  unfold cellC
  rw [h1]
  simp only [cellL, cpR, if_pos]
  try rfl
theorem E_off {a : Nat} (h : a < b ∨ b + 133 ≤ a) : (E b S Q g).1 a = g.1 a := by
  unfold E
  dsimp only
  rw [if_neg (by omega)]
end EE
def isW (c : Nat) : Prop := c = 12 ∨ c = 29 ∨ c = 42 ∨ c = 51 ∨ c = 60 ∨ c = 69 ∨ c = 78 ∨ c = 87 ∨ c = 96
theorem lay_W {c : Nat} (h : isW c) : lay[c]? = some (.inl (7, [none, none, none, some (c + 1), some (c + 2), some (c + 3), some (c + 4), some (c + 5), some (c + 6), some (c + 7), some (c + 8), some 500, some 500])) ∧ lay[c + 1]? = some (.inr (.inl 8)) ∧ lay[c + 2]? = some (.inr (.inl 8)) ∧ lay[c + 3]? = some (.inr (.inl 4)) ∧ lay[c + 4]? = some (.inr (.inl 4)) ∧ lay[c + 5]? = some (.inr (.inl 4)) ∧ lay[c + 6]? = some (.inr (.inl 4)) ∧ lay[c + 7]? = some (.inr (.inl 4)) ∧ lay[c + 8]? = some (.inr (.inl 32)) := by
  rcases h with rfl | rfl | rfl | rfl | rfl | rfl | rfl | rfl | rfl <;> exact ⟨rfl, rfl, rfl, rfl, rfl, rfl, rfl, rfl, rfl⟩
theorem rM (b : Nat) (S : Nat → Nat → Int32) (Q : Nat → Nat → Nat) (g : Hp) : (∀ {α : Type} {B : Option α}, gO (E b S Q g) 9 (b + 116) B = B) ∧ getR (E b S Q g) 9 (b + 116) 0 = some (b + 117) ∧ getR (E b S Q g) 9 (b + 116) 1 = some (b + 118) ∧ getR (E b S Q g) 9 (b + 116) 2 = some (b + 119) ∧ getR (E b S Q g) 9 (b + 116) 3 = some (b + 120) ∧ getI (E b S Q g) 9 (b + 116) 4 = some (S 116 4) ∧ (∀ x, putV (E b S Q g) 9 (b + 116) 4 (.int x) = some (E b (up2 S 116 4 x) Q g)) ∧ getR (E b S Q g) 9 (b + 116) 5 = some (b + 121) ∧ getI (E b S Q g) 9 (b + 116) 6 = some (S 116 6) ∧ (∀ x, putV (E b S Q g) 9 (b + 116) 6 (.int x) = some (E b (up2 S 116 6 x) Q g)) ∧ getI (E b S Q g) 9 (b + 116) 7 = some (S 116 7) ∧ (∀ x, putV (E b S Q g) 9 (b + 116) 7 (.int x) = some (E b (up2 S 116 7 x) Q g)) ∧ getI (E b S Q g) 9 (b + 116) 8 = some (S 116 8) ∧ (∀ x, putV (E b S Q g) 9 (b + 116) 8 (.int x) = some (E b (up2 S 116 8 x) Q g)) ∧ getI (E b S Q g) 9 (b + 116) 9 = some (S 116 9) ∧ (∀ x, putV (E b S Q g) 9 (b + 116) 9 (.int x) = some (E b (up2 S 116 9 x) Q g)) ∧ getR (E b S Q g) 9 (b + 116) 10 = some (b + 122) ∧ getR (E b S Q g) 9 (b + 116) 11 = some (b + 123) ∧ getR (E b S Q g) 9 (b + 116) 12 = some (b + 124) ∧ getR (E b S Q g) 9 (b + 116) 13 = some (b + 125) ∧ getR (E b S Q g) 9 (b + 116) 14 = some (b + 126) ∧ getR (E b S Q g) 9 (b + 116) 15 = some (b + 127) ∧ getI (E b S Q g) 9 (b + 116) 16 = some (S 116 16) ∧ (∀ x, putV (E b S Q g) 9 (b + 116) 16 (.int x) = some (E b (up2 S 116 16 x) Q g)) ∧ getI (E b S Q g) 9 (b + 116) 17 = some (S 116 17) ∧ (∀ x, putV (E b S Q g) 9 (b + 116) 17 (.int x) = some (E b (up2 S 116 17 x) Q g)) ∧ getI (E b S Q g) 9 (b + 116) 18 = some (S 116 18) ∧ (∀ x, putV (E b S Q g) 9 (b + 116) 18 (.int x) = some (E b (up2 S 116 18 x) Q g)) ∧ getR (E b S Q g) 9 (b + 116) 19 = some (b + 128) ∧ getI (E b S Q g) 9 (b + 116) 20 = some (S 116 20) ∧ (∀ x, putV (E b S Q g) 9 (b + 116) 20 (.int x) = some (E b (up2 S 116 20 x) Q g)) ∧ getI (E b S Q g) 9 (b + 116) 21 = some (S 116 21) ∧ (∀ x, putV (E b S Q g) 9 (b + 116) 21 (.int x) = some (E b (up2 S 116 21 x) Q g)) ∧ getI (E b S Q g) 9 (b + 116) 22 = some (S 116 22) ∧ (∀ x, putV (E b S Q g) 9 (b + 116) 22 (.int x) = some (E b (up2 S 116 22 x) Q g)) ∧ getR (E b S Q g) 9 (b + 116) 23 = some (b + 129) ∧ getR (E b S Q g) 9 (b + 116) 24 = some (b + 130) ∧ getR (E b S Q g) 9 (b + 116) 25 = some (b + 131) ∧ getR (E b S Q g) 9 (b + 116) 26 = some (b + 132) ∧ (∀ i, i < 458 → rdI (E b S Q g) (b + 117) (nI i) = some (S 117 i)) ∧ (∀ i x, i < 458 → wrI (E b S Q g) (b + 117) (nI i) x = some (E b (up2 S 117 i x) Q g)) ∧ (∀ i, i < 458 → rdI (E b S Q g) (b + 118) (nI i) = some (S 118 i)) ∧ (∀ i x, i < 458 → wrI (E b S Q g) (b + 118) (nI i) x = some (E b (up2 S 118 i x) Q g)) ∧ (∀ i, i < 458 → rdI (E b S Q g) (b + 119) (nI i) = some (S 119 i)) ∧ (∀ i x, i < 458 → wrI (E b S Q g) (b + 119) (nI i) x = some (E b (up2 S 119 i x) Q g)) ∧ (∀ i, i < 992 → rdI (E b S Q g) (b + 120) (nI i) = some (S 120 i)) ∧ (∀ i x, i < 992 → wrI (E b S Q g) (b + 120) (nI i) x = some (E b (up2 S 120 i x) Q g)) ∧ (∀ i, i < 7 → rdI (E b S Q g) (b + 121) (nI i) = some (S 121 i)) ∧ (∀ i x, i < 7 → wrI (E b S Q g) (b + 121) (nI i) x = some (E b (up2 S 121 i x) Q g)) ∧ (∀ i, i < 124 → rdI (E b S Q g) (b + 122) (nI i) = some (S 122 i)) ∧ (∀ i x, i < 124 → wrI (E b S Q g) (b + 122) (nI i) x = some (E b (up2 S 122 i x) Q g)) ∧ (∀ i, i < 128 → rdI (E b S Q g) (b + 123) (nI i) = some (S 123 i)) ∧ (∀ i x, i < 128 → wrI (E b S Q g) (b + 123) (nI i) x = some (E b (up2 S 123 i x) Q g)) ∧ (∀ i, i < 64 → rdI (E b S Q g) (b + 124) (nI i) = some (S 124 i)) ∧ (∀ i x, i < 64 → wrI (E b S Q g) (b + 124) (nI i) x = some (E b (up2 S 124 i x) Q g)) ∧ (∀ i, i < 8 → rdI (E b S Q g) (b + 125) (nI i) = some (S 125 i)) ∧ (∀ i x, i < 8 → wrI (E b S Q g) (b + 125) (nI i) x = some (E b (up2 S 125 i x) Q g)) ∧ (∀ i, i < 6 → rdI (E b S Q g) (b + 126) (nI i) = some (S 126 i)) ∧ (∀ i x, i < 6 → wrI (E b S Q g) (b + 126) (nI i) x = some (E b (up2 S 126 i x) Q g)) ∧ (∀ i, i < 6 → rdI (E b S Q g) (b + 127) (nI i) = some (S 127 i)) ∧ (∀ i x, i < 6 → wrI (E b S Q g) (b + 127) (nI i) x = some (E b (up2 S 127 i x) Q g)) ∧ (∀ i, i < 30 → rdI (E b S Q g) (b + 128) (nI i) = some (S 128 i)) ∧ (∀ i x, i < 30 → wrI (E b S Q g) (b + 128) (nI i) x = some (E b (up2 S 128 i x) Q g)) ∧ (∀ i, i < 4 → rdI (E b S Q g) (b + 129) (nI i) = some (S 129 i)) ∧ (∀ i x, i < 4 → wrI (E b S Q g) (b + 129) (nI i) x = some (E b (up2 S 129 i x) Q g)) ∧ (∀ i, i < 4 → rdI (E b S Q g) (b + 130) (nI i) = some (S 130 i)) ∧ (∀ i x, i < 4 → wrI (E b S Q g) (b + 130) (nI i) x = some (E b (up2 S 130 i x) Q g)) ∧ (∀ i, i < 96 → rdI (E b S Q g) (b + 131) (nI i) = some (S 131 i)) ∧ (∀ i x, i < 96 → wrI (E b S Q g) (b + 131) (nI i) x = some (E b (up2 S 131 i x) Q g)) ∧ (∀ i, i < 24 → rdI (E b S Q g) (b + 132) (nI i) = some (S 132 i)) ∧ (∀ i x, i < 24 → wrI (E b S Q g) (b + 132) (nI i) x = some (E b (up2 S 132 i x) Q g)) := ⟨fun {α} {B} => E_gO rfl, E_getR rfl rfl (by decide), E_getR rfl rfl (by decide), E_getR rfl rfl (by decide), E_getR rfl rfl (by decide), E_getI rfl rfl, fun x => E_putI rfl rfl, E_getR rfl rfl (by decide), E_getI rfl rfl, fun x => E_putI rfl rfl, E_getI rfl rfl, fun x => E_putI rfl rfl, E_getI rfl rfl, fun x => E_putI rfl rfl, E_getI rfl rfl, fun x => E_putI rfl rfl, E_getR rfl rfl (by decide), E_getR rfl rfl (by decide), E_getR rfl rfl (by decide), E_getR rfl rfl (by decide), E_getR rfl rfl (by decide), E_getR rfl rfl (by decide), E_getI rfl rfl, fun x => E_putI rfl rfl, E_getI rfl rfl, fun x => E_putI rfl rfl, E_getI rfl rfl, fun x => E_putI rfl rfl, E_getR rfl rfl (by decide), E_getI rfl rfl, fun x => E_putI rfl rfl, E_getI rfl rfl, fun x => E_putI rfl rfl, E_getI rfl rfl, fun x => E_putI rfl rfl, E_getR rfl rfl (by decide), E_getR rfl rfl (by decide), E_getR rfl rfl (by decide), E_getR rfl rfl (by decide), fun i hi => E_rdI rfl hi (by decide), fun i x hi => E_wrI rfl hi (by decide), fun i hi => E_rdI rfl hi (by decide), fun i x hi => E_wrI rfl hi (by decide), fun i hi => E_rdI rfl hi (by decide), fun i x hi => E_wrI rfl hi (by decide), fun i hi => E_rdI rfl hi (by decide), fun i x hi => E_wrI rfl hi (by decide), fun i hi => E_rdI rfl hi (by decide), fun i x hi => E_wrI rfl hi (by decide), fun i hi => E_rdI rfl hi (by decide), fun i x hi => E_wrI rfl hi (by decide), fun i hi => E_rdI rfl hi (by decide), fun i x hi => E_wrI rfl hi (by decide), fun i hi => E_rdI rfl hi (by decide), fun i x hi => E_wrI rfl hi (by decide), fun i hi => E_rdI rfl hi (by decide), fun i x hi => E_wrI rfl hi (by decide), fun i hi => E_rdI rfl hi (by decide), fun i x hi => E_wrI rfl hi (by decide), fun i hi => E_rdI rfl hi (by decide), fun i x hi => E_wrI rfl hi (by decide), fun i hi => E_rdI rfl hi (by decide), fun i x hi => E_wrI rfl hi (by decide), fun i hi => E_rdI rfl hi (by decide), fun i x hi => E_wrI rfl hi (by decide), fun i hi => E_rdI rfl hi (by decide), fun i x hi => E_wrI rfl hi (by decide), fun i hi => E_rdI rfl hi (by decide), fun i x hi => E_wrI rfl hi (by decide), fun i hi => E_rdI rfl hi (by decide), fun i x hi => E_wrI rfl hi (by decide)⟩
theorem rF (b : Nat) (S : Nat → Nat → Int32) (Q : Nat → Nat → Nat) (g : Hp) : (∀ {α : Type} {B : Option α}, gO (E b S Q g) 8 (b + 0) B = B) ∧ getR (E b S Q g) 8 (b + 0) 0 = some (b + 1) ∧ getR (E b S Q g) 8 (b + 0) 1 = some (b + 4) ∧ getR (E b S Q g) 8 (b + 0) 2 = some (b + 21) ∧ getR (E b S Q g) 8 (b + 0) 3 = some (b + 38) ∧ getR (E b S Q g) 8 (b + 0) 4 = some (b + 105) ∧ getR (E b S Q g) 8 (b + 0) 5 = some (b + 113) ∧ getR (E b S Q g) 8 (b + 0) 6 = some (b + 115) ∧ getI (E b S Q g) 8 (b + 0) 7 = some (S 0 7) ∧ (∀ x, putV (E b S Q g) 8 (b + 0) 7 (.int x) = some (E b (up2 S 0 7 x) Q g)) ∧ (∀ {α : Type} {B : Option α}, gO (E b S Q g) 1 (b + 4) B = B) ∧ getR (E b S Q g) 1 (b + 4) 0 = some (b + 12) ∧ getR (E b S Q g) 1 (b + 4) 1 = some (b + 5) ∧ getR (E b S Q g) 1 (b + 4) 2 = some (b + 9) ∧ getI (E b S Q g) 1 (b + 4) 3 = some (S 4 3) ∧ (∀ x, putV (E b S Q g) 1 (b + 4) 3 (.int x) = some (E b (up2 S 4 3 x) Q g)) ∧ getR (E b S Q g) 1 (b + 4) 4 = some (b + 10) ∧ getI (E b S Q g) 1 (b + 4) 5 = some (S 4 5) ∧ (∀ x, putV (E b S Q g) 1 (b + 4) 5 (.int x) = some (E b (up2 S 4 5 x) Q g)) ∧ getR (E b S Q g) 1 (b + 4) 6 = some (b + 11) ∧ getI (E b S Q g) 1 (b + 4) 7 = some (S 4 7) ∧ (∀ x, putV (E b S Q g) 1 (b + 4) 7 (.int x) = some (E b (up2 S 4 7 x) Q g)) ∧ getI (E b S Q g) 1 (b + 4) 8 = some (S 4 8) ∧ (∀ x, putV (E b S Q g) 1 (b + 4) 8 (.int x) = some (E b (up2 S 4 8 x) Q g)) ∧ (∀ {α : Type} {B : Option α}, gO (E b S Q g) 0 (b + 5) B = B) ∧ getI (E b S Q g) 0 (b + 5) 0 = some (S 5 0) ∧ (∀ x, putV (E b S Q g) 0 (b + 5) 0 (.int x) = some (E b (up2 S 5 0 x) Q g)) ∧ getR (E b S Q g) 0 (b + 5) 1 = some (b + 6) ∧ getR (E b S Q g) 0 (b + 5) 2 = some (b + 7) ∧ getR (E b S Q g) 0 (b + 5) 3 = some (b + 8) ∧ (∀ i, i < 8 → rdI (E b S Q g) (b + 6) (nI i) = some (S 6 i)) ∧ (∀ i x, i < 8 → wrI (E b S Q g) (b + 6) (nI i) x = some (E b (up2 S 6 i x) Q g)) ∧ (∀ i, i < 8 → rdI (E b S Q g) (b + 7) (nI i) = some (S 7 i)) ∧ (∀ i x, i < 8 → wrI (E b S Q g) (b + 7) (nI i) x = some (E b (up2 S 7 i x) Q g)) ∧ (∀ i, i < 8 → rdI (E b S Q g) (b + 8) (nI i) = some (S 8 i)) ∧ (∀ i x, i < 8 → wrI (E b S Q g) (b + 8) (nI i) x = some (E b (up2 S 8 i x) Q g)) ∧ (∀ i, i < 60 → rdI (E b S Q g) (b + 9) (nI i) = some (S 9 i)) ∧ (∀ i x, i < 60 → wrI (E b S Q g) (b + 9) (nI i) x = some (E b (up2 S 9 i x) Q g)) ∧ (∀ i, i < 24 → rdI (E b S Q g) (b + 10) (nI i) = some (S 10 i)) ∧ (∀ i x, i < 24 → wrI (E b S Q g) (b + 10) (nI i) x = some (E b (up2 S 10 i x) Q g)) ∧ (∀ i, i < 24 → rdI (E b S Q g) (b + 11) (nI i) = some (S 11 i)) ∧ (∀ i x, i < 24 → wrI (E b S Q g) (b + 11) (nI i) x = some (E b (up2 S 11 i x) Q g)) ∧ (∀ {α : Type} {B : Option α}, gO (E b S Q g) 1 (b + 21) B = B) ∧ getR (E b S Q g) 1 (b + 21) 0 = some (b + 29) ∧ getR (E b S Q g) 1 (b + 21) 1 = some (b + 22) ∧ getR (E b S Q g) 1 (b + 21) 2 = some (b + 26) ∧ getI (E b S Q g) 1 (b + 21) 3 = some (S 21 3) ∧ (∀ x, putV (E b S Q g) 1 (b + 21) 3 (.int x) = some (E b (up2 S 21 3 x) Q g)) ∧ getR (E b S Q g) 1 (b + 21) 4 = some (b + 27) ∧ getI (E b S Q g) 1 (b + 21) 5 = some (S 21 5) ∧ (∀ x, putV (E b S Q g) 1 (b + 21) 5 (.int x) = some (E b (up2 S 21 5 x) Q g)) ∧ getR (E b S Q g) 1 (b + 21) 6 = some (b + 28) ∧ getI (E b S Q g) 1 (b + 21) 7 = some (S 21 7) ∧ (∀ x, putV (E b S Q g) 1 (b + 21) 7 (.int x) = some (E b (up2 S 21 7 x) Q g)) ∧ getI (E b S Q g) 1 (b + 21) 8 = some (S 21 8) ∧ (∀ x, putV (E b S Q g) 1 (b + 21) 8 (.int x) = some (E b (up2 S 21 8 x) Q g)) ∧ (∀ {α : Type} {B : Option α}, gO (E b S Q g) 0 (b + 22) B = B) ∧ getI (E b S Q g) 0 (b + 22) 0 = some (S 22 0) ∧ (∀ x, putV (E b S Q g) 0 (b + 22) 0 (.int x) = some (E b (up2 S 22 0 x) Q g)) ∧ getR (E b S Q g) 0 (b + 22) 1 = some (b + 23) ∧ getR (E b S Q g) 0 (b + 22) 2 = some (b + 24) ∧ getR (E b S Q g) 0 (b + 22) 3 = some (b + 25) ∧ (∀ i, i < 8 → rdI (E b S Q g) (b + 23) (nI i) = some (S 23 i)) ∧ (∀ i x, i < 8 → wrI (E b S Q g) (b + 23) (nI i) x = some (E b (up2 S 23 i x) Q g)) ∧ (∀ i, i < 8 → rdI (E b S Q g) (b + 24) (nI i) = some (S 24 i)) ∧ (∀ i x, i < 8 → wrI (E b S Q g) (b + 24) (nI i) x = some (E b (up2 S 24 i x) Q g)) ∧ (∀ i, i < 8 → rdI (E b S Q g) (b + 25) (nI i) = some (S 25 i)) ∧ (∀ i x, i < 8 → wrI (E b S Q g) (b + 25) (nI i) x = some (E b (up2 S 25 i x) Q g)) ∧ (∀ i, i < 60 → rdI (E b S Q g) (b + 26) (nI i) = some (S 26 i)) ∧ (∀ i x, i < 60 → wrI (E b S Q g) (b + 26) (nI i) x = some (E b (up2 S 26 i x) Q g)) ∧ (∀ i, i < 24 → rdI (E b S Q g) (b + 27) (nI i) = some (S 27 i)) ∧ (∀ i x, i < 24 → wrI (E b S Q g) (b + 27) (nI i) x = some (E b (up2 S 27 i x) Q g)) ∧ (∀ i, i < 24 → rdI (E b S Q g) (b + 28) (nI i) = some (S 28 i)) ∧ (∀ i x, i < 24 → wrI (E b S Q g) (b + 28) (nI i) x = some (E b (up2 S 28 i x) Q g)) := ⟨fun {α} {B} => E_gO rfl, E_getR rfl rfl (by decide), E_getR rfl rfl (by decide), E_getR rfl rfl (by decide), E_getR rfl rfl (by decide), E_getR rfl rfl (by decide), E_getR rfl rfl (by decide), E_getR rfl rfl (by decide), E_getI rfl rfl, fun x => E_putI rfl rfl, fun {α} {B} => E_gO rfl, E_getR rfl rfl (by decide), E_getR rfl rfl (by decide), E_getR rfl rfl (by decide), E_getI rfl rfl, fun x => E_putI rfl rfl, E_getR rfl rfl (by decide), E_getI rfl rfl, fun x => E_putI rfl rfl, E_getR rfl rfl (by decide), E_getI rfl rfl, fun x => E_putI rfl rfl, E_getI rfl rfl, fun x => E_putI rfl rfl, fun {α} {B} => E_gO rfl, E_getI rfl rfl, fun x => E_putI rfl rfl, E_getR rfl rfl (by decide), E_getR rfl rfl (by decide), E_getR rfl rfl (by decide), fun i hi => E_rdI rfl hi (by decide), fun i x hi => E_wrI rfl hi (by decide), fun i hi => E_rdI rfl hi (by decide), fun i x hi => E_wrI rfl hi (by decide), fun i hi => E_rdI rfl hi (by decide), fun i x hi => E_wrI rfl hi (by decide), fun i hi => E_rdI rfl hi (by decide), fun i x hi => E_wrI rfl hi (by decide), fun i hi => E_rdI rfl hi (by decide), fun i x hi => E_wrI rfl hi (by decide), fun i hi => E_rdI rfl hi (by decide), fun i x hi => E_wrI rfl hi (by decide), fun {α} {B} => E_gO rfl, E_getR rfl rfl (by decide), E_getR rfl rfl (by decide), E_getR rfl rfl (by decide), E_getI rfl rfl, fun x => E_putI rfl rfl, E_getR rfl rfl (by decide), E_getI rfl rfl, fun x => E_putI rfl rfl, E_getR rfl rfl (by decide), E_getI rfl rfl, fun x => E_putI rfl rfl, E_getI rfl rfl, fun x => E_putI rfl rfl, fun {α} {B} => E_gO rfl, E_getI rfl rfl, fun x => E_putI rfl rfl, E_getR rfl rfl (by decide), E_getR rfl rfl (by decide), E_getR rfl rfl (by decide), fun i hi => E_rdI rfl hi (by decide), fun i x hi => E_wrI rfl hi (by decide), fun i hi => E_rdI rfl hi (by decide), fun i x hi => E_wrI rfl hi (by decide), fun i hi => E_rdI rfl hi (by decide), fun i x hi => E_wrI rfl hi (by decide), fun i hi => E_rdI rfl hi (by decide), fun i x hi => E_wrI rfl hi (by decide), fun i hi => E_rdI rfl hi (by decide), fun i x hi => E_wrI rfl hi (by decide), fun i hi => E_rdI rfl hi (by decide), fun i x hi => E_wrI rfl hi (by decide)⟩
theorem rV (b : Nat) (S : Nat → Nat → Int32) (Q : Nat → Nat → Nat) (g : Hp) : (∀ {α : Type} {B : Option α}, gO (E b S Q g) 6 (b + 38) B = B) ∧ getR (E b S Q g) 6 (b + 38) 0 = some (b + 39) ∧ getI (E b S Q g) 6 (b + 38) 1 = some (S 38 1) ∧ (∀ x, putV (E b S Q g) 6 (b + 38) 1 (.int x) = some (E b (up2 S 38 1 x) Q g)) ∧ getI (E b S Q g) 6 (b + 38) 2 = some (S 38 2) ∧ (∀ x, putV (E b S Q g) 6 (b + 38) 2 (.int x) = some (E b (up2 S 38 2 x) Q g)) ∧ getR (E b S Q g) 6 (b + 38) 3 = some (b + 40) ∧ getR (E b S Q g) 6 (b + 38) 4 = some (b + 41) ∧ getI (E b S Q g) 6 (b + 38) 5 = some (S 38 5) ∧ (∀ x, putV (E b S Q g) 6 (b + 38) 5 (.int x) = some (E b (up2 S 38 5 x) Q g)) ∧ getI (E b S Q g) 6 (b + 38) 6 = some (S 38 6) ∧ (∀ x, putV (E b S Q g) 6 (b + 38) 6 (.int x) = some (E b (up2 S 38 6 x) Q g)) ∧ getI (E b S Q g) 6 (b + 38) 7 = some (S 38 7) ∧ (∀ x, putV (E b S Q g) 6 (b + 38) 7 (.int x) = some (E b (up2 S 38 7 x) Q g)) ∧ rdR (E b S Q g) (b + 39) (nI 0) = some (b + 42) ∧ rdR (E b S Q g) (b + 39) (nI 1) = some (b + 51) ∧ rdR (E b S Q g) (b + 39) (nI 2) = some (b + 60) ∧ rdR (E b S Q g) (b + 39) (nI 3) = some (b + 69) ∧ rdR (E b S Q g) (b + 39) (nI 4) = some (b + 78) ∧ rdR (E b S Q g) (b + 39) (nI 5) = some (b + 87) ∧ rdR (E b S Q g) (b + 39) (nI 6) = some (b + 96) ∧ (∀ i, i < 6 → rdI (E b S Q g) (b + 40) (nI i) = some (S 40 i)) ∧ (∀ i x, i < 6 → wrI (E b S Q g) (b + 40) (nI i) x = some (E b (up2 S 40 i x) Q g)) ∧ (∀ i, i < 6 → rdI (E b S Q g) (b + 41) (nI i) = some (S 41 i)) ∧ (∀ i x, i < 6 → wrI (E b S Q g) (b + 41) (nI i) x = some (E b (up2 S 41 i x) Q g)) ∧ (∀ {α : Type} {B : Option α}, gO (E b S Q g) 4 (b + 105) B = B) ∧ getR (E b S Q g) 4 (b + 105) 0 = some (b + 106) ∧ getR (E b S Q g) 4 (b + 105) 1 = some (b + 107) ∧ getR (E b S Q g) 4 (b + 105) 2 = some (b + 108) ∧ (∀ i, i < 4 → rdI (E b S Q g) (b + 106) (nI i) = some (S 106 i)) ∧ (∀ i x, i < 4 → wrI (E b S Q g) (b + 106) (nI i) x = some (E b (up2 S 106 i x) Q g)) ∧ (∀ i, i < 4 → rdI (E b S Q g) (b + 107) (nI i) = some (S 107 i)) ∧ (∀ i x, i < 4 → wrI (E b S Q g) (b + 107) (nI i) x = some (E b (up2 S 107 i x) Q g)) ∧ rdR (E b S Q g) (b + 108) (nI 0) = some (b + 109) ∧ rdR (E b S Q g) (b + 108) (nI 1) = some (b + 110) ∧ rdR (E b S Q g) (b + 108) (nI 2) = some (b + 111) ∧ rdR (E b S Q g) (b + 108) (nI 3) = some (b + 112) ∧ (∀ i, i < 24 → rdI (E b S Q g) (b + 109) (nI i) = some (S 109 i)) ∧ (∀ i x, i < 24 → wrI (E b S Q g) (b + 109) (nI i) x = some (E b (up2 S 109 i x) Q g)) ∧ (∀ i, i < 24 → rdI (E b S Q g) (b + 110) (nI i) = some (S 110 i)) ∧ (∀ i x, i < 24 → wrI (E b S Q g) (b + 110) (nI i) x = some (E b (up2 S 110 i x) Q g)) ∧ (∀ i, i < 24 → rdI (E b S Q g) (b + 111) (nI i) = some (S 111 i)) ∧ (∀ i x, i < 24 → wrI (E b S Q g) (b + 111) (nI i) x = some (E b (up2 S 111 i x) Q g)) ∧ (∀ i, i < 24 → rdI (E b S Q g) (b + 112) (nI i) = some (S 112 i)) ∧ (∀ i x, i < 24 → wrI (E b S Q g) (b + 112) (nI i) x = some (E b (up2 S 112 i x) Q g)) ∧ (∀ {α : Type} {B : Option α}, gO (E b S Q g) 5 (b + 113) B = B) ∧ getR (E b S Q g) 5 (b + 113) 0 = some (b + 114) ∧ getI (E b S Q g) 5 (b + 113) 1 = some (S 113 1) ∧ (∀ x, putV (E b S Q g) 5 (b + 113) 1 (.int x) = some (E b (up2 S 113 1 x) Q g)) ∧ getI (E b S Q g) 5 (b + 113) 2 = some (S 113 2) ∧ (∀ x, putV (E b S Q g) 5 (b + 113) 2 (.int x) = some (E b (up2 S 113 2 x) Q g)) ∧ getI (E b S Q g) 5 (b + 113) 3 = some (S 113 3) ∧ (∀ x, putV (E b S Q g) 5 (b + 113) 3 (.int x) = some (E b (up2 S 113 3 x) Q g)) ∧ getI (E b S Q g) 5 (b + 113) 4 = some (S 113 4) ∧ (∀ x, putV (E b S Q g) 5 (b + 113) 4 (.int x) = some (E b (up2 S 113 4 x) Q g)) ∧ getI (E b S Q g) 5 (b + 113) 5 = some (S 113 5) ∧ (∀ x, putV (E b S Q g) 5 (b + 113) 5 (.int x) = some (E b (up2 S 113 5 x) Q g)) ∧ (∀ i, i < 30 → rdI (E b S Q g) (b + 114) (nI i) = some (S 114 i)) ∧ (∀ i x, i < 30 → wrI (E b S Q g) (b + 114) (nI i) x = some (E b (up2 S 114 i x) Q g)) ∧ (∀ i, i < 7 → rdI (E b S Q g) (b + 115) (nI i) = some (S 115 i)) ∧ (∀ i x, i < 7 → wrI (E b S Q g) (b + 115) (nI i) x = some (E b (up2 S 115 i x) Q g)) := ⟨fun {α} {B} => E_gO rfl, E_getR rfl rfl (by decide), E_getI rfl rfl, fun x => E_putI rfl rfl, E_getI rfl rfl, fun x => E_putI rfl rfl, E_getR rfl rfl (by decide), E_getR rfl rfl (by decide), E_getI rfl rfl, fun x => E_putI rfl rfl, E_getI rfl rfl, fun x => E_putI rfl rfl, E_getI rfl rfl, fun x => E_putI rfl rfl, E_rdR rfl rfl (by decide), E_rdR rfl rfl (by decide), E_rdR rfl rfl (by decide), E_rdR rfl rfl (by decide), E_rdR rfl rfl (by decide), E_rdR rfl rfl (by decide), E_rdR rfl rfl (by decide), fun i hi => E_rdI rfl hi (by decide), fun i x hi => E_wrI rfl hi (by decide), fun i hi => E_rdI rfl hi (by decide), fun i x hi => E_wrI rfl hi (by decide), fun {α} {B} => E_gO rfl, E_getR rfl rfl (by decide), E_getR rfl rfl (by decide), E_getR rfl rfl (by decide), fun i hi => E_rdI rfl hi (by decide), fun i x hi => E_wrI rfl hi (by decide), fun i hi => E_rdI rfl hi (by decide), fun i x hi => E_wrI rfl hi (by decide), E_rdR rfl rfl (by decide), E_rdR rfl rfl (by decide), E_rdR rfl rfl (by decide), E_rdR rfl rfl (by decide), fun i hi => E_rdI rfl hi (by decide), fun i x hi => E_wrI rfl hi (by decide), fun i hi => E_rdI rfl hi (by decide), fun i x hi => E_wrI rfl hi (by decide), fun i hi => E_rdI rfl hi (by decide), fun i x hi => E_wrI rfl hi (by decide), fun i hi => E_rdI rfl hi (by decide), fun i x hi => E_wrI rfl hi (by decide), fun {α} {B} => E_gO rfl, E_getR rfl rfl (by decide), E_getI rfl rfl, fun x => E_putI rfl rfl, E_getI rfl rfl, fun x => E_putI rfl rfl, E_getI rfl rfl, fun x => E_putI rfl rfl, E_getI rfl rfl, fun x => E_putI rfl rfl, E_getI rfl rfl, fun x => E_putI rfl rfl, fun i hi => E_rdI rfl hi (by decide), fun i x hi => E_wrI rfl hi (by decide), fun i hi => E_rdI rfl hi (by decide), fun i x hi => E_wrI rfl hi (by decide)⟩
theorem rW {c : Nat} (hc : isW c) (b : Nat) (S : Nat → Nat → Int32) (Q : Nat → Nat → Nat) (g : Hp) : (∀ {α : Type} {B : Option α}, gO (E b S Q g) 7 (b + c) B = B) ∧ getI (E b S Q g) 7 (b + c) 0 = some (S c 0) ∧ (∀ x, putV (E b S Q g) 7 (b + c) 0 (.int x) = some (E b (up2 S c 0 x) Q g)) ∧ getI (E b S Q g) 7 (b + c) 1 = some (S c 1) ∧ (∀ x, putV (E b S Q g) 7 (b + c) 1 (.int x) = some (E b (up2 S c 1 x) Q g)) ∧ getI (E b S Q g) 7 (b + c) 2 = some (S c 2) ∧ (∀ x, putV (E b S Q g) 7 (b + c) 2 (.int x) = some (E b (up2 S c 2 x) Q g)) ∧ getR (E b S Q g) 7 (b + c) 3 = some (b + (c + 1)) ∧ (∀ i, i < 8 → rdI (E b S Q g) (b + (c + 1)) (nI i) = some (S (c + 1) i)) ∧ (∀ i x, i < 8 → wrI (E b S Q g) (b + (c + 1)) (nI i) x = some (E b (up2 S (c + 1) i x) Q g)) ∧ getR (E b S Q g) 7 (b + c) 4 = some (b + (c + 2)) ∧ (∀ i, i < 8 → rdI (E b S Q g) (b + (c + 2)) (nI i) = some (S (c + 2) i)) ∧ (∀ i x, i < 8 → wrI (E b S Q g) (b + (c + 2)) (nI i) x = some (E b (up2 S (c + 2) i x) Q g)) ∧ getR (E b S Q g) 7 (b + c) 5 = some (b + (c + 3)) ∧ (∀ i, i < 4 → rdI (E b S Q g) (b + (c + 3)) (nI i) = some (S (c + 3) i)) ∧ (∀ i x, i < 4 → wrI (E b S Q g) (b + (c + 3)) (nI i) x = some (E b (up2 S (c + 3) i x) Q g)) ∧ getR (E b S Q g) 7 (b + c) 6 = some (b + (c + 4)) ∧ (∀ i, i < 4 → rdI (E b S Q g) (b + (c + 4)) (nI i) = some (S (c + 4) i)) ∧ (∀ i x, i < 4 → wrI (E b S Q g) (b + (c + 4)) (nI i) x = some (E b (up2 S (c + 4) i x) Q g)) ∧ getR (E b S Q g) 7 (b + c) 7 = some (b + (c + 5)) ∧ (∀ i, i < 4 → rdI (E b S Q g) (b + (c + 5)) (nI i) = some (S (c + 5) i)) ∧ (∀ i x, i < 4 → wrI (E b S Q g) (b + (c + 5)) (nI i) x = some (E b (up2 S (c + 5) i x) Q g)) ∧ getR (E b S Q g) 7 (b + c) 8 = some (b + (c + 6)) ∧ (∀ i, i < 4 → rdI (E b S Q g) (b + (c + 6)) (nI i) = some (S (c + 6) i)) ∧ (∀ i x, i < 4 → wrI (E b S Q g) (b + (c + 6)) (nI i) x = some (E b (up2 S (c + 6) i x) Q g)) ∧ getR (E b S Q g) 7 (b + c) 9 = some (b + (c + 7)) ∧ (∀ i, i < 4 → rdI (E b S Q g) (b + (c + 7)) (nI i) = some (S (c + 7) i)) ∧ (∀ i x, i < 4 → wrI (E b S Q g) (b + (c + 7)) (nI i) x = some (E b (up2 S (c + 7) i x) Q g)) ∧ getR (E b S Q g) 7 (b + c) 10 = some (b + (c + 8)) ∧ (∀ i, i < 32 → rdI (E b S Q g) (b + (c + 8)) (nI i) = some (S (c + 8) i)) ∧ (∀ i x, i < 32 → wrI (E b S Q g) (b + (c + 8)) (nI i) x = some (E b (up2 S (c + 8) i x) Q g)) ∧ getR (E b S Q g) 7 (b + c) 11 = some (Q c 11) ∧ getR (E b S Q g) 7 (b + c) 12 = some (Q c 12) := by
  obtain ⟨h0, h1, h2, h3, h4, h5, h6, h7, h8⟩ := lay_W hc
  exact ⟨fun {α} {B} => E_gO h0, E_getI h0 rfl, fun x => E_putI h0 rfl, E_getI h0 rfl, fun x => E_putI h0 rfl, E_getI h0 rfl, fun x => E_putI h0 rfl, E_getR h0 rfl (by have := lay_lt h0; omega), fun i hi => E_rdI h1 hi (by decide), fun i x hi => E_wrI h1 hi (by decide), E_getR h0 rfl (by have := lay_lt h0; omega), fun i hi => E_rdI h2 hi (by decide), fun i x hi => E_wrI h2 hi (by decide), E_getR h0 rfl (by have := lay_lt h0; omega), fun i hi => E_rdI h3 hi (by decide), fun i x hi => E_wrI h3 hi (by decide), E_getR h0 rfl (by have := lay_lt h0; omega), fun i hi => E_rdI h4 hi (by decide), fun i x hi => E_wrI h4 hi (by decide), E_getR h0 rfl (by have := lay_lt h0; omega), fun i hi => E_rdI h5 hi (by decide), fun i x hi => E_wrI h5 hi (by decide), E_getR h0 rfl (by have := lay_lt h0; omega), fun i hi => E_rdI h6 hi (by decide), fun i x hi => E_wrI h6 hi (by decide), E_getR h0 rfl (by have := lay_lt h0; omega), fun i hi => E_rdI h7 hi (by decide), fun i x hi => E_wrI h7 hi (by decide), E_getR h0 rfl (by have := lay_lt h0; omega), fun i hi => E_rdI h8 hi (by decide), fun i x hi => E_wrI h8 hi (by decide), E_getQ h0 rfl, E_getQ h0 rfl⟩
