/-! ===== numbers ===== -/
theorem rN : (0 : Int32) = nI 0 ∧ (1 : Int32) = nI 1 ∧ (2 : Int32) = nI 2 ∧ (3 : Int32) = nI 3 ∧ (4 : Int32) = nI 4 ∧ (5 : Int32) = nI 5 ∧ (6 : Int32) = nI 6 ∧ (7 : Int32) = nI 7 ∧ (8 : Int32) = nI 8 ∧ (9 : Int32) = nI 9 ∧ (10 : Int32) = nI 10 ∧ (11 : Int32) = nI 11 ∧ (12 : Int32) = nI 12 ∧ (13 : Int32) = nI 13 ∧ (14 : Int32) = nI 14 ∧ (16 : Int32) = nI 16 ∧ (20 : Int32) = nI 20 ∧ (21 : Int32) = nI 21 ∧ (23 : Int32) = nI 23 ∧ (24 : Int32) = nI 24 ∧ (25 : Int32) = nI 25 ∧ (30 : Int32) = nI 30 ∧ (31 : Int32) = nI 31 ∧ (32 : Int32) = nI 32 ∧ (33 : Int32) = nI 33 ∧ (37 : Int32) = nI 37 ∧ (38 : Int32) = nI 38 ∧ (40 : Int32) = nI 40 ∧ (41 : Int32) = nI 41 ∧ (42 : Int32) = nI 42 ∧ (43 : Int32) = nI 43 ∧ (45 : Int32) = nI 45 ∧ (47 : Int32) = nI 47 ∧ (48 : Int32) = nI 48 ∧ (50 : Int32) = nI 50 ∧ (51 : Int32) = nI 51 ∧ (57 : Int32) = nI 57 ∧ (60 : Int32) = nI 60 ∧ (61 : Int32) = nI 61 ∧ (62 : Int32) = nI 62 ∧ (69 : Int32) = nI 69 ∧ (70 : Int32) = nI 70 ∧ (71 : Int32) = nI 71 ∧ (76 : Int32) = nI 76 ∧ (98 : Int32) = nI 98 ∧ (99 : Int32) = nI 99 ∧ (100 : Int32) = nI 100 ∧ (107 : Int32) = nI 107 ∧ (109 : Int32) = nI 109 ∧ (112 : Int32) = nI 112 ∧ (116 : Int32) = nI 116 ∧ (124 : Int32) = nI 124 ∧ (125 : Int32) = nI 125 ∧ (255 : Int32) = nI 255 ∧ (256 : Int32) = nI 256 ∧ (374 : Int32) = nI 374 ∧ (434 : Int32) = nI 434 ∧ (458 : Int32) = nI 458 ∧ (999 : Int32) = nI 999 ∧ (9998 : Int32) = nI 9998 ∧ (9999 : Int32) = nI 9999 ∧ (12345 : Int32) = nI 12345 ∧ (999999 : Int32) = nI 999999 ∧ (1000000 : Int32) = nI 1000000 := ⟨rfl, rfl, rfl, rfl, rfl, rfl, rfl, rfl, rfl, rfl, rfl, rfl, rfl, rfl, rfl, rfl, rfl, rfl, rfl, rfl, rfl, rfl, rfl, rfl, rfl, rfl, rfl, rfl, rfl, rfl, rfl, rfl, rfl, rfl, rfl, rfl, rfl, rfl, rfl, rfl, rfl, rfl, rfl, rfl, rfl, rfl, rfl, rfl, rfl, rfl, rfl, rfl, rfl, rfl, rfl, rfl, rfl, rfl, rfl, rfl, rfl, rfl, rfl, rfl⟩
theorem nI_addm1 {n : Nat} (h : 1 ≤ n) : nI n + -nI 1 = nI (n - 1) := by
  obtain ⟨k, rfl⟩ : ∃ k, n = k + 1 := ⟨n - 1, by omega⟩
  rw [show k + 1 - 1 = k by omega]
  exact pk_m1 k
theorem nI_m1 {n : Nat} (h : n < 2 ^ 31) : ¬ nI n = -nI 1 := by
  intro q
  have h1 : (nI n).toInt = (-nI 1).toInt := by rw [q]
  rw [nI_toInt h] at h1
  have h2 : (-nI 1).toInt = -1 := by decide +kernel
  omega
theorem nI_m1l {n : Nat} (h : n < 2 ^ 31) : nI n < 0 ↔ False := ⟨fun q => nI_pos h q, False.elim⟩
theorem nI_0m1 : -nI 1 < nI 0 := by decide +kernel
theorem nI_ge0 {n : Nat} (h : n < 2 ^ 31) : nI 0 ≤ nI n ↔ True := ⟨fun _ => trivial, fun _ => (nI_leI (by omega) h).mpr (Nat.zero_le _)⟩
theorem nI_subI {a b : Nat} (h : b ≤ a) : nI a - nI b = nI (a - b) := pk_sub h
/-- an int as a small natural, or not -/
def isN (x : Int32) (n : Nat) : Prop := ∃ j : Nat, j < n ∧ x = nI j
theorem isN_iff {x : Int32} {n : Nat} (hn : n < 2 ^ 31) : isN x n ↔ ¬ x < nI 0 ∧ x < nI n := by
  constructor
  · rintro ⟨j, h1, rfl⟩
    exact ⟨fun q => nI_pos (n := j) (by omega) (by rw [nI_0] at q; exact q), (nI_ltI (by omega) hn).mpr h1⟩
  · rintro ⟨h1, h2⟩
    obtain ⟨j, h3, rfl⟩ := nI_of (x := x) (by rw [← nI_0]; exact h1)
    exact ⟨j, (nI_ltI h3 hn).mp h2, rfl⟩
theorem nI_inj {a b : Nat} (ha : a < 2 ^ 31) (hb : b < 2 ^ 31) (h : nI a = nI b) : a = b := (nI_eq ha hb).mp h
theorem i32_le_iff (x z : Int32) : x ≤ z ↔ ¬ z < x := by
  rw [Int32.le_iff_toInt_le, Int32.lt_iff_toInt_lt]; omega
/-- above: x ≤ n - 1 -/
theorem isN_iff' {x : Int32} {n : Nat} (hn : n < 2 ^ 31) : isN x n ↔ ¬ x < nI 0 ∧ ¬ nI n - 1 < x := by
  rw [isN_iff hn, Int32.lt_iff_toInt_lt, Int32.lt_iff_toInt_lt, Int32.lt_iff_toInt_lt]
  have h1 : (nI n - 1).toInt = (n : Int) - 1 := by
    cases n with
    | zero => decide +kernel
    | succ k => rw [nI_pred, nI_toInt (by omega)]; omega
  rw [h1, nI_toInt hn]
  omega
/-! ===== worlds as numbers ===== -/
abbrev Wo : Type := (Nat → Nat → Nat) × (Nat → List Nat)
abbrev Tk : Type := Nat × Nat
abbrev Tx : Type := Nat → List Tk
def joinP (c : Nat) (x z : Int32) : Int32 :=
  if c = 43 then x + z else if c = 45 then x - z else if c = 42 then x * z
  else if c = 47 then (if z = 0 then 0 else x / z) else if c = 37 then (if z = 0 then 0 else x - x / z * z)
  else if c = 60 then (if x < z then 1 else 0) else if c = 62 then (if z < x then 1 else 0) else if c = 61 then (if x = z then 1 else 0)
  else if c = 38 then (if x ≠ 0 ∧ z ≠ 0 then 1 else 0) else (if x ≠ 0 ∨ z ≠ 0 then 1 else 0)
/-- one sign of a text: (0, v) a number, (1, i) a name, (2, _) !, (3, c) a sign -/
def ev1 (nm : Nat → Int32) (st : List Int32) (t : Tk) : List Int32 :=
  match t.1, st with
  | 0, st => nI t.2 :: st
  | 1, st => nm t.2 :: st
  | 2, x :: st => (if x = 0 then 1 else 0) :: st
  | 2, [] => []
  | _, z :: x :: st => joinP t.2 x z :: st
  | _, st => st
def evT (ts : List Tk) (nm : Nat → Int32) : Int32 := (ts.foldl (ev1 nm) []).headD 0
def heldP (v : Int32) (hi : Nat) : Nat := if v < 0 then 0 else if nI hi < v then hi else v.toNatClampNeg
def nm3 (x y z : Int32) : Nat → Int32 := fun i => if i = 0 then x else if i = 1 then y else z
def keepsP (T : Tx) (w : Wo) (k : Nat) : Nat :=
  let m := w.1 4 k
  let v : Nat := if w.1 3 k = 1 then 3 + m else if w.1 3 k = 3 then 0 else if w.1 3 k = 4 then 2 + m else if w.1 3 k = 6 then (if T 0 = [] then m else heldP (evT (T 0) (nm3 (nI m) (nI (w.1 0 0)) (nI (w.1 0 1)))) 8) else 3
  min v 8
def fareP (T : Tx) (w : Wo) (k : Nat) : Nat :=
  let m := w.1 4 k
  let v : Nat := if w.1 3 k = 2 ∨ w.1 3 k = 5 then (2 + m) / 2 else if w.1 3 k = 3 then 1 else if w.1 3 k = 4 then 2 + m + 1 else if w.1 3 k = 6 then (if T 1 = [] then m + (w.2 k).length else heldP (evT (T 1) (nm3 (nI m) (nI (w.2 k).length) (nI (w.1 5 k)))) 99) else 2 + m
  min v 99
def comesP (n p : Nat) (l : List Nat) : List Nat := (p :: l.erase p).take n
/-- a crossing of man k and one p: what is paid, and the world behind it -/
def paysP (T : Tx) (w : Wo) (k p : Nat) : Nat := if p ∈ w.2 k then min (fareP T w k) (w.1 2 p) else 0
def losesB (T : Tx) (w : Wo) (k p : Nat) : Bool := decide (w.1 3 k = 5) && (decide (p ∈ w.2 k) && (decide (0 < fareP T w k) && decide (paysP T w k p = fareP T w k)))
def crossP (T : Tx) (w : Wo) (k p : Nat) : Wo :=
  (fun r i => if r = 0 ∧ i = 0 then w.1 0 0 + 1 else if r = 1 ∧ i = p then 1 - w.1 1 p else if r = 2 ∧ i = p then w.1 2 p - paysP T w k p
    else if r = 5 ∧ i = k then 1 - w.1 1 p else if r = 6 ∧ i = k then min (w.1 6 k + paysP T w k p) 999999 else w.1 r i,
   fun i => if i = k then (if losesB T w k p = true then (w.2 k).erase p else comesP (keepsP T w k) p (w.2 k))
    else if w.1 3 k = 4 ∧ i < w.1 0 2 ∧ w.1 5 i = 1 - w.1 1 p then comesP (keepsP T w i) p (w.2 i) else w.2 i)
def aloneP (w : Wo) (k : Nat) : Wo := (fun r i => if r = 0 ∧ i = 0 then w.1 0 0 + 1 else if r = 5 ∧ i = k then 1 - w.1 5 k else w.1 r i, w.2)
/-- what holds of every world that is met -/
def Winv (w : Wo) : Prop := w.1 0 0 ≤ 10020 ∧ w.1 0 1 ≤ 8 ∧ w.1 0 2 ≤ 4 ∧ (∀ p, w.1 1 p ≤ 1) ∧ (∀ p, w.1 2 p ≤ 9999) ∧ (∀ k, w.1 3 k ≤ 6) ∧ (∀ k, w.1 4 k ≤ 9) ∧ (∀ k, w.1 5 k ≤ 1) ∧ (∀ k, w.1 6 k ≤ 999999) ∧ ∀ k, (w.2 k).Nodup ∧ ∀ p ∈ w.2 k, p < w.1 0 1
theorem nodup_len : ∀ (n : Nat) (l : List Nat), l.Nodup → (∀ p ∈ l, p < n) → l.length ≤ n
  | 0, l, _, h2 => by
    cases l with
    | nil => exact Nat.le_refl _
    | cons a t => exact absurd (h2 a List.mem_cons_self) (Nat.not_lt_zero _)
  | n + 1, l, h1, h2 => by
    have h3 : (l.erase n).length ≤ n := nodup_len n (l.erase n) (h1.erase n) (fun p hp => by
      have h4 := h2 p (List.mem_of_mem_erase hp)
      have h5 : p ≠ n := fun e => by subst e; exact (h1.not_mem_erase) hp
      omega)
    by_cases hm : n ∈ l
    · rw [List.length_erase_of_mem hm] at h3
      omega
    · rw [List.erase_of_not_mem hm] at h3
      omega
theorem Winv.len {w : Wo} (h : Winv w) (k : Nat) : (w.2 k).length ≤ 8 := Nat.le_trans (nodup_len _ _ (h.2.2.2.2.2.2.2.2.2 k).1 (h.2.2.2.2.2.2.2.2.2 k).2) h.2.1
/-! a row of ints that holds a list of naturals from a place on -/
def rowIs (f : Nat → Int32) (o : Nat) (l : List Nat) : Prop := ∀ i v, l[i]? = some v → f (o + i) = nI v
theorem rowIs.at {f : Nat → Int32} {o i : Nat} {l : List Nat} (h : rowIs f o l) (hi : i < l.length) : f (o + i) = nI l[i] := h i _ (List.getElem?_eq_getElem hi)
/-- the reference's row of a world -/
def RepM (s : Nat → Int32) (w : Wo) : Prop := s 0 = nI (w.1 0 1) ∧ s 1 = nI (w.1 0 2) ∧ s 2 = nI (w.1 0 0) ∧ (∀ p, p < w.1 0 1 → s (8 + 2 * p) = nI (w.1 1 p) ∧ s (8 + 2 * p + 1) = nI (w.1 2 p)) ∧
  ∀ k, k < w.1 0 2 → s (24 + 13 * k) = nI (w.1 3 k) ∧ s (24 + 13 * k + 1) = nI (w.1 4 k) ∧ s (24 + 13 * k + 2) = nI (w.1 5 k) ∧ s (24 + 13 * k + 3) = nI (w.1 6 k) ∧ s (24 + 13 * k + 4) = nI (w.2 k).length ∧ rowIs s (24 + 13 * k + 5) (w.2 k)
/-- the class's rows of a world, at the cell c -/
def RepW (S : Nat → Nat → Int32) (c : Nat) (w : Wo) : Prop := S c 0 = nI (w.1 0 0) ∧ S c 1 = nI (w.1 0 1) ∧ S c 2 = nI (w.1 0 2) ∧ (∀ p, p < w.1 0 1 → S (c + 1) p = nI (w.1 1 p) ∧ S (c + 2) p = nI (w.1 2 p)) ∧
  ∀ k, k < w.1 0 2 → S (c + 3) k = nI (w.1 3 k) ∧ S (c + 4) k = nI (w.1 4 k) ∧ S (c + 5) k = nI (w.1 5 k) ∧ S (c + 6) k = nI (w.1 6 k) ∧ S (c + 7) k = nI (w.2 k).length ∧ rowIs (S (c + 8)) (8 * k) (w.2 k)
/-- rows unchanged but some -/
def Off (X : List Nat) (S S' : Nat → Nat → Int32) : Prop := ∀ c, c ∉ X → S' c = S c
theorem Off.rf {X : List Nat} {S : Nat → Nat → Int32} : Off X S S := fun _ _ => rfl
theorem Off.tr {X : List Nat} {S S' S'' : Nat → Nat → Int32} (h : Off X S S') (h' : Off X S' S'') : Off X S S'' := fun c hc => (h' c hc).trans (h c hc)
theorem Off.mono {X Y : List Nat} {S S' : Nat → Nat → Int32} (h : Off X S S') (hs : ∀ c, c ∈ X → c ∈ Y) : Off Y S S' := fun c hc => h c (fun q => hc (hs c q))
theorem Off.up {X : List Nat} {S : Nat → Nat → Int32} {c i : Nat} {x : Int32} (hc : c ∈ X) : Off X S (up2 S c i x) := fun r hr => up2_row (fun e => hr (e ▸ hc))
theorem bind_sm {α β : Type} {a : α} {K : α → Option β} : (some a).bind K = K a := rfl
theorem bz0 : bz (nI 0) = some (nI 0) := rfl
theorem bz1 : bz (nI 1) = some (nI 1) := rfl
