/-! ===== the first state ===== -/
def cl (b : Nat) (S : Nat → Nat → Int32) (Q : Nat → Nat → Nat) : Nat → List Lk → List Ce
  | _, [] => []
  | c, x :: t => cellL b S Q c x :: cl b S Q (c + 1) t
theorem cl_get {b : Nat} {S : Nat → Nat → Int32} {Q : Nat → Nat → Nat} : ∀ (l : List Lk) (c i : Nat), (cl b S Q c l)[i]? = (l[i]?).map (cellL b S Q (c + i))
  | [], c, i => by simp [cl]
  | x :: t, c, 0 => by simp [cl]
  | x :: t, c, i + 1 => by
    rw [cl, List.getElem?_cons_succ, List.getElem?_cons_succ, cl_get t (c + 1) i, show c + 1 + i = c + (i + 1) by omega]
theorem cl_len {b : Nat} {S : Nat → Nat → Int32} {Q : Nat → Nat → Nat} : ∀ (l : List Lk) (c : Nat), (cl b S Q c l).length = l.length
  | [], c => rfl
  | x :: t, c => by rw [cl, List.length_cons, List.length_cons, cl_len t (c + 1)]
def S0 : Nat → Nat → Int32 := fun c => if c = 117 then upd (fun _ => 0) 7 1 else if c = 4 ∨ c = 21 then (fun i => if i = 8 then 1 else 0) else fun _ => 0
def Q0 (b : Nat) : Nat → Nat → Nat := fun _ _ => b + 1
def g0 (b : Nat) : Hp := (fun _ => none, b + 133)
theorem cl_E (b : Nat) (S : Nat → Nat → Int32) (Q : Nat → Nat → Nat) : Lh b (cl b S Q 0 lay) = E b S Q (g0 b) := by
  unfold Lh E g0
  refine Prod.ext (funext fun a => ?_) ?_
  · dsimp only
    by_cases h : b ≤ a
    · rw [if_pos h, cl_get]
      by_cases h2 : a < b + 133
      · rw [if_pos ⟨h, h2⟩]
        unfold cellC
        have h3 : a - b < lay.length := by rw [lay_len]; omega
        rw [List.getElem?_eq_getElem h3]
        simp
      · rw [if_neg (fun q => h2 q.2), List.getElem?_eq_none (by rw [lay_len]; omega)]
        rfl
    · rw [if_neg h, if_neg (fun q => h q.1)]
  · dsimp only
    rw [cl_len, lay_len]
theorem fR (b x0 x1 x2 x3 x4 x5 x6 : Nat) : va_up (va_up (va_up (va_up (va_up (va_up (va_up (fun _ => none) 0 (some (b + x0))) 1 (some (b + x1))) 2 (some (b + x2))) 3 (some (b + x3))) 4 (some (b + x4))) 5 (some (b + x5))) 6 (some (b + x6)) = fun i => ([x0, x1, x2, x3, x4, x5, x6][i]?).map (fun x => b + x) := by
  funext i
  rcases i with _ | _ | _ | _ | _ | _ | _ | i
  · rfl
  · rfl
  · rfl
  · rfl
  · rfl
  · rfl
  · rfl
  · simp [va_up]
theorem eO_eq (b n : Nat) : eO (b + (n + 3)) = .inr (.inr (0, 4, fun i => ([n + 4, n + 5, n + 6, n + 7][i]?).map (fun x => b + x))) := by
  unfold eO
  congr 4
  funext i
  rcases i with _ | _ | _ | _ | i
  · simp; omega
  · simp; omega
  · simp; omega
  · simp; omega
  · simp
set_option maxRecDepth 100000 in
theorem first_cells (b : Nat) : B8 b 0 ++ B9 b 116 = cl b S0 (Q0 b) 0 lay := by
  unfold B8 B6 B4
  rw [fR, eO_eq]
  rfl
def a0 : Fs := ((fun _ _ => 0, fun _ => []), fun _ => [], [], [], [], 1, [])
theorem nI0 : (0 : Int32) = nI 0 := rfl
theorem finv0 : Finv a0 := by
  refine ⟨⟨Nat.zero_le _, Nat.zero_le _, Nat.zero_le _, fun _ => Nat.zero_le _, fun _ => Nat.zero_le _, fun _ => Nat.zero_le _, fun _ => Nat.zero_le _, fun _ => Nat.zero_le _, fun _ => Nat.zero_le _, fun _ => ⟨List.nodup_nil, fun p hp => (by cases hp)⟩⟩, Nat.zero_le _, fun u => ⟨Nat.zero_le _, fun t ht => (by cases ht), fun q => absurd rfl q⟩, ⟨Nat.zero_le _, fun x hx => (by cases hx)⟩, Nat.zero_le _, ⟨Nat.zero_le _, fun x hx => (by cases hx)⟩, Nat.zero_le _, fun d hd => (by cases hd)⟩
theorem rowIs_nil {f : Nat → Int32} {o : Nat} : rowIs f o [] := fun i v h => by simp at h
theorem rowV_nil {f : Nat → Int32} {o : Nat} : rowV f o [] := fun i v h => by simp at h
theorem ferC0 (b : Nat) : FerC b (fun _ => 0) S0 (Q0 b) (g0 b) 4 a0 :=
  ⟨⟨rfl, rfl, rfl, fun p hp => absurd hp (Nat.not_lt_zero _), fun p hp => absurd hp (Nat.not_lt_zero _)⟩, ⟨Or.inl ⟨rfl, rfl⟩, Or.inl ⟨rfl, rfl⟩⟩, ⟨rfl, rowIs_nil⟩, ⟨rfl, rowV_nil⟩, ⟨rfl, rowIs_nil⟩, rfl, ⟨rfl, fun i d h => by simp [a0, fDb] at h⟩⟩
theorem ferM0 : FerM (S0 117) a0 :=
  ⟨⟨rfl, rfl, rfl, fun p hp => absurd hp (Nat.not_lt_zero _), fun p hp => absurd hp (Nat.not_lt_zero _)⟩, fun u hu => ⟨by
    obtain rfl | rfl : u = 0 ∨ u = 1 := by omega
    · rfl
    · rfl, fun i t h => by simp [a0, fT] at h⟩, ⟨rfl, rowIs_nil⟩, ⟨rfl, rowV_nil⟩, ⟨rfl, rowIs_nil⟩, rfl, ⟨rfl, fun i d h => by simp [a0, fDb] at h⟩⟩
theorem sim0 (b : Nat) : Sim b (fun _ => 0) S0 (Q0 b) (g0 b) := by
  refine ⟨⟨a0, finv0, ferC0 b, ferM0⟩, ⟨rfl, fun h => absurd rfl h⟩, fun j _ => rfl, ⟨0, Nat.zero_le _, rfl, rfl, fun i hi => absurd hi (Nat.not_lt_zero _)⟩, fun k hk => ⟨⟨0, Or.inl rfl, rfl, rfl⟩, ⟨0, Nat.zero_le _, rfl, rfl⟩, fun i _ => ?_⟩, Nat.le_refl _, fun a _ => ⟨rfl, rfl⟩⟩
  obtain rfl | rfl | rfl | rfl : k = 0 ∨ k = 1 ∨ k = 2 ∨ k = 3 := by omega
  · rfl
  · rfl
  · rfl
  · rfl
theorem Lh_nil (b : Nat) : ((fun _ => none, b) : Hp) = Lh b ([] ++ []) := by
  unfold Lh
  refine Prod.ext (funext fun a => ?_) rfl
  dsimp only
  split
  · simp
  · rfl
/-- the law answers 1, over the small machine -/
theorem law_one {b L : Nat} {xs : Nat → Int32} (hL : L ≤ 3072) : ∃ h', fXH L xs (fun _ => none, b) = some (1, h') := by
  unfold fXH
  rw [Lh_nil]
  have e0 : newO (Lh b ([] ++ [])) 8 [.null, .null, .null, .null, .null, .null, .null, .int 0] = some (b + (0 + 0), Lh b ([] ++ [.inl (8, [.null, .null, .null, .null, .null, .null, .null, .int 0])])) := L_newO rfl rfl rfl
  rw [e0, bind_sm]
  dsimp only
  have e1 : fX8_init (Lh b ([] ++ [.inl (8, [.null, .null, .null, .null, .null, .null, .null, .int 0])])) (b + (0 + 0)) = some (Lh b ([] ++ B8 b 0)) := i_X8 (cs := []) (n := 0) rfl
  rw [e1, bind_sm]
  have e2 : newO (Lh b ([] ++ B8 b 0)) 9 [.null, .null, .null, .null, .int 0, .null, .int 0, .int 0, .int 0, .int 0, .null, .null, .null, .null, .null, .null, .int 0, .int 0, .int 0, .null, .int 0, .int 0, .int 0, .null, .null, .null, .null] = some (b + (0 + 116), Lh b ([] ++ (B8 b 0 ++ [.inl (9, [.null, .null, .null, .null, .int 0, .null, .int 0, .int 0, .int 0, .int 0, .null, .null, .null, .null, .null, .null, .int 0, .int 0, .int 0, .null, .int 0, .int 0, .int 0, .null, .null, .null, .null])]))) := L_newO rfl (i := 116) rfl rfl
  rw [e2, bind_sm]
  dsimp only
  have e3 : fX9_init (Lh b ([] ++ (B8 b 0 ++ [.inl (9, [.null, .null, .null, .null, .int 0, .null, .int 0, .int 0, .int 0, .int 0, .null, .null, .null, .null, .null, .null, .int 0, .int 0, .int 0, .null, .int 0, .int 0, .int 0, .null, .null, .null, .null])]))) (b + (0 + 116)) = some (Lh b (B8 b 0 ++ B9 b 116)) := i_X9 (cs := B8 b 0) (n := 116) rfl
  rw [e3, bind_sm, first_cells, cl_E]
  exact loop_all hL (sim0 b)
