def fX9_above (x0 : Int32) : Option Int32 :=
  if x0 = 4 then
    some 1
  else
    if x0 = 5 then
      some 2
    else
      some 0
set_option maxRecDepth 100000 in
theorem kX9_above {h : Hp} {x0 : Int32} {z : Int32} (hF : fX9_above x0 = some z) : Mc yX9_above cX9_above 1 (some .int) 0 0 0 [.int x0] h (some (.int z), h) := by
  unfold fX9_above at hF
  refine Mc_of [some (.int x0)] plX9 rfl rfl (Nat.le_of_ble_eq_true rfl) (fun X C => ?_)
  refine J_iload_n (pc := 0) C dX9_above_0 rfl ?_
  refine J_iconst (pc := 1) C dX9_above_1 ic_4 ?_
  refine J_icmp_ne (pc := 2) (tgt := 9) C dX9_above_2 rfl hF (fun hF => ?_) (fun hF => ?_)
  · refine J_iconst (pc := 5) C dX9_above_5 ic_1 ?_
    refine J_goto (pc := 6) (tgt := 19) C dX9_above_6 rfl ?_
    exact J_iretP (pc := 19) C dX9_above_19 hF (by decide) (by decide)
  · refine J_iload_n (pc := 9) C dX9_above_9 rfl ?_
    refine J_iconst (pc := 10) C dX9_above_10 ic_5 ?_
    refine J_icmp_ne (pc := 11) (tgt := 18) C dX9_above_11 rfl hF (fun hF => ?_) (fun hF => ?_)
    · refine J_iconst (pc := 14) C dX9_above_14 ic_2 ?_
      refine J_goto (pc := 15) (tgt := 19) C dX9_above_15 rfl ?_
      exact J_iretP (pc := 19) C dX9_above_19 hF (by decide) (by decide)
    · refine J_iconst (pc := 18) C dX9_above_18 ic_0 ?_
      exact J_iretP (pc := 19) C dX9_above_19 hF (by decide) (by decide)
def fX9_its (h : Hp) (a0 : Nat) (x1 : Int32) (x2 : Int32) : Option Int32 := gO h 9 a0 (
  (getR h 9 a0 0).bind fun r1 =>
  (rdI h r1 ((24 + (13 * x1)) + x2)).bind fun v13 =>
  some v13)
set_option maxRecDepth 100000 in
theorem kX9_its {h : Hp} {a0 : Nat} {x1 : Int32} {x2 : Int32} {z : Int32} (hF : fX9_its h a0 x1 x2 = some z) : Mc yX9_its cX9_its 3 (some .int) 0 0 0 [.ref a0, .int x1, .int x2] h (some (.int z), h) := by
  have hF := (gO_some hF).2
  refine Mc_of [some (.ref a0), some (.int x1), some (.int x2)] plX9 rfl rfl (Nat.le_of_ble_eq_true rfl) (fun X C => ?_)
  refine J_aload_n (pc := 0) C dX9_its_0 rfl ?_
  refine J_getR (pc := 1) C dX9_its_1 fg_X9_7 hF (fun r1 hF => ?_)
  refine J_bipush (pc := 4) C dX9_its_4 bc_24 ?_
  refine J_bipush (pc := 6) C dX9_its_6 bc_13 ?_
  refine J_iload_n (pc := 8) C dX9_its_8 rfl ?_
  refine J_imul (pc := 9) C dX9_its_9 ?_
  refine J_iadd (pc := 10) C dX9_its_10 ?_
  refine J_iload_n (pc := 11) C dX9_its_11 rfl ?_
  refine J_iadd (pc := 12) C dX9_its_12 ?_
  refine J_iald (pc := 13) C dX9_its_13 hF (fun v13 hF => ?_)
  exact J_iretP (pc := 14) C dX9_its_14 hF (by decide) (by decide)
def fX9_of (h : Hp) (a0 : Nat) (x1 : Int32) (x2 : Int32) : Option Int32 := gO h 9 a0 (
  (getR h 9 a0 0).bind fun r1 =>
  (rdI h r1 ((8 + (2 * x1)) + x2)).bind fun v12 =>
  some v12)
set_option maxRecDepth 100000 in
theorem kX9_of {h : Hp} {a0 : Nat} {x1 : Int32} {x2 : Int32} {z : Int32} (hF : fX9_of h a0 x1 x2 = some z) : Mc yX9_of cX9_of 3 (some .int) 0 0 0 [.ref a0, .int x1, .int x2] h (some (.int z), h) := by
  have hF := (gO_some hF).2
  refine Mc_of [some (.ref a0), some (.int x1), some (.int x2)] plX9 rfl rfl (Nat.le_of_ble_eq_true rfl) (fun X C => ?_)
  refine J_aload_n (pc := 0) C dX9_of_0 rfl ?_
  refine J_getR (pc := 1) C dX9_of_1 fg_X9_7 hF (fun r1 hF => ?_)
  refine J_bipush (pc := 4) C dX9_of_4 bc_8 ?_
  refine J_iconst (pc := 6) C dX9_of_6 ic_2 ?_
  refine J_iload_n (pc := 7) C dX9_of_7 rfl ?_
  refine J_imul (pc := 8) C dX9_of_8 ?_
  refine J_iadd (pc := 9) C dX9_of_9 ?_
  refine J_iload_n (pc := 10) C dX9_of_10 rfl ?_
  refine J_iadd (pc := 11) C dX9_of_11 ?_
  refine J_iald (pc := 12) C dX9_of_12 hF (fun v12 hF => ?_)
  exact J_iretP (pc := 13) C dX9_of_13 hF (by decide) (by decide)
def fX9_allCoins_31 (h : Hp) : Nat → Nat → Int32 → Int32 → Option Int32
  | 0, _, _, _ => none
  | n31 + 1, a0, x1, x2 =>
    (getR h 9 a0 0).bind fun r33 =>
    (rdI h r33 1).bind fun v37 =>
    if v37 ≤ x2 then
      some x1
    else
      (fX9_its h a0 x2 3).bind fun q45 =>
      fX9_allCoins_31 h n31 a0 (x1 + q45) (x2 + 1)
set_option maxRecDepth 100000 in
theorem kX9_allCoins_31 {X : Cx} {z : Int32} {h : Hp} (C : Jc X yX9_allCoins cX9_allCoins 3 (some .int) 1 0 0 (some (.int z), h)) : ∀ (n31 : Nat) (a0 : Nat) (x1 : Int32) (x2 : Int32), fX9_allCoins_31 h n31 a0 x1 x2 = some z → J X 0 0 0 0 31 [some (.ref a0), some (.int x1), some (.int x2)] [] h := by
  intro n31
  induction n31 with
  | zero => intro a0 x1 x2 hF; cases hF
  | succ n31 ih =>
    intro a0 x1 x2 hF
    rw [fX9_allCoins_31] at hF
    refine J_iload_n (pc := 31) C dX9_allCoins_31 rfl ?_
    refine J_aload_n (pc := 32) C dX9_allCoins_32 rfl ?_
    refine J_getR (pc := 33) C dX9_allCoins_33 fg_X9_7 hF (fun r33 hF => ?_)
    refine J_iconst (pc := 36) C dX9_allCoins_36 ic_1 ?_
    refine J_iald (pc := 37) C dX9_allCoins_37 hF (fun v37 hF => ?_)
    refine J_icmp_ge (pc := 38) (tgt := 56) C dX9_allCoins_38 rfl hF (fun hF => ?_) (fun hF => ?_)
    · refine J_iload_n (pc := 56) C dX9_allCoins_56 rfl ?_
      exact J_iretP (pc := 57) C dX9_allCoins_57 hF (by decide) (by decide)
    · refine J_iload_n (pc := 41) C dX9_allCoins_41 rfl ?_
      refine J_aload_n (pc := 42) C dX9_allCoins_42 rfl ?_
      refine J_iload_n (pc := 43) C dX9_allCoins_43 rfl ?_
      refine J_iconst (pc := 44) C dX9_allCoins_44 ic_3 ?_
      refine J_bind hF (fun q45 hq hF => ?_)
      refine J_callV0_ip (pc := 45) (stk := [.int 3, .int x2, .ref a0, .int x1]) (st := [.int x1]) C dX9_allCoins_45 yw_X9_its w_MLX9_123 in_X9_its sl_X9_its ⟨_, rfl, rfl⟩ (kX9_its hq) (gO_some hq).1 rfl (by decide) rfl (Nat.le_of_ble_eq_true rfl) ?_
      refine J_iadd (pc := 48) C dX9_allCoins_48 ?_
      refine J_istore_n (pc := 49) (lv' := [some (.ref a0), some (.int (x1 + q45)), some (.int x2)]) C dX9_allCoins_49 rfl ?_
      refine J_iinc (pc := 50) (lv' := [some (.ref a0), some (.int (x1 + q45)), some (.int (x2 + 1))]) C dX9_allCoins_50 rfl ic_1 rfl ?_
      refine J_goto (pc := 53) (tgt := 31) C dX9_allCoins_53 rfl ?_
      exact ih a0 (x1 + q45) (x2 + 1) hF
def fX9_allCoins_4 (h : Hp) : Nat → Nat → Int32 → Int32 → Option Int32
  | 0, _, _, _ => none
  | n4 + 1, a0, x1, x2 =>
    (getR h 9 a0 0).bind fun r6 =>
    (rdI h r6 0).bind fun v10 =>
    if v10 ≤ x2 then
      fX9_allCoins_31 h 1000 a0 x1 0
    else
      (fX9_of h a0 x2 1).bind fun q18 =>
      fX9_allCoins_4 h n4 a0 (x1 + q18) (x2 + 1)
set_option maxRecDepth 100000 in
theorem kX9_allCoins_4 {X : Cx} {z : Int32} {h : Hp} (C : Jc X yX9_allCoins cX9_allCoins 3 (some .int) 1 0 0 (some (.int z), h)) : ∀ (n4 : Nat) (a0 : Nat) (x1 : Int32) (x2 : Int32), fX9_allCoins_4 h n4 a0 x1 x2 = some z → J X 0 0 0 0 4 [some (.ref a0), some (.int x1), some (.int x2)] [] h := by
  intro n4
  induction n4 with
  | zero => intro a0 x1 x2 hF; cases hF
  | succ n4 ih =>
    intro a0 x1 x2 hF
    rw [fX9_allCoins_4] at hF
    refine J_iload_n (pc := 4) C dX9_allCoins_4 rfl ?_
    refine J_aload_n (pc := 5) C dX9_allCoins_5 rfl ?_
    refine J_getR (pc := 6) C dX9_allCoins_6 fg_X9_7 hF (fun r6 hF => ?_)
    refine J_iconst (pc := 9) C dX9_allCoins_9 ic_0 ?_
    refine J_iald (pc := 10) C dX9_allCoins_10 hF (fun v10 hF => ?_)
    refine J_icmp_ge (pc := 11) (tgt := 29) C dX9_allCoins_11 rfl hF (fun hF => ?_) (fun hF => ?_)
    · refine J_iconst (pc := 29) C dX9_allCoins_29 ic_0 ?_
      refine J_istore_n (pc := 30) (lv' := [some (.ref a0), some (.int x1), some (.int 0)]) C dX9_allCoins_30 rfl ?_
      exact kX9_allCoins_31 C 1000 a0 x1 0 hF
    · refine J_iload_n (pc := 14) C dX9_allCoins_14 rfl ?_
      refine J_aload_n (pc := 15) C dX9_allCoins_15 rfl ?_
      refine J_iload_n (pc := 16) C dX9_allCoins_16 rfl ?_
      refine J_iconst (pc := 17) C dX9_allCoins_17 ic_1 ?_
      refine J_bind hF (fun q18 hq hF => ?_)
      refine J_callV0_ip (pc := 18) (stk := [.int 1, .int x2, .ref a0, .int x1]) (st := [.int x1]) C dX9_allCoins_18 yw_X9_of w_MLX9_162 in_X9_of sl_X9_of ⟨_, rfl, rfl⟩ (kX9_of hq) (gO_some hq).1 rfl (by decide) rfl (Nat.le_of_ble_eq_true rfl) ?_
      refine J_iadd (pc := 21) C dX9_allCoins_21 ?_
      refine J_istore_n (pc := 22) (lv' := [some (.ref a0), some (.int (x1 + q18)), some (.int x2)]) C dX9_allCoins_22 rfl ?_
      refine J_iinc (pc := 23) (lv' := [some (.ref a0), some (.int (x1 + q18)), some (.int (x2 + 1))]) C dX9_allCoins_23 rfl ic_1 rfl ?_
      refine J_goto (pc := 26) (tgt := 4) C dX9_allCoins_26 rfl ?_
      exact ih a0 (x1 + q18) (x2 + 1) hF
def fX9_allCoins (h : Hp) (a0 : Nat) : Option Int32 := gO h 9 a0 (
  fX9_allCoins_4 h 1000 a0 0 0)
set_option maxRecDepth 100000 in
theorem kX9_allCoins {h : Hp} {a0 : Nat} {z : Int32} (hF : fX9_allCoins h a0 = some z) : Mc yX9_allCoins cX9_allCoins 3 (some .int) 1 0 0 [.ref a0] h (some (.int z), h) := by
  have hF := (gO_some hF).2
  refine Mc_of [some (.ref a0), none, none] plX9 rfl rfl (Nat.le_of_ble_eq_true rfl) (fun X C => ?_)
  refine J_iconst (pc := 0) C dX9_allCoins_0 ic_0 ?_
  refine J_istore_n (pc := 1) (lv' := [some (.ref a0), some (.int 0), none]) C dX9_allCoins_1 rfl ?_
  refine J_iconst (pc := 2) C dX9_allCoins_2 ic_0 ?_
  refine J_istore_n (pc := 3) (lv' := [some (.ref a0), some (.int 0), some (.int 0)]) C dX9_allCoins_3 rfl ?_
  exact kX9_allCoins_4 C 1000 a0 0 0 hF
def fX9_error (h : Hp) (a0 : Nat) (x1 : Int32) : Option (Int32 × Hp) := gO h 9 a0 (
  (getR h 9 a0 5).bind fun r1 =>
  (rdI h r1 x1).bind fun v6 =>
  (wrI h r1 x1 (v6 + 1)).bind fun h9 =>
  some (((-1000000000)) - x1, h9))
set_option maxRecDepth 100000 in
theorem kX9_error {h : Hp} {a0 : Nat} {x1 : Int32} {z : (Int32 × Hp)} (hF : fX9_error h a0 x1 = some z) : Mc yX9_error cX9_error 2 (some .int) 0 0 0 [.ref a0, .int x1] h (some (.int z.1), z.2) := by
  have hF := (gO_some hF).2
  refine Mc_of [some (.ref a0), some (.int x1)] plX9 rfl rfl (Nat.le_of_ble_eq_true rfl) (fun X C => ?_)
  refine J_aload_n (pc := 0) C dX9_error_0 rfl ?_
  refine J_getR (pc := 1) C dX9_error_1 fg_X9_22 hF (fun r1 hF => ?_)
  refine J_iload_n (pc := 4) C dX9_error_4 rfl ?_
  refine J_dup2 (pc := 5) C dX9_error_5 rfl rfl ?_
  refine J_iald (pc := 6) C dX9_error_6 hF (fun v6 hF => ?_)
  refine J_iconst (pc := 7) C dX9_error_7 ic_1 ?_
  refine J_iadd (pc := 8) C dX9_error_8 ?_
  refine J_iast (pc := 9) C dX9_error_9 hF (fun h9 hF => ?_)
  refine J_ldc (pc := 10) C dX9_error_10 w_KX9_58 ?_
  refine J_iload_n (pc := 12) C dX9_error_12 rfl ?_
  refine J_isub (pc := 13) C dX9_error_13 ?_
  exact J_iret (pc := 14) C dX9_error_14 hF (by decide) (by decide)
def fX9_lays1 (h : Hp) (a0 : Nat) (x1 : Int32) (x2 : Int32) (x3 : Int32) : Option Hp := gO h 9 a0 (
  (getR h 9 a0 0).bind fun r1 =>
  (wrI h r1 ((24 + (13 * x1)) + x2) x3).bind fun h14 =>
  some h14)
set_option maxRecDepth 100000 in
theorem kX9_lays1 {h : Hp} {a0 : Nat} {x1 : Int32} {x2 : Int32} {x3 : Int32} {z : Hp} (hF : fX9_lays1 h a0 x1 x2 x3 = some z) : Mc yX9_lays1 cX9_lays1 4 none 0 0 0 [.ref a0, .int x1, .int x2, .int x3] h (none, z) := by
  have hF := (gO_some hF).2
  refine Mc_of [some (.ref a0), some (.int x1), some (.int x2), some (.int x3)] plX9 rfl rfl (Nat.le_of_ble_eq_true rfl) (fun X C => ?_)
  refine J_aload_n (pc := 0) C dX9_lays1_0 rfl ?_
  refine J_getR (pc := 1) C dX9_lays1_1 fg_X9_7 hF (fun r1 hF => ?_)
  refine J_bipush (pc := 4) C dX9_lays1_4 bc_24 ?_
  refine J_bipush (pc := 6) C dX9_lays1_6 bc_13 ?_
  refine J_iload_n (pc := 8) C dX9_lays1_8 rfl ?_
  refine J_imul (pc := 9) C dX9_lays1_9 ?_
  refine J_iadd (pc := 10) C dX9_lays1_10 ?_
  refine J_iload_n (pc := 11) C dX9_lays1_11 rfl ?_
  refine J_iadd (pc := 12) C dX9_lays1_12 ?_
  refine J_iload_n (pc := 13) C dX9_lays1_13 rfl ?_
  refine J_iast (pc := 14) C dX9_lays1_14 hF (fun h14 hF => ?_)
  exact J_vret (pc := 15) C dX9_lays1_15 hF (by decide) (by decide)
def fX9_goesAlone (h : Hp) (a0 : Nat) (x1 : Int32) : Option Hp := gO h 9 a0 (
  (fX9_its h a0 x1 2).bind fun q7 =>
  (fX9_lays1 h a0 x1 2 (1 - q7)).bind fun q11 =>
  (getR q11 9 a0 0).bind fun r15 =>
  (rdI q11 r15 2).bind fun v20 =>
  (wrI q11 r15 2 (v20 + 1)).bind fun h23 =>
  some h23)
set_option maxRecDepth 100000 in
theorem kX9_goesAlone {h : Hp} {a0 : Nat} {x1 : Int32} {z : Hp} (hF : fX9_goesAlone h a0 x1 = some z) : Mc yX9_goesAlone cX9_goesAlone 2 none 1 0 0 [.ref a0, .int x1] h (none, z) := by
  have hF := (gO_some hF).2
  refine Mc_of [some (.ref a0), some (.int x1)] plX9 rfl rfl (Nat.le_of_ble_eq_true rfl) (fun X C => ?_)
  refine J_aload_n (pc := 0) C dX9_goesAlone_0 rfl ?_
  refine J_iload_n (pc := 1) C dX9_goesAlone_1 rfl ?_
  refine J_iconst (pc := 2) C dX9_goesAlone_2 ic_2 ?_
  refine J_iconst (pc := 3) C dX9_goesAlone_3 ic_1 ?_
  refine J_aload_n (pc := 4) C dX9_goesAlone_4 rfl ?_
  refine J_iload_n (pc := 5) C dX9_goesAlone_5 rfl ?_
  refine J_iconst (pc := 6) C dX9_goesAlone_6 ic_2 ?_
  refine J_bind hF (fun q7 hq hF => ?_)
  refine J_callV0_ip (pc := 7) (stk := [.int 2, .int x1, .ref a0, .int 1, .int 2, .int x1, .ref a0]) (st := [.int 1, .int 2, .int x1, .ref a0]) C dX9_goesAlone_7 yw_X9_its w_MLX9_123 in_X9_its sl_X9_its ⟨_, rfl, rfl⟩ (kX9_its hq) (gO_some hq).1 rfl (by decide) rfl (Nat.le_of_ble_eq_true rfl) ?_
  refine J_isub (pc := 10) C dX9_goesAlone_10 ?_
  refine J_bind hF (fun q11 hq hF => ?_)
  refine J_callV0_v (pc := 11) (stk := [.int (1 - q7), .int 2, .int x1, .ref a0]) (st := []) C dX9_goesAlone_11 yw_X9_lays1 w_MLX9_142 in_X9_lays1 sl_X9_lays1 ⟨_, rfl, rfl⟩ (kX9_lays1 hq) (gO_some hq).1 rfl (by decide) rfl (Nat.le_of_ble_eq_true rfl) ?_
  refine J_aload_n (pc := 14) C dX9_goesAlone_14 rfl ?_
  refine J_getR (pc := 15) C dX9_goesAlone_15 fg_X9_7 hF (fun r15 hF => ?_)
  refine J_iconst (pc := 18) C dX9_goesAlone_18 ic_2 ?_
  refine J_dup2 (pc := 19) C dX9_goesAlone_19 rfl rfl ?_
  refine J_iald (pc := 20) C dX9_goesAlone_20 hF (fun v20 hF => ?_)
  refine J_iconst (pc := 21) C dX9_goesAlone_21 ic_1 ?_
  refine J_iadd (pc := 22) C dX9_goesAlone_22 ?_
  refine J_iast (pc := 23) C dX9_goesAlone_23 hF (fun h23 hF => ?_)
  exact J_vret (pc := 24) C dX9_goesAlone_24 hF (by decide) (by decide)
def fX9_in (x0 : Int32) (x1 : Int32) (x2 : Int32) : Option Int32 :=
  if x0 < x1 then
    some 0
  else
    if x2 < x0 then
      some 0
    else
      some 1
set_option maxRecDepth 100000 in
theorem kX9_in {h : Hp} {x0 : Int32} {x1 : Int32} {x2 : Int32} {z : Int32} (hF : fX9_in x0 x1 x2 = some z) : Mc yX9_in cX9_in 3 (some .boolean) 0 0 0 [.int x0, .int x1, .int x2] h (some (.int z), h) := by
  unfold fX9_in at hF
  refine Mc_of [some (.int x0), some (.int x1), some (.int x2)] plX9 rfl rfl (Nat.le_of_ble_eq_true rfl) (fun X C => ?_)
  refine J_iload_n (pc := 0) C dX9_in_0 rfl ?_
  refine J_iload_n (pc := 1) C dX9_in_1 rfl ?_
  refine J_icmp_lt (pc := 2) (tgt := 14) C dX9_in_2 rfl hF (fun hF => ?_) (fun hF => ?_)
  · refine J_iconst (pc := 14) C dX9_in_14 ic_0 ?_
    exact J_zretP (pc := 15) C dX9_in_15 rfl hF (by decide) (by decide)
  · refine J_iload_n (pc := 5) C dX9_in_5 rfl ?_
    refine J_iload_n (pc := 6) C dX9_in_6 rfl ?_
    refine J_icmp_gt (pc := 7) (tgt := 14) C dX9_in_7 rfl hF (fun hF => ?_) (fun hF => ?_)
    · refine J_iconst (pc := 14) C dX9_in_14 ic_0 ?_
      exact J_zretP (pc := 15) C dX9_in_15 rfl hF (by decide) (by decide)
    · refine J_iconst (pc := 10) C dX9_in_10 ic_1 ?_
      refine J_goto (pc := 11) (tgt := 15) C dX9_in_11 rfl ?_
      exact J_zretP (pc := 15) C dX9_in_15 rfl hF (by decide) (by decide)
def fX9_isMan (h : Hp) (a0 : Nat) (x1 : Int32) : Option Int32 := gO h 9 a0 (
  (getR h 9 a0 0).bind fun r3 =>
  (rdI h r3 1).bind fun v7 =>
  (fX9_in x1 0 (v7 - 1)).bind fun q10 =>
  (bz q10).bind fun b13 =>
  some b13)
set_option maxRecDepth 100000 in
theorem kX9_isMan {h : Hp} {a0 : Nat} {x1 : Int32} {z : Int32} (hF : fX9_isMan h a0 x1 = some z) : Mc yX9_isMan cX9_isMan 2 (some .boolean) 1 0 0 [.ref a0, .int x1] h (some (.int z), h) := by
  have hF := (gO_some hF).2
  refine Mc_of [some (.ref a0), some (.int x1)] plX9 rfl rfl (Nat.le_of_ble_eq_true rfl) (fun X C => ?_)
  refine J_iload_n (pc := 0) C dX9_isMan_0 rfl ?_
  refine J_iconst (pc := 1) C dX9_isMan_1 ic_0 ?_
  refine J_aload_n (pc := 2) C dX9_isMan_2 rfl ?_
  refine J_getR (pc := 3) C dX9_isMan_3 fg_X9_7 hF (fun r3 hF => ?_)
  refine J_iconst (pc := 6) C dX9_isMan_6 ic_1 ?_
  refine J_iald (pc := 7) C dX9_isMan_7 hF (fun v7 hF => ?_)
  refine J_iconst (pc := 8) C dX9_isMan_8 ic_1 ?_
  refine J_isub (pc := 9) C dX9_isMan_9 ?_
  refine J_bind hF (fun q10 hq hF => ?_)
  refine J_callS0_ip (pc := 10) (stk := [.int (v7 - 1), .int 0, .int x1]) (st := []) C dX9_isMan_10 yw_X9_in w_MLX9_59 st_X9_in (kX9_in hq) rfl (by decide) rfl (Nat.le_of_ble_eq_true rfl) ?_
  refine J_bz hF (fun b13 hnr hF => ?_)
  exact J_zretP (pc := 13) C dX9_isMan_13 hnr hF (by decide) (by decide)
def fX9_alone (h : Hp) (a0 : Nat) (x1 : Int32) : Option (Int32 × Hp) := gO h 9 a0 (
  (fX9_isMan h a0 x1).bind fun q2 =>
  if q2 = 0 then
    (fX9_error h a0 1).bind fun q10 =>
    some (q10.1, q10.2)
  else
    (getR h 9 a0 0).bind fun r15 =>
    (rdI h r15 2).bind fun v19 =>
    if v19 = 9999 then
      (fX9_error h a0 3).bind fun q28 =>
      some (q28.1, q28.2)
    else
      (fX9_goesAlone h a0 x1).bind fun q34 =>
      (fX9_its q34 a0 x1 2).bind fun q40 =>
      some (q40, q34))
set_option maxRecDepth 100000 in
theorem kX9_alone {h : Hp} {a0 : Nat} {x1 : Int32} {z : (Int32 × Hp)} (hF : fX9_alone h a0 x1 = some z) : Mc yX9_alone cX9_alone 2 (some .int) 2 0 0 [.ref a0, .int x1] h (some (.int z.1), z.2) := by
  have hF := (gO_some hF).2
  refine Mc_of [some (.ref a0), some (.int x1)] plX9 rfl rfl (Nat.le_of_ble_eq_true rfl) (fun X C => ?_)
  refine J_aload_n (pc := 0) C dX9_alone_0 rfl ?_
  refine J_iload_n (pc := 1) C dX9_alone_1 rfl ?_
  refine J_bind hF (fun q2 hq hF => ?_)
  refine J_callV0_ip (pc := 2) (stk := [.int x1, .ref a0]) (st := []) C dX9_alone_2 yw_X9_isMan w_MLX9_168 in_X9_isMan sl_X9_isMan ⟨_, rfl, rfl⟩ (kX9_isMan hq) (gO_some hq).1 rfl (by decide) rfl (Nat.le_of_ble_eq_true rfl) ?_
  refine J_if_ne (pc := 5) (tgt := 14) C dX9_alone_5 rfl hF (fun hF => ?_) (fun hF => ?_)
  · refine J_aload_n (pc := 8) C dX9_alone_8 rfl ?_
    refine J_iconst (pc := 9) C dX9_alone_9 ic_1 ?_
    refine J_bind hF (fun q10 hq hF => ?_)
    refine J_callV0_i (pc := 10) (stk := [.int 1, .ref a0]) (st := []) C dX9_alone_10 yw_X9_error w_MLX9_63 in_X9_error sl_X9_error ⟨_, rfl, rfl⟩ (kX9_error hq) (gO_some hq).1 rfl (by decide) rfl (Nat.le_of_ble_eq_true rfl) ?_
    exact J_iret (pc := 13) C dX9_alone_13 hF (by decide) (by decide)
  · refine J_aload_n (pc := 14) C dX9_alone_14 rfl ?_
    refine J_getR (pc := 15) C dX9_alone_15 fg_X9_7 hF (fun r15 hF => ?_)
    refine J_iconst (pc := 18) C dX9_alone_18 ic_2 ?_
    refine J_iald (pc := 19) C dX9_alone_19 hF (fun v19 hF => ?_)
    refine J_sipush (pc := 20) C dX9_alone_20 sc_9999 ?_
    refine J_icmp_ne (pc := 23) (tgt := 32) C dX9_alone_23 rfl hF (fun hF => ?_) (fun hF => ?_)
    · refine J_aload_n (pc := 26) C dX9_alone_26 rfl ?_
      refine J_iconst (pc := 27) C dX9_alone_27 ic_3 ?_
      refine J_bind hF (fun q28 hq hF => ?_)
      refine J_callV0_i (pc := 28) (stk := [.int 3, .ref a0]) (st := []) C dX9_alone_28 yw_X9_error w_MLX9_63 in_X9_error sl_X9_error ⟨_, rfl, rfl⟩ (kX9_error hq) (gO_some hq).1 rfl (by decide) rfl (Nat.le_of_ble_eq_true rfl) ?_
      exact J_iret (pc := 31) C dX9_alone_31 hF (by decide) (by decide)
    · refine J_aload_n (pc := 32) C dX9_alone_32 rfl ?_
      refine J_iload_n (pc := 33) C dX9_alone_33 rfl ?_
      refine J_bind hF (fun q34 hq hF => ?_)
      refine J_callV0_v (pc := 34) (stk := [.int x1, .ref a0]) (st := []) C dX9_alone_34 yw_X9_goesAlone w_MLX9_190 in_X9_goesAlone sl_X9_goesAlone ⟨_, rfl, rfl⟩ (kX9_goesAlone hq) (gO_some hq).1 rfl (by decide) rfl (Nat.le_of_ble_eq_true rfl) ?_
      refine J_aload_n (pc := 37) C dX9_alone_37 rfl ?_
      refine J_iload_n (pc := 38) C dX9_alone_38 rfl ?_
      refine J_iconst (pc := 39) C dX9_alone_39 ic_2 ?_
      refine J_bind hF (fun q40 hq hF => ?_)
      refine J_callV0_ip (pc := 40) (stk := [.int 2, .int x1, .ref a0]) (st := []) C dX9_alone_40 yw_X9_its w_MLX9_123 in_X9_its sl_X9_its ⟨_, rfl, rfl⟩ (kX9_its hq) (gO_some hq).1 rfl (by decide) rfl (Nat.le_of_ble_eq_true rfl) ?_
      exact J_iret (pc := 43) C dX9_alone_43 hF (by decide) (by decide)
def fX9_areAsPut_68 (k23 : Nat → Int32 → Int32 → Option Int32) (h : Hp) : Nat → Nat → Int32 → Int32 → Int32 → Option Int32
  | 0, _, _, _, _ => none
  | n68 + 1, a0, x1, x2, x3 =>
    (fX9_its h a0 x2 4).bind fun q72 =>
    if q72 ≤ x3 then
      k23 a0 x1 (x2 + 1)
    else
      if x1 = 0 then
        k23 a0 x1 (x2 + 1)
      else
        (fX9_its h a0 x2 (5 + x3)).bind fun q87 =>
        (getR h 9 a0 2).bind fun r91 =>
        (rdI h r91 (((24 + (13 * x2)) + 5) + x3)).bind fun v105 =>
        if q87 = v105 then
          fX9_areAsPut_68 k23 h n68 a0 1 x2 (x3 + 1)
        else
          fX9_areAsPut_68 k23 h n68 a0 0 x2 (x3 + 1)
set_option maxRecDepth 100000 in
theorem kX9_areAsPut_68 {X : Cx} {z : Int32} {h : Hp} (C : Jc X yX9_areAsPut cX9_areAsPut 4 (some .boolean) 1 0 0 (some (.int z), h)) {k23 : Nat → Int32 → Int32 → Option Int32} (hk23 : ∀ (a0 : Nat) (x1 : Int32) (x2 : Int32), k23 a0 x1 x2 = some z → J X 0 0 0 0 23 [some (.ref a0), some (.int x1), some (.int x2), none] [] h) : ∀ (n68 : Nat) (a0 : Nat) (x1 : Int32) (x2 : Int32) (x3 : Int32), fX9_areAsPut_68 k23 h n68 a0 x1 x2 x3 = some z → J X 0 0 0 0 68 [some (.ref a0), some (.int x1), some (.int x2), some (.int x3)] [] h := by
  intro n68
  induction n68 with
  | zero => intro a0 x1 x2 x3 hF; cases hF
  | succ n68 ih =>
    intro a0 x1 x2 x3 hF
    rw [fX9_areAsPut_68] at hF
    refine J_iload_n (pc := 68) C dX9_areAsPut_68 rfl ?_
    refine J_aload_n (pc := 69) C dX9_areAsPut_69 rfl ?_
    refine J_iload_n (pc := 70) C dX9_areAsPut_70 rfl ?_
    refine J_iconst (pc := 71) C dX9_areAsPut_71 ic_4 ?_
    refine J_bind hF (fun q72 hq hF => ?_)
    refine J_callV0_ip (pc := 72) (stk := [.int 4, .int x2, .ref a0, .int x3]) (st := [.int x3]) C dX9_areAsPut_72 yw_X9_its w_MLX9_123 in_X9_its sl_X9_its ⟨_, rfl, rfl⟩ (kX9_its hq) (gO_some hq).1 rfl (by decide) rfl (Nat.le_of_ble_eq_true rfl) ?_
    refine J_icmp_ge (pc := 75) (tgt := 121) C dX9_areAsPut_75 rfl hF (fun hF => ?_) (fun hF => ?_)
    · refine J_iinc (pc := 121) (lv' := [some (.ref a0), some (.int x1), some (.int (x2 + 1)), some (.int x3)]) C dX9_areAsPut_121 rfl ic_1 rfl ?_
      refine J_goto (pc := 124) (tgt := 23) C dX9_areAsPut_124 rfl ?_
      refine J_msk (m := [true, true, true, false]) rfl ?_
      exact hk23 a0 x1 (x2 + 1) hF
    · refine J_iload_n (pc := 78) C dX9_areAsPut_78 rfl ?_
      refine J_if_eq (pc := 79) (tgt := 121) C dX9_areAsPut_79 rfl hF (fun hF => ?_) (fun hF => ?_)
      · refine J_iinc (pc := 121) (lv' := [some (.ref a0), some (.int x1), some (.int (x2 + 1)), some (.int x3)]) C dX9_areAsPut_121 rfl ic_1 rfl ?_
        refine J_goto (pc := 124) (tgt := 23) C dX9_areAsPut_124 rfl ?_
        refine J_msk (m := [true, true, true, false]) rfl ?_
        exact hk23 a0 x1 (x2 + 1) hF
      · refine J_aload_n (pc := 82) C dX9_areAsPut_82 rfl ?_
        refine J_iload_n (pc := 83) C dX9_areAsPut_83 rfl ?_
        refine J_iconst (pc := 84) C dX9_areAsPut_84 ic_5 ?_
        refine J_iload_n (pc := 85) C dX9_areAsPut_85 rfl ?_
        refine J_iadd (pc := 86) C dX9_areAsPut_86 ?_
        refine J_bind hF (fun q87 hq hF => ?_)
        refine J_callV0_ip (pc := 87) (stk := [.int (5 + x3), .int x2, .ref a0]) (st := []) C dX9_areAsPut_87 yw_X9_its w_MLX9_123 in_X9_its sl_X9_its ⟨_, rfl, rfl⟩ (kX9_its hq) (gO_some hq).1 rfl (by decide) rfl (Nat.le_of_ble_eq_true rfl) ?_
        refine J_aload_n (pc := 90) C dX9_areAsPut_90 rfl ?_
        refine J_getR (pc := 91) C dX9_areAsPut_91 fg_X9_16 hF (fun r91 hF => ?_)
        refine J_bipush (pc := 94) C dX9_areAsPut_94 bc_24 ?_
        refine J_bipush (pc := 96) C dX9_areAsPut_96 bc_13 ?_
        refine J_iload_n (pc := 98) C dX9_areAsPut_98 rfl ?_
        refine J_imul (pc := 99) C dX9_areAsPut_99 ?_
        refine J_iadd (pc := 100) C dX9_areAsPut_100 ?_
        refine J_iconst (pc := 101) C dX9_areAsPut_101 ic_5 ?_
        refine J_iadd (pc := 102) C dX9_areAsPut_102 ?_
        refine J_iload_n (pc := 103) C dX9_areAsPut_103 rfl ?_
        refine J_iadd (pc := 104) C dX9_areAsPut_104 ?_
        refine J_iald (pc := 105) C dX9_areAsPut_105 hF (fun v105 hF => ?_)
        refine J_icmp_ne (pc := 106) (tgt := 113) C dX9_areAsPut_106 rfl hF (fun hF => ?_) (fun hF => ?_)
        · refine J_iconst (pc := 109) C dX9_areAsPut_109 ic_1 ?_
          refine J_goto (pc := 110) (tgt := 114) C dX9_areAsPut_110 rfl ?_
          refine J_istore_n (pc := 114) (lv' := [some (.ref a0), some (.int 1), some (.int x2), some (.int x3)]) C dX9_areAsPut_114 rfl ?_
          refine J_iinc (pc := 115) (lv' := [some (.ref a0), some (.int 1), some (.int x2), some (.int (x3 + 1))]) C dX9_areAsPut_115 rfl ic_1 rfl ?_
          refine J_goto (pc := 118) (tgt := 68) C dX9_areAsPut_118 rfl ?_
          exact ih a0 1 x2 (x3 + 1) hF
        · refine J_iconst (pc := 113) C dX9_areAsPut_113 ic_0 ?_
          refine J_istore_n (pc := 114) (lv' := [some (.ref a0), some (.int 0), some (.int x2), some (.int x3)]) C dX9_areAsPut_114 rfl ?_
          refine J_iinc (pc := 115) (lv' := [some (.ref a0), some (.int 0), some (.int x2), some (.int (x3 + 1))]) C dX9_areAsPut_115 rfl ic_1 rfl ?_
          refine J_goto (pc := 118) (tgt := 68) C dX9_areAsPut_118 rfl ?_
          exact ih a0 0 x2 (x3 + 1) hF
def fX9_areAsPut_23 (h : Hp) : Nat → Nat → Int32 → Int32 → Option Int32
  | 0, _, _, _ => none
  | n23 + 1, a0, x1, x2 =>
    (getR h 9 a0 0).bind fun r25 =>
    (rdI h r25 1).bind fun v29 =>
    if v29 ≤ x2 then
      (bz x1).bind fun b128 =>
      some b128
    else
      if x1 = 0 then
        (bz x1).bind fun b128 =>
        some b128
      else
        (fX9_its h a0 x2 4).bind fun q40 =>
        (getR h 9 a0 2).bind fun r44 =>
        (rdI h r44 ((24 + (13 * x2)) + 4)).bind fun v56 =>
        if q40 = v56 then
          fX9_areAsPut_68 (fX9_areAsPut_23 h n23) h 1000 a0 1 x2 0
        else
          fX9_areAsPut_68 (fX9_areAsPut_23 h n23) h 1000 a0 0 x2 0
set_option maxRecDepth 100000 in
theorem kX9_areAsPut_23 {X : Cx} {z : Int32} {h : Hp} (C : Jc X yX9_areAsPut cX9_areAsPut 4 (some .boolean) 1 0 0 (some (.int z), h)) : ∀ (n23 : Nat) (a0 : Nat) (x1 : Int32) (x2 : Int32), fX9_areAsPut_23 h n23 a0 x1 x2 = some z → J X 0 0 0 0 23 [some (.ref a0), some (.int x1), some (.int x2), none] [] h := by
  intro n23
  induction n23 with
  | zero => intro a0 x1 x2 hF; cases hF
  | succ n23 ih =>
    intro a0 x1 x2 hF
    rw [fX9_areAsPut_23] at hF
    refine J_iload_n (pc := 23) C dX9_areAsPut_23 rfl ?_
    refine J_aload_n (pc := 24) C dX9_areAsPut_24 rfl ?_
    refine J_getR (pc := 25) C dX9_areAsPut_25 fg_X9_7 hF (fun r25 hF => ?_)
    refine J_iconst (pc := 28) C dX9_areAsPut_28 ic_1 ?_
    refine J_iald (pc := 29) C dX9_areAsPut_29 hF (fun v29 hF => ?_)
    refine J_icmp_ge (pc := 30) (tgt := 127) C dX9_areAsPut_30 rfl hF (fun hF => ?_) (fun hF => ?_)
    · refine J_iload_n (pc := 127) C dX9_areAsPut_127 rfl ?_
      refine J_bz hF (fun b128 hnr hF => ?_)
      exact J_zretP (pc := 128) C dX9_areAsPut_128 hnr hF (by decide) (by decide)
    · refine J_iload_n (pc := 33) C dX9_areAsPut_33 rfl ?_
      refine J_if_eq (pc := 34) (tgt := 127) C dX9_areAsPut_34 rfl hF (fun hF => ?_) (fun hF => ?_)
      · refine J_iload_n (pc := 127) C dX9_areAsPut_127 rfl ?_
        refine J_bz hF (fun b128 hnr hF => ?_)
        exact J_zretP (pc := 128) C dX9_areAsPut_128 hnr hF (by decide) (by decide)
      · refine J_aload_n (pc := 37) C dX9_areAsPut_37 rfl ?_
        refine J_iload_n (pc := 38) C dX9_areAsPut_38 rfl ?_
        refine J_iconst (pc := 39) C dX9_areAsPut_39 ic_4 ?_
        refine J_bind hF (fun q40 hq hF => ?_)
        refine J_callV0_ip (pc := 40) (stk := [.int 4, .int x2, .ref a0]) (st := []) C dX9_areAsPut_40 yw_X9_its w_MLX9_123 in_X9_its sl_X9_its ⟨_, rfl, rfl⟩ (kX9_its hq) (gO_some hq).1 rfl (by decide) rfl (Nat.le_of_ble_eq_true rfl) ?_
        refine J_aload_n (pc := 43) C dX9_areAsPut_43 rfl ?_
        refine J_getR (pc := 44) C dX9_areAsPut_44 fg_X9_16 hF (fun r44 hF => ?_)
        refine J_bipush (pc := 47) C dX9_areAsPut_47 bc_24 ?_
        refine J_bipush (pc := 49) C dX9_areAsPut_49 bc_13 ?_
        refine J_iload_n (pc := 51) C dX9_areAsPut_51 rfl ?_
        refine J_imul (pc := 52) C dX9_areAsPut_52 ?_
        refine J_iadd (pc := 53) C dX9_areAsPut_53 ?_
        refine J_iconst (pc := 54) C dX9_areAsPut_54 ic_4 ?_
        refine J_iadd (pc := 55) C dX9_areAsPut_55 ?_
        refine J_iald (pc := 56) C dX9_areAsPut_56 hF (fun v56 hF => ?_)
        refine J_icmp_ne (pc := 57) (tgt := 64) C dX9_areAsPut_57 rfl hF (fun hF => ?_) (fun hF => ?_)
        · refine J_iconst (pc := 60) C dX9_areAsPut_60 ic_1 ?_
          refine J_goto (pc := 61) (tgt := 65) C dX9_areAsPut_61 rfl ?_
          refine J_istore_n (pc := 65) (lv' := [some (.ref a0), some (.int 1), some (.int x2), none]) C dX9_areAsPut_65 rfl ?_
          refine J_iconst (pc := 66) C dX9_areAsPut_66 ic_0 ?_
          refine J_istore_n (pc := 67) (lv' := [some (.ref a0), some (.int 1), some (.int x2), some (.int 0)]) C dX9_areAsPut_67 rfl ?_
          exact kX9_areAsPut_68 C ih 1000 a0 1 x2 0 hF
        · refine J_iconst (pc := 64) C dX9_areAsPut_64 ic_0 ?_
          refine J_istore_n (pc := 65) (lv' := [some (.ref a0), some (.int 0), some (.int x2), none]) C dX9_areAsPut_65 rfl ?_
          refine J_iconst (pc := 66) C dX9_areAsPut_66 ic_0 ?_
          refine J_istore_n (pc := 67) (lv' := [some (.ref a0), some (.int 0), some (.int x2), some (.int 0)]) C dX9_areAsPut_67 rfl ?_
          exact kX9_areAsPut_68 C ih 1000 a0 0 x2 0 hF
def fX9_areAsPut (h : Hp) (a0 : Nat) : Option Int32 := gO h 9 a0 (
  (getR h 9 a0 0).bind fun r1 =>
  (rdI h r1 1).bind fun v5 =>
  (getR h 9 a0 2).bind fun r7 =>
  (rdI h r7 1).bind fun v11 =>
  if v5 = v11 then
    fX9_areAsPut_23 h 1000 a0 1 0
  else
    fX9_areAsPut_23 h 1000 a0 0 0)
set_option maxRecDepth 100000 in
theorem kX9_areAsPut {h : Hp} {a0 : Nat} {z : Int32} (hF : fX9_areAsPut h a0 = some z) : Mc yX9_areAsPut cX9_areAsPut 4 (some .boolean) 1 0 0 [.ref a0] h (some (.int z), h) := by
  have hF := (gO_some hF).2
  refine Mc_of [some (.ref a0), none, none, none] plX9 rfl rfl (Nat.le_of_ble_eq_true rfl) (fun X C => ?_)
  refine J_aload_n (pc := 0) C dX9_areAsPut_0 rfl ?_
  refine J_getR (pc := 1) C dX9_areAsPut_1 fg_X9_7 hF (fun r1 hF => ?_)
  refine J_iconst (pc := 4) C dX9_areAsPut_4 ic_1 ?_
  refine J_iald (pc := 5) C dX9_areAsPut_5 hF (fun v5 hF => ?_)
  refine J_aload_n (pc := 6) C dX9_areAsPut_6 rfl ?_
  refine J_getR (pc := 7) C dX9_areAsPut_7 fg_X9_16 hF (fun r7 hF => ?_)
  refine J_iconst (pc := 10) C dX9_areAsPut_10 ic_1 ?_
  refine J_iald (pc := 11) C dX9_areAsPut_11 hF (fun v11 hF => ?_)
  refine J_icmp_ne (pc := 12) (tgt := 19) C dX9_areAsPut_12 rfl hF (fun hF => ?_) (fun hF => ?_)
  · refine J_iconst (pc := 15) C dX9_areAsPut_15 ic_1 ?_
    refine J_goto (pc := 16) (tgt := 20) C dX9_areAsPut_16 rfl ?_
    refine J_istore_n (pc := 20) (lv' := [some (.ref a0), some (.int 1), none, none]) C dX9_areAsPut_20 rfl ?_
    refine J_iconst (pc := 21) C dX9_areAsPut_21 ic_0 ?_
    refine J_istore_n (pc := 22) (lv' := [some (.ref a0), some (.int 1), some (.int 0), none]) C dX9_areAsPut_22 rfl ?_
    exact kX9_areAsPut_23 C 1000 a0 1 0 hF
  · refine J_iconst (pc := 19) C dX9_areAsPut_19 ic_0 ?_
    refine J_istore_n (pc := 20) (lv' := [some (.ref a0), some (.int 0), none, none]) C dX9_areAsPut_20 rfl ?_
    refine J_iconst (pc := 21) C dX9_areAsPut_21 ic_0 ?_
    refine J_istore_n (pc := 22) (lv' := [some (.ref a0), some (.int 0), some (.int 0), none]) C dX9_areAsPut_22 rfl ?_
    exact kX9_areAsPut_23 C 1000 a0 0 0 hF
def fX9_areTogether (h : Hp) (a0 : Nat) (x1 : Int32) (x2 : Int32) : Option Int32 := gO h 9 a0 (
  (fX9_its h a0 x1 2).bind fun q3 =>
  (fX9_of h a0 x2 0).bind fun q9 =>
  if q3 = q9 then
    some 1
  else
    some 0)
set_option maxRecDepth 100000 in
theorem kX9_areTogether {h : Hp} {a0 : Nat} {x1 : Int32} {x2 : Int32} {z : Int32} (hF : fX9_areTogether h a0 x1 x2 = some z) : Mc yX9_areTogether cX9_areTogether 3 (some .boolean) 1 0 0 [.ref a0, .int x1, .int x2] h (some (.int z), h) := by
  have hF := (gO_some hF).2
  refine Mc_of [some (.ref a0), some (.int x1), some (.int x2)] plX9 rfl rfl (Nat.le_of_ble_eq_true rfl) (fun X C => ?_)
  refine J_aload_n (pc := 0) C dX9_areTogether_0 rfl ?_
  refine J_iload_n (pc := 1) C dX9_areTogether_1 rfl ?_
  refine J_iconst (pc := 2) C dX9_areTogether_2 ic_2 ?_
  refine J_bind hF (fun q3 hq hF => ?_)
  refine J_callV0_ip (pc := 3) (stk := [.int 2, .int x1, .ref a0]) (st := []) C dX9_areTogether_3 yw_X9_its w_MLX9_123 in_X9_its sl_X9_its ⟨_, rfl, rfl⟩ (kX9_its hq) (gO_some hq).1 rfl (by decide) rfl (Nat.le_of_ble_eq_true rfl) ?_
  refine J_aload_n (pc := 6) C dX9_areTogether_6 rfl ?_
  refine J_iload_n (pc := 7) C dX9_areTogether_7 rfl ?_
  refine J_iconst (pc := 8) C dX9_areTogether_8 ic_0 ?_
  refine J_bind hF (fun q9 hq hF => ?_)
  refine J_callV0_ip (pc := 9) (stk := [.int 0, .int x2, .ref a0, .int q3]) (st := [.int q3]) C dX9_areTogether_9 yw_X9_of w_MLX9_162 in_X9_of sl_X9_of ⟨_, rfl, rfl⟩ (kX9_of hq) (gO_some hq).1 rfl (by decide) rfl (Nat.le_of_ble_eq_true rfl) ?_
  refine J_icmp_ne (pc := 12) (tgt := 19) C dX9_areTogether_12 rfl hF (fun hF => ?_) (fun hF => ?_)
  · refine J_iconst (pc := 15) C dX9_areTogether_15 ic_1 ?_
    refine J_goto (pc := 16) (tgt := 20) C dX9_areTogether_16 rfl ?_
    exact J_zretP (pc := 20) C dX9_areTogether_20 rfl hF (by decide) (by decide)
  · refine J_iconst (pc := 19) C dX9_areTogether_19 ic_0 ?_
    exact J_zretP (pc := 20) C dX9_areTogether_20 rfl hF (by decide) (by decide)
def fX9_isUnder_19 (x0 : Int32) (x1 : Int32) : Option Int32 :=
  if x1 = 2 then
    if x0 = 5 then
      some 1
    else
      some 0
  else
    some 0
set_option maxRecDepth 100000 in
theorem kX9_isUnder_19 {X : Cx} {z : Int32} {h : Hp} (C : Jc X yX9_isUnder cX9_isUnder 2 (some .boolean) 0 0 0 (some (.int z), h)) (x0 : Int32) (x1 : Int32) (hF : fX9_isUnder_19 x0 x1 = some z) : J X 0 0 0 0 19 [some (.int x0), some (.int x1)] [] h := by
  unfold fX9_isUnder_19 at hF
  refine J_iload_n (pc := 19) C dX9_isUnder_19 rfl ?_
  refine J_iconst (pc := 20) C dX9_isUnder_20 ic_2 ?_
  refine J_icmp_ne (pc := 21) (tgt := 33) C dX9_isUnder_21 rfl hF (fun hF => ?_) (fun hF => ?_)
  · refine J_iload_n (pc := 24) C dX9_isUnder_24 rfl ?_
    refine J_iconst (pc := 25) C dX9_isUnder_25 ic_5 ?_
    refine J_icmp_ne (pc := 26) (tgt := 33) C dX9_isUnder_26 rfl hF (fun hF => ?_) (fun hF => ?_)
    · refine J_iconst (pc := 29) C dX9_isUnder_29 ic_1 ?_
      refine J_goto (pc := 30) (tgt := 34) C dX9_isUnder_30 rfl ?_
      exact J_zretP (pc := 34) C dX9_isUnder_34 rfl hF (by decide) (by decide)
    · refine J_iconst (pc := 33) C dX9_isUnder_33 ic_0 ?_
      exact J_zretP (pc := 34) C dX9_isUnder_34 rfl hF (by decide) (by decide)
  · refine J_iconst (pc := 33) C dX9_isUnder_33 ic_0 ?_
    exact J_zretP (pc := 34) C dX9_isUnder_34 rfl hF (by decide) (by decide)
def fX9_isUnder (x0 : Int32) (x1 : Int32) : Option Int32 :=
  if x1 = 0 then
    some 1
  else
    if x0 = x1 then
      some 1
    else
      if x1 = 1 then
        if x0 = 4 then
          some 1
        else
          fX9_isUnder_19 x0 x1
      else
        fX9_isUnder_19 x0 x1
set_option maxRecDepth 100000 in
theorem kX9_isUnder {h : Hp} {x0 : Int32} {x1 : Int32} {z : Int32} (hF : fX9_isUnder x0 x1 = some z) : Mc yX9_isUnder cX9_isUnder 2 (some .boolean) 0 0 0 [.int x0, .int x1] h (some (.int z), h) := by
  unfold fX9_isUnder at hF
  refine Mc_of [some (.int x0), some (.int x1)] plX9 rfl rfl (Nat.le_of_ble_eq_true rfl) (fun X C => ?_)
  refine J_iload_n (pc := 0) C dX9_isUnder_0 rfl ?_
  refine J_if_eq (pc := 1) (tgt := 29) C dX9_isUnder_1 rfl hF (fun hF => ?_) (fun hF => ?_)
  · refine J_iconst (pc := 29) C dX9_isUnder_29 ic_1 ?_
    refine J_goto (pc := 30) (tgt := 34) C dX9_isUnder_30 rfl ?_
    exact J_zretP (pc := 34) C dX9_isUnder_34 rfl hF (by decide) (by decide)
  · refine J_iload_n (pc := 4) C dX9_isUnder_4 rfl ?_
    refine J_iload_n (pc := 5) C dX9_isUnder_5 rfl ?_
    refine J_icmp_eq (pc := 6) (tgt := 29) C dX9_isUnder_6 rfl hF (fun hF => ?_) (fun hF => ?_)
    · refine J_iconst (pc := 29) C dX9_isUnder_29 ic_1 ?_
      refine J_goto (pc := 30) (tgt := 34) C dX9_isUnder_30 rfl ?_
      exact J_zretP (pc := 34) C dX9_isUnder_34 rfl hF (by decide) (by decide)
    · refine J_iload_n (pc := 9) C dX9_isUnder_9 rfl ?_
      refine J_iconst (pc := 10) C dX9_isUnder_10 ic_1 ?_
      refine J_icmp_ne (pc := 11) (tgt := 19) C dX9_isUnder_11 rfl hF (fun hF => ?_) (fun hF => ?_)
      · refine J_iload_n (pc := 14) C dX9_isUnder_14 rfl ?_
        refine J_iconst (pc := 15) C dX9_isUnder_15 ic_4 ?_
        refine J_icmp_eq (pc := 16) (tgt := 29) C dX9_isUnder_16 rfl hF (fun hF => ?_) (fun hF => ?_)
        · refine J_iconst (pc := 29) C dX9_isUnder_29 ic_1 ?_
          refine J_goto (pc := 30) (tgt := 34) C dX9_isUnder_30 rfl ?_
          exact J_zretP (pc := 34) C dX9_isUnder_34 rfl hF (by decide) (by decide)
        · exact kX9_isUnder_19 C x0 x1 hF
      · exact kX9_isUnder_19 C x0 x1 hF
def fX9_as (h : Hp) (a0 : Nat) (x1 : Int32) (x2 : Int32) : Option (Int32 × Hp) := gO h 9 a0 (
  (fX9_isMan h a0 x1).bind fun q2 =>
  if q2 = 0 then
    (fX9_error h a0 1).bind fun q20 =>
    some (q20.1, q20.2)
  else
    (fX9_in x2 0 6).bind fun q12 =>
    if q12 = 0 then
      (fX9_error h a0 1).bind fun q20 =>
      some (q20.1, q20.2)
    else
      (fX9_its h a0 x1 0).bind fun q27 =>
      (fX9_isUnder q27 x2).bind fun q31 =>
      if q31 = 0 then
        (fX9_error h a0 5).bind fun q48 =>
        some (q48.1, q48.2)
      else
        (fX9_its h a0 x1 3).bind fun q40 =>
        some (q40, h))
set_option maxRecDepth 100000 in
theorem kX9_as {h : Hp} {a0 : Nat} {x1 : Int32} {x2 : Int32} {z : (Int32 × Hp)} (hF : fX9_as h a0 x1 x2 = some z) : Mc yX9_as cX9_as 3 (some .int) 2 0 0 [.ref a0, .int x1, .int x2] h (some (.int z.1), z.2) := by
  have hF := (gO_some hF).2
  refine Mc_of [some (.ref a0), some (.int x1), some (.int x2)] plX9 rfl rfl (Nat.le_of_ble_eq_true rfl) (fun X C => ?_)
  refine J_aload_n (pc := 0) C dX9_as_0 rfl ?_
  refine J_iload_n (pc := 1) C dX9_as_1 rfl ?_
  refine J_bind hF (fun q2 hq hF => ?_)
  refine J_callV0_ip (pc := 2) (stk := [.int x1, .ref a0]) (st := []) C dX9_as_2 yw_X9_isMan w_MLX9_168 in_X9_isMan sl_X9_isMan ⟨_, rfl, rfl⟩ (kX9_isMan hq) (gO_some hq).1 rfl (by decide) rfl (Nat.le_of_ble_eq_true rfl) ?_
  refine J_if_eq (pc := 5) (tgt := 18) C dX9_as_5 rfl hF (fun hF => ?_) (fun hF => ?_)
  · refine J_aload_n (pc := 18) C dX9_as_18 rfl ?_
    refine J_iconst (pc := 19) C dX9_as_19 ic_1 ?_
    refine J_bind hF (fun q20 hq hF => ?_)
    refine J_callV0_i (pc := 20) (stk := [.int 1, .ref a0]) (st := []) C dX9_as_20 yw_X9_error w_MLX9_63 in_X9_error sl_X9_error ⟨_, rfl, rfl⟩ (kX9_error hq) (gO_some hq).1 rfl (by decide) rfl (Nat.le_of_ble_eq_true rfl) ?_
    exact J_iret (pc := 23) C dX9_as_23 hF (by decide) (by decide)
  · refine J_iload_n (pc := 8) C dX9_as_8 rfl ?_
    refine J_iconst (pc := 9) C dX9_as_9 ic_0 ?_
    refine J_bipush (pc := 10) C dX9_as_10 bc_6 ?_
    refine J_bind hF (fun q12 hq hF => ?_)
    refine J_callS0_ip (pc := 12) (stk := [.int 6, .int 0, .int x2]) (st := []) C dX9_as_12 yw_X9_in w_MLX9_59 st_X9_in (kX9_in hq) rfl (by decide) rfl (Nat.le_of_ble_eq_true rfl) ?_
    refine J_if_ne (pc := 15) (tgt := 24) C dX9_as_15 rfl hF (fun hF => ?_) (fun hF => ?_)
    · refine J_aload_n (pc := 18) C dX9_as_18 rfl ?_
      refine J_iconst (pc := 19) C dX9_as_19 ic_1 ?_
      refine J_bind hF (fun q20 hq hF => ?_)
      refine J_callV0_i (pc := 20) (stk := [.int 1, .ref a0]) (st := []) C dX9_as_20 yw_X9_error w_MLX9_63 in_X9_error sl_X9_error ⟨_, rfl, rfl⟩ (kX9_error hq) (gO_some hq).1 rfl (by decide) rfl (Nat.le_of_ble_eq_true rfl) ?_
      exact J_iret (pc := 23) C dX9_as_23 hF (by decide) (by decide)
    · refine J_aload_n (pc := 24) C dX9_as_24 rfl ?_
      refine J_iload_n (pc := 25) C dX9_as_25 rfl ?_
      refine J_iconst (pc := 26) C dX9_as_26 ic_0 ?_
      refine J_bind hF (fun q27 hq hF => ?_)
      refine J_callV0_ip (pc := 27) (stk := [.int 0, .int x1, .ref a0]) (st := []) C dX9_as_27 yw_X9_its w_MLX9_123 in_X9_its sl_X9_its ⟨_, rfl, rfl⟩ (kX9_its hq) (gO_some hq).1 rfl (by decide) rfl (Nat.le_of_ble_eq_true rfl) ?_
      refine J_iload_n (pc := 30) C dX9_as_30 rfl ?_
      refine J_bind hF (fun q31 hq hF => ?_)
      refine J_callS0_ip (pc := 31) (stk := [.int x2, .int q27]) (st := []) C dX9_as_31 yw_X9_isUnder w_MLX9_174 st_X9_isUnder (kX9_isUnder hq) rfl (by decide) rfl (Nat.le_of_ble_eq_true rfl) ?_
      refine J_if_eq (pc := 34) (tgt := 46) C dX9_as_34 rfl hF (fun hF => ?_) (fun hF => ?_)
      · refine J_aload_n (pc := 46) C dX9_as_46 rfl ?_
        refine J_iconst (pc := 47) C dX9_as_47 ic_5 ?_
        refine J_bind hF (fun q48 hq hF => ?_)
        refine J_callV0_i (pc := 48) (stk := [.int 5, .ref a0]) (st := []) C dX9_as_48 yw_X9_error w_MLX9_63 in_X9_error sl_X9_error ⟨_, rfl, rfl⟩ (kX9_error hq) (gO_some hq).1 rfl (by decide) rfl (Nat.le_of_ble_eq_true rfl) ?_
        exact J_iret (pc := 51) C dX9_as_51 hF (by decide) (by decide)
      · refine J_aload_n (pc := 37) C dX9_as_37 rfl ?_
        refine J_iload_n (pc := 38) C dX9_as_38 rfl ?_
        refine J_iconst (pc := 39) C dX9_as_39 ic_3 ?_
        refine J_bind hF (fun q40 hq hF => ?_)
        refine J_callV0_ip (pc := 40) (stk := [.int 3, .int x1, .ref a0]) (st := []) C dX9_as_40 yw_X9_its w_MLX9_123 in_X9_its sl_X9_its ⟨_, rfl, rfl⟩ (kX9_its hq) (gO_some hq).1 rfl (by decide) rfl (Nat.le_of_ble_eq_true rfl) ?_
        refine J_goto (pc := 43) (tgt := 51) C dX9_as_43 rfl ?_
        exact J_iret (pc := 51) C dX9_as_51 hF (by decide) (by decide)
def fX9_begins (h : Hp) (a0 : Nat) (x1 : Int32) : Option Hp := gO h 9 a0 (
  (getI h 9 a0 20).bind fun v1 =>
  if (30 : Int32) ≤ v1 then
    some h
  else
    (getR h 9 a0 19).bind fun r10 =>
    (getI h 9 a0 20).bind fun v14 =>
    (wrI h r10 v14 x1).bind fun h18 =>
    (getI h18 9 a0 20).bind fun v21 =>
    (putV h18 9 a0 20 (.int (v21 + 1))).bind fun h26 =>
    some h26)
set_option maxRecDepth 100000 in
theorem kX9_begins {h : Hp} {a0 : Nat} {x1 : Int32} {z : Hp} (hF : fX9_begins h a0 x1 = some z) : Mc yX9_begins cX9_begins 2 none 0 0 0 [.ref a0, .int x1] h (none, z) := by
  have hF := (gO_some hF).2
  refine Mc_of [some (.ref a0), some (.int x1)] plX9 rfl rfl (Nat.le_of_ble_eq_true rfl) (fun X C => ?_)
  refine J_aload_n (pc := 0) C dX9_begins_0 rfl ?_
  refine J_getI (pc := 1) C dX9_begins_1 fg_X9_246 hF (fun v1 hF => ?_)
  refine J_bipush (pc := 4) C dX9_begins_4 bc_30 ?_
  refine J_icmp_ge (pc := 6) (tgt := 29) C dX9_begins_6 rfl hF (fun hF => ?_) (fun hF => ?_)
  · exact J_vret (pc := 29) C dX9_begins_29 hF (by decide) (by decide)
  · refine J_aload_n (pc := 9) C dX9_begins_9 rfl ?_
    refine J_getR (pc := 10) C dX9_begins_10 fg_X9_43 hF (fun r10 hF => ?_)
    refine J_aload_n (pc := 13) C dX9_begins_13 rfl ?_
    refine J_getI (pc := 14) C dX9_begins_14 fg_X9_246 hF (fun v14 hF => ?_)
    refine J_iload_n (pc := 17) C dX9_begins_17 rfl ?_
    refine J_iast (pc := 18) C dX9_begins_18 hF (fun h18 hF => ?_)
    refine J_aload_n (pc := 19) C dX9_begins_19 rfl ?_
    refine J_dup (pc := 20) C dX9_begins_20 rfl ?_
    refine J_getI (pc := 21) C dX9_begins_21 fg_X9_246 hF (fun v21 hF => ?_)
    refine J_iconst (pc := 24) C dX9_begins_24 ic_1 ?_
    refine J_iadd (pc := 25) C dX9_begins_25 ?_
    refine J_put (pc := 26) C dX9_begins_26 (fp_X9_246 _) hF rfl rfl (fun h26 hF => ?_)
    exact J_vret (pc := 29) C dX9_begins_29 hF (by decide) (by decide)
def fX9_kindNow (h : Hp) (a0 : Nat) : Option Int32 := gO h 9 a0 (
  (getI h 9 a0 21).bind fun v2 =>
  (fX9_its h a0 v2 0).bind fun q6 =>
  some q6)
set_option maxRecDepth 100000 in
theorem kX9_kindNow {h : Hp} {a0 : Nat} {z : Int32} (hF : fX9_kindNow h a0 = some z) : Mc yX9_kindNow cX9_kindNow 1 (some .int) 1 0 0 [.ref a0] h (some (.int z), h) := by
  have hF := (gO_some hF).2
  refine Mc_of [some (.ref a0)] plX9 rfl rfl (Nat.le_of_ble_eq_true rfl) (fun X C => ?_)
  refine J_aload_n (pc := 0) C dX9_kindNow_0 rfl ?_
  refine J_aload_n (pc := 1) C dX9_kindNow_1 rfl ?_
  refine J_getI (pc := 2) C dX9_kindNow_2 fg_X9_249 hF (fun v2 hF => ?_)
  refine J_iconst (pc := 5) C dX9_kindNow_5 ic_0 ?_
  refine J_bind hF (fun q6 hq hF => ?_)
  refine J_callV0_ip (pc := 6) (stk := [.int 0, .int v2, .ref a0]) (st := []) C dX9_kindNow_6 yw_X9_its w_MLX9_123 in_X9_its sl_X9_its ⟨_, rfl, rfl⟩ (kX9_its hq) (gO_some hq).1 rfl (by decide) rfl (Nat.le_of_ble_eq_true rfl) ?_
  exact J_iretP (pc := 9) C dX9_kindNow_9 hF (by decide) (by decide)
def fX9_mNow (h : Hp) (a0 : Nat) : Option Int32 := gO h 9 a0 (
  (getI h 9 a0 21).bind fun v2 =>
  (fX9_its h a0 v2 1).bind fun q6 =>
  some q6)
set_option maxRecDepth 100000 in
theorem kX9_mNow {h : Hp} {a0 : Nat} {z : Int32} (hF : fX9_mNow h a0 = some z) : Mc yX9_mNow cX9_mNow 1 (some .int) 1 0 0 [.ref a0] h (some (.int z), h) := by
  have hF := (gO_some hF).2
  refine Mc_of [some (.ref a0)] plX9 rfl rfl (Nat.le_of_ble_eq_true rfl) (fun X C => ?_)
  refine J_aload_n (pc := 0) C dX9_mNow_0 rfl ?_
  refine J_aload_n (pc := 1) C dX9_mNow_1 rfl ?_
  refine J_getI (pc := 2) C dX9_mNow_2 fg_X9_249 hF (fun v2 hF => ?_)
  refine J_iconst (pc := 5) C dX9_mNow_5 ic_1 ?_
  refine J_bind hF (fun q6 hq hF => ?_)
  refine J_callV0_ip (pc := 6) (stk := [.int 1, .int v2, .ref a0]) (st := []) C dX9_mNow_6 yw_X9_its w_MLX9_123 in_X9_its sl_X9_its ⟨_, rfl, rfl⟩ (kX9_its hq) (gO_some hq).1 rfl (by decide) rfl (Nat.le_of_ble_eq_true rfl) ?_
  exact J_iretP (pc := 9) C dX9_mNow_9 hF (by decide) (by decide)
def bX9_rowsAs (oX9_rowsAs : Hp → Nat → Int32 → Int32 → Option (Int32 × Hp)) (h : Hp) (a0 : Nat) (x1 : Int32) (x2 : Int32) : Option (Int32 × Hp) :=
  if x1 = 0 then
    (fX9_begins h a0 10).bind fun q47 =>
    (getI q47 9 a0 21).bind fun v52 =>
    some (x2 + v52, q47)
  else
    if x1 = 1 then
      (fX9_begins h a0 20).bind fun q60 =>
      (fX9_above 1).bind fun q65 =>
      (gO q60 9 a0 (oX9_rowsAs q60 a0 q65 x2)).bind fun q69 =>
      some (q69.1 - 5, q69.2)
    else
      if x1 = 4 then
        (fX9_begins h a0 50).bind fun q78 =>
        (fX9_above 4).bind fun q83 =>
        (gO q78 9 a0 (oX9_rowsAs q78 a0 q83 x2)).bind fun q87 =>
        some (q87.1 * 3, q87.2)
      else
        if x1 = 6 then
          (fX9_begins h a0 70).bind fun q96 =>
          some (3, q96)
        else
          (fX9_above x1).bind fun q103 =>
          (gO h 9 a0 (oX9_rowsAs h a0 q103 x2)).bind fun q107 =>
          some (q107.1, q107.2)
set_option maxRecDepth 100000 in
theorem bkX9_rowsAs {n : Nat} {oX9_rowsAs : Hp → Nat → Int32 → Int32 → Option (Int32 × Hp)} (hO : (∀ (h : Hp) (a0 : Nat) (x1 : Int32) (x2 : Int32) (z : (Int32 × Hp)), oX9_rowsAs h a0 x1 x2 = some z → Mc yX9_rowsAs cX9_rowsAs 3 (some .int) (n + 1) 0 0 [.ref a0, .int x1, .int x2] h (some (.int z.1), z.2))) {h : Hp} {a0 : Nat} {x1 : Int32} {x2 : Int32} {z : (Int32 × Hp)} (hF : bX9_rowsAs oX9_rowsAs h a0 x1 x2 = some z) : Mc yX9_rowsAs cX9_rowsAs 3 (some .int) (n + 1 + 1) 0 0 [.ref a0, .int x1, .int x2] h (some (.int z.1), z.2) := by
  unfold bX9_rowsAs at hF
  refine Mc_of [some (.ref a0), some (.int x1), some (.int x2)] plX9 rfl rfl (Nat.le_of_ble_eq_true rfl) (fun X C => ?_)
  refine J_iload_n (pc := 0) C dX9_rowsAs_0 rfl ?_
  refine J_br hF (fun hc1_0 hF => ?_) (fun hc1_0 hF => ?_)
  · refine J_tsIn (pc := 1) (tgt := 44) C 0 hc1_0 dX9_rowsAs_1 (by decide) (by decide) rfl rfl ?_
    refine J_aload_n (pc := 44) C dX9_rowsAs_44 rfl ?_
    refine J_bipush (pc := 45) C dX9_rowsAs_45 bc_10 ?_
    refine J_bind hF (fun q47 hq hF => ?_)
    refine J_callV0_v (pc := 47) (stk := [.int 10, .ref a0]) (st := []) C dX9_rowsAs_47 yw_X9_begins w_MLX9_252 in_X9_begins sl_X9_begins ⟨_, rfl, rfl⟩ (kX9_begins hq) (gO_some hq).1 rfl (by omega) rfl (Nat.le_of_ble_eq_true rfl) ?_
    refine J_iload_n (pc := 50) C dX9_rowsAs_50 rfl ?_
    refine J_aload_n (pc := 51) C dX9_rowsAs_51 rfl ?_
    refine J_getI (pc := 52) C dX9_rowsAs_52 fg_X9_249 hF (fun v52 hF => ?_)
    refine J_iadd (pc := 55) C dX9_rowsAs_55 ?_
    exact J_iret (pc := 56) C dX9_rowsAs_56 hF (by decide) (by decide)
  · refine J_br hF (fun hc1_1 hF => ?_) (fun hc1_1 hF => ?_)
    · refine J_tsIn (pc := 1) (tgt := 57) C 1 hc1_1 dX9_rowsAs_1 (by decide) (by decide) rfl rfl ?_
      refine J_aload_n (pc := 57) C dX9_rowsAs_57 rfl ?_
      refine J_bipush (pc := 58) C dX9_rowsAs_58 bc_20 ?_
      refine J_bind hF (fun q60 hq hF => ?_)
      refine J_callV0_v (pc := 60) (stk := [.int 20, .ref a0]) (st := []) C dX9_rowsAs_60 yw_X9_begins w_MLX9_252 in_X9_begins sl_X9_begins ⟨_, rfl, rfl⟩ (kX9_begins hq) (gO_some hq).1 rfl (by omega) rfl (Nat.le_of_ble_eq_true rfl) ?_
      refine J_aload_n (pc := 63) C dX9_rowsAs_63 rfl ?_
      refine J_iconst (pc := 64) C dX9_rowsAs_64 ic_1 ?_
      refine J_bind hF (fun q65 hq hF => ?_)
      refine J_callS0_ip (pc := 65) (stk := [.int 1, .ref a0]) (st := [.ref a0]) C dX9_rowsAs_65 yw_X9_above w_MLX9_255 st_X9_above (kX9_above hq) rfl (by omega) rfl (Nat.le_of_ble_eq_true rfl) ?_
      refine J_iload_n (pc := 68) C dX9_rowsAs_68 rfl ?_
      refine J_bind hF (fun q69 hq hF => ?_)
      have hq := gO_some hq
      refine J_callV0_i (pc := 69) (stk := [.int x2, .int q65, .ref a0]) (st := []) C dX9_rowsAs_69 yw_X9_rowsAs w_MLX9_258 in_X9_rowsAs sl_X9_rowsAs ⟨_, rfl, rfl⟩ (hO _ _ _ _ _ hq.2) hq.1 rfl (by omega) rfl (Nat.le_of_ble_eq_true rfl) ?_
      refine J_iconst (pc := 72) C dX9_rowsAs_72 ic_5 ?_
      refine J_isub (pc := 73) C dX9_rowsAs_73 ?_
      exact J_iret (pc := 74) C dX9_rowsAs_74 hF (by decide) (by decide)
    · refine J_br hF (fun hc1_4 hF => ?_) (fun hc1_4 hF => ?_)
      · refine J_tsIn (pc := 1) (tgt := 75) C 4 hc1_4 dX9_rowsAs_1 (by decide) (by decide) rfl rfl ?_
        refine J_aload_n (pc := 75) C dX9_rowsAs_75 rfl ?_
        refine J_bipush (pc := 76) C dX9_rowsAs_76 bc_50 ?_
        refine J_bind hF (fun q78 hq hF => ?_)
        refine J_callV0_v (pc := 78) (stk := [.int 50, .ref a0]) (st := []) C dX9_rowsAs_78 yw_X9_begins w_MLX9_252 in_X9_begins sl_X9_begins ⟨_, rfl, rfl⟩ (kX9_begins hq) (gO_some hq).1 rfl (by omega) rfl (Nat.le_of_ble_eq_true rfl) ?_
        refine J_aload_n (pc := 81) C dX9_rowsAs_81 rfl ?_
        refine J_iconst (pc := 82) C dX9_rowsAs_82 ic_4 ?_
        refine J_bind hF (fun q83 hq hF => ?_)
        refine J_callS0_ip (pc := 83) (stk := [.int 4, .ref a0]) (st := [.ref a0]) C dX9_rowsAs_83 yw_X9_above w_MLX9_255 st_X9_above (kX9_above hq) rfl (by omega) rfl (Nat.le_of_ble_eq_true rfl) ?_
        refine J_iload_n (pc := 86) C dX9_rowsAs_86 rfl ?_
        refine J_bind hF (fun q87 hq hF => ?_)
        have hq := gO_some hq
        refine J_callV0_i (pc := 87) (stk := [.int x2, .int q83, .ref a0]) (st := []) C dX9_rowsAs_87 yw_X9_rowsAs w_MLX9_258 in_X9_rowsAs sl_X9_rowsAs ⟨_, rfl, rfl⟩ (hO _ _ _ _ _ hq.2) hq.1 rfl (by omega) rfl (Nat.le_of_ble_eq_true rfl) ?_
        refine J_iconst (pc := 90) C dX9_rowsAs_90 ic_3 ?_
        refine J_imul (pc := 91) C dX9_rowsAs_91 ?_
        exact J_iret (pc := 92) C dX9_rowsAs_92 hF (by decide) (by decide)
      · refine J_br hF (fun hc1_6 hF => ?_) (fun hc1_6 hF => ?_)
        · refine J_tsIn (pc := 1) (tgt := 93) C 6 hc1_6 dX9_rowsAs_1 (by decide) (by decide) rfl rfl ?_
          refine J_aload_n (pc := 93) C dX9_rowsAs_93 rfl ?_
          refine J_bipush (pc := 94) C dX9_rowsAs_94 bc_70 ?_
          refine J_bind hF (fun q96 hq hF => ?_)
          refine J_callV0_v (pc := 96) (stk := [.int 70, .ref a0]) (st := []) C dX9_rowsAs_96 yw_X9_begins w_MLX9_252 in_X9_begins sl_X9_begins ⟨_, rfl, rfl⟩ (kX9_begins hq) (gO_some hq).1 rfl (by omega) rfl (Nat.le_of_ble_eq_true rfl) ?_
          refine J_iconst (pc := 99) C dX9_rowsAs_99 ic_3 ?_
          exact J_iret (pc := 100) C dX9_rowsAs_100 hF (by decide) (by decide)
        · have hD : J X 0 0 0 0 101 [some (.ref a0), some (.int x1), some (.int x2)] [] h := by
            refine J_aload_n (pc := 101) C dX9_rowsAs_101 rfl ?_
            refine J_iload_n (pc := 102) C dX9_rowsAs_102 rfl ?_
            refine J_bind hF (fun q103 hq hF => ?_)
            refine J_callS0_ip (pc := 103) (stk := [.int x1, .ref a0]) (st := [.ref a0]) C dX9_rowsAs_103 yw_X9_above w_MLX9_255 st_X9_above (kX9_above hq) rfl (by omega) rfl (Nat.le_of_ble_eq_true rfl) ?_
            refine J_iload_n (pc := 106) C dX9_rowsAs_106 rfl ?_
            refine J_bind hF (fun q107 hq hF => ?_)
            have hq := gO_some hq
            refine J_callV0_i (pc := 107) (stk := [.int x2, .int q103, .ref a0]) (st := []) C dX9_rowsAs_107 yw_X9_rowsAs w_MLX9_258 in_X9_rowsAs sl_X9_rowsAs ⟨_, rfl, rfl⟩ (hO _ _ _ _ _ hq.2) hq.1 rfl (by omega) rfl (Nat.le_of_ble_eq_true rfl) ?_
            exact J_iret (pc := 110) C dX9_rowsAs_110 hF (by decide) (by decide)
          by_cases hh1_2 : x1 = 2
          · exact J_tsIn (pc := 1) (tgt := 101) C 2 hh1_2 dX9_rowsAs_1 (by decide) (by decide) rfl rfl hD
          by_cases hh1_3 : x1 = 3
          · exact J_tsIn (pc := 1) (tgt := 101) C 3 hh1_3 dX9_rowsAs_1 (by decide) (by decide) rfl rfl hD
          by_cases hh1_5 : x1 = 5
          · exact J_tsIn (pc := 1) (tgt := 101) C 5 hh1_5 dX9_rowsAs_1 (by decide) (by decide) rfl rfl hD
          refine J_tsOut (pc := 1) (tgt := 101) C dX9_rowsAs_1 (by have z0 := lv_neT hc1_0 (a := 0) rfl; have z1 := lv_neT hc1_1 (a := 1) rfl; have z2 := lv_neT hc1_4 (a := 4) rfl; have z3 := lv_neT hc1_6 (a := 6) rfl; have z4 := lv_neT hh1_2 (a := 2) rfl; have z5 := lv_neT hh1_3 (a := 3) rfl; have z6 := lv_neT hh1_5 (a := 5) rfl; omega) rfl hD
def gX9_rowsAs : Nat → Hp → Nat → Int32 → Int32 → Option (Int32 × Hp)
  | 0, _, _, _, _ => none
  | n + 1, h, a0, x1, x2 => bX9_rowsAs (gX9_rowsAs n) h a0 x1 x2
theorem gkX9_rowsAs : ∀ n : Nat, (∀ (h : Hp) (a0 : Nat) (x1 : Int32) (x2 : Int32) (z : (Int32 × Hp)), gX9_rowsAs n h a0 x1 x2 = some z → Mc yX9_rowsAs cX9_rowsAs 3 (some .int) (n + 1) 0 0 [.ref a0, .int x1, .int x2] h (some (.int z.1), z.2)) := by
  intro n
  induction n with
  | zero => intro h a0 x1 x2 z hF; cases hF
  | succ n ih => intro h a0 x1 x2 z hF; exact bkX9_rowsAs (n := n) ih hF
def fX9_rowsAs (h : Hp) (a0 : Nat) (x1 : Int32) (x2 : Int32) : Option (Int32 × Hp) := gO h 9 a0 (gX9_rowsAs 8 h a0 x1 x2)
theorem kX9_rowsAs {h : Hp} {a0 : Nat} {x1 : Int32} {x2 : Int32} {z : (Int32 × Hp)} (hF : fX9_rowsAs h a0 x1 x2 = some z) : Mc yX9_rowsAs cX9_rowsAs 3 (some .int) 9 0 0 [.ref a0, .int x1, .int x2] h (some (.int z.1), z.2) := (gkX9_rowsAs 8) h a0 x1 x2 _ (gO_some hF).2
def bX9_keepsAs (oX9_keepsAs : Hp → Nat → Int32 → Int32 → Option (Int32 × Hp)) (h : Hp) (a0 : Nat) (x1 : Int32) (x2 : Int32) : Option (Int32 × Hp) :=
  if x1 = 0 then
    (fX9_begins h a0 11).bind fun q47 =>
    (fX9_kindNow q47 a0).bind fun q52 =>
    (fX9_rowsAs q47 a0 q52 x2).bind fun q56 =>
    some (q56.1 * 2, q56.2)
  else
    if x1 = 2 then
      (fX9_begins h a0 30).bind fun q65 =>
      (fX9_above 2).bind fun q71 =>
      (gO q65 9 a0 (oX9_keepsAs q65 a0 q71 x2)).bind fun q75 =>
      some (0 - q75.1, q75.2)
    else
      if x1 = 5 then
        (fX9_begins h a0 60).bind fun q83 =>
        (fX9_above 5).bind fun q88 =>
        (gO q83 9 a0 (oX9_keepsAs q83 a0 q88 (x2 + 1))).bind fun q94 =>
        some (q94.1, q94.2)
      else
        if x1 = 6 then
          (fX9_begins h a0 71).bind fun q101 =>
          (fX9_above 6).bind fun q107 =>
          (gO q101 9 a0 (oX9_keepsAs q101 a0 q107 x2)).bind fun q111 =>
          (fX9_mNow q111.2 a0).bind fun q115 =>
          some (q111.1 + q115, q111.2)
        else
          (fX9_above x1).bind fun q122 =>
          (gO h 9 a0 (oX9_keepsAs h a0 q122 x2)).bind fun q126 =>
          some (q126.1, q126.2)
set_option maxRecDepth 100000 in
theorem bkX9_keepsAs {n : Nat} {oX9_keepsAs : Hp → Nat → Int32 → Int32 → Option (Int32 × Hp)} (hO : (∀ (h : Hp) (a0 : Nat) (x1 : Int32) (x2 : Int32) (z : (Int32 × Hp)), oX9_keepsAs h a0 x1 x2 = some z → Mc yX9_keepsAs cX9_keepsAs 3 (some .int) (n + 10) 0 0 [.ref a0, .int x1, .int x2] h (some (.int z.1), z.2))) {h : Hp} {a0 : Nat} {x1 : Int32} {x2 : Int32} {z : (Int32 × Hp)} (hF : bX9_keepsAs oX9_keepsAs h a0 x1 x2 = some z) : Mc yX9_keepsAs cX9_keepsAs 3 (some .int) (n + 1 + 10) 0 0 [.ref a0, .int x1, .int x2] h (some (.int z.1), z.2) := by
  unfold bX9_keepsAs at hF
  refine Mc_of [some (.ref a0), some (.int x1), some (.int x2)] plX9 rfl rfl (Nat.le_of_ble_eq_true rfl) (fun X C => ?_)
  refine J_iload_n (pc := 0) C dX9_keepsAs_0 rfl ?_
  refine J_br hF (fun hc1_0 hF => ?_) (fun hc1_0 hF => ?_)
  · refine J_tsIn (pc := 1) (tgt := 44) C 0 hc1_0 dX9_keepsAs_1 (by decide) (by decide) rfl rfl ?_
    refine J_aload_n (pc := 44) C dX9_keepsAs_44 rfl ?_
    refine J_bipush (pc := 45) C dX9_keepsAs_45 bc_11 ?_
    refine J_bind hF (fun q47 hq hF => ?_)
    refine J_callV0_v (pc := 47) (stk := [.int 11, .ref a0]) (st := []) C dX9_keepsAs_47 yw_X9_begins w_MLX9_252 in_X9_begins sl_X9_begins ⟨_, rfl, rfl⟩ (kX9_begins hq) (gO_some hq).1 rfl (by omega) rfl (Nat.le_of_ble_eq_true rfl) ?_
    refine J_aload_n (pc := 50) C dX9_keepsAs_50 rfl ?_
    refine J_aload_n (pc := 51) C dX9_keepsAs_51 rfl ?_
    refine J_bind hF (fun q52 hq hF => ?_)
    refine J_callV0_ip (pc := 52) (stk := [.ref a0, .ref a0]) (st := [.ref a0]) C dX9_keepsAs_52 yw_X9_kindNow w_MLX9_261 in_X9_kindNow sl_X9_kindNow ⟨_, rfl, rfl⟩ (kX9_kindNow hq) (gO_some hq).1 rfl (by omega) rfl (Nat.le_of_ble_eq_true rfl) ?_
    refine J_iload_n (pc := 55) C dX9_keepsAs_55 rfl ?_
    refine J_bind hF (fun q56 hq hF => ?_)
    refine J_callV0_i (pc := 56) (stk := [.int x2, .int q52, .ref a0]) (st := []) C dX9_keepsAs_56 yw_X9_rowsAs w_MLX9_258 in_X9_rowsAs sl_X9_rowsAs ⟨_, rfl, rfl⟩ (kX9_rowsAs hq) (gO_some hq).1 rfl (by omega) rfl (Nat.le_of_ble_eq_true rfl) ?_
    refine J_iconst (pc := 59) C dX9_keepsAs_59 ic_2 ?_
    refine J_imul (pc := 60) C dX9_keepsAs_60 ?_
    exact J_iret (pc := 61) C dX9_keepsAs_61 hF (by decide) (by decide)
  · refine J_br hF (fun hc1_2 hF => ?_) (fun hc1_2 hF => ?_)
    · refine J_tsIn (pc := 1) (tgt := 62) C 2 hc1_2 dX9_keepsAs_1 (by decide) (by decide) rfl rfl ?_
      refine J_aload_n (pc := 62) C dX9_keepsAs_62 rfl ?_
      refine J_bipush (pc := 63) C dX9_keepsAs_63 bc_30 ?_
      refine J_bind hF (fun q65 hq hF => ?_)
      refine J_callV0_v (pc := 65) (stk := [.int 30, .ref a0]) (st := []) C dX9_keepsAs_65 yw_X9_begins w_MLX9_252 in_X9_begins sl_X9_begins ⟨_, rfl, rfl⟩ (kX9_begins hq) (gO_some hq).1 rfl (by omega) rfl (Nat.le_of_ble_eq_true rfl) ?_
      refine J_iconst (pc := 68) C dX9_keepsAs_68 ic_0 ?_
      refine J_aload_n (pc := 69) C dX9_keepsAs_69 rfl ?_
      refine J_iconst (pc := 70) C dX9_keepsAs_70 ic_2 ?_
      refine J_bind hF (fun q71 hq hF => ?_)
      refine J_callS0_ip (pc := 71) (stk := [.int 2, .ref a0, .int 0]) (st := [.ref a0, .int 0]) C dX9_keepsAs_71 yw_X9_above w_MLX9_255 st_X9_above (kX9_above hq) rfl (by omega) rfl (Nat.le_of_ble_eq_true rfl) ?_
      refine J_iload_n (pc := 74) C dX9_keepsAs_74 rfl ?_
      refine J_bind hF (fun q75 hq hF => ?_)
      have hq := gO_some hq
      refine J_callV0_i (pc := 75) (stk := [.int x2, .int q71, .ref a0, .int 0]) (st := [.int 0]) C dX9_keepsAs_75 yw_X9_keepsAs w_MLX9_264 in_X9_keepsAs sl_X9_keepsAs ⟨_, rfl, rfl⟩ (hO _ _ _ _ _ hq.2) hq.1 rfl (by omega) rfl (Nat.le_of_ble_eq_true rfl) ?_
      refine J_isub (pc := 78) C dX9_keepsAs_78 ?_
      exact J_iret (pc := 79) C dX9_keepsAs_79 hF (by decide) (by decide)
    · refine J_br hF (fun hc1_5 hF => ?_) (fun hc1_5 hF => ?_)
      · refine J_tsIn (pc := 1) (tgt := 80) C 5 hc1_5 dX9_keepsAs_1 (by decide) (by decide) rfl rfl ?_
        refine J_aload_n (pc := 80) C dX9_keepsAs_80 rfl ?_
        refine J_bipush (pc := 81) C dX9_keepsAs_81 bc_60 ?_
        refine J_bind hF (fun q83 hq hF => ?_)
        refine J_callV0_v (pc := 83) (stk := [.int 60, .ref a0]) (st := []) C dX9_keepsAs_83 yw_X9_begins w_MLX9_252 in_X9_begins sl_X9_begins ⟨_, rfl, rfl⟩ (kX9_begins hq) (gO_some hq).1 rfl (by omega) rfl (Nat.le_of_ble_eq_true rfl) ?_
        refine J_aload_n (pc := 86) C dX9_keepsAs_86 rfl ?_
        refine J_iconst (pc := 87) C dX9_keepsAs_87 ic_5 ?_
        refine J_bind hF (fun q88 hq hF => ?_)
        refine J_callS0_ip (pc := 88) (stk := [.int 5, .ref a0]) (st := [.ref a0]) C dX9_keepsAs_88 yw_X9_above w_MLX9_255 st_X9_above (kX9_above hq) rfl (by omega) rfl (Nat.le_of_ble_eq_true rfl) ?_
        refine J_iload_n (pc := 91) C dX9_keepsAs_91 rfl ?_
        refine J_iconst (pc := 92) C dX9_keepsAs_92 ic_1 ?_
        refine J_iadd (pc := 93) C dX9_keepsAs_93 ?_
        refine J_bind hF (fun q94 hq hF => ?_)
        have hq := gO_some hq
        refine J_callV0_i (pc := 94) (stk := [.int (x2 + 1), .int q88, .ref a0]) (st := []) C dX9_keepsAs_94 yw_X9_keepsAs w_MLX9_264 in_X9_keepsAs sl_X9_keepsAs ⟨_, rfl, rfl⟩ (hO _ _ _ _ _ hq.2) hq.1 rfl (by omega) rfl (Nat.le_of_ble_eq_true rfl) ?_
        exact J_iret (pc := 97) C dX9_keepsAs_97 hF (by decide) (by decide)
      · refine J_br hF (fun hc1_6 hF => ?_) (fun hc1_6 hF => ?_)
        · refine J_tsIn (pc := 1) (tgt := 98) C 6 hc1_6 dX9_keepsAs_1 (by decide) (by decide) rfl rfl ?_
          refine J_aload_n (pc := 98) C dX9_keepsAs_98 rfl ?_
          refine J_bipush (pc := 99) C dX9_keepsAs_99 bc_71 ?_
          refine J_bind hF (fun q101 hq hF => ?_)
          refine J_callV0_v (pc := 101) (stk := [.int 71, .ref a0]) (st := []) C dX9_keepsAs_101 yw_X9_begins w_MLX9_252 in_X9_begins sl_X9_begins ⟨_, rfl, rfl⟩ (kX9_begins hq) (gO_some hq).1 rfl (by omega) rfl (Nat.le_of_ble_eq_true rfl) ?_
          refine J_aload_n (pc := 104) C dX9_keepsAs_104 rfl ?_
          refine J_bipush (pc := 105) C dX9_keepsAs_105 bc_6 ?_
          refine J_bind hF (fun q107 hq hF => ?_)
          refine J_callS0_ip (pc := 107) (stk := [.int 6, .ref a0]) (st := [.ref a0]) C dX9_keepsAs_107 yw_X9_above w_MLX9_255 st_X9_above (kX9_above hq) rfl (by omega) rfl (Nat.le_of_ble_eq_true rfl) ?_
          refine J_iload_n (pc := 110) C dX9_keepsAs_110 rfl ?_
          refine J_bind hF (fun q111 hq hF => ?_)
          have hq := gO_some hq
          refine J_callV0_i (pc := 111) (stk := [.int x2, .int q107, .ref a0]) (st := []) C dX9_keepsAs_111 yw_X9_keepsAs w_MLX9_264 in_X9_keepsAs sl_X9_keepsAs ⟨_, rfl, rfl⟩ (hO _ _ _ _ _ hq.2) hq.1 rfl (by omega) rfl (Nat.le_of_ble_eq_true rfl) ?_
          refine J_aload_n (pc := 114) C dX9_keepsAs_114 rfl ?_
          refine J_bind hF (fun q115 hq hF => ?_)
          refine J_callV0_ip (pc := 115) (stk := [.ref a0, .int q111.1]) (st := [.int q111.1]) C dX9_keepsAs_115 yw_X9_mNow w_MLX9_267 in_X9_mNow sl_X9_mNow ⟨_, rfl, rfl⟩ (kX9_mNow hq) (gO_some hq).1 rfl (by omega) rfl (Nat.le_of_ble_eq_true rfl) ?_
          refine J_iadd (pc := 118) C dX9_keepsAs_118 ?_
          exact J_iret (pc := 119) C dX9_keepsAs_119 hF (by decide) (by decide)
        · have hD : J X 0 0 0 0 120 [some (.ref a0), some (.int x1), some (.int x2)] [] h := by
            refine J_aload_n (pc := 120) C dX9_keepsAs_120 rfl ?_
            refine J_iload_n (pc := 121) C dX9_keepsAs_121 rfl ?_
            refine J_bind hF (fun q122 hq hF => ?_)
            refine J_callS0_ip (pc := 122) (stk := [.int x1, .ref a0]) (st := [.ref a0]) C dX9_keepsAs_122 yw_X9_above w_MLX9_255 st_X9_above (kX9_above hq) rfl (by omega) rfl (Nat.le_of_ble_eq_true rfl) ?_
            refine J_iload_n (pc := 125) C dX9_keepsAs_125 rfl ?_
            refine J_bind hF (fun q126 hq hF => ?_)
            have hq := gO_some hq
            refine J_callV0_i (pc := 126) (stk := [.int x2, .int q122, .ref a0]) (st := []) C dX9_keepsAs_126 yw_X9_keepsAs w_MLX9_264 in_X9_keepsAs sl_X9_keepsAs ⟨_, rfl, rfl⟩ (hO _ _ _ _ _ hq.2) hq.1 rfl (by omega) rfl (Nat.le_of_ble_eq_true rfl) ?_
            exact J_iret (pc := 129) C dX9_keepsAs_129 hF (by decide) (by decide)
          by_cases hh1_1 : x1 = 1
          · exact J_tsIn (pc := 1) (tgt := 120) C 1 hh1_1 dX9_keepsAs_1 (by decide) (by decide) rfl rfl hD
          by_cases hh1_3 : x1 = 3
          · exact J_tsIn (pc := 1) (tgt := 120) C 3 hh1_3 dX9_keepsAs_1 (by decide) (by decide) rfl rfl hD
          by_cases hh1_4 : x1 = 4
          · exact J_tsIn (pc := 1) (tgt := 120) C 4 hh1_4 dX9_keepsAs_1 (by decide) (by decide) rfl rfl hD
          refine J_tsOut (pc := 1) (tgt := 120) C dX9_keepsAs_1 (by have z0 := lv_neT hc1_0 (a := 0) rfl; have z1 := lv_neT hc1_2 (a := 2) rfl; have z2 := lv_neT hc1_5 (a := 5) rfl; have z3 := lv_neT hc1_6 (a := 6) rfl; have z4 := lv_neT hh1_1 (a := 1) rfl; have z5 := lv_neT hh1_3 (a := 3) rfl; have z6 := lv_neT hh1_4 (a := 4) rfl; omega) rfl hD
def gX9_keepsAs : Nat → Hp → Nat → Int32 → Int32 → Option (Int32 × Hp)
  | 0, _, _, _, _ => none
  | n + 1, h, a0, x1, x2 => bX9_keepsAs (gX9_keepsAs n) h a0 x1 x2
theorem gkX9_keepsAs : ∀ n : Nat, (∀ (h : Hp) (a0 : Nat) (x1 : Int32) (x2 : Int32) (z : (Int32 × Hp)), gX9_keepsAs n h a0 x1 x2 = some z → Mc yX9_keepsAs cX9_keepsAs 3 (some .int) (n + 10) 0 0 [.ref a0, .int x1, .int x2] h (some (.int z.1), z.2)) := by
  intro n
  induction n with
  | zero => intro h a0 x1 x2 z hF; cases hF
  | succ n ih => intro h a0 x1 x2 z hF; exact bkX9_keepsAs (n := n) ih hF
def fX9_keepsAs (h : Hp) (a0 : Nat) (x1 : Int32) (x2 : Int32) : Option (Int32 × Hp) := gO h 9 a0 (gX9_keepsAs 16 h a0 x1 x2)
theorem kX9_keepsAs {h : Hp} {a0 : Nat} {x1 : Int32} {x2 : Int32} {z : (Int32 × Hp)} (hF : fX9_keepsAs h a0 x1 x2 = some z) : Mc yX9_keepsAs cX9_keepsAs 3 (some .int) 26 0 0 [.ref a0, .int x1, .int x2] h (some (.int z.1), z.2) := (gkX9_keepsAs 16) h a0 x1 x2 _ (gO_some hF).2
def bX9_asksAs (oX9_asksAs : Hp → Nat → Int32 → Int32 → Option (Int32 × Hp)) (h : Hp) (a0 : Nat) (x1 : Int32) (x2 : Int32) : Option (Int32 × Hp) :=
  if x1 = 0 then
    (fX9_begins h a0 12).bind fun q39 =>
    (fX9_kindNow q39 a0).bind fun q44 =>
    (fX9_keepsAs q39 a0 q44 x2).bind fun q48 =>
    (fX9_mNow q48.2 a0).bind fun q52 =>
    some (q48.1 - q52, q48.2)
  else
    if x1 = 3 then
      (fX9_begins h a0 40).bind fun q60 =>
      (fX9_above 3).bind fun q65 =>
      (dvz x2 2).bind fun v70 =>
      (gO q60 9 a0 (oX9_asksAs q60 a0 q65 v70)).bind fun q71 =>
      some (q71.1, q71.2)
    else
      if x1 = 4 then
        (fX9_begins h a0 51).bind fun q78 =>
        (fX9_above 4).bind fun q83 =>
        (gO q78 9 a0 (oX9_asksAs q78 a0 q83 x2)).bind fun q87 =>
        (getI q87.2 9 a0 21).bind fun v91 =>
        some (q87.1 ^^^ v91, q87.2)
      else
        (fX9_above x1).bind fun q98 =>
        (gO h 9 a0 (oX9_asksAs h a0 q98 x2)).bind fun q102 =>
        some (q102.1, q102.2)
set_option maxRecDepth 100000 in
theorem bkX9_asksAs {n : Nat} {oX9_asksAs : Hp → Nat → Int32 → Int32 → Option (Int32 × Hp)} (hO : (∀ (h : Hp) (a0 : Nat) (x1 : Int32) (x2 : Int32) (z : (Int32 × Hp)), oX9_asksAs h a0 x1 x2 = some z → Mc yX9_asksAs cX9_asksAs 3 (some .int) (n + 27) 0 0 [.ref a0, .int x1, .int x2] h (some (.int z.1), z.2))) {h : Hp} {a0 : Nat} {x1 : Int32} {x2 : Int32} {z : (Int32 × Hp)} (hF : bX9_asksAs oX9_asksAs h a0 x1 x2 = some z) : Mc yX9_asksAs cX9_asksAs 3 (some .int) (n + 1 + 27) 0 0 [.ref a0, .int x1, .int x2] h (some (.int z.1), z.2) := by
  unfold bX9_asksAs at hF
  refine Mc_of [some (.ref a0), some (.int x1), some (.int x2)] plX9 rfl rfl (Nat.le_of_ble_eq_true rfl) (fun X C => ?_)
  refine J_iload_n (pc := 0) C dX9_asksAs_0 rfl ?_
  refine J_br hF (fun hc1_0 hF => ?_) (fun hc1_0 hF => ?_)
  · refine J_tsIn (pc := 1) (tgt := 36) C 0 hc1_0 dX9_asksAs_1 (by decide) (by decide) rfl rfl ?_
    refine J_aload_n (pc := 36) C dX9_asksAs_36 rfl ?_
    refine J_bipush (pc := 37) C dX9_asksAs_37 bc_12 ?_
    refine J_bind hF (fun q39 hq hF => ?_)
    refine J_callV0_v (pc := 39) (stk := [.int 12, .ref a0]) (st := []) C dX9_asksAs_39 yw_X9_begins w_MLX9_252 in_X9_begins sl_X9_begins ⟨_, rfl, rfl⟩ (kX9_begins hq) (gO_some hq).1 rfl (by omega) rfl (Nat.le_of_ble_eq_true rfl) ?_
    refine J_aload_n (pc := 42) C dX9_asksAs_42 rfl ?_
    refine J_aload_n (pc := 43) C dX9_asksAs_43 rfl ?_
    refine J_bind hF (fun q44 hq hF => ?_)
    refine J_callV0_ip (pc := 44) (stk := [.ref a0, .ref a0]) (st := [.ref a0]) C dX9_asksAs_44 yw_X9_kindNow w_MLX9_261 in_X9_kindNow sl_X9_kindNow ⟨_, rfl, rfl⟩ (kX9_kindNow hq) (gO_some hq).1 rfl (by omega) rfl (Nat.le_of_ble_eq_true rfl) ?_
    refine J_iload_n (pc := 47) C dX9_asksAs_47 rfl ?_
    refine J_bind hF (fun q48 hq hF => ?_)
    refine J_callV0_i (pc := 48) (stk := [.int x2, .int q44, .ref a0]) (st := []) C dX9_asksAs_48 yw_X9_keepsAs w_MLX9_264 in_X9_keepsAs sl_X9_keepsAs ⟨_, rfl, rfl⟩ (kX9_keepsAs hq) (gO_some hq).1 rfl (by omega) rfl (Nat.le_of_ble_eq_true rfl) ?_
    refine J_aload_n (pc := 51) C dX9_asksAs_51 rfl ?_
    refine J_bind hF (fun q52 hq hF => ?_)
    refine J_callV0_ip (pc := 52) (stk := [.ref a0, .int q48.1]) (st := [.int q48.1]) C dX9_asksAs_52 yw_X9_mNow w_MLX9_267 in_X9_mNow sl_X9_mNow ⟨_, rfl, rfl⟩ (kX9_mNow hq) (gO_some hq).1 rfl (by omega) rfl (Nat.le_of_ble_eq_true rfl) ?_
    refine J_isub (pc := 55) C dX9_asksAs_55 ?_
    exact J_iret (pc := 56) C dX9_asksAs_56 hF (by decide) (by decide)
  · refine J_br hF (fun hc1_3 hF => ?_) (fun hc1_3 hF => ?_)
    · refine J_tsIn (pc := 1) (tgt := 57) C 3 hc1_3 dX9_asksAs_1 (by decide) (by decide) rfl rfl ?_
      refine J_aload_n (pc := 57) C dX9_asksAs_57 rfl ?_
      refine J_bipush (pc := 58) C dX9_asksAs_58 bc_40 ?_
      refine J_bind hF (fun q60 hq hF => ?_)
      refine J_callV0_v (pc := 60) (stk := [.int 40, .ref a0]) (st := []) C dX9_asksAs_60 yw_X9_begins w_MLX9_252 in_X9_begins sl_X9_begins ⟨_, rfl, rfl⟩ (kX9_begins hq) (gO_some hq).1 rfl (by omega) rfl (Nat.le_of_ble_eq_true rfl) ?_
      refine J_aload_n (pc := 63) C dX9_asksAs_63 rfl ?_
      refine J_iconst (pc := 64) C dX9_asksAs_64 ic_3 ?_
      refine J_bind hF (fun q65 hq hF => ?_)
      refine J_callS0_ip (pc := 65) (stk := [.int 3, .ref a0]) (st := [.ref a0]) C dX9_asksAs_65 yw_X9_above w_MLX9_255 st_X9_above (kX9_above hq) rfl (by omega) rfl (Nat.le_of_ble_eq_true rfl) ?_
      refine J_iload_n (pc := 68) C dX9_asksAs_68 rfl ?_
      refine J_iconst (pc := 69) C dX9_asksAs_69 ic_2 ?_
      refine J_idiv (pc := 70) C dX9_asksAs_70 hF (fun v70 hF => ?_)
      refine J_bind hF (fun q71 hq hF => ?_)
      have hq := gO_some hq
      refine J_callV0_i (pc := 71) (stk := [.int v70, .int q65, .ref a0]) (st := []) C dX9_asksAs_71 yw_X9_asksAs w_MLX9_270 in_X9_asksAs sl_X9_asksAs ⟨_, rfl, rfl⟩ (hO _ _ _ _ _ hq.2) hq.1 rfl (by omega) rfl (Nat.le_of_ble_eq_true rfl) ?_
      exact J_iret (pc := 74) C dX9_asksAs_74 hF (by decide) (by decide)
    · refine J_br hF (fun hc1_4 hF => ?_) (fun hc1_4 hF => ?_)
      · refine J_tsIn (pc := 1) (tgt := 75) C 4 hc1_4 dX9_asksAs_1 (by decide) (by decide) rfl rfl ?_
        refine J_aload_n (pc := 75) C dX9_asksAs_75 rfl ?_
        refine J_bipush (pc := 76) C dX9_asksAs_76 bc_51 ?_
        refine J_bind hF (fun q78 hq hF => ?_)
        refine J_callV0_v (pc := 78) (stk := [.int 51, .ref a0]) (st := []) C dX9_asksAs_78 yw_X9_begins w_MLX9_252 in_X9_begins sl_X9_begins ⟨_, rfl, rfl⟩ (kX9_begins hq) (gO_some hq).1 rfl (by omega) rfl (Nat.le_of_ble_eq_true rfl) ?_
        refine J_aload_n (pc := 81) C dX9_asksAs_81 rfl ?_
        refine J_iconst (pc := 82) C dX9_asksAs_82 ic_4 ?_
        refine J_bind hF (fun q83 hq hF => ?_)
        refine J_callS0_ip (pc := 83) (stk := [.int 4, .ref a0]) (st := [.ref a0]) C dX9_asksAs_83 yw_X9_above w_MLX9_255 st_X9_above (kX9_above hq) rfl (by omega) rfl (Nat.le_of_ble_eq_true rfl) ?_
        refine J_iload_n (pc := 86) C dX9_asksAs_86 rfl ?_
        refine J_bind hF (fun q87 hq hF => ?_)
        have hq := gO_some hq
        refine J_callV0_i (pc := 87) (stk := [.int x2, .int q83, .ref a0]) (st := []) C dX9_asksAs_87 yw_X9_asksAs w_MLX9_270 in_X9_asksAs sl_X9_asksAs ⟨_, rfl, rfl⟩ (hO _ _ _ _ _ hq.2) hq.1 rfl (by omega) rfl (Nat.le_of_ble_eq_true rfl) ?_
        refine J_aload_n (pc := 90) C dX9_asksAs_90 rfl ?_
        refine J_getI (pc := 91) C dX9_asksAs_91 fg_X9_249 hF (fun v91 hF => ?_)
        refine J_ixor (pc := 94) C dX9_asksAs_94 ?_
        exact J_iret (pc := 95) C dX9_asksAs_95 hF (by decide) (by decide)
      · have hD : J X 0 0 0 0 96 [some (.ref a0), some (.int x1), some (.int x2)] [] h := by
          refine J_aload_n (pc := 96) C dX9_asksAs_96 rfl ?_
          refine J_iload_n (pc := 97) C dX9_asksAs_97 rfl ?_
          refine J_bind hF (fun q98 hq hF => ?_)
          refine J_callS0_ip (pc := 98) (stk := [.int x1, .ref a0]) (st := [.ref a0]) C dX9_asksAs_98 yw_X9_above w_MLX9_255 st_X9_above (kX9_above hq) rfl (by omega) rfl (Nat.le_of_ble_eq_true rfl) ?_
          refine J_iload_n (pc := 101) C dX9_asksAs_101 rfl ?_
          refine J_bind hF (fun q102 hq hF => ?_)
          have hq := gO_some hq
          refine J_callV0_i (pc := 102) (stk := [.int x2, .int q98, .ref a0]) (st := []) C dX9_asksAs_102 yw_X9_asksAs w_MLX9_270 in_X9_asksAs sl_X9_asksAs ⟨_, rfl, rfl⟩ (hO _ _ _ _ _ hq.2) hq.1 rfl (by omega) rfl (Nat.le_of_ble_eq_true rfl) ?_
          exact J_iret (pc := 105) C dX9_asksAs_105 hF (by decide) (by decide)
        by_cases hh1_1 : x1 = 1
        · exact J_tsIn (pc := 1) (tgt := 96) C 1 hh1_1 dX9_asksAs_1 (by decide) (by decide) rfl rfl hD
        by_cases hh1_2 : x1 = 2
        · exact J_tsIn (pc := 1) (tgt := 96) C 2 hh1_2 dX9_asksAs_1 (by decide) (by decide) rfl rfl hD
        refine J_tsOut (pc := 1) (tgt := 96) C dX9_asksAs_1 (by have z0 := lv_neT hc1_0 (a := 0) rfl; have z1 := lv_neT hc1_3 (a := 3) rfl; have z2 := lv_neT hc1_4 (a := 4) rfl; have z3 := lv_neT hh1_1 (a := 1) rfl; have z4 := lv_neT hh1_2 (a := 2) rfl; omega) rfl hD
def gX9_asksAs : Nat → Hp → Nat → Int32 → Int32 → Option (Int32 × Hp)
  | 0, _, _, _, _ => none
  | n + 1, h, a0, x1, x2 => bX9_asksAs (gX9_asksAs n) h a0 x1 x2
theorem gkX9_asksAs : ∀ n : Nat, (∀ (h : Hp) (a0 : Nat) (x1 : Int32) (x2 : Int32) (z : (Int32 × Hp)), gX9_asksAs n h a0 x1 x2 = some z → Mc yX9_asksAs cX9_asksAs 3 (some .int) (n + 27) 0 0 [.ref a0, .int x1, .int x2] h (some (.int z.1), z.2)) := by
  intro n
  induction n with
  | zero => intro h a0 x1 x2 z hF; cases hF
  | succ n ih => intro h a0 x1 x2 z hF; exact bkX9_asksAs (n := n) ih hF
def fX9_asksAs (h : Hp) (a0 : Nat) (x1 : Int32) (x2 : Int32) : Option (Int32 × Hp) := gO h 9 a0 (gX9_asksAs 24 h a0 x1 x2)
theorem kX9_asksAs {h : Hp} {a0 : Nat} {x1 : Int32} {x2 : Int32} {z : (Int32 × Hp)} (hF : fX9_asksAs h a0 x1 x2 = some z) : Mc yX9_asksAs cX9_asksAs 3 (some .int) 51 0 0 [.ref a0, .int x1, .int x2] h (some (.int z.1), z.2) := (gkX9_asksAs 24) h a0 x1 x2 _ (gO_some hF).2
def fX9_body (h : Hp) (a0 : Nat) (x1 : Int32) : Option (Int32 × Hp) := gO h 9 a0 (
  (getI h 9 a0 20).bind fun v3 =>
  (fX9_in x1 0 (v3 - 1)).bind fun q8 =>
  if q8 = 0 then
    (fX9_error h a0 2).bind fun q25 =>
    some (q25.1, q25.2)
  else
    (getR h 9 a0 19).bind fun r15 =>
    (rdI h r15 x1).bind fun v19 =>
    some (v19, h))
set_option maxRecDepth 100000 in
theorem kX9_body {h : Hp} {a0 : Nat} {x1 : Int32} {z : (Int32 × Hp)} (hF : fX9_body h a0 x1 = some z) : Mc yX9_body cX9_body 2 (some .int) 1 0 0 [.ref a0, .int x1] h (some (.int z.1), z.2) := by
  have hF := (gO_some hF).2
  refine Mc_of [some (.ref a0), some (.int x1)] plX9 rfl rfl (Nat.le_of_ble_eq_true rfl) (fun X C => ?_)
  refine J_iload_n (pc := 0) C dX9_body_0 rfl ?_
  refine J_iconst (pc := 1) C dX9_body_1 ic_0 ?_
  refine J_aload_n (pc := 2) C dX9_body_2 rfl ?_
  refine J_getI (pc := 3) C dX9_body_3 fg_X9_246 hF (fun v3 hF => ?_)
  refine J_iconst (pc := 6) C dX9_body_6 ic_1 ?_
  refine J_isub (pc := 7) C dX9_body_7 ?_
  refine J_bind hF (fun q8 hq hF => ?_)
  refine J_callS0_ip (pc := 8) (stk := [.int (v3 - 1), .int 0, .int x1]) (st := []) C dX9_body_8 yw_X9_in w_MLX9_59 st_X9_in (kX9_in hq) rfl (by decide) rfl (Nat.le_of_ble_eq_true rfl) ?_
  refine J_if_eq (pc := 11) (tgt := 23) C dX9_body_11 rfl hF (fun hF => ?_) (fun hF => ?_)
  · refine J_aload_n (pc := 23) C dX9_body_23 rfl ?_
    refine J_iconst (pc := 24) C dX9_body_24 ic_2 ?_
    refine J_bind hF (fun q25 hq hF => ?_)
    refine J_callV0_i (pc := 25) (stk := [.int 2, .ref a0]) (st := []) C dX9_body_25 yw_X9_error w_MLX9_63 in_X9_error sl_X9_error ⟨_, rfl, rfl⟩ (kX9_error hq) (gO_some hq).1 rfl (by decide) rfl (Nat.le_of_ble_eq_true rfl) ?_
    exact J_iret (pc := 28) C dX9_body_28 hF (by decide) (by decide)
  · refine J_aload_n (pc := 14) C dX9_body_14 rfl ?_
    refine J_getR (pc := 15) C dX9_body_15 fg_X9_43 hF (fun r15 hF => ?_)
    refine J_iload_n (pc := 18) C dX9_body_18 rfl ?_
    refine J_iald (pc := 19) C dX9_body_19 hF (fun v19 hF => ?_)
    refine J_goto (pc := 20) (tgt := 28) C dX9_body_20 rfl ?_
    exact J_iret (pc := 28) C dX9_body_28 hF (by decide) (by decide)
def fX9_book (h : Hp) (a0 : Nat) (x1 : Int32) : Option (Int32 × Hp) := gO h 9 a0 (
  (getR h 9 a0 0).bind fun r3 =>
  (rdI h r3 4).bind fun v7 =>
  (fX9_in x1 0 (v7 - 1)).bind fun q10 =>
  if q10 = 0 then
    (fX9_error h a0 2).bind fun q30 =>
    some (q30.1, q30.2)
  else
    (getR h 9 a0 0).bind fun r17 =>
    (rdI h r17 (100 + x1)).bind fun v24 =>
    some (v24, h))
set_option maxRecDepth 100000 in
theorem kX9_book {h : Hp} {a0 : Nat} {x1 : Int32} {z : (Int32 × Hp)} (hF : fX9_book h a0 x1 = some z) : Mc yX9_book cX9_book 2 (some .int) 1 0 0 [.ref a0, .int x1] h (some (.int z.1), z.2) := by
  have hF := (gO_some hF).2
  refine Mc_of [some (.ref a0), some (.int x1)] plX9 rfl rfl (Nat.le_of_ble_eq_true rfl) (fun X C => ?_)
  refine J_iload_n (pc := 0) C dX9_book_0 rfl ?_
  refine J_iconst (pc := 1) C dX9_book_1 ic_0 ?_
  refine J_aload_n (pc := 2) C dX9_book_2 rfl ?_
  refine J_getR (pc := 3) C dX9_book_3 fg_X9_7 hF (fun r3 hF => ?_)
  refine J_iconst (pc := 6) C dX9_book_6 ic_4 ?_
  refine J_iald (pc := 7) C dX9_book_7 hF (fun v7 hF => ?_)
  refine J_iconst (pc := 8) C dX9_book_8 ic_1 ?_
  refine J_isub (pc := 9) C dX9_book_9 ?_
  refine J_bind hF (fun q10 hq hF => ?_)
  refine J_callS0_ip (pc := 10) (stk := [.int (v7 - 1), .int 0, .int x1]) (st := []) C dX9_book_10 yw_X9_in w_MLX9_59 st_X9_in (kX9_in hq) rfl (by decide) rfl (Nat.le_of_ble_eq_true rfl) ?_
  refine J_if_eq (pc := 13) (tgt := 28) C dX9_book_13 rfl hF (fun hF => ?_) (fun hF => ?_)
  · refine J_aload_n (pc := 28) C dX9_book_28 rfl ?_
    refine J_iconst (pc := 29) C dX9_book_29 ic_2 ?_
    refine J_bind hF (fun q30 hq hF => ?_)
    refine J_callV0_i (pc := 30) (stk := [.int 2, .ref a0]) (st := []) C dX9_book_30 yw_X9_error w_MLX9_63 in_X9_error sl_X9_error ⟨_, rfl, rfl⟩ (kX9_error hq) (gO_some hq).1 rfl (by decide) rfl (Nat.le_of_ble_eq_true rfl) ?_
    exact J_iret (pc := 33) C dX9_book_33 hF (by decide) (by decide)
  · refine J_aload_n (pc := 16) C dX9_book_16 rfl ?_
    refine J_getR (pc := 17) C dX9_book_17 fg_X9_7 hF (fun r17 hF => ?_)
    refine J_bipush (pc := 20) C dX9_book_20 bc_100 ?_
    refine J_iload_n (pc := 22) C dX9_book_22 rfl ?_
    refine J_iadd (pc := 23) C dX9_book_23 ?_
    refine J_iald (pc := 24) C dX9_book_24 hF (fun v24 hF => ?_)
    refine J_goto (pc := 25) (tgt := 33) C dX9_book_25 rfl ?_
    exact J_iret (pc := 33) C dX9_book_33 hF (by decide) (by decide)
def fX9_lays (h : Hp) (a0 : Nat) (x1 : Int32) (x2 : Int32) : Option Hp := gO h 9 a0 (
  (getR h 9 a0 10).bind fun r1 =>
  (getI h 9 a0 8).bind fun v6 =>
  (wrI h r1 (2 * v6) x1).bind fun h11 =>
  (getR h11 9 a0 10).bind fun r13 =>
  (getI h11 9 a0 8).bind fun v18 =>
  (wrI h11 r13 ((2 * v18) + 1) x2).bind fun h25 =>
  (getI h25 9 a0 8).bind fun v28 =>
  (putV h25 9 a0 8 (.int (v28 + 1))).bind fun h33 =>
  some h33)
set_option maxRecDepth 100000 in
theorem kX9_lays {h : Hp} {a0 : Nat} {x1 : Int32} {x2 : Int32} {z : Hp} (hF : fX9_lays h a0 x1 x2 = some z) : Mc yX9_lays cX9_lays 3 none 0 0 0 [.ref a0, .int x1, .int x2] h (none, z) := by
  have hF := (gO_some hF).2
  refine Mc_of [some (.ref a0), some (.int x1), some (.int x2)] plX9 rfl rfl (Nat.le_of_ble_eq_true rfl) (fun X C => ?_)
  refine J_aload_n (pc := 0) C dX9_lays_0 rfl ?_
  refine J_getR (pc := 1) C dX9_lays_1 fg_X9_25 hF (fun r1 hF => ?_)
  refine J_iconst (pc := 4) C dX9_lays_4 ic_2 ?_
  refine J_aload_n (pc := 5) C dX9_lays_5 rfl ?_
  refine J_getI (pc := 6) C dX9_lays_6 fg_X9_76 hF (fun v6 hF => ?_)
  refine J_imul (pc := 9) C dX9_lays_9 ?_
  refine J_iload_n (pc := 10) C dX9_lays_10 rfl ?_
  refine J_iast (pc := 11) C dX9_lays_11 hF (fun h11 hF => ?_)
  refine J_aload_n (pc := 12) C dX9_lays_12 rfl ?_
  refine J_getR (pc := 13) C dX9_lays_13 fg_X9_25 hF (fun r13 hF => ?_)
  refine J_iconst (pc := 16) C dX9_lays_16 ic_2 ?_
  refine J_aload_n (pc := 17) C dX9_lays_17 rfl ?_
  refine J_getI (pc := 18) C dX9_lays_18 fg_X9_76 hF (fun v18 hF => ?_)
  refine J_imul (pc := 21) C dX9_lays_21 ?_
  refine J_iconst (pc := 22) C dX9_lays_22 ic_1 ?_
  refine J_iadd (pc := 23) C dX9_lays_23 ?_
  refine J_iload_n (pc := 24) C dX9_lays_24 rfl ?_
  refine J_iast (pc := 25) C dX9_lays_25 hF (fun h25 hF => ?_)
  refine J_aload_n (pc := 26) C dX9_lays_26 rfl ?_
  refine J_dup (pc := 27) C dX9_lays_27 rfl ?_
  refine J_getI (pc := 28) C dX9_lays_28 fg_X9_76 hF (fun v28 hF => ?_)
  refine J_iconst (pc := 31) C dX9_lays_31 ic_1 ?_
  refine J_iadd (pc := 32) C dX9_lays_32 ?_
  refine J_put (pc := 33) C dX9_lays_33 (fp_X9_76 _) hF rfl rfl (fun h33 hF => ?_)
  exact J_vret (pc := 36) C dX9_lays_36 hF (by decide) (by decide)
def fX9_look (h : Hp) (a0 : Nat) : Option Int32 := gO h 9 a0 (
  (getI h 9 a0 6).bind fun v1 =>
  (getR h 9 a0 0).bind fun r5 =>
  (rdI h r5 5).bind fun v9 =>
  if v9 ≤ v1 then
    some ((-1))
  else
    (getR h 9 a0 0).bind fun r14 =>
    (getI h 9 a0 6).bind fun v21 =>
    (rdI h r14 (374 + v21)).bind fun v25 =>
    some v25)
set_option maxRecDepth 100000 in
theorem kX9_look {h : Hp} {a0 : Nat} {z : Int32} (hF : fX9_look h a0 = some z) : Mc yX9_look cX9_look 1 (some .int) 0 0 0 [.ref a0] h (some (.int z), h) := by
  have hF := (gO_some hF).2
  refine Mc_of [some (.ref a0)] plX9 rfl rfl (Nat.le_of_ble_eq_true rfl) (fun X C => ?_)
  refine J_aload_n (pc := 0) C dX9_look_0 rfl ?_
  refine J_getI (pc := 1) C dX9_look_1 fg_X9_69 hF (fun v1 hF => ?_)
  refine J_aload_n (pc := 4) C dX9_look_4 rfl ?_
  refine J_getR (pc := 5) C dX9_look_5 fg_X9_7 hF (fun r5 hF => ?_)
  refine J_iconst (pc := 8) C dX9_look_8 ic_5 ?_
  refine J_iald (pc := 9) C dX9_look_9 hF (fun v9 hF => ?_)
  refine J_icmp_ge (pc := 10) (tgt := 29) C dX9_look_10 rfl hF (fun hF => ?_) (fun hF => ?_)
  · refine J_iconst (pc := 29) C dX9_look_29 ic_m1 ?_
    exact J_iretP (pc := 30) C dX9_look_30 hF (by decide) (by decide)
  · refine J_aload_n (pc := 13) C dX9_look_13 rfl ?_
    refine J_getR (pc := 14) C dX9_look_14 fg_X9_7 hF (fun r14 hF => ?_)
    refine J_sipush (pc := 17) C dX9_look_17 sc_374 ?_
    refine J_aload_n (pc := 20) C dX9_look_20 rfl ?_
    refine J_getI (pc := 21) C dX9_look_21 fg_X9_69 hF (fun v21 hF => ?_)
    refine J_iadd (pc := 24) C dX9_look_24 ?_
    refine J_iald (pc := 25) C dX9_look_25 hF (fun v25 hF => ?_)
    refine J_goto (pc := 26) (tgt := 30) C dX9_look_26 rfl ?_
    exact J_iretP (pc := 30) C dX9_look_30 hF (by decide) (by decide)
def fX9_isName (h : Hp) (a0 : Nat) (x1 : Int32) : Option Int32 := gO h 9 a0 (
  if x1 = 109 then
    some 1
  else
    (getI h 9 a0 9).bind fun v9 =>
    if v9 = 0 then
      if x1 = 116 then
        some 1
      else
        if x1 = 112 then
          some 1
        else
          some 0
    else
      if x1 = 107 then
        some 1
      else
        if x1 = 98 then
          some 1
        else
          some 0)
set_option maxRecDepth 100000 in
theorem kX9_isName {h : Hp} {a0 : Nat} {x1 : Int32} {z : Int32} (hF : fX9_isName h a0 x1 = some z) : Mc yX9_isName cX9_isName 2 (some .boolean) 0 0 0 [.ref a0, .int x1] h (some (.int z), h) := by
  have hF := (gO_some hF).2
  refine Mc_of [some (.ref a0), some (.int x1)] plX9 rfl rfl (Nat.le_of_ble_eq_true rfl) (fun X C => ?_)
  refine J_iload_n (pc := 0) C dX9_isName_0 rfl ?_
  refine J_bipush (pc := 1) C dX9_isName_1 bc_109 ?_
  refine J_icmp_ne (pc := 3) (tgt := 8) C dX9_isName_3 rfl hF (fun hF => ?_) (fun hF => ?_)
  · refine J_iconst (pc := 6) C dX9_isName_6 ic_1 ?_
    exact J_zretP (pc := 7) C dX9_isName_7 rfl hF (by decide) (by decide)
  · refine J_aload_n (pc := 8) C dX9_isName_8 rfl ?_
    refine J_getI (pc := 9) C dX9_isName_9 fg_X9_73 hF (fun v9 hF => ?_)
    refine J_if_ne (pc := 12) (tgt := 35) C dX9_isName_12 rfl hF (fun hF => ?_) (fun hF => ?_)
    · refine J_iload_n (pc := 15) C dX9_isName_15 rfl ?_
      refine J_bipush (pc := 16) C dX9_isName_16 bc_116 ?_
      refine J_icmp_eq (pc := 18) (tgt := 27) C dX9_isName_18 rfl hF (fun hF => ?_) (fun hF => ?_)
      · refine J_iconst (pc := 27) C dX9_isName_27 ic_1 ?_
        refine J_goto (pc := 28) (tgt := 52) C dX9_isName_28 rfl ?_
        exact J_zretP (pc := 52) C dX9_isName_52 rfl hF (by decide) (by decide)
      · refine J_iload_n (pc := 21) C dX9_isName_21 rfl ?_
        refine J_bipush (pc := 22) C dX9_isName_22 bc_112 ?_
        refine J_icmp_ne (pc := 24) (tgt := 31) C dX9_isName_24 rfl hF (fun hF => ?_) (fun hF => ?_)
        · refine J_iconst (pc := 27) C dX9_isName_27 ic_1 ?_
          refine J_goto (pc := 28) (tgt := 52) C dX9_isName_28 rfl ?_
          exact J_zretP (pc := 52) C dX9_isName_52 rfl hF (by decide) (by decide)
        · refine J_iconst (pc := 31) C dX9_isName_31 ic_0 ?_
          refine J_goto (pc := 32) (tgt := 52) C dX9_isName_32 rfl ?_
          exact J_zretP (pc := 52) C dX9_isName_52 rfl hF (by decide) (by decide)
    · refine J_iload_n (pc := 35) C dX9_isName_35 rfl ?_
      refine J_bipush (pc := 36) C dX9_isName_36 bc_107 ?_
      refine J_icmp_eq (pc := 38) (tgt := 47) C dX9_isName_38 rfl hF (fun hF => ?_) (fun hF => ?_)
      · refine J_iconst (pc := 47) C dX9_isName_47 ic_1 ?_
        refine J_goto (pc := 48) (tgt := 52) C dX9_isName_48 rfl ?_
        exact J_zretP (pc := 52) C dX9_isName_52 rfl hF (by decide) (by decide)
      · refine J_iload_n (pc := 41) C dX9_isName_41 rfl ?_
        refine J_bipush (pc := 42) C dX9_isName_42 bc_98 ?_
        refine J_icmp_ne (pc := 44) (tgt := 51) C dX9_isName_44 rfl hF (fun hF => ?_) (fun hF => ?_)
        · refine J_iconst (pc := 47) C dX9_isName_47 ic_1 ?_
          refine J_goto (pc := 48) (tgt := 52) C dX9_isName_48 rfl ?_
          exact J_zretP (pc := 52) C dX9_isName_52 rfl hF (by decide) (by decide)
        · refine J_iconst (pc := 51) C dX9_isName_51 ic_0 ?_
          exact J_zretP (pc := 52) C dX9_isName_52 rfl hF (by decide) (by decide)
def fX9_opens (h : Hp) (a0 : Nat) : Option (Int32 × Hp) := gO h 9 a0 (
  (getI h 9 a0 7).bind fun v1 =>
  if v1 = 5 then
    some (0, h)
  else
    (getI h 9 a0 7).bind fun v12 =>
    (putV h 9 a0 7 (.int (v12 + 1))).bind fun h17 =>
    (getI h17 9 a0 6).bind fun v22 =>
    (putV h17 9 a0 6 (.int (v22 + 1))).bind fun h27 =>
    some (1, h27))
set_option maxRecDepth 100000 in
theorem kX9_opens {h : Hp} {a0 : Nat} {z : (Int32 × Hp)} (hF : fX9_opens h a0 = some z) : Mc yX9_opens cX9_opens 1 (some .boolean) 0 0 0 [.ref a0] h (some (.int z.1), z.2) := by
  have hF := (gO_some hF).2
  refine Mc_of [some (.ref a0)] plX9 rfl rfl (Nat.le_of_ble_eq_true rfl) (fun X C => ?_)
  refine J_aload_n (pc := 0) C dX9_opens_0 rfl ?_
  refine J_getI (pc := 1) C dX9_opens_1 fg_X9_103 hF (fun v1 hF => ?_)
  refine J_iconst (pc := 4) C dX9_opens_4 ic_5 ?_
  refine J_icmp_ne (pc := 5) (tgt := 10) C dX9_opens_5 rfl hF (fun hF => ?_) (fun hF => ?_)
  · refine J_iconst (pc := 8) C dX9_opens_8 ic_0 ?_
    exact J_zret (pc := 9) C dX9_opens_9 rfl hF (by decide) (by decide)
  · refine J_aload_n (pc := 10) C dX9_opens_10 rfl ?_
    refine J_dup (pc := 11) C dX9_opens_11 rfl ?_
    refine J_getI (pc := 12) C dX9_opens_12 fg_X9_103 hF (fun v12 hF => ?_)
    refine J_iconst (pc := 15) C dX9_opens_15 ic_1 ?_
    refine J_iadd (pc := 16) C dX9_opens_16 ?_
    refine J_put (pc := 17) C dX9_opens_17 (fp_X9_103 _) hF rfl rfl (fun h17 hF => ?_)
    refine J_aload_n (pc := 20) C dX9_opens_20 rfl ?_
    refine J_dup (pc := 21) C dX9_opens_21 rfl ?_
    refine J_getI (pc := 22) C dX9_opens_22 fg_X9_69 hF (fun v22 hF => ?_)
    refine J_iconst (pc := 25) C dX9_opens_25 ic_1 ?_
    refine J_iadd (pc := 26) C dX9_opens_26 ?_
    refine J_put (pc := 27) C dX9_opens_27 (fp_X9_69 _) hF rfl rfl (fun h27 hF => ?_)
    refine J_iconst (pc := 30) C dX9_opens_30 ic_1 ?_
    exact J_zret (pc := 31) C dX9_opens_31 rfl hF (by decide) (by decide)
