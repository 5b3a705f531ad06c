def fJ6_bitCount_0f7a4 (x0 : Int32) : Option Int32 :=
  (some (((x0 - ((ushr x0 1) &&& 1431655765)) &&& 858993459) + ((ushr (x0 - ((ushr x0 1) &&& 1431655765)) 2) &&& 858993459))).bind fun x23 =>
  (some (((x23 + (ushr x23 4)) &&& 252645135) + (ushr ((x23 + (ushr x23 4)) &&& 252645135) 8))).bind fun x40 =>
  some ((x40 + (ushr x40 16)) &&& 63)
set_option maxRecDepth 100000 in
theorem kJ6_bitCount_0f7a4 {h : Hp} {x0 : Int32} {z : Int32} (hF : fJ6_bitCount_0f7a4 x0 = some z) : Mc yJ6_bitCount_0f7a4 cJ6_bitCount_0f7a4 1 (some .int) 0 0 0 [.int x0] h (some (.int z), h) := by
  unfold fJ6_bitCount_0f7a4 at hF
  refine Mc_of [some (.int x0)] plJ6 rfl rfl (Nat.le_of_ble_eq_true rfl) (fun X C => ?_)
  refine J_iload_n (pc := 0) C dJ6_bitCount_0f7a4_0 rfl ?_
  refine J_iload_n (pc := 1) C dJ6_bitCount_0f7a4_1 rfl ?_
  refine J_iconst (pc := 2) C dJ6_bitCount_0f7a4_2 ic_1 ?_
  refine J_iushr (pc := 3) C dJ6_bitCount_0f7a4_3 ?_
  refine J_ldcw (pc := 4) C dJ6_bitCount_0f7a4_4 w_KJ6_265 ?_
  refine J_iand (pc := 7) C dJ6_bitCount_0f7a4_7 ?_
  refine J_isub (pc := 8) C dJ6_bitCount_0f7a4_8 ?_
  refine J_istore_n (pc := 9) (lv' := [some (.int (x0 - ((ushr x0 1) &&& 1431655765)))]) C dJ6_bitCount_0f7a4_9 rfl ?_
  refine J_iload_n (pc := 10) C dJ6_bitCount_0f7a4_10 rfl ?_
  refine J_ldcw (pc := 11) C dJ6_bitCount_0f7a4_11 w_KJ6_266 ?_
  refine J_iand (pc := 14) C dJ6_bitCount_0f7a4_14 ?_
  refine J_iload_n (pc := 15) C dJ6_bitCount_0f7a4_15 rfl ?_
  refine J_iconst (pc := 16) C dJ6_bitCount_0f7a4_16 ic_2 ?_
  refine J_iushr (pc := 17) C dJ6_bitCount_0f7a4_17 ?_
  refine J_ldcw (pc := 18) C dJ6_bitCount_0f7a4_18 w_KJ6_266 ?_
  refine J_iand (pc := 21) C dJ6_bitCount_0f7a4_21 ?_
  refine J_iadd (pc := 22) C dJ6_bitCount_0f7a4_22 ?_
  refine J_nm hF (fun x23 hF => ?_)
  refine J_istore_n (pc := 23) (lv' := [some (.int x23)]) C dJ6_bitCount_0f7a4_23 rfl ?_
  refine J_iload_n (pc := 24) C dJ6_bitCount_0f7a4_24 rfl ?_
  refine J_iload_n (pc := 25) C dJ6_bitCount_0f7a4_25 rfl ?_
  refine J_iconst (pc := 26) C dJ6_bitCount_0f7a4_26 ic_4 ?_
  refine J_iushr (pc := 27) C dJ6_bitCount_0f7a4_27 ?_
  refine J_iadd (pc := 28) C dJ6_bitCount_0f7a4_28 ?_
  refine J_ldcw (pc := 29) C dJ6_bitCount_0f7a4_29 w_KJ6_267 ?_
  refine J_iand (pc := 32) C dJ6_bitCount_0f7a4_32 ?_
  refine J_istore_n (pc := 33) (lv' := [some (.int ((x23 + (ushr x23 4)) &&& 252645135))]) C dJ6_bitCount_0f7a4_33 rfl ?_
  refine J_iload_n (pc := 34) C dJ6_bitCount_0f7a4_34 rfl ?_
  refine J_iload_n (pc := 35) C dJ6_bitCount_0f7a4_35 rfl ?_
  refine J_bipush (pc := 36) C dJ6_bitCount_0f7a4_36 bc_8 ?_
  refine J_iushr (pc := 38) C dJ6_bitCount_0f7a4_38 ?_
  refine J_iadd (pc := 39) C dJ6_bitCount_0f7a4_39 ?_
  refine J_nm hF (fun x40 hF => ?_)
  refine J_istore_n (pc := 40) (lv' := [some (.int x40)]) C dJ6_bitCount_0f7a4_40 rfl ?_
  refine J_iload_n (pc := 41) C dJ6_bitCount_0f7a4_41 rfl ?_
  refine J_iload_n (pc := 42) C dJ6_bitCount_0f7a4_42 rfl ?_
  refine J_bipush (pc := 43) C dJ6_bitCount_0f7a4_43 bc_16 ?_
  refine J_iushr (pc := 45) C dJ6_bitCount_0f7a4_45 ?_
  refine J_iadd (pc := 46) C dJ6_bitCount_0f7a4_46 ?_
  refine J_istore_n (pc := 47) (lv' := [some (.int (x40 + (ushr x40 16)))]) C dJ6_bitCount_0f7a4_47 rfl ?_
  refine J_iload_n (pc := 48) C dJ6_bitCount_0f7a4_48 rfl ?_
  refine J_bipush (pc := 49) C dJ6_bitCount_0f7a4_49 bc_63 ?_
  refine J_iand (pc := 51) C dJ6_bitCount_0f7a4_51 ?_
  exact J_iretP (pc := 52) C dJ6_bitCount_0f7a4_52 hF (by decide) (by decide)
def fJ7_copyOf_59c91 (h : Hp) (a0 : Nat) (x1 : Int32) : Option (Nat × Hp) :=
  (lenA h a0).bind fun v2 =>
  if x1 = v2 then
    (cloneA 60 h a0).bind fun q7 =>
    (castA q7.2 q7.1).bind fun _ =>
    some (q7.1, q7.2)
  else
    (newA 60 h x1).bind fun q15 =>
    (lenA q15.2 a0).bind fun v23 =>
    (acopy q15.2 a0 0 q15.1 0 (imin v23 x1)).bind fun h28 =>
    some (q15.1, h28)
set_option maxRecDepth 100000 in
theorem kJ7_copyOf_59c91 {h : Hp} {a0 : Nat} {x1 : Int32} {z : (Nat × Hp)} (hF : fJ7_copyOf_59c91 h a0 x1 = some z) : Mc yJ7_copyOf_59c91 cJ7_copyOf_59c91 3 (some (.array .int)) 1 1 60 [.ref a0, .int x1] h (some (.ref z.1), z.2) := by
  unfold fJ7_copyOf_59c91 at hF
  refine Mc_of [some (.ref a0), some (.int x1), none] plJ7 rfl rfl (Nat.le_of_ble_eq_true rfl) (fun X C => ?_)
  refine J_iload_n (pc := 0) C dJ7_copyOf_59c91_0 rfl ?_
  refine J_aload_n (pc := 1) C dJ7_copyOf_59c91_1 rfl ?_
  refine J_alen (pc := 2) C dJ7_copyOf_59c91_2 hF (fun v2 hF => ?_)
  refine J_icmp_ne (pc := 3) (tgt := 14) C dJ7_copyOf_59c91_3 rfl hF (fun hF => ?_) (fun hF => ?_)
  · refine J_aload_n (pc := 6) C dJ7_copyOf_59c91_6 rfl ?_
    refine J_clone (pc := 7) (cap := 60) C dJ7_copyOf_59c91_7 w_MLJ7_316 w_cl1 w_cl2 w_cl3 w_cl4 (by decide) (Nat.le_of_ble_eq_true rfl) (by decide) (by decide) hF (fun q7 hF => ?_)
    refine J_castA (pc := 10) C dJ7_copyOf_59c91_10 w_CLJ7_317 hF (fun hF => ?_)
    exact J_aret (pc := 13) C dJ7_copyOf_59c91_13 (Or.inr ⟨_, rfl⟩) hF (by decide) (by decide)
  · refine J_iload_n (pc := 14) C dJ7_copyOf_59c91_14 rfl ?_
    refine J_newarr (pc := 15) C dJ7_copyOf_59c91_15 (cap := 60) w_AC (by decide) (by decide) (by decide) hF (fun q15 hF => ?_)
    refine J_astore_n (pc := 17) (lv' := [some (.ref a0), some (.int x1), some (.ref q15.1)]) C dJ7_copyOf_59c91_17 rfl ?_
    refine J_aload_n (pc := 18) C dJ7_copyOf_59c91_18 rfl ?_
    refine J_iconst (pc := 19) C dJ7_copyOf_59c91_19 ic_0 ?_
    refine J_aload_n (pc := 20) C dJ7_copyOf_59c91_20 rfl ?_
    refine J_iconst (pc := 21) C dJ7_copyOf_59c91_21 ic_0 ?_
    refine J_aload_n (pc := 22) C dJ7_copyOf_59c91_22 rfl ?_
    refine J_alen (pc := 23) C dJ7_copyOf_59c91_23 hF (fun v23 hF => ?_)
    refine J_iload_n (pc := 24) C dJ7_copyOf_59c91_24 rfl ?_
    refine J_mmin (pc := 25) C dJ7_copyOf_59c91_25 w_MLJ7_304 w_mn1 w_mn2 w_mn3 (by decide) (Nat.le_of_ble_eq_true rfl) ?_
    refine J_acopy (pc := 28) C dJ7_copyOf_59c91_28 w_MLJ7_150 w_ac1 w_ac2 w_ac3 (by decide) (Nat.le_of_ble_eq_true rfl) hF (fun h28 hF => ?_)
    refine J_aload_n (pc := 31) C dJ7_copyOf_59c91_31 rfl ?_
    exact J_aret (pc := 32) C dJ7_copyOf_59c91_32 (Or.inr ⟨_, rfl⟩) hF (by decide) (by decide)
def fJ7_fill_53178_5 : Nat → Hp → Nat → Int32 → Int32 → Int32 → Option Hp
  | 0, _, _, _, _, _ => none
  | n5 + 1, h, a0, x1, x2, x3 =>
    if x3 ≤ x2 then
      some h
    else
      (wrI h a0 x2 x1).bind fun h13 =>
      fJ7_fill_53178_5 n5 h13 a0 x1 (x2 + 1) x3
set_option maxRecDepth 100000 in
theorem kJ7_fill_53178_5 {X : Cx} {z : Hp} (C : Jc X yJ7_fill_53178 cJ7_fill_53178 4 none 0 0 0 (none, z)) : ∀ (n5 : Nat) (h : Hp) (a0 : Nat) (x1 : Int32) (x2 : Int32) (x3 : Int32), fJ7_fill_53178_5 n5 h a0 x1 x2 x3 = some z → J X 0 0 0 0 5 [some (.ref a0), some (.int x1), some (.int x2), some (.int x3)] [] h := by
  intro n5
  induction n5 with
  | zero => intro h a0 x1 x2 x3 hF; cases hF
  | succ n5 ih =>
    intro h a0 x1 x2 x3 hF
    rw [fJ7_fill_53178_5] at hF
    refine J_iload_n (pc := 5) C dJ7_fill_53178_5 rfl ?_
    refine J_iload_n (pc := 6) C dJ7_fill_53178_6 rfl ?_
    refine J_icmp_ge (pc := 7) (tgt := 20) C dJ7_fill_53178_7 rfl hF (fun hF => ?_) (fun hF => ?_)
    · exact J_vret (pc := 20) C dJ7_fill_53178_20 hF (by decide) (by decide)
    · refine J_aload_n (pc := 10) C dJ7_fill_53178_10 rfl ?_
      refine J_iload_n (pc := 11) C dJ7_fill_53178_11 rfl ?_
      refine J_iload_n (pc := 12) C dJ7_fill_53178_12 rfl ?_
      refine J_iast (pc := 13) C dJ7_fill_53178_13 hF (fun h13 hF => ?_)
      refine J_iinc (pc := 14) (lv' := [some (.ref a0), some (.int x1), some (.int (x2 + 1)), some (.int x3)]) C dJ7_fill_53178_14 rfl ic_1 rfl ?_
      refine J_goto (pc := 17) (tgt := 5) C dJ7_fill_53178_17 rfl ?_
      exact ih h13 a0 x1 (x2 + 1) x3 hF
def fJ7_fill_53178 (h : Hp) (a0 : Nat) (x1 : Int32) : Option Hp :=
  (lenA h a0).bind fun v3 =>
  fJ7_fill_53178_5 1000 h a0 x1 0 v3
set_option maxRecDepth 100000 in
theorem kJ7_fill_53178 {h : Hp} {a0 : Nat} {x1 : Int32} {z : Hp} (hF : fJ7_fill_53178 h a0 x1 = some z) : Mc yJ7_fill_53178 cJ7_fill_53178 4 none 0 0 0 [.ref a0, .int x1] h (none, z) := by
  unfold fJ7_fill_53178 at hF
  refine Mc_of [some (.ref a0), some (.int x1), none, none] plJ7 rfl rfl (Nat.le_of_ble_eq_true rfl) (fun X C => ?_)
  refine J_iconst (pc := 0) C dJ7_fill_53178_0 ic_0 ?_
  refine J_istore_n (pc := 1) (lv' := [some (.ref a0), some (.int x1), some (.int 0), none]) C dJ7_fill_53178_1 rfl ?_
  refine J_aload_n (pc := 2) C dJ7_fill_53178_2 rfl ?_
  refine J_alen (pc := 3) C dJ7_fill_53178_3 hF (fun v3 hF => ?_)
  refine J_istore_n (pc := 4) (lv' := [some (.ref a0), some (.int x1), some (.int 0), some (.int v3)]) C dJ7_fill_53178_4 rfl ?_
  exact kJ7_fill_53178_5 C 1000 h a0 x1 0 v3 hF
def fX0_add (h : Hp) (a0 : Nat) (x1 : Int32) (x2 : Int32) (x3 : Int32) : Option (Int32 × Hp) := gO h 0 a0 (
  (getI h 0 a0 0).bind fun v1 =>
  (getR h 0 a0 1).bind fun r7 =>
  (wrI h r7 v1 x1).bind fun h13 =>
  (getR h13 0 a0 2).bind fun r15 =>
  (wrI h13 r15 v1 x2).bind fun h21 =>
  (getR h21 0 a0 3).bind fun r23 =>
  (wrI h21 r23 v1 x3).bind fun h29 =>
  (getI h29 0 a0 0).bind fun v32 =>
  (putV h29 0 a0 0 (.int (v32 + 1))).bind fun h37 =>
  some (v1, h37))
set_option maxRecDepth 100000 in
theorem kX0_add {h : Hp} {a0 : Nat} {x1 : Int32} {x2 : Int32} {x3 : Int32} {z : (Int32 × Hp)} (hF : fX0_add h a0 x1 x2 x3 = some z) : Mc yX0_add cX0_add 5 (some .int) 0 0 0 [.ref a0, .int x1, .int x2, .int x3] h (some (.int z.1), z.2) := by
  have hF := (gO_some hF).2
  refine Mc_of [some (.ref a0), some (.int x1), some (.int x2), some (.int x3), none] plX0 rfl rfl (Nat.le_of_ble_eq_true rfl) (fun X C => ?_)
  refine J_aload_n (pc := 0) C dX0_add_0 rfl ?_
  refine J_getI (pc := 1) C dX0_add_1 fg_X0_19 hF (fun v1 hF => ?_)
  refine J_istore (pc := 4) (lv' := [some (.ref a0), some (.int x1), some (.int x2), some (.int x3), some (.int v1)]) C dX0_add_4 rfl ?_
  refine J_aload_n (pc := 6) C dX0_add_6 rfl ?_
  refine J_getR (pc := 7) C dX0_add_7 fg_X0_9 hF (fun r7 hF => ?_)
  refine J_iload (pc := 10) C dX0_add_10 rfl ?_
  refine J_iload_n (pc := 12) C dX0_add_12 rfl ?_
  refine J_iast (pc := 13) C dX0_add_13 hF (fun h13 hF => ?_)
  refine J_aload_n (pc := 14) C dX0_add_14 rfl ?_
  refine J_getR (pc := 15) C dX0_add_15 fg_X0_13 hF (fun r15 hF => ?_)
  refine J_iload (pc := 18) C dX0_add_18 rfl ?_
  refine J_iload_n (pc := 20) C dX0_add_20 rfl ?_
  refine J_iast (pc := 21) C dX0_add_21 hF (fun h21 hF => ?_)
  refine J_aload_n (pc := 22) C dX0_add_22 rfl ?_
  refine J_getR (pc := 23) C dX0_add_23 fg_X0_16 hF (fun r23 hF => ?_)
  refine J_iload (pc := 26) C dX0_add_26 rfl ?_
  refine J_iload_n (pc := 28) C dX0_add_28 rfl ?_
  refine J_iast (pc := 29) C dX0_add_29 hF (fun h29 hF => ?_)
  refine J_aload_n (pc := 30) C dX0_add_30 rfl ?_
  refine J_dup (pc := 31) C dX0_add_31 rfl ?_
  refine J_getI (pc := 32) C dX0_add_32 fg_X0_19 hF (fun v32 hF => ?_)
  refine J_iconst (pc := 35) C dX0_add_35 ic_1 ?_
  refine J_iadd (pc := 36) C dX0_add_36 ?_
  refine J_put (pc := 37) C dX0_add_37 (fp_X0_19 _) hF rfl rfl (fun h37 hF => ?_)
  refine J_iload (pc := 40) C dX0_add_40 rfl ?_
  exact J_iret (pc := 42) C dX0_add_42 hF (by decide) (by decide)
def fX0_copyFrom (h : Hp) (a0 : Nat) (a1 : Nat) : Option Hp := gO h 0 a0 (
  (getI h 0 a1 0).bind fun v2 =>
  (putV h 0 a0 0 (.int v2)).bind fun h5 =>
  (getR h5 0 a1 1).bind fun r9 =>
  (getR h5 0 a0 1).bind fun r14 =>
  (acopy h5 r9 0 r14 0 8).bind fun h20 =>
  (getR h20 0 a1 2).bind fun r24 =>
  (getR h20 0 a0 2).bind fun r29 =>
  (acopy h20 r24 0 r29 0 8).bind fun h35 =>
  (getR h35 0 a1 3).bind fun r39 =>
  (getR h35 0 a0 3).bind fun r44 =>
  (acopy h35 r39 0 r44 0 8).bind fun h50 =>
  some h50)
set_option maxRecDepth 100000 in
theorem kX0_copyFrom {h : Hp} {a0 : Nat} {a1 : Nat} {z : Hp} (hF : fX0_copyFrom h a0 a1 = some z) : Mc yX0_copyFrom cX0_copyFrom 2 none 1 0 0 [.ref a0, .ref a1] h (none, z) := by
  have hF := (gO_some hF).2
  refine Mc_of [some (.ref a0), some (.ref a1)] plX0 rfl rfl (Nat.le_of_ble_eq_true rfl) (fun X C => ?_)
  refine J_aload_n (pc := 0) C dX0_copyFrom_0 rfl ?_
  refine J_aload_n (pc := 1) C dX0_copyFrom_1 rfl ?_
  refine J_getI (pc := 2) C dX0_copyFrom_2 fg_X0_19 hF (fun v2 hF => ?_)
  refine J_put (pc := 5) C dX0_copyFrom_5 (fp_X0_19 _) hF rfl rfl (fun h5 hF => ?_)
  refine J_aload_n (pc := 8) C dX0_copyFrom_8 rfl ?_
  refine J_getR (pc := 9) C dX0_copyFrom_9 fg_X0_9 hF (fun r9 hF => ?_)
  refine J_iconst (pc := 12) C dX0_copyFrom_12 ic_0 ?_
  refine J_aload_n (pc := 13) C dX0_copyFrom_13 rfl ?_
  refine J_getR (pc := 14) C dX0_copyFrom_14 fg_X0_9 hF (fun r14 hF => ?_)
  refine J_iconst (pc := 17) C dX0_copyFrom_17 ic_0 ?_
  refine J_bipush (pc := 18) C dX0_copyFrom_18 bc_8 ?_
  refine J_acopy (pc := 20) C dX0_copyFrom_20 w_MLX0_23 w_ac1 w_ac2 w_ac3 (by decide) (Nat.le_of_ble_eq_true rfl) hF (fun h20 hF => ?_)
  refine J_aload_n (pc := 23) C dX0_copyFrom_23 rfl ?_
  refine J_getR (pc := 24) C dX0_copyFrom_24 fg_X0_13 hF (fun r24 hF => ?_)
  refine J_iconst (pc := 27) C dX0_copyFrom_27 ic_0 ?_
  refine J_aload_n (pc := 28) C dX0_copyFrom_28 rfl ?_
  refine J_getR (pc := 29) C dX0_copyFrom_29 fg_X0_13 hF (fun r29 hF => ?_)
  refine J_iconst (pc := 32) C dX0_copyFrom_32 ic_0 ?_
  refine J_bipush (pc := 33) C dX0_copyFrom_33 bc_8 ?_
  refine J_acopy (pc := 35) C dX0_copyFrom_35 w_MLX0_23 w_ac1 w_ac2 w_ac3 (by decide) (Nat.le_of_ble_eq_true rfl) hF (fun h35 hF => ?_)
  refine J_aload_n (pc := 38) C dX0_copyFrom_38 rfl ?_
  refine J_getR (pc := 39) C dX0_copyFrom_39 fg_X0_16 hF (fun r39 hF => ?_)
  refine J_iconst (pc := 42) C dX0_copyFrom_42 ic_0 ?_
  refine J_aload_n (pc := 43) C dX0_copyFrom_43 rfl ?_
  refine J_getR (pc := 44) C dX0_copyFrom_44 fg_X0_16 hF (fun r44 hF => ?_)
  refine J_iconst (pc := 47) C dX0_copyFrom_47 ic_0 ?_
  refine J_bipush (pc := 48) C dX0_copyFrom_48 bc_8 ?_
  refine J_acopy (pc := 50) C dX0_copyFrom_50 w_MLX0_23 w_ac1 w_ac2 w_ac3 (by decide) (Nat.le_of_ble_eq_true rfl) hF (fun h50 hF => ?_)
  exact J_vret (pc := 53) C dX0_copyFrom_53 hF (by decide) (by decide)
def fX7_bitsOfFaces_4 (h : Hp) : Nat → Nat → Int32 → Int32 → Int32 → Option Int32
  | 0, _, _, _, _ => none
  | n4 + 1, a0, x1, x2, x3 =>
    (getR h 7 a0 9).bind fun r6 =>
    (rdI h r6 x1).bind fun v10 =>
    if v10 ≤ x3 then
      some x2
    else
      (getR h 7 a0 10).bind fun r17 =>
      (rdI h r17 ((x1 * 8) + x3)).bind fun v26 =>
      fX7_bitsOfFaces_4 h n4 a0 x1 (x2 ||| ((1 : Int32) <<< (v26 &&& 31))) (x3 + 1)
set_option maxRecDepth 100000 in
theorem kX7_bitsOfFaces_4 {X : Cx} {z : Int32} {h : Hp} (C : Jc X yX7_bitsOfFaces cX7_bitsOfFaces 4 (some .int) 0 0 0 (some (.int z), h)) : ∀ (n4 : Nat) (a0 : Nat) (x1 : Int32) (x2 : Int32) (x3 : Int32), fX7_bitsOfFaces_4 h n4 a0 x1 x2 x3 = some z → J X 0 0 0 0 4 [some (.ref a0), some (.int x1), some (.int x2), some (.int x3)] [] h := by
  intro n4
  induction n4 with
  | zero => intro a0 x1 x2 x3 hF; cases hF
  | succ n4 ih =>
    intro a0 x1 x2 x3 hF
    rw [fX7_bitsOfFaces_4] at hF
    refine J_iload_n (pc := 4) C dX7_bitsOfFaces_4 rfl ?_
    refine J_aload_n (pc := 5) C dX7_bitsOfFaces_5 rfl ?_
    refine J_getR (pc := 6) C dX7_bitsOfFaces_6 fg_X7_30 hF (fun r6 hF => ?_)
    refine J_iload_n (pc := 9) C dX7_bitsOfFaces_9 rfl ?_
    refine J_iald (pc := 10) C dX7_bitsOfFaces_10 hF (fun v10 hF => ?_)
    refine J_icmp_ge (pc := 11) (tgt := 36) C dX7_bitsOfFaces_11 rfl hF (fun hF => ?_) (fun hF => ?_)
    · refine J_iload_n (pc := 36) C dX7_bitsOfFaces_36 rfl ?_
      exact J_iretP (pc := 37) C dX7_bitsOfFaces_37 hF (by decide) (by decide)
    · refine J_iload_n (pc := 14) C dX7_bitsOfFaces_14 rfl ?_
      refine J_iconst (pc := 15) C dX7_bitsOfFaces_15 ic_1 ?_
      refine J_aload_n (pc := 16) C dX7_bitsOfFaces_16 rfl ?_
      refine J_getR (pc := 17) C dX7_bitsOfFaces_17 fg_X7_33 hF (fun r17 hF => ?_)
      refine J_iload_n (pc := 20) C dX7_bitsOfFaces_20 rfl ?_
      refine J_bipush (pc := 21) C dX7_bitsOfFaces_21 bc_8 ?_
      refine J_imul (pc := 23) C dX7_bitsOfFaces_23 ?_
      refine J_iload_n (pc := 24) C dX7_bitsOfFaces_24 rfl ?_
      refine J_iadd (pc := 25) C dX7_bitsOfFaces_25 ?_
      refine J_iald (pc := 26) C dX7_bitsOfFaces_26 hF (fun v26 hF => ?_)
      refine J_ishl (pc := 27) C dX7_bitsOfFaces_27 ?_
      refine J_ior (pc := 28) C dX7_bitsOfFaces_28 ?_
      refine J_istore_n (pc := 29) (lv' := [some (.ref a0), some (.int x1), some (.int (x2 ||| ((1 : Int32) <<< (v26 &&& 31)))), some (.int x3)]) C dX7_bitsOfFaces_29 rfl ?_
      refine J_iinc (pc := 30) (lv' := [some (.ref a0), some (.int x1), some (.int (x2 ||| ((1 : Int32) <<< (v26 &&& 31)))), some (.int (x3 + 1))]) C dX7_bitsOfFaces_30 rfl ic_1 rfl ?_
      refine J_goto (pc := 33) (tgt := 4) C dX7_bitsOfFaces_33 rfl ?_
      exact ih a0 x1 (x2 ||| ((1 : Int32) <<< (v26 &&& 31))) (x3 + 1) hF
def fX7_bitsOfFaces (h : Hp) (a0 : Nat) (x1 : Int32) : Option Int32 := gO h 7 a0 (
  fX7_bitsOfFaces_4 h 1000 a0 x1 0 0)
set_option maxRecDepth 100000 in
theorem kX7_bitsOfFaces {h : Hp} {a0 : Nat} {x1 : Int32} {z : Int32} (hF : fX7_bitsOfFaces h a0 x1 = some z) : Mc yX7_bitsOfFaces cX7_bitsOfFaces 4 (some .int) 0 0 0 [.ref a0, .int x1] h (some (.int z), h) := by
  have hF := (gO_some hF).2
  refine Mc_of [some (.ref a0), some (.int x1), none, none] plX7 rfl rfl (Nat.le_of_ble_eq_true rfl) (fun X C => ?_)
  refine J_iconst (pc := 0) C dX7_bitsOfFaces_0 ic_0 ?_
  refine J_istore_n (pc := 1) (lv' := [some (.ref a0), some (.int x1), some (.int 0), none]) C dX7_bitsOfFaces_1 rfl ?_
  refine J_iconst (pc := 2) C dX7_bitsOfFaces_2 ic_0 ?_
  refine J_istore_n (pc := 3) (lv' := [some (.ref a0), some (.int x1), some (.int 0), some (.int 0)]) C dX7_bitsOfFaces_3 rfl ?_
  exact kX7_bitsOfFaces_4 C 1000 a0 x1 0 0 hF
def fX7_bitsOfHeap_17 (k6 : Nat → Int32 → Int32 → Option Int32) (h : Hp) : Nat → Nat → Int32 → Int32 → Int32 → Option Int32
  | 0, _, _, _, _ => none
  | n17 + 1, a0, x2, x3, x4 =>
    (getI h 7 a0 2).bind fun v20 =>
    if v20 ≤ x4 then
      k6 a0 x2 (x3 + 1)
    else
      (fX7_bitsOfFaces h a0 x4).bind fun q29 =>
      if (q29 &&& x2) = 0 then
        fX7_bitsOfHeap_17 k6 h n17 a0 x2 x3 (x4 + 1)
      else
        fX7_bitsOfHeap_17 k6 h n17 a0 (x2 ||| q29) x3 (x4 + 1)
set_option maxRecDepth 100000 in
theorem kX7_bitsOfHeap_17 {X : Cx} {z : Int32} {h : Hp} (C : Jc X yX7_bitsOfHeap cX7_bitsOfHeap 6 (some .int) 1 0 0 (some (.int z), h)) {k6 : Nat → Int32 → Int32 → Option Int32} (hk6 : ∀ (a0 : Nat) (x2 : Int32) (x3 : Int32), k6 a0 x2 x3 = some z → J X 0 0 0 0 6 [some (.ref a0), none, some (.int x2), some (.int x3), none, none] [] h) : ∀ (n17 : Nat) (a0 : Nat) (x2 : Int32) (x3 : Int32) (x4 : Int32), fX7_bitsOfHeap_17 k6 h n17 a0 x2 x3 x4 = some z → J X 0 0 0 0 17 [some (.ref a0), none, some (.int x2), some (.int x3), some (.int x4), none] [] h := by
  intro n17
  induction n17 with
  | zero => intro a0 x2 x3 x4 hF; cases hF
  | succ n17 ih =>
    intro a0 x2 x3 x4 hF
    rw [fX7_bitsOfHeap_17] at hF
    refine J_iload (pc := 17) C dX7_bitsOfHeap_17 rfl ?_
    refine J_aload_n (pc := 19) C dX7_bitsOfHeap_19 rfl ?_
    refine J_getI (pc := 20) C dX7_bitsOfHeap_20 fg_X7_50 hF (fun v20 hF => ?_)
    refine J_icmp_ge (pc := 23) (tgt := 52) C dX7_bitsOfHeap_23 rfl hF (fun hF => ?_) (fun hF => ?_)
    · refine J_iinc (pc := 52) (lv' := [some (.ref a0), none, some (.int x2), some (.int (x3 + 1)), some (.int x4), none]) C dX7_bitsOfHeap_52 rfl ic_1 rfl ?_
      refine J_goto (pc := 55) (tgt := 6) C dX7_bitsOfHeap_55 rfl ?_
      refine J_msk (m := [true, false, true, true, false, false]) rfl ?_
      exact hk6 a0 x2 (x3 + 1) hF
    · refine J_aload_n (pc := 26) C dX7_bitsOfHeap_26 rfl ?_
      refine J_iload (pc := 27) C dX7_bitsOfHeap_27 rfl ?_
      refine J_bind hF (fun q29 hq hF => ?_)
      refine J_callV0_ip (pc := 29) (stk := [.int x4, .ref a0]) (st := []) C dX7_bitsOfHeap_29 yw_X7_bitsOfFaces w_MLX7_80 in_X7_bitsOfFaces sl_X7_bitsOfFaces ⟨_, rfl, rfl⟩ (kX7_bitsOfFaces hq) (gO_some hq).1 rfl (by decide) rfl (Nat.le_of_ble_eq_true rfl) ?_
      refine J_istore (pc := 32) (lv' := [some (.ref a0), none, some (.int x2), some (.int x3), some (.int x4), some (.int q29)]) C dX7_bitsOfHeap_32 rfl ?_
      refine J_iload (pc := 34) C dX7_bitsOfHeap_34 rfl ?_
      refine J_iload_n (pc := 36) C dX7_bitsOfHeap_36 rfl ?_
      refine J_iand (pc := 37) C dX7_bitsOfHeap_37 ?_
      refine J_if_eq (pc := 38) (tgt := 46) C dX7_bitsOfHeap_38 rfl hF (fun hF => ?_) (fun hF => ?_)
      · refine J_iinc (pc := 46) (lv' := [some (.ref a0), none, some (.int x2), some (.int x3), some (.int (x4 + 1)), some (.int q29)]) C dX7_bitsOfHeap_46 rfl ic_1 rfl ?_
        refine J_goto (pc := 49) (tgt := 17) C dX7_bitsOfHeap_49 rfl ?_
        refine J_msk (m := [true, false, true, true, true, false]) rfl ?_
        exact ih a0 x2 x3 (x4 + 1) hF
      · refine J_iload_n (pc := 41) C dX7_bitsOfHeap_41 rfl ?_
        refine J_iload (pc := 42) C dX7_bitsOfHeap_42 rfl ?_
        refine J_ior (pc := 44) C dX7_bitsOfHeap_44 ?_
        refine J_istore_n (pc := 45) (lv' := [some (.ref a0), none, some (.int (x2 ||| q29)), some (.int x3), some (.int x4), some (.int q29)]) C dX7_bitsOfHeap_45 rfl ?_
        refine J_iinc (pc := 46) (lv' := [some (.ref a0), none, some (.int (x2 ||| q29)), some (.int x3), some (.int (x4 + 1)), some (.int q29)]) C dX7_bitsOfHeap_46 rfl ic_1 rfl ?_
        refine J_goto (pc := 49) (tgt := 17) C dX7_bitsOfHeap_49 rfl ?_
        refine J_msk (m := [true, false, true, true, true, false]) rfl ?_
        exact ih a0 (x2 ||| q29) x3 (x4 + 1) hF
def fX7_bitsOfHeap_6 (h : Hp) : Nat → Nat → Int32 → Int32 → Option Int32
  | 0, _, _, _ => none
  | n6 + 1, a0, x2, x3 =>
    (getI h 7 a0 2).bind fun v8 =>
    if v8 ≤ x3 then
      some x2
    else
      fX7_bitsOfHeap_17 (fX7_bitsOfHeap_6 h n6) h 1000 a0 x2 x3 0
set_option maxRecDepth 100000 in
theorem kX7_bitsOfHeap_6 {X : Cx} {z : Int32} {h : Hp} (C : Jc X yX7_bitsOfHeap cX7_bitsOfHeap 6 (some .int) 1 0 0 (some (.int z), h)) : ∀ (n6 : Nat) (a0 : Nat) (x2 : Int32) (x3 : Int32), fX7_bitsOfHeap_6 h n6 a0 x2 x3 = some z → J X 0 0 0 0 6 [some (.ref a0), none, some (.int x2), some (.int x3), none, none] [] h := by
  intro n6
  induction n6 with
  | zero => intro a0 x2 x3 hF; cases hF
  | succ n6 ih =>
    intro a0 x2 x3 hF
    rw [fX7_bitsOfHeap_6] at hF
    refine J_iload_n (pc := 6) C dX7_bitsOfHeap_6 rfl ?_
    refine J_aload_n (pc := 7) C dX7_bitsOfHeap_7 rfl ?_
    refine J_getI (pc := 8) C dX7_bitsOfHeap_8 fg_X7_50 hF (fun v8 hF => ?_)
    refine J_icmp_ge (pc := 11) (tgt := 58) C dX7_bitsOfHeap_11 rfl hF (fun hF => ?_) (fun hF => ?_)
    · refine J_iload_n (pc := 58) C dX7_bitsOfHeap_58 rfl ?_
      exact J_iretP (pc := 59) C dX7_bitsOfHeap_59 hF (by decide) (by decide)
    · refine J_iconst (pc := 14) C dX7_bitsOfHeap_14 ic_0 ?_
      refine J_istore (pc := 15) (lv' := [some (.ref a0), none, some (.int x2), some (.int x3), some (.int 0), none]) C dX7_bitsOfHeap_15 rfl ?_
      exact kX7_bitsOfHeap_17 C ih 1000 a0 x2 x3 0 hF
def fX7_bitsOfHeap (h : Hp) (a0 : Nat) (x1 : Int32) : Option Int32 := gO h 7 a0 (
  fX7_bitsOfHeap_6 h 1000 a0 ((1 : Int32) <<< (x1 &&& 31)) 0)
set_option maxRecDepth 100000 in
theorem kX7_bitsOfHeap {h : Hp} {a0 : Nat} {x1 : Int32} {z : Int32} (hF : fX7_bitsOfHeap h a0 x1 = some z) : Mc yX7_bitsOfHeap cX7_bitsOfHeap 6 (some .int) 1 0 0 [.ref a0, .int x1] h (some (.int z), h) := by
  have hF := (gO_some hF).2
  refine Mc_of [some (.ref a0), some (.int x1), none, none, none, none] plX7 rfl rfl (Nat.le_of_ble_eq_true rfl) (fun X C => ?_)
  refine J_iconst (pc := 0) C dX7_bitsOfHeap_0 ic_1 ?_
  refine J_iload_n (pc := 1) C dX7_bitsOfHeap_1 rfl ?_
  refine J_ishl (pc := 2) C dX7_bitsOfHeap_2 ?_
  refine J_istore_n (pc := 3) (lv' := [some (.ref a0), some (.int x1), some (.int ((1 : Int32) <<< (x1 &&& 31))), none, none, none]) C dX7_bitsOfHeap_3 rfl ?_
  refine J_iconst (pc := 4) C dX7_bitsOfHeap_4 ic_0 ?_
  refine J_istore_n (pc := 5) (lv' := [some (.ref a0), some (.int x1), some (.int ((1 : Int32) <<< (x1 &&& 31))), some (.int 0), none, none]) C dX7_bitsOfHeap_5 rfl ?_
  refine J_msk (m := [true, false, true, true, false, false]) rfl ?_
  exact kX7_bitsOfHeap_6 C 1000 a0 ((1 : Int32) <<< (x1 &&& 31)) 0 hF
def fX0_holds (h : Hp) (a0 : Nat) (x1 : Int32) (a2 : Nat) : Option Int32 := gO h 0 a0 (
  (getR h 0 a0 1).bind fun r2 =>
  (rdI h r2 x1).bind fun v6 =>
  (fX7_bitsOfHeap h a2 v6).bind fun q7 =>
  (getR h 0 a0 2).bind fun r11 =>
  (rdI h r11 x1).bind fun v15 =>
  if ((q7 >>> (v15 &&& 31)) &&& 1) = 1 then
    some 1
  else
    some 0)
set_option maxRecDepth 100000 in
theorem kX0_holds {h : Hp} {a0 : Nat} {x1 : Int32} {a2 : Nat} {z : Int32} (hF : fX0_holds h a0 x1 a2 = some z) : Mc yX0_holds cX0_holds 3 (some .boolean) 2 0 0 [.ref a0, .int x1, .ref a2] h (some (.int z), h) := by
  have hF := (gO_some hF).2
  refine Mc_of [some (.ref a0), some (.int x1), some (.ref a2)] plX0 rfl rfl (Nat.le_of_ble_eq_true rfl) (fun X C => ?_)
  refine J_aload_n (pc := 0) C dX0_holds_0 rfl ?_
  refine J_aload_n (pc := 1) C dX0_holds_1 rfl ?_
  refine J_getR (pc := 2) C dX0_holds_2 fg_X0_9 hF (fun r2 hF => ?_)
  refine J_iload_n (pc := 5) C dX0_holds_5 rfl ?_
  refine J_iald (pc := 6) C dX0_holds_6 hF (fun v6 hF => ?_)
  refine J_bind hF (fun q7 hq hF => ?_)
  refine J_callV0_ip (pc := 7) (stk := [.int v6, .ref a2]) (st := []) C dX0_holds_7 yw_X7_bitsOfHeap w_MLX0_29 in_X7_bitsOfHeap sl_X7_bitsOfHeap ⟨_, rfl, rfl⟩ (kX7_bitsOfHeap hq) (gO_some hq).1 rfl (by decide) rfl (Nat.le_of_ble_eq_true rfl) ?_
  refine J_aload_n (pc := 10) C dX0_holds_10 rfl ?_
  refine J_getR (pc := 11) C dX0_holds_11 fg_X0_13 hF (fun r11 hF => ?_)
  refine J_iload_n (pc := 14) C dX0_holds_14 rfl ?_
  refine J_iald (pc := 15) C dX0_holds_15 hF (fun v15 hF => ?_)
  refine J_ishr (pc := 16) C dX0_holds_16 ?_
  refine J_iconst (pc := 17) C dX0_holds_17 ic_1 ?_
  refine J_iand (pc := 18) C dX0_holds_18 ?_
  refine J_iconst (pc := 19) C dX0_holds_19 ic_1 ?_
  refine J_icmp_ne (pc := 20) (tgt := 27) C dX0_holds_20 rfl hF (fun hF => ?_) (fun hF => ?_)
  · refine J_iconst (pc := 23) C dX0_holds_23 ic_1 ?_
    refine J_goto (pc := 24) (tgt := 28) C dX0_holds_24 rfl ?_
    exact J_zretP (pc := 28) C dX0_holds_28 rfl hF (by decide) (by decide)
  · refine J_iconst (pc := 27) C dX0_holds_27 ic_0 ?_
    exact J_zretP (pc := 28) C dX0_holds_28 rfl hF (by decide) (by decide)
def fX0_holding_4 (h : Hp) : Nat → Nat → Nat → Int32 → Int32 → Option Int32
  | 0, _, _, _, _ => none
  | n4 + 1, a0, a1, x2, x3 =>
    (getI h 0 a0 0).bind fun v6 =>
    if v6 ≤ x3 then
      some x2
    else
      (fX0_holds h a0 x3 a1).bind fun q15 =>
      if q15 = 0 then
        fX0_holding_4 h n4 a0 a1 x2 (x3 + 1)
      else
        fX0_holding_4 h n4 a0 a1 (x2 + 1) (x3 + 1)
set_option maxRecDepth 100000 in
theorem kX0_holding_4 {X : Cx} {z : Int32} {h : Hp} (C : Jc X yX0_holding cX0_holding 4 (some .int) 3 0 0 (some (.int z), h)) : ∀ (n4 : Nat) (a0 : Nat) (a1 : Nat) (x2 : Int32) (x3 : Int32), fX0_holding_4 h n4 a0 a1 x2 x3 = some z → J X 0 0 0 0 4 [some (.ref a0), some (.ref a1), some (.int x2), some (.int x3)] [] h := by
  intro n4
  induction n4 with
  | zero => intro a0 a1 x2 x3 hF; cases hF
  | succ n4 ih =>
    intro a0 a1 x2 x3 hF
    rw [fX0_holding_4] at hF
    refine J_iload_n (pc := 4) C dX0_holding_4 rfl ?_
    refine J_aload_n (pc := 5) C dX0_holding_5 rfl ?_
    refine J_getI (pc := 6) C dX0_holding_6 fg_X0_19 hF (fun v6 hF => ?_)
    refine J_icmp_ge (pc := 9) (tgt := 30) C dX0_holding_9 rfl hF (fun hF => ?_) (fun hF => ?_)
    · refine J_iload_n (pc := 30) C dX0_holding_30 rfl ?_
      exact J_iretP (pc := 31) C dX0_holding_31 hF (by decide) (by decide)
    · refine J_aload_n (pc := 12) C dX0_holding_12 rfl ?_
      refine J_iload_n (pc := 13) C dX0_holding_13 rfl ?_
      refine J_aload_n (pc := 14) C dX0_holding_14 rfl ?_
      refine J_bind hF (fun q15 hq hF => ?_)
      refine J_callV0_ip (pc := 15) (stk := [.ref a1, .int x3, .ref a0]) (st := []) C dX0_holding_15 yw_X0_holds w_MLX0_35 in_X0_holds sl_X0_holds ⟨_, rfl, rfl⟩ (kX0_holds hq) (gO_some hq).1 rfl (by decide) rfl (Nat.le_of_ble_eq_true rfl) ?_
      refine J_if_eq (pc := 18) (tgt := 24) C dX0_holding_18 rfl hF (fun hF => ?_) (fun hF => ?_)
      · refine J_iinc (pc := 24) (lv' := [some (.ref a0), some (.ref a1), some (.int x2), some (.int (x3 + 1))]) C dX0_holding_24 rfl ic_1 rfl ?_
        refine J_goto (pc := 27) (tgt := 4) C dX0_holding_27 rfl ?_
        exact ih a0 a1 x2 (x3 + 1) hF
      · refine J_iinc (pc := 21) (lv' := [some (.ref a0), some (.ref a1), some (.int (x2 + 1)), some (.int x3)]) C dX0_holding_21 rfl ic_1 rfl ?_
        refine J_iinc (pc := 24) (lv' := [some (.ref a0), some (.ref a1), some (.int (x2 + 1)), some (.int (x3 + 1))]) C dX0_holding_24 rfl ic_1 rfl ?_
        refine J_goto (pc := 27) (tgt := 4) C dX0_holding_27 rfl ?_
        exact ih a0 a1 (x2 + 1) (x3 + 1) hF
def fX0_holding (h : Hp) (a0 : Nat) (a1 : Nat) : Option Int32 := gO h 0 a0 (
  fX0_holding_4 h 1000 a0 a1 0 0)
set_option maxRecDepth 100000 in
theorem kX0_holding {h : Hp} {a0 : Nat} {a1 : Nat} {z : Int32} (hF : fX0_holding h a0 a1 = some z) : Mc yX0_holding cX0_holding 4 (some .int) 3 0 0 [.ref a0, .ref a1] h (some (.int z), h) := by
  have hF := (gO_some hF).2
  refine Mc_of [some (.ref a0), some (.ref a1), none, none] plX0 rfl rfl (Nat.le_of_ble_eq_true rfl) (fun X C => ?_)
  refine J_iconst (pc := 0) C dX0_holding_0 ic_0 ?_
  refine J_istore_n (pc := 1) (lv' := [some (.ref a0), some (.ref a1), some (.int 0), none]) C dX0_holding_1 rfl ?_
  refine J_iconst (pc := 2) C dX0_holding_2 ic_0 ?_
  refine J_istore_n (pc := 3) (lv' := [some (.ref a0), some (.ref a1), some (.int 0), some (.int 0)]) C dX0_holding_3 rfl ?_
  exact kX0_holding_4 C 1000 a0 a1 0 0 hF
def fX0_init (h : Hp) (a0 : Nat) : Option Hp :=
  (newA 8 h 8).bind fun q7 =>
  (putV q7.2 0 a0 1 (.ref q7.1)).bind fun h9 =>
  (newA 8 h9 8).bind fun q15 =>
  (putV q15.2 0 a0 2 (.ref q15.1)).bind fun h17 =>
  (newA 8 h17 8).bind fun q23 =>
  (putV q23.2 0 a0 3 (.ref q23.1)).bind fun h25 =>
  some h25
set_option maxRecDepth 100000 in
theorem kX0_init {h : Hp} {a0 : Nat} {z : Hp} (hF : fX0_init h a0 = some z) : Mc yX0_init cX0_init 1 none 1 3 24 [.ref a0] h (none, z) := by
  unfold fX0_init at hF
  refine Mc_of [some (.ref a0)] plX0 rfl rfl (Nat.le_of_ble_eq_true rfl) (fun X C => ?_)
  refine J_aload_n (pc := 0) C dX0_init_0 rfl ?_
  refine J_objInit (pc := 1) C dX0_init_1 w_MLX0_1 (by decide) (Nat.le_of_ble_eq_true rfl) ?_
  refine J_aload_n (pc := 4) C dX0_init_4 rfl ?_
  refine J_bipush (pc := 5) C dX0_init_5 bc_8 ?_
  refine J_newarr (pc := 7) C dX0_init_7 (cap := 8) w_AC (by decide) (by decide) (by decide) hF (fun q7 hF => ?_)
  refine J_put (pc := 9) C dX0_init_9 fi_X0_9 hF rfl rfl (fun h9 hF => ?_)
  refine J_aload_n (pc := 12) C dX0_init_12 rfl ?_
  refine J_bipush (pc := 13) C dX0_init_13 bc_8 ?_
  refine J_newarr (pc := 15) C dX0_init_15 (cap := 8) w_AC (by decide) (by decide) (by decide) hF (fun q15 hF => ?_)
  refine J_put (pc := 17) C dX0_init_17 fi_X0_13 hF rfl rfl (fun h17 hF => ?_)
  refine J_aload_n (pc := 20) C dX0_init_20 rfl ?_
  refine J_bipush (pc := 21) C dX0_init_21 bc_8 ?_
  refine J_newarr (pc := 23) C dX0_init_23 (cap := 8) w_AC (by decide) (by decide) (by decide) hF (fun q23 hF => ?_)
  refine J_put (pc := 25) C dX0_init_25 fi_X0_16 hF rfl rfl (fun h25 hF => ?_)
  exact J_vret (pc := 28) C dX0_init_28 hF (by decide) (by decide)
def fX0_lessen (h : Hp) (a0 : Nat) (x1 : Int32) (x2 : Int32) : Option Hp := gO h 0 a0 (
  (getR h 0 a0 3).bind fun r1 =>
  (rdI h r1 x1).bind fun v6 =>
  (wrI h r1 x1 (v6 - x2)).bind fun h9 =>
  (getR h9 0 a0 3).bind fun r11 =>
  (rdI h9 r11 x1).bind fun v15 =>
  if v15 = 0 then
    (getI h9 0 a0 0).bind fun v20 =>
    (getR h9 0 a0 1).bind fun r29 =>
    (getR h9 0 a0 1).bind fun r36 =>
    (acopy h9 r29 (x1 + 1) r36 x1 ((v20 - x1) - 1)).bind fun h41 =>
    (getR h41 0 a0 2).bind fun r45 =>
    (getR h41 0 a0 2).bind fun r52 =>
    (acopy h41 r45 (x1 + 1) r52 x1 ((v20 - x1) - 1)).bind fun h57 =>
    (getR h57 0 a0 3).bind fun r61 =>
    (getR h57 0 a0 3).bind fun r68 =>
    (acopy h57 r61 (x1 + 1) r68 x1 ((v20 - x1) - 1)).bind fun h73 =>
    (getI h73 0 a0 0).bind fun v78 =>
    (putV h73 0 a0 0 (.int (v78 - 1))).bind fun h83 =>
    some h83
  else
    some h9)
set_option maxRecDepth 100000 in
theorem kX0_lessen {h : Hp} {a0 : Nat} {x1 : Int32} {x2 : Int32} {z : Hp} (hF : fX0_lessen h a0 x1 x2 = some z) : Mc yX0_lessen cX0_lessen 4 none 1 0 0 [.ref a0, .int x1, .int x2] h (none, z) := by
  have hF := (gO_some hF).2
  refine Mc_of [some (.ref a0), some (.int x1), some (.int x2), none] plX0 rfl rfl (Nat.le_of_ble_eq_true rfl) (fun X C => ?_)
  refine J_aload_n (pc := 0) C dX0_lessen_0 rfl ?_
  refine J_getR (pc := 1) C dX0_lessen_1 fg_X0_16 hF (fun r1 hF => ?_)
  refine J_iload_n (pc := 4) C dX0_lessen_4 rfl ?_
  refine J_dup2 (pc := 5) C dX0_lessen_5 rfl rfl ?_
  refine J_iald (pc := 6) C dX0_lessen_6 hF (fun v6 hF => ?_)
  refine J_iload_n (pc := 7) C dX0_lessen_7 rfl ?_
  refine J_isub (pc := 8) C dX0_lessen_8 ?_
  refine J_iast (pc := 9) C dX0_lessen_9 hF (fun h9 hF => ?_)
  refine J_aload_n (pc := 10) C dX0_lessen_10 rfl ?_
  refine J_getR (pc := 11) C dX0_lessen_11 fg_X0_16 hF (fun r11 hF => ?_)
  refine J_iload_n (pc := 14) C dX0_lessen_14 rfl ?_
  refine J_iald (pc := 15) C dX0_lessen_15 hF (fun v15 hF => ?_)
  refine J_if_ne (pc := 16) (tgt := 86) C dX0_lessen_16 rfl hF (fun hF => ?_) (fun hF => ?_)
  · refine J_aload_n (pc := 19) C dX0_lessen_19 rfl ?_
    refine J_getI (pc := 20) C dX0_lessen_20 fg_X0_19 hF (fun v20 hF => ?_)
    refine J_iload_n (pc := 23) C dX0_lessen_23 rfl ?_
    refine J_isub (pc := 24) C dX0_lessen_24 ?_
    refine J_iconst (pc := 25) C dX0_lessen_25 ic_1 ?_
    refine J_isub (pc := 26) C dX0_lessen_26 ?_
    refine J_istore_n (pc := 27) (lv' := [some (.ref a0), some (.int x1), some (.int x2), some (.int ((v20 - x1) - 1))]) C dX0_lessen_27 rfl ?_
    refine J_aload_n (pc := 28) C dX0_lessen_28 rfl ?_
    refine J_getR (pc := 29) C dX0_lessen_29 fg_X0_9 hF (fun r29 hF => ?_)
    refine J_iload_n (pc := 32) C dX0_lessen_32 rfl ?_
    refine J_iconst (pc := 33) C dX0_lessen_33 ic_1 ?_
    refine J_iadd (pc := 34) C dX0_lessen_34 ?_
    refine J_aload_n (pc := 35) C dX0_lessen_35 rfl ?_
    refine J_getR (pc := 36) C dX0_lessen_36 fg_X0_9 hF (fun r36 hF => ?_)
    refine J_iload_n (pc := 39) C dX0_lessen_39 rfl ?_
    refine J_iload_n (pc := 40) C dX0_lessen_40 rfl ?_
    refine J_acopy (pc := 41) C dX0_lessen_41 w_MLX0_23 w_ac1 w_ac2 w_ac3 (by decide) (Nat.le_of_ble_eq_true rfl) hF (fun h41 hF => ?_)
    refine J_aload_n (pc := 44) C dX0_lessen_44 rfl ?_
    refine J_getR (pc := 45) C dX0_lessen_45 fg_X0_13 hF (fun r45 hF => ?_)
    refine J_iload_n (pc := 48) C dX0_lessen_48 rfl ?_
    refine J_iconst (pc := 49) C dX0_lessen_49 ic_1 ?_
    refine J_iadd (pc := 50) C dX0_lessen_50 ?_
    refine J_aload_n (pc := 51) C dX0_lessen_51 rfl ?_
    refine J_getR (pc := 52) C dX0_lessen_52 fg_X0_13 hF (fun r52 hF => ?_)
    refine J_iload_n (pc := 55) C dX0_lessen_55 rfl ?_
    refine J_iload_n (pc := 56) C dX0_lessen_56 rfl ?_
    refine J_acopy (pc := 57) C dX0_lessen_57 w_MLX0_23 w_ac1 w_ac2 w_ac3 (by decide) (Nat.le_of_ble_eq_true rfl) hF (fun h57 hF => ?_)
    refine J_aload_n (pc := 60) C dX0_lessen_60 rfl ?_
    refine J_getR (pc := 61) C dX0_lessen_61 fg_X0_16 hF (fun r61 hF => ?_)
    refine J_iload_n (pc := 64) C dX0_lessen_64 rfl ?_
    refine J_iconst (pc := 65) C dX0_lessen_65 ic_1 ?_
    refine J_iadd (pc := 66) C dX0_lessen_66 ?_
    refine J_aload_n (pc := 67) C dX0_lessen_67 rfl ?_
    refine J_getR (pc := 68) C dX0_lessen_68 fg_X0_16 hF (fun r68 hF => ?_)
    refine J_iload_n (pc := 71) C dX0_lessen_71 rfl ?_
    refine J_iload_n (pc := 72) C dX0_lessen_72 rfl ?_
    refine J_acopy (pc := 73) C dX0_lessen_73 w_MLX0_23 w_ac1 w_ac2 w_ac3 (by decide) (Nat.le_of_ble_eq_true rfl) hF (fun h73 hF => ?_)
    refine J_aload_n (pc := 76) C dX0_lessen_76 rfl ?_
    refine J_dup (pc := 77) C dX0_lessen_77 rfl ?_
    refine J_getI (pc := 78) C dX0_lessen_78 fg_X0_19 hF (fun v78 hF => ?_)
    refine J_iconst (pc := 81) C dX0_lessen_81 ic_1 ?_
    refine J_isub (pc := 82) C dX0_lessen_82 ?_
    refine J_put (pc := 83) C dX0_lessen_83 (fp_X0_19 _) hF rfl rfl (fun h83 hF => ?_)
    exact J_vret (pc := 86) C dX0_lessen_86 hF (by decide) (by decide)
  · exact J_vret (pc := 86) C dX0_lessen_86 hF (by decide) (by decide)
def fX2_isTold (h : Hp) (a0 : Nat) : Option Int32 := gO h 2 a0 (
  (getR h 2 a0 0).bind fun r1 =>
  (lenA h r1).bind fun v4 =>
  if v4 ≤ 0 then
    some 0
  else
    some 1)
set_option maxRecDepth 100000 in
theorem kX2_isTold {h : Hp} {a0 : Nat} {z : Int32} (hF : fX2_isTold h a0 = some z) : Mc yX2_isTold cX2_isTold 1 (some .boolean) 0 0 0 [.ref a0] h (some (.int z), h) := by
  have hF := (gO_some hF).2
  refine Mc_of [some (.ref a0)] plX2 rfl rfl (Nat.le_of_ble_eq_true rfl) (fun X C => ?_)
  refine J_aload_n (pc := 0) C dX2_isTold_0 rfl ?_
  refine J_getR (pc := 1) C dX2_isTold_1 fg_X2_7 hF (fun r1 hF => ?_)
  refine J_alen (pc := 4) C dX2_isTold_4 hF (fun v4 hF => ?_)
  refine J_if_le (pc := 5) (tgt := 12) C dX2_isTold_5 rfl hF (fun hF => ?_) (fun hF => ?_)
  · refine J_iconst (pc := 12) C dX2_isTold_12 ic_0 ?_
    exact J_zretP (pc := 13) C dX2_isTold_13 rfl hF (by decide) (by decide)
  · refine J_iconst (pc := 8) C dX2_isTold_8 ic_1 ?_
    refine J_goto (pc := 9) (tgt := 13) C dX2_isTold_9 rfl ?_
    exact J_zretP (pc := 13) C dX2_isTold_13 rfl hF (by decide) (by decide)
def fX2_join (x0 : Int32) (x1 : Int32) (x2 : Int32) : Option Int32 :=
  if x0 = 38 then
    if x1 = 0 then
      some 0
    else
      if x2 = 0 then
        some 0
      else
        some 1
  else
    if x0 = 42 then
      some (x1 * x2)
    else
      if x0 = 43 then
        some (x1 + x2)
      else
        if x0 = 45 then
          some (x1 - x2)
        else
          if x0 = 47 then
            if x2 = 0 then
              some 0
            else
              (dvz x1 x2).bind fun v167 =>
              some v167
          else
            if x0 = 60 then
              if x2 ≤ x1 then
                some 0
              else
                some 1
            else
              if x0 = 61 then
                if x1 = x2 then
                  some 1
                else
                  some 0
              else
                if x0 = 62 then
                  if x1 ≤ x2 then
                    some 0
                  else
                    some 1
                else
                  if x0 = 124 then
                    if x1 = 0 then
                      if x2 = 0 then
                        some 0
                      else
                        some 1
                    else
                      some 1
                  else
                    if x2 = 0 then
                      some 0
                    else
                      (rmz x1 x2).bind fun v179 =>
                      some v179
set_option maxRecDepth 100000 in
theorem kX2_join {h : Hp} {x0 : Int32} {x1 : Int32} {x2 : Int32} {z : Int32} (hF : fX2_join x0 x1 x2 = some z) : Mc yX2_join cX2_join 3 (some .int) 0 0 0 [.int x0, .int x1, .int x2] h (some (.int z), h) := by
  unfold fX2_join at hF
  refine Mc_of [some (.int x0), some (.int x1), some (.int x2)] plX2 rfl rfl (Nat.le_of_ble_eq_true rfl) (fun X C => ?_)
  refine J_iload_n (pc := 0) C dX2_join_0 rfl ?_
  refine J_br hF (fun hc1_38 hF => ?_) (fun hc1_38 hF => ?_)
  · refine J_lsC (pc := 1) (tgt := 98) C 38 hc1_38 dX2_join_1 (by decide) rfl rfl ?_
    refine J_iload_n (pc := 98) C dX2_join_98 rfl ?_
    refine J_if_eq (pc := 99) (tgt := 110) C dX2_join_99 rfl hF (fun hF => ?_) (fun hF => ?_)
    · refine J_iconst (pc := 110) C dX2_join_110 ic_0 ?_
      exact J_iretP (pc := 111) C dX2_join_111 hF (by decide) (by decide)
    · refine J_iload_n (pc := 102) C dX2_join_102 rfl ?_
      refine J_if_eq (pc := 103) (tgt := 110) C dX2_join_103 rfl hF (fun hF => ?_) (fun hF => ?_)
      · refine J_iconst (pc := 110) C dX2_join_110 ic_0 ?_
        exact J_iretP (pc := 111) C dX2_join_111 hF (by decide) (by decide)
      · refine J_iconst (pc := 106) C dX2_join_106 ic_1 ?_
        refine J_goto (pc := 107) (tgt := 111) C dX2_join_107 rfl ?_
        exact J_iretP (pc := 111) C dX2_join_111 hF (by decide) (by decide)
  · refine J_br hF (fun hc1_42 hF => ?_) (fun hc1_42 hF => ?_)
    · refine J_lsC (pc := 1) (tgt := 153) C 42 hc1_42 dX2_join_1 (by decide) rfl rfl ?_
      refine J_iload_n (pc := 153) C dX2_join_153 rfl ?_
      refine J_iload_n (pc := 154) C dX2_join_154 rfl ?_
      refine J_imul (pc := 155) C dX2_join_155 ?_
      exact J_iretP (pc := 156) C dX2_join_156 hF (by decide) (by decide)
    · refine J_br hF (fun hc1_43 hF => ?_) (fun hc1_43 hF => ?_)
      · refine J_lsC (pc := 1) (tgt := 145) C 43 hc1_43 dX2_join_1 (by decide) rfl rfl ?_
        refine J_iload_n (pc := 145) C dX2_join_145 rfl ?_
        refine J_iload_n (pc := 146) C dX2_join_146 rfl ?_
        refine J_iadd (pc := 147) C dX2_join_147 ?_
        exact J_iretP (pc := 148) C dX2_join_148 hF (by decide) (by decide)
      · refine J_br hF (fun hc1_45 hF => ?_) (fun hc1_45 hF => ?_)
        · refine J_lsC (pc := 1) (tgt := 149) C 45 hc1_45 dX2_join_1 (by decide) rfl rfl ?_
          refine J_iload_n (pc := 149) C dX2_join_149 rfl ?_
          refine J_iload_n (pc := 150) C dX2_join_150 rfl ?_
          refine J_isub (pc := 151) C dX2_join_151 ?_
          exact J_iretP (pc := 152) C dX2_join_152 hF (by decide) (by decide)
        · refine J_br hF (fun hc1_47 hF => ?_) (fun hc1_47 hF => ?_)
          · refine J_lsC (pc := 1) (tgt := 157) C 47 hc1_47 dX2_join_1 (by decide) rfl rfl ?_
            refine J_iload_n (pc := 157) C dX2_join_157 rfl ?_
            refine J_if_ne (pc := 158) (tgt := 165) C dX2_join_158 rfl hF (fun hF => ?_) (fun hF => ?_)
            · refine J_iconst (pc := 161) C dX2_join_161 ic_0 ?_
              refine J_goto (pc := 162) (tgt := 168) C dX2_join_162 rfl ?_
              exact J_iretP (pc := 168) C dX2_join_168 hF (by decide) (by decide)
            · refine J_iload_n (pc := 165) C dX2_join_165 rfl ?_
              refine J_iload_n (pc := 166) C dX2_join_166 rfl ?_
              refine J_idiv (pc := 167) C dX2_join_167 hF (fun v167 hF => ?_)
              exact J_iretP (pc := 168) C dX2_join_168 hF (by decide) (by decide)
          · refine J_br hF (fun hc1_60 hF => ?_) (fun hc1_60 hF => ?_)
            · refine J_lsC (pc := 1) (tgt := 112) C 60 hc1_60 dX2_join_1 (by decide) rfl rfl ?_
              refine J_iload_n (pc := 112) C dX2_join_112 rfl ?_
              refine J_iload_n (pc := 113) C dX2_join_113 rfl ?_
              refine J_icmp_ge (pc := 114) (tgt := 121) C dX2_join_114 rfl hF (fun hF => ?_) (fun hF => ?_)
              · refine J_iconst (pc := 121) C dX2_join_121 ic_0 ?_
                exact J_iretP (pc := 122) C dX2_join_122 hF (by decide) (by decide)
              · refine J_iconst (pc := 117) C dX2_join_117 ic_1 ?_
                refine J_goto (pc := 118) (tgt := 122) C dX2_join_118 rfl ?_
                exact J_iretP (pc := 122) C dX2_join_122 hF (by decide) (by decide)
            · refine J_br hF (fun hc1_61 hF => ?_) (fun hc1_61 hF => ?_)
              · refine J_lsC (pc := 1) (tgt := 123) C 61 hc1_61 dX2_join_1 (by decide) rfl rfl ?_
                refine J_iload_n (pc := 123) C dX2_join_123 rfl ?_
                refine J_iload_n (pc := 124) C dX2_join_124 rfl ?_
                refine J_icmp_ne (pc := 125) (tgt := 132) C dX2_join_125 rfl hF (fun hF => ?_) (fun hF => ?_)
                · refine J_iconst (pc := 128) C dX2_join_128 ic_1 ?_
                  refine J_goto (pc := 129) (tgt := 133) C dX2_join_129 rfl ?_
                  exact J_iretP (pc := 133) C dX2_join_133 hF (by decide) (by decide)
                · refine J_iconst (pc := 132) C dX2_join_132 ic_0 ?_
                  exact J_iretP (pc := 133) C dX2_join_133 hF (by decide) (by decide)
              · refine J_br hF (fun hc1_62 hF => ?_) (fun hc1_62 hF => ?_)
                · refine J_lsC (pc := 1) (tgt := 134) C 62 hc1_62 dX2_join_1 (by decide) rfl rfl ?_
                  refine J_iload_n (pc := 134) C dX2_join_134 rfl ?_
                  refine J_iload_n (pc := 135) C dX2_join_135 rfl ?_
                  refine J_icmp_le (pc := 136) (tgt := 143) C dX2_join_136 rfl hF (fun hF => ?_) (fun hF => ?_)
                  · refine J_iconst (pc := 143) C dX2_join_143 ic_0 ?_
                    exact J_iretP (pc := 144) C dX2_join_144 hF (by decide) (by decide)
                  · refine J_iconst (pc := 139) C dX2_join_139 ic_1 ?_
                    refine J_goto (pc := 140) (tgt := 144) C dX2_join_140 rfl ?_
                    exact J_iretP (pc := 144) C dX2_join_144 hF (by decide) (by decide)
                · refine J_br hF (fun hc1_124 hF => ?_) (fun hc1_124 hF => ?_)
                  · refine J_lsC (pc := 1) (tgt := 84) C 124 hc1_124 dX2_join_1 (by decide) rfl rfl ?_
                    refine J_iload_n (pc := 84) C dX2_join_84 rfl ?_
                    refine J_if_ne (pc := 85) (tgt := 92) C dX2_join_85 rfl hF (fun hF => ?_) (fun hF => ?_)
                    · refine J_iload_n (pc := 88) C dX2_join_88 rfl ?_
                      refine J_if_eq (pc := 89) (tgt := 96) C dX2_join_89 rfl hF (fun hF => ?_) (fun hF => ?_)
                      · refine J_iconst (pc := 96) C dX2_join_96 ic_0 ?_
                        exact J_iretP (pc := 97) C dX2_join_97 hF (by decide) (by decide)
                      · refine J_iconst (pc := 92) C dX2_join_92 ic_1 ?_
                        refine J_goto (pc := 93) (tgt := 97) C dX2_join_93 rfl ?_
                        exact J_iretP (pc := 97) C dX2_join_97 hF (by decide) (by decide)
                    · refine J_iconst (pc := 92) C dX2_join_92 ic_1 ?_
                      refine J_goto (pc := 93) (tgt := 97) C dX2_join_93 rfl ?_
                      exact J_iretP (pc := 97) C dX2_join_97 hF (by decide) (by decide)
                  · refine J_ls (pc := 1) (tgt := 169) C dX2_join_1 (by decide) (show Op.lookupswitch.offset [(38, 97), (42, 152), (43, 144), (45, 148), (47, 156), (60, 111), (61, 122), (62, 133), (124, 83)] 168 x0.toInt = 168 from by rw [lv_osw hc1_38 (a := 38) rfl, lv_osw hc1_42 (a := 42) rfl, lv_osw hc1_43 (a := 43) rfl, lv_osw hc1_45 (a := 45) rfl, lv_osw hc1_47 (a := 47) rfl, lv_osw hc1_60 (a := 60) rfl, lv_osw hc1_61 (a := 61) rfl, lv_osw hc1_62 (a := 62) rfl, lv_osw hc1_124 (a := 124) rfl]; rfl) rfl ?_
                    refine J_iload_n (pc := 169) C dX2_join_169 rfl ?_
                    refine J_if_ne (pc := 170) (tgt := 177) C dX2_join_170 rfl hF (fun hF => ?_) (fun hF => ?_)
                    · refine J_iconst (pc := 173) C dX2_join_173 ic_0 ?_
                      refine J_goto (pc := 174) (tgt := 180) C dX2_join_174 rfl ?_
                      exact J_iretP (pc := 180) C dX2_join_180 hF (by decide) (by decide)
                    · refine J_iload_n (pc := 177) C dX2_join_177 rfl ?_
                      refine J_iload_n (pc := 178) C dX2_join_178 rfl ?_
                      refine J_irem (pc := 179) C dX2_join_179 hF (fun v179 hF => ?_)
                      exact J_iretP (pc := 180) C dX2_join_180 hF (by decide) (by decide)
def fX2_value_133 (k6 : Hp → Nat → Int32 → Int32 → Int32 → Int32 → Int32 → Option (Int32 × Hp)) (h : Hp) (a0 : Nat) (x1 : Int32) (x2 : Int32) (x3 : Int32) (x4 : Int32) (x5 : Int32) (x6 : Int32) : Option (Int32 × Hp) :=
  if x4 < 2 then
    k6 h a0 x1 x2 x3 x4 (x5 + 1)
  else
    (getR h 2 a0 1).bind fun r143 =>
    (getR h 2 a0 1).bind fun r153 =>
    (rdI h r153 ((x4 + (-1)) - 1)).bind fun v160 =>
    (getR h 2 a0 1).bind fun r162 =>
    (rdI h r162 (x4 + (-1))).bind fun v167 =>
    (fX2_join x6 v160 v167).bind fun q168 =>
    (wrI h r143 ((x4 + (-1)) - 1) q168).bind fun h171 =>
    k6 h171 a0 x1 x2 x3 (x4 + (-1)) (x5 + 1)
set_option maxRecDepth 100000 in
theorem kX2_value_133 {X : Cx} {z : (Int32 × Hp)} (C : Jc X yX2_value cX2_value 7 (some .int) 1 0 0 (some (.int z.1), z.2)) {k6 : Hp → Nat → Int32 → Int32 → Int32 → Int32 → Int32 → Option (Int32 × Hp)} (hk6 : ∀ (h : Hp) (a0 : Nat) (x1 : Int32) (x2 : Int32) (x3 : Int32) (x4 : Int32) (x5 : Int32), k6 h a0 x1 x2 x3 x4 x5 = some z → J X 0 0 0 0 6 [some (.ref a0), some (.int x1), some (.int x2), some (.int x3), some (.int x4), some (.int x5), none] [] h) (h : Hp) (a0 : Nat) (x1 : Int32) (x2 : Int32) (x3 : Int32) (x4 : Int32) (x5 : Int32) (x6 : Int32) (hF : fX2_value_133 k6 h a0 x1 x2 x3 x4 x5 x6 = some z) : J X 0 0 0 0 133 [some (.ref a0), some (.int x1), some (.int x2), some (.int x3), some (.int x4), some (.int x5), some (.int x6)] [] h := by
  unfold fX2_value_133 at hF
  refine J_iload (pc := 133) C dX2_value_133 rfl ?_
  refine J_iconst (pc := 135) C dX2_value_135 ic_2 ?_
  refine J_icmp_lt (pc := 136) (tgt := 172) C dX2_value_136 rfl hF (fun hF => ?_) (fun hF => ?_)
  · refine J_iinc (pc := 172) (lv' := [some (.ref a0), some (.int x1), some (.int x2), some (.int x3), some (.int x4), some (.int (x5 + 1)), some (.int x6)]) C dX2_value_172 rfl ic_1 rfl ?_
    refine J_goto (pc := 175) (tgt := 6) C dX2_value_175 rfl ?_
    refine J_msk (m := [true, true, true, true, true, true, false]) rfl ?_
    exact hk6 h a0 x1 x2 x3 x4 (x5 + 1) hF
  · refine J_iinc (pc := 139) (lv' := [some (.ref a0), some (.int x1), some (.int x2), some (.int x3), some (.int (x4 + (-1))), some (.int x5), some (.int x6)]) C dX2_value_139 rfl ic_m1 rfl ?_
    refine J_aload_n (pc := 142) C dX2_value_142 rfl ?_
    refine J_getR (pc := 143) C dX2_value_143 fg_X2_13 hF (fun r143 hF => ?_)
    refine J_iload (pc := 146) C dX2_value_146 rfl ?_
    refine J_iconst (pc := 148) C dX2_value_148 ic_1 ?_
    refine J_isub (pc := 149) C dX2_value_149 ?_
    refine J_iload (pc := 150) C dX2_value_150 rfl ?_
    refine J_aload_n (pc := 152) C dX2_value_152 rfl ?_
    refine J_getR (pc := 153) C dX2_value_153 fg_X2_13 hF (fun r153 hF => ?_)
    refine J_iload (pc := 156) C dX2_value_156 rfl ?_
    refine J_iconst (pc := 158) C dX2_value_158 ic_1 ?_
    refine J_isub (pc := 159) C dX2_value_159 ?_
    refine J_iald (pc := 160) C dX2_value_160 hF (fun v160 hF => ?_)
    refine J_aload_n (pc := 161) C dX2_value_161 rfl ?_
    refine J_getR (pc := 162) C dX2_value_162 fg_X2_13 hF (fun r162 hF => ?_)
    refine J_iload (pc := 165) C dX2_value_165 rfl ?_
    refine J_iald (pc := 167) C dX2_value_167 hF (fun v167 hF => ?_)
    refine J_bind hF (fun q168 hq hF => ?_)
    refine J_callS0_ip (pc := 168) (stk := [.int v167, .int v160, .int x6, .int ((x4 + (-1)) - 1), .ref r143]) (st := [.int ((x4 + (-1)) - 1), .ref r143]) C dX2_value_168 yw_X2_join w_MLX2_16 st_X2_join (kX2_join hq) rfl (by decide) rfl (Nat.le_of_ble_eq_true rfl) ?_
    refine J_iast (pc := 171) C dX2_value_171 hF (fun h171 hF => ?_)
    refine J_iinc (pc := 172) (lv' := [some (.ref a0), some (.int x1), some (.int x2), some (.int x3), some (.int (x4 + (-1))), some (.int (x5 + 1)), some (.int x6)]) C dX2_value_172 rfl ic_1 rfl ?_
    refine J_goto (pc := 175) (tgt := 6) C dX2_value_175 rfl ?_
    refine J_msk (m := [true, true, true, true, true, true, false]) rfl ?_
    exact hk6 h171 a0 x1 x2 x3 (x4 + (-1)) (x5 + 1) hF
def fX2_value_84 (k6 : Hp → Nat → Int32 → Int32 → Int32 → Int32 → Int32 → Option (Int32 × Hp)) (h : Hp) (a0 : Nat) (x1 : Int32) (x2 : Int32) (x3 : Int32) (x4 : Int32) (x5 : Int32) (b0 : Nat) (y1 : Int32) (y2 : Int32) : Option (Int32 × Hp) :=
  (wrI h b0 y1 y2).bind fun h84 =>
  k6 h84 a0 x1 x2 x3 (x4 + 1) (x5 + 1)
set_option maxRecDepth 100000 in
theorem kX2_value_84 {X : Cx} {z : (Int32 × Hp)} (C : Jc X yX2_value cX2_value 7 (some .int) 1 0 0 (some (.int z.1), z.2)) {k6 : Hp → Nat → Int32 → Int32 → Int32 → Int32 → Int32 → Option (Int32 × Hp)} (hk6 : ∀ (h : Hp) (a0 : Nat) (x1 : Int32) (x2 : Int32) (x3 : Int32) (x4 : Int32) (x5 : Int32), k6 h a0 x1 x2 x3 x4 x5 = some z → J X 0 0 0 0 6 [some (.ref a0), some (.int x1), some (.int x2), some (.int x3), some (.int x4), some (.int x5), none] [] h) (h : Hp) (a0 : Nat) (x1 : Int32) (x2 : Int32) (x3 : Int32) (x4 : Int32) (x5 : Int32) (b0 : Nat) (y1 : Int32) (y2 : Int32) (hF : fX2_value_84 k6 h a0 x1 x2 x3 x4 x5 b0 y1 y2 = some z) : J X 0 0 0 0 84 [some (.ref a0), some (.int x1), some (.int x2), some (.int x3), some (.int x4), some (.int x5), none] [.int y2, .int y1, .ref b0] h := by
  unfold fX2_value_84 at hF
  refine J_iast (pc := 84) C dX2_value_84 hF (fun h84 hF => ?_)
  refine J_iinc (pc := 85) (lv' := [some (.ref a0), some (.int x1), some (.int x2), some (.int x3), some (.int (x4 + 1)), some (.int x5), none]) C dX2_value_85 rfl ic_1 rfl ?_
  refine J_goto (pc := 88) (tgt := 172) C dX2_value_88 rfl ?_
  refine J_iinc (pc := 172) (lv' := [some (.ref a0), some (.int x1), some (.int x2), some (.int x3), some (.int (x4 + 1)), some (.int (x5 + 1)), none]) C dX2_value_172 rfl ic_1 rfl ?_
  refine J_goto (pc := 175) (tgt := 6) C dX2_value_175 rfl ?_
  exact hk6 h84 a0 x1 x2 x3 (x4 + 1) (x5 + 1) hF
def fX2_value_6 : Nat → Hp → Nat → Int32 → Int32 → Int32 → Int32 → Int32 → Option (Int32 × Hp)
  | 0, _, _, _, _, _, _, _ => none
  | n6 + 1, h, a0, x1, x2, x3, x4, x5 =>
    (getR h 2 a0 0).bind fun r9 =>
    (lenA h r9).bind fun v12 =>
    if v12 ≤ x5 then
      if x4 ≤ 0 then
        some (0, h)
      else
        (getR h 2 a0 1).bind fun r184 =>
        (rdI h r184 0).bind fun v188 =>
        some (v188, h)
    else
      (getR h 2 a0 0).bind fun r17 =>
      (rdI h r17 x5).bind fun v22 =>
      if v22 < 256 then
        if (3 : Int32) ≤ v22 then
          if v22 = 33 then
            if x4 < 1 then
              fX2_value_133 (fX2_value_6 n6) h a0 x1 x2 x3 x4 x5 v22
            else
              (getR h 2 a0 1).bind fun r105 =>
              (getR h 2 a0 1).bind fun r113 =>
              (rdI h r113 (x4 - 1)).bind fun v120 =>
              if v120 = 0 then
                (wrI h r105 (x4 - 1) 1).bind fun h129 =>
                fX2_value_6 n6 h129 a0 x1 x2 x3 x4 (x5 + 1)
              else
                (wrI h r105 (x4 - 1) 0).bind fun h129 =>
                fX2_value_6 n6 h129 a0 x1 x2 x3 x4 (x5 + 1)
          else
            fX2_value_133 (fX2_value_6 n6) h a0 x1 x2 x3 x4 x5 v22
        else
          (getR h 2 a0 1).bind fun r59 =>
          if v22 = 0 then
            fX2_value_84 (fX2_value_6 n6) h a0 x1 x2 x3 x4 x5 r59 x4 x1
          else
            if v22 = 1 then
              fX2_value_84 (fX2_value_6 n6) h a0 x1 x2 x3 x4 x5 r59 x4 x2
            else
              fX2_value_84 (fX2_value_6 n6) h a0 x1 x2 x3 x4 x5 r59 x4 x3
      else
        (getR h 2 a0 1).bind fun r34 =>
        (wrI h r34 x4 (v22 - 256)).bind fun h45 =>
        fX2_value_6 n6 h45 a0 x1 x2 x3 (x4 + 1) (x5 + 1)
set_option maxRecDepth 100000 in
theorem kX2_value_6 {X : Cx} {z : (Int32 × Hp)} (C : Jc X yX2_value cX2_value 7 (some .int) 1 0 0 (some (.int z.1), z.2)) : ∀ (n6 : Nat) (h : Hp) (a0 : Nat) (x1 : Int32) (x2 : Int32) (x3 : Int32) (x4 : Int32) (x5 : Int32), fX2_value_6 n6 h a0 x1 x2 x3 x4 x5 = some z → J X 0 0 0 0 6 [some (.ref a0), some (.int x1), some (.int x2), some (.int x3), some (.int x4), some (.int x5), none] [] h := by
  intro n6
  induction n6 with
  | zero => intro h a0 x1 x2 x3 x4 x5 hF; cases hF
  | succ n6 ih =>
    intro h a0 x1 x2 x3 x4 x5 hF
    rw [fX2_value_6] at hF
    refine J_iload (pc := 6) C dX2_value_6 rfl ?_
    refine J_aload_n (pc := 8) C dX2_value_8 rfl ?_
    refine J_getR (pc := 9) C dX2_value_9 fg_X2_7 hF (fun r9 hF => ?_)
    refine J_alen (pc := 12) C dX2_value_12 hF (fun v12 hF => ?_)
    refine J_icmp_ge (pc := 13) (tgt := 178) C dX2_value_13 rfl hF (fun hF => ?_) (fun hF => ?_)
    · refine J_iload (pc := 178) C dX2_value_178 rfl ?_
      refine J_if_le (pc := 180) (tgt := 192) C dX2_value_180 rfl hF (fun hF => ?_) (fun hF => ?_)
      · refine J_iconst (pc := 192) C dX2_value_192 ic_0 ?_
        exact J_iret (pc := 193) C dX2_value_193 hF (by decide) (by decide)
      · refine J_aload_n (pc := 183) C dX2_value_183 rfl ?_
        refine J_getR (pc := 184) C dX2_value_184 fg_X2_13 hF (fun r184 hF => ?_)
        refine J_iconst (pc := 187) C dX2_value_187 ic_0 ?_
        refine J_iald (pc := 188) C dX2_value_188 hF (fun v188 hF => ?_)
        refine J_goto (pc := 189) (tgt := 193) C dX2_value_189 rfl ?_
        exact J_iret (pc := 193) C dX2_value_193 hF (by decide) (by decide)
    · refine J_aload_n (pc := 16) C dX2_value_16 rfl ?_
      refine J_getR (pc := 17) C dX2_value_17 fg_X2_7 hF (fun r17 hF => ?_)
      refine J_iload (pc := 20) C dX2_value_20 rfl ?_
      refine J_iald (pc := 22) C dX2_value_22 hF (fun v22 hF => ?_)
      refine J_istore (pc := 23) (lv' := [some (.ref a0), some (.int x1), some (.int x2), some (.int x3), some (.int x4), some (.int x5), some (.int v22)]) C dX2_value_23 rfl ?_
      refine J_iload (pc := 25) C dX2_value_25 rfl ?_
      refine J_sipush (pc := 27) C dX2_value_27 sc_256 ?_
      refine J_icmp_lt (pc := 30) (tgt := 52) C dX2_value_30 rfl hF (fun hF => ?_) (fun hF => ?_)
      · refine J_iload (pc := 52) C dX2_value_52 rfl ?_
        refine J_iconst (pc := 54) C dX2_value_54 ic_3 ?_
        refine J_icmp_ge (pc := 55) (tgt := 91) C dX2_value_55 rfl hF (fun hF => ?_) (fun hF => ?_)
        · refine J_iload (pc := 91) C dX2_value_91 rfl ?_
          refine J_bipush (pc := 93) C dX2_value_93 bc_33 ?_
          refine J_icmp_ne (pc := 95) (tgt := 133) C dX2_value_95 rfl hF (fun hF => ?_) (fun hF => ?_)
          · refine J_iload (pc := 98) C dX2_value_98 rfl ?_
            refine J_iconst (pc := 100) C dX2_value_100 ic_1 ?_
            refine J_icmp_lt (pc := 101) (tgt := 133) C dX2_value_101 rfl hF (fun hF => ?_) (fun hF => ?_)
            · exact kX2_value_133 C ih h a0 x1 x2 x3 x4 x5 v22 hF
            · refine J_aload_n (pc := 104) C dX2_value_104 rfl ?_
              refine J_getR (pc := 105) C dX2_value_105 fg_X2_13 hF (fun r105 hF => ?_)
              refine J_iload (pc := 108) C dX2_value_108 rfl ?_
              refine J_iconst (pc := 110) C dX2_value_110 ic_1 ?_
              refine J_isub (pc := 111) C dX2_value_111 ?_
              refine J_aload_n (pc := 112) C dX2_value_112 rfl ?_
              refine J_getR (pc := 113) C dX2_value_113 fg_X2_13 hF (fun r113 hF => ?_)
              refine J_iload (pc := 116) C dX2_value_116 rfl ?_
              refine J_iconst (pc := 118) C dX2_value_118 ic_1 ?_
              refine J_isub (pc := 119) C dX2_value_119 ?_
              refine J_iald (pc := 120) C dX2_value_120 hF (fun v120 hF => ?_)
              refine J_if_ne (pc := 121) (tgt := 128) C dX2_value_121 rfl hF (fun hF => ?_) (fun hF => ?_)
              · refine J_iconst (pc := 124) C dX2_value_124 ic_1 ?_
                refine J_goto (pc := 125) (tgt := 129) C dX2_value_125 rfl ?_
                refine J_iast (pc := 129) C dX2_value_129 hF (fun h129 hF => ?_)
                refine J_goto (pc := 130) (tgt := 172) C dX2_value_130 rfl ?_
                refine J_iinc (pc := 172) (lv' := [some (.ref a0), some (.int x1), some (.int x2), some (.int x3), some (.int x4), some (.int (x5 + 1)), some (.int v22)]) C dX2_value_172 rfl ic_1 rfl ?_
                refine J_goto (pc := 175) (tgt := 6) C dX2_value_175 rfl ?_
                refine J_msk (m := [true, true, true, true, true, true, false]) rfl ?_
                exact ih h129 a0 x1 x2 x3 x4 (x5 + 1) hF
              · refine J_iconst (pc := 128) C dX2_value_128 ic_0 ?_
                refine J_iast (pc := 129) C dX2_value_129 hF (fun h129 hF => ?_)
                refine J_goto (pc := 130) (tgt := 172) C dX2_value_130 rfl ?_
                refine J_iinc (pc := 172) (lv' := [some (.ref a0), some (.int x1), some (.int x2), some (.int x3), some (.int x4), some (.int (x5 + 1)), some (.int v22)]) C dX2_value_172 rfl ic_1 rfl ?_
                refine J_goto (pc := 175) (tgt := 6) C dX2_value_175 rfl ?_
                refine J_msk (m := [true, true, true, true, true, true, false]) rfl ?_
                exact ih h129 a0 x1 x2 x3 x4 (x5 + 1) hF
          · exact kX2_value_133 C ih h a0 x1 x2 x3 x4 x5 v22 hF
        · refine J_aload_n (pc := 58) C dX2_value_58 rfl ?_
          refine J_getR (pc := 59) C dX2_value_59 fg_X2_13 hF (fun r59 hF => ?_)
          refine J_iload (pc := 62) C dX2_value_62 rfl ?_
          refine J_iload (pc := 64) C dX2_value_64 rfl ?_
          refine J_if_ne (pc := 66) (tgt := 73) C dX2_value_66 rfl hF (fun hF => ?_) (fun hF => ?_)
          · refine J_iload_n (pc := 69) C dX2_value_69 rfl ?_
            refine J_goto (pc := 70) (tgt := 84) C dX2_value_70 rfl ?_
            refine J_msk (m := [true, true, true, true, true, true, false]) rfl ?_
            exact kX2_value_84 C ih h a0 x1 x2 x3 x4 x5 r59 x4 x1 hF
          · refine J_iload (pc := 73) C dX2_value_73 rfl ?_
            refine J_iconst (pc := 75) C dX2_value_75 ic_1 ?_
            refine J_icmp_ne (pc := 76) (tgt := 83) C dX2_value_76 rfl hF (fun hF => ?_) (fun hF => ?_)
            · refine J_iload_n (pc := 79) C dX2_value_79 rfl ?_
              refine J_goto (pc := 80) (tgt := 84) C dX2_value_80 rfl ?_
              refine J_msk (m := [true, true, true, true, true, true, false]) rfl ?_
              exact kX2_value_84 C ih h a0 x1 x2 x3 x4 x5 r59 x4 x2 hF
            · refine J_iload_n (pc := 83) C dX2_value_83 rfl ?_
              refine J_msk (m := [true, true, true, true, true, true, false]) rfl ?_
              exact kX2_value_84 C ih h a0 x1 x2 x3 x4 x5 r59 x4 x3 hF
      · refine J_aload_n (pc := 33) C dX2_value_33 rfl ?_
        refine J_getR (pc := 34) C dX2_value_34 fg_X2_13 hF (fun r34 hF => ?_)
        refine J_iload (pc := 37) C dX2_value_37 rfl ?_
        refine J_iload (pc := 39) C dX2_value_39 rfl ?_
        refine J_sipush (pc := 41) C dX2_value_41 sc_256 ?_
        refine J_isub (pc := 44) C dX2_value_44 ?_
        refine J_iast (pc := 45) C dX2_value_45 hF (fun h45 hF => ?_)
        refine J_iinc (pc := 46) (lv' := [some (.ref a0), some (.int x1), some (.int x2), some (.int x3), some (.int (x4 + 1)), some (.int x5), some (.int v22)]) C dX2_value_46 rfl ic_1 rfl ?_
        refine J_goto (pc := 49) (tgt := 172) C dX2_value_49 rfl ?_
        refine J_iinc (pc := 172) (lv' := [some (.ref a0), some (.int x1), some (.int x2), some (.int x3), some (.int (x4 + 1)), some (.int (x5 + 1)), some (.int v22)]) C dX2_value_172 rfl ic_1 rfl ?_
        refine J_goto (pc := 175) (tgt := 6) C dX2_value_175 rfl ?_
        refine J_msk (m := [true, true, true, true, true, true, false]) rfl ?_
        exact ih h45 a0 x1 x2 x3 (x4 + 1) (x5 + 1) hF
def fX2_value (h : Hp) (a0 : Nat) (x1 : Int32) (x2 : Int32) (x3 : Int32) : Option (Int32 × Hp) := gO h 2 a0 (
  fX2_value_6 1000 h a0 x1 x2 x3 0 0)
set_option maxRecDepth 100000 in
theorem kX2_value {h : Hp} {a0 : Nat} {x1 : Int32} {x2 : Int32} {x3 : Int32} {z : (Int32 × Hp)} (hF : fX2_value h a0 x1 x2 x3 = some z) : Mc yX2_value cX2_value 7 (some .int) 1 0 0 [.ref a0, .int x1, .int x2, .int x3] h (some (.int z.1), z.2) := by
  have hF := (gO_some hF).2
  refine Mc_of [some (.ref a0), some (.int x1), some (.int x2), some (.int x3), none, none, none] plX2 rfl rfl (Nat.le_of_ble_eq_true rfl) (fun X C => ?_)
  refine J_iconst (pc := 0) C dX2_value_0 ic_0 ?_
  refine J_istore (pc := 1) (lv' := [some (.ref a0), some (.int x1), some (.int x2), some (.int x3), some (.int 0), none, none]) C dX2_value_1 rfl ?_
  refine J_iconst (pc := 3) C dX2_value_3 ic_0 ?_
  refine J_istore (pc := 4) (lv' := [some (.ref a0), some (.int x1), some (.int x2), some (.int x3), some (.int 0), some (.int 0), none]) C dX2_value_4 rfl ?_
  exact kX2_value_6 C 1000 h a0 x1 x2 x3 0 0 hF
def fX8_held (x0 : Int32) (x1 : Int32) : Option Int32 :=
  some (imax 0 (imin x0 x1))
set_option maxRecDepth 100000 in
theorem kX8_held {h : Hp} {x0 : Int32} {x1 : Int32} {z : Int32} (hF : fX8_held x0 x1 = some z) : Mc yX8_held cX8_held 2 (some .int) 1 0 0 [.int x0, .int x1] h (some (.int z), h) := by
  unfold fX8_held at hF
  refine Mc_of [some (.int x0), some (.int x1)] plX8 rfl rfl (Nat.le_of_ble_eq_true rfl) (fun X C => ?_)
  refine J_iconst (pc := 0) C dX8_held_0 ic_0 ?_
  refine J_iload_n (pc := 1) C dX8_held_1 rfl ?_
  refine J_iload_n (pc := 2) C dX8_held_2 rfl ?_
  refine J_mmin (pc := 3) C dX8_held_3 w_MLX8_228 w_mn1 w_mn2 w_mn3 (by decide) (Nat.le_of_ble_eq_true rfl) ?_
  refine J_mmax (pc := 6) C dX8_held_6 w_MLX8_350 w_mx1 w_mn2 w_mx3 (by decide) (Nat.le_of_ble_eq_true rfl) ?_
  exact J_iretP (pc := 9) C dX8_held_9 hF (by decide) (by decide)
def fX7_keeps_103 (h : Hp) (y0 : Int32) : Option (Int32 × Hp) :=
  (fX8_held y0 8).bind fun q112 =>
  some (q112, h)
set_option maxRecDepth 100000 in
theorem kX7_keeps_103 {X : Cx} {z : (Int32 × Hp)} (C : Jc X yX7_keeps cX7_keeps 4 (some .int) 2 0 0 (some (.int z.1), z.2)) (h : Hp) (y0 : Int32) (hF : fX7_keeps_103 h y0 = some z) : J X 0 0 0 0 103 [none, none, none, none] [.int y0] h := by
  unfold fX7_keeps_103 at hF
  refine J_istore_n (pc := 103) (lv' := [none, none, none, some (.int y0)]) C dX7_keeps_103 rfl ?_
  refine J_goto (pc := 104) (tgt := 109) C dX7_keeps_104 rfl ?_
  refine J_iload_n (pc := 109) C dX7_keeps_109 rfl ?_
  refine J_bipush (pc := 110) C dX7_keeps_110 bc_8 ?_
  refine J_bind hF (fun q112 hq hF => ?_)
  refine J_callSN0_ip (pc := 112) (stk := [.int 8, .int y0]) (st := []) C dX7_keeps_112 yw_X8_held (by decide +kernel) st_X8_held (kX8_held hq) rfl (by decide) rfl (Nat.le_of_ble_eq_true rfl) ?_
  exact J_iret (pc := 115) C dX7_keeps_115 hF (by decide) (by decide)
def fX7_keeps (h : Hp) (a0 : Nat) (x1 : Int32) : Option (Int32 × Hp) := gO h 7 a0 (
  (getR h 7 a0 6).bind fun r1 =>
  (rdI h r1 x1).bind fun v5 =>
  (getR h 7 a0 5).bind fun r8 =>
  (rdI h r8 x1).bind fun v12 =>
  if v12 = 1 then
    (fX8_held (3 + v5) 8).bind fun q112 =>
    some (q112, h)
  else
    if v12 = 3 then
      (fX8_held 0 8).bind fun q112 =>
      some (q112, h)
    else
      if v12 = 4 then
        (fX8_held ((3 + v5) - 1) 8).bind fun q112 =>
        some (q112, h)
      else
        if v12 = 6 then
          (getR h 7 a0 11).bind fun r74 =>
          (fX2_isTold h r74).bind fun q77 =>
          if q77 = 0 then
            fX7_keeps_103 h v5
          else
            (getR h 7 a0 11).bind fun r84 =>
            (getI h 7 a0 0).bind fun v89 =>
            (getI h 7 a0 1).bind fun v93 =>
            (fX2_value h r84 v5 v89 v93).bind fun q96 =>
            fX7_keeps_103 q96.2 q96.1
        else
          (fX8_held 3 8).bind fun q112 =>
          some (q112, h))
set_option maxRecDepth 100000 in
theorem kX7_keeps {h : Hp} {a0 : Nat} {x1 : Int32} {z : (Int32 × Hp)} (hF : fX7_keeps h a0 x1 = some z) : Mc yX7_keeps cX7_keeps 4 (some .int) 2 0 0 [.ref a0, .int x1] h (some (.int z.1), z.2) := by
  have hF := (gO_some hF).2
  refine Mc_of [some (.ref a0), some (.int x1), none, none] plX7 rfl rfl (Nat.le_of_ble_eq_true rfl) (fun X C => ?_)
  refine J_aload_n (pc := 0) C dX7_keeps_0 rfl ?_
  refine J_getR (pc := 1) C dX7_keeps_1 fg_X7_21 hF (fun r1 hF => ?_)
  refine J_iload_n (pc := 4) C dX7_keeps_4 rfl ?_
  refine J_iald (pc := 5) C dX7_keeps_5 hF (fun v5 hF => ?_)
  refine J_istore_n (pc := 6) (lv' := [some (.ref a0), some (.int x1), some (.int v5), none]) C dX7_keeps_6 rfl ?_
  refine J_aload_n (pc := 7) C dX7_keeps_7 rfl ?_
  refine J_getR (pc := 8) C dX7_keeps_8 fg_X7_18 hF (fun r8 hF => ?_)
  refine J_iload_n (pc := 11) C dX7_keeps_11 rfl ?_
  refine J_iald (pc := 12) C dX7_keeps_12 hF (fun v12 hF => ?_)
  refine J_br hF (fun hc13_1 hF => ?_) (fun hc13_1 hF => ?_)
  · refine J_tsIn (pc := 13) (tgt := 52) C 1 hc13_1 dX7_keeps_13 (by decide) (by decide) rfl rfl ?_
    refine J_iconst (pc := 52) C dX7_keeps_52 ic_3 ?_
    refine J_iload_n (pc := 53) C dX7_keeps_53 rfl ?_
    refine J_iadd (pc := 54) C dX7_keeps_54 ?_
    refine J_istore_n (pc := 55) (lv' := [some (.ref a0), some (.int x1), some (.int v5), some (.int (3 + v5))]) C dX7_keeps_55 rfl ?_
    refine J_goto (pc := 56) (tgt := 109) C dX7_keeps_56 rfl ?_
    refine J_iload_n (pc := 109) C dX7_keeps_109 rfl ?_
    refine J_bipush (pc := 110) C dX7_keeps_110 bc_8 ?_
    refine J_bind hF (fun q112 hq hF => ?_)
    refine J_callSN0_ip (pc := 112) (stk := [.int 8, .int (3 + v5)]) (st := []) C dX7_keeps_112 yw_X8_held (by decide +kernel) st_X8_held (kX8_held hq) rfl (by decide) rfl (Nat.le_of_ble_eq_true rfl) ?_
    exact J_iret (pc := 115) C dX7_keeps_115 hF (by decide) (by decide)
  · refine J_br hF (fun hc13_3 hF => ?_) (fun hc13_3 hF => ?_)
    · refine J_tsIn (pc := 13) (tgt := 59) C 3 hc13_3 dX7_keeps_13 (by decide) (by decide) rfl rfl ?_
      refine J_iconst (pc := 59) C dX7_keeps_59 ic_0 ?_
      refine J_istore_n (pc := 60) (lv' := [some (.ref a0), some (.int x1), some (.int v5), some (.int 0)]) C dX7_keeps_60 rfl ?_
      refine J_goto (pc := 61) (tgt := 109) C dX7_keeps_61 rfl ?_
      refine J_iload_n (pc := 109) C dX7_keeps_109 rfl ?_
      refine J_bipush (pc := 110) C dX7_keeps_110 bc_8 ?_
      refine J_bind hF (fun q112 hq hF => ?_)
      refine J_callSN0_ip (pc := 112) (stk := [.int 8, .int 0]) (st := []) C dX7_keeps_112 yw_X8_held (by decide +kernel) st_X8_held (kX8_held hq) rfl (by decide) rfl (Nat.le_of_ble_eq_true rfl) ?_
      exact J_iret (pc := 115) C dX7_keeps_115 hF (by decide) (by decide)
    · refine J_br hF (fun hc13_4 hF => ?_) (fun hc13_4 hF => ?_)
      · refine J_tsIn (pc := 13) (tgt := 64) C 4 hc13_4 dX7_keeps_13 (by decide) (by decide) rfl rfl ?_
        refine J_iconst (pc := 64) C dX7_keeps_64 ic_3 ?_
        refine J_iload_n (pc := 65) C dX7_keeps_65 rfl ?_
        refine J_iadd (pc := 66) C dX7_keeps_66 ?_
        refine J_iconst (pc := 67) C dX7_keeps_67 ic_1 ?_
        refine J_isub (pc := 68) C dX7_keeps_68 ?_
        refine J_istore_n (pc := 69) (lv' := [some (.ref a0), some (.int x1), some (.int v5), some (.int ((3 + v5) - 1))]) C dX7_keeps_69 rfl ?_
        refine J_goto (pc := 70) (tgt := 109) C dX7_keeps_70 rfl ?_
        refine J_iload_n (pc := 109) C dX7_keeps_109 rfl ?_
        refine J_bipush (pc := 110) C dX7_keeps_110 bc_8 ?_
        refine J_bind hF (fun q112 hq hF => ?_)
        refine J_callSN0_ip (pc := 112) (stk := [.int 8, .int ((3 + v5) - 1)]) (st := []) C dX7_keeps_112 yw_X8_held (by decide +kernel) st_X8_held (kX8_held hq) rfl (by decide) rfl (Nat.le_of_ble_eq_true rfl) ?_
        exact J_iret (pc := 115) C dX7_keeps_115 hF (by decide) (by decide)
      · refine J_br hF (fun hc13_6 hF => ?_) (fun hc13_6 hF => ?_)
        · refine J_tsIn (pc := 13) (tgt := 73) C 6 hc13_6 dX7_keeps_13 (by decide) (by decide) rfl rfl ?_
          refine J_aload_n (pc := 73) C dX7_keeps_73 rfl ?_
          refine J_getR (pc := 74) C dX7_keeps_74 fg_X7_36 hF (fun r74 hF => ?_)
          refine J_bind hF (fun q77 hq hF => ?_)
          refine J_callV0_ip (pc := 77) (stk := [.ref r74]) (st := []) C dX7_keeps_77 yw_X2_isTold w_MLX7_59 in_X2_isTold sl_X2_isTold ⟨_, rfl, rfl⟩ (kX2_isTold hq) (gO_some hq).1 rfl (by decide) rfl (Nat.le_of_ble_eq_true rfl) ?_
          refine J_if_eq (pc := 80) (tgt := 102) C dX7_keeps_80 rfl hF (fun hF => ?_) (fun hF => ?_)
          · refine J_iload_n (pc := 102) C dX7_keeps_102 rfl ?_
            refine J_msk (m := [false, false, false, false]) rfl ?_
            exact kX7_keeps_103 C h v5 hF
          · refine J_aload_n (pc := 83) C dX7_keeps_83 rfl ?_
            refine J_getR (pc := 84) C dX7_keeps_84 fg_X7_36 hF (fun r84 hF => ?_)
            refine J_iload_n (pc := 87) C dX7_keeps_87 rfl ?_
            refine J_aload_n (pc := 88) C dX7_keeps_88 rfl ?_
            refine J_getI (pc := 89) C dX7_keeps_89 fg_X7_43 hF (fun v89 hF => ?_)
            refine J_aload_n (pc := 92) C dX7_keeps_92 rfl ?_
            refine J_getI (pc := 93) C dX7_keeps_93 fg_X7_47 hF (fun v93 hF => ?_)
            refine J_bind hF (fun q96 hq hF => ?_)
            refine J_callV0_i (pc := 96) (stk := [.int v93, .int v89, .int v5, .ref r84]) (st := []) C dX7_keeps_96 yw_X2_value w_MLX7_65 in_X2_value sl_X2_value ⟨_, rfl, rfl⟩ (kX2_value hq) (gO_some hq).1 rfl (by decide) rfl (Nat.le_of_ble_eq_true rfl) ?_
            refine J_goto (pc := 99) (tgt := 103) C dX7_keeps_99 rfl ?_
            refine J_msk (m := [false, false, false, false]) rfl ?_
            exact kX7_keeps_103 C q96.2 q96.1 hF
        · have hD : J X 0 0 0 0 107 [some (.ref a0), some (.int x1), some (.int v5), none] [] h := by
            refine J_iconst (pc := 107) C dX7_keeps_107 ic_3 ?_
            refine J_istore_n (pc := 108) (lv' := [some (.ref a0), some (.int x1), some (.int v5), some (.int 3)]) C dX7_keeps_108 rfl ?_
            refine J_iload_n (pc := 109) C dX7_keeps_109 rfl ?_
            refine J_bipush (pc := 110) C dX7_keeps_110 bc_8 ?_
            refine J_bind hF (fun q112 hq hF => ?_)
            refine J_callSN0_ip (pc := 112) (stk := [.int 8, .int 3]) (st := []) C dX7_keeps_112 yw_X8_held (by decide +kernel) st_X8_held (kX8_held hq) rfl (by decide) rfl (Nat.le_of_ble_eq_true rfl) ?_
            exact J_iret (pc := 115) C dX7_keeps_115 hF (by decide) (by decide)
          by_cases hh13_2 : v12 = 2
          · exact J_tsIn (pc := 13) (tgt := 107) C 2 hh13_2 dX7_keeps_13 (by decide) (by decide) rfl rfl hD
          by_cases hh13_5 : v12 = 5
          · exact J_tsIn (pc := 13) (tgt := 107) C 5 hh13_5 dX7_keeps_13 (by decide) (by decide) rfl rfl hD
          refine J_tsOut (pc := 13) (tgt := 107) C dX7_keeps_13 (by have z0 := lv_neT hc13_1 (a := 1) rfl; have z1 := lv_neT hc13_3 (a := 3) rfl; have z2 := lv_neT hc13_4 (a := 4) rfl; have z3 := lv_neT hc13_6 (a := 6) rfl; have z4 := lv_neT hh13_2 (a := 2) rfl; have z5 := lv_neT hh13_5 (a := 5) rfl; omega) rfl hD
def fX7_placeOf_2 (h : Hp) : Nat → Nat → Int32 → Int32 → Int32 → Option Int32
  | 0, _, _, _, _ => none
  | n2 + 1, a0, x1, x2, x3 =>
    (getR h 7 a0 9).bind fun r4 =>
    (rdI h r4 x1).bind fun v8 =>
    if v8 ≤ x3 then
      some ((-1))
    else
      (getR h 7 a0 10).bind fun r13 =>
      (rdI h r13 ((x1 * 8) + x3)).bind fun v22 =>
      if v22 = x2 then
        some x3
      else
        fX7_placeOf_2 h n2 a0 x1 x2 (x3 + 1)
set_option maxRecDepth 100000 in
theorem kX7_placeOf_2 {X : Cx} {z : Int32} {h : Hp} (C : Jc X yX7_placeOf cX7_placeOf 4 (some .int) 0 0 0 (some (.int z), h)) : ∀ (n2 : Nat) (a0 : Nat) (x1 : Int32) (x2 : Int32) (x3 : Int32), fX7_placeOf_2 h n2 a0 x1 x2 x3 = some z → J X 0 0 0 0 2 [some (.ref a0), some (.int x1), some (.int x2), some (.int x3)] [] h := by
  intro n2
  induction n2 with
  | zero => intro a0 x1 x2 x3 hF; cases hF
  | succ n2 ih =>
    intro a0 x1 x2 x3 hF
    rw [fX7_placeOf_2] at hF
    refine J_iload_n (pc := 2) C dX7_placeOf_2 rfl ?_
    refine J_aload_n (pc := 3) C dX7_placeOf_3 rfl ?_
    refine J_getR (pc := 4) C dX7_placeOf_4 fg_X7_30 hF (fun r4 hF => ?_)
    refine J_iload_n (pc := 7) C dX7_placeOf_7 rfl ?_
    refine J_iald (pc := 8) C dX7_placeOf_8 hF (fun v8 hF => ?_)
    refine J_icmp_ge (pc := 9) (tgt := 35) C dX7_placeOf_9 rfl hF (fun hF => ?_) (fun hF => ?_)
    · refine J_iconst (pc := 35) C dX7_placeOf_35 ic_m1 ?_
      exact J_iretP (pc := 36) C dX7_placeOf_36 hF (by decide) (by decide)
    · refine J_aload_n (pc := 12) C dX7_placeOf_12 rfl ?_
      refine J_getR (pc := 13) C dX7_placeOf_13 fg_X7_33 hF (fun r13 hF => ?_)
      refine J_iload_n (pc := 16) C dX7_placeOf_16 rfl ?_
      refine J_bipush (pc := 17) C dX7_placeOf_17 bc_8 ?_
      refine J_imul (pc := 19) C dX7_placeOf_19 ?_
      refine J_iload_n (pc := 20) C dX7_placeOf_20 rfl ?_
      refine J_iadd (pc := 21) C dX7_placeOf_21 ?_
      refine J_iald (pc := 22) C dX7_placeOf_22 hF (fun v22 hF => ?_)
      refine J_iload_n (pc := 23) C dX7_placeOf_23 rfl ?_
      refine J_icmp_ne (pc := 24) (tgt := 29) C dX7_placeOf_24 rfl hF (fun hF => ?_) (fun hF => ?_)
      · refine J_iload_n (pc := 27) C dX7_placeOf_27 rfl ?_
        exact J_iretP (pc := 28) C dX7_placeOf_28 hF (by decide) (by decide)
      · refine J_iinc (pc := 29) (lv' := [some (.ref a0), some (.int x1), some (.int x2), some (.int (x3 + 1))]) C dX7_placeOf_29 rfl ic_1 rfl ?_
        refine J_goto (pc := 32) (tgt := 2) C dX7_placeOf_32 rfl ?_
        exact ih a0 x1 x2 (x3 + 1) hF
def fX7_placeOf (h : Hp) (a0 : Nat) (x1 : Int32) (x2 : Int32) : Option Int32 := gO h 7 a0 (
  fX7_placeOf_2 h 1000 a0 x1 x2 0)
set_option maxRecDepth 100000 in
theorem kX7_placeOf {h : Hp} {a0 : Nat} {x1 : Int32} {x2 : Int32} {z : Int32} (hF : fX7_placeOf h a0 x1 x2 = some z) : Mc yX7_placeOf cX7_placeOf 4 (some .int) 0 0 0 [.ref a0, .int x1, .int x2] h (some (.int z), h) := by
  have hF := (gO_some hF).2
  refine Mc_of [some (.ref a0), some (.int x1), some (.int x2), none] plX7 rfl rfl (Nat.le_of_ble_eq_true rfl) (fun X C => ?_)
  refine J_iconst (pc := 0) C dX7_placeOf_0 ic_0 ?_
  refine J_istore_n (pc := 1) (lv' := [some (.ref a0), some (.int x1), some (.int x2), some (.int 0)]) C dX7_placeOf_1 rfl ?_
  exact kX7_placeOf_2 C 1000 a0 x1 x2 0 hF
def fX7_faceComes_78 (h : Hp) (a0 : Nat) (x1 : Int32) (y0 : Int32) : Option Hp :=
  (getR h 7 a0 9).bind fun r81 =>
  (fX7_keeps h a0 x1).bind fun q89 =>
  (wrI q89.2 r81 x1 (imin y0 q89.1)).bind fun h95 =>
  some h95
set_option maxRecDepth 100000 in
theorem kX7_faceComes_78 {X : Cx} {z : Hp} (C : Jc X yX7_faceComes cX7_faceComes 7 none 3 0 0 (none, z)) (h : Hp) (a0 : Nat) (x1 : Int32) (y0 : Int32) (hF : fX7_faceComes_78 h a0 x1 y0 = some z) : J X 0 0 0 0 78 [some (.ref a0), some (.int x1), none, none, none, none, none] [.int y0] h := by
  unfold fX7_faceComes_78 at hF
  refine J_istore (pc := 78) (lv' := [some (.ref a0), some (.int x1), none, none, none, none, some (.int y0)]) C dX7_faceComes_78 rfl ?_
  refine J_aload_n (pc := 80) C dX7_faceComes_80 rfl ?_
  refine J_getR (pc := 81) C dX7_faceComes_81 fg_X7_30 hF (fun r81 hF => ?_)
  refine J_iload_n (pc := 84) C dX7_faceComes_84 rfl ?_
  refine J_iload (pc := 85) C dX7_faceComes_85 rfl ?_
  refine J_aload_n (pc := 87) C dX7_faceComes_87 rfl ?_
  refine J_iload_n (pc := 88) C dX7_faceComes_88 rfl ?_
  refine J_bind hF (fun q89 hq hF => ?_)
  refine J_callV0_i (pc := 89) (stk := [.int x1, .ref a0, .int y0, .int x1, .ref r81]) (st := [.int y0, .int x1, .ref r81]) C dX7_faceComes_89 yw_X7_keeps w_MLX7_109 in_X7_keeps sl_X7_keeps ⟨_, rfl, rfl⟩ (kX7_keeps hq) (gO_some hq).1 rfl (by decide) rfl (Nat.le_of_ble_eq_true rfl) ?_
  refine J_mmin (pc := 92) C dX7_faceComes_92 w_MLX7_93 w_mn1 w_mn2 w_mn3 (by decide) (Nat.le_of_ble_eq_true rfl) ?_
  refine J_iast (pc := 95) C dX7_faceComes_95 hF (fun h95 hF => ?_)
  exact J_vret (pc := 96) C dX7_faceComes_96 hF (by decide) (by decide)
def fX7_faceComes_34 (h : Hp) (a0 : Nat) (x1 : Int32) (x2 : Int32) (x3 : Int32) (x4 : Int32) (y0 : Int32) : Option Hp :=
  (getR h 7 a0 10).bind fun r37 =>
  (getR h 7 a0 10).bind fun r42 =>
  (acopy h r37 x3 r42 (x3 + 1) y0).bind fun h50 =>
  (getR h50 7 a0 10).bind fun r54 =>
  (wrI h50 r54 x3 x2).bind fun h59 =>
  if x4 < 0 then
    fX7_faceComes_78 h59 a0 x1 (y0 + 1)
  else
    (getR h59 7 a0 9).bind fun r66 =>
    (rdI h59 r66 x1).bind fun v70 =>
    fX7_faceComes_78 h59 a0 x1 v70
set_option maxRecDepth 100000 in
theorem kX7_faceComes_34 {X : Cx} {z : Hp} (C : Jc X yX7_faceComes cX7_faceComes 7 none 3 0 0 (none, z)) (h : Hp) (a0 : Nat) (x1 : Int32) (x2 : Int32) (x3 : Int32) (x4 : Int32) (y0 : Int32) (hF : fX7_faceComes_34 h a0 x1 x2 x3 x4 y0 = some z) : J X 0 0 0 0 34 [some (.ref a0), some (.int x1), some (.int x2), some (.int x3), some (.int x4), none, none] [.int y0] h := by
  unfold fX7_faceComes_34 at hF
  refine J_istore (pc := 34) (lv' := [some (.ref a0), some (.int x1), some (.int x2), some (.int x3), some (.int x4), some (.int y0), none]) C dX7_faceComes_34 rfl ?_
  refine J_aload_n (pc := 36) C dX7_faceComes_36 rfl ?_
  refine J_getR (pc := 37) C dX7_faceComes_37 fg_X7_33 hF (fun r37 hF => ?_)
  refine J_iload_n (pc := 40) C dX7_faceComes_40 rfl ?_
  refine J_aload_n (pc := 41) C dX7_faceComes_41 rfl ?_
  refine J_getR (pc := 42) C dX7_faceComes_42 fg_X7_33 hF (fun r42 hF => ?_)
  refine J_iload_n (pc := 45) C dX7_faceComes_45 rfl ?_
  refine J_iconst (pc := 46) C dX7_faceComes_46 ic_1 ?_
  refine J_iadd (pc := 47) C dX7_faceComes_47 ?_
  refine J_iload (pc := 48) C dX7_faceComes_48 rfl ?_
  refine J_acopy (pc := 50) C dX7_faceComes_50 w_MLX7_53 w_ac1 w_ac2 w_ac3 (by decide) (Nat.le_of_ble_eq_true rfl) hF (fun h50 hF => ?_)
  refine J_aload_n (pc := 53) C dX7_faceComes_53 rfl ?_
  refine J_getR (pc := 54) C dX7_faceComes_54 fg_X7_33 hF (fun r54 hF => ?_)
  refine J_iload_n (pc := 57) C dX7_faceComes_57 rfl ?_
  refine J_iload_n (pc := 58) C dX7_faceComes_58 rfl ?_
  refine J_iast (pc := 59) C dX7_faceComes_59 hF (fun h59 hF => ?_)
  refine J_iload (pc := 60) C dX7_faceComes_60 rfl ?_
  refine J_if_lt (pc := 62) (tgt := 74) C dX7_faceComes_62 rfl hF (fun hF => ?_) (fun hF => ?_)
  · refine J_iload (pc := 74) C dX7_faceComes_74 rfl ?_
    refine J_iconst (pc := 76) C dX7_faceComes_76 ic_1 ?_
    refine J_iadd (pc := 77) C dX7_faceComes_77 ?_
    refine J_msk (m := [true, true, false, false, false, false, false]) rfl ?_
    exact kX7_faceComes_78 C h59 a0 x1 (y0 + 1) hF
  · refine J_aload_n (pc := 65) C dX7_faceComes_65 rfl ?_
    refine J_getR (pc := 66) C dX7_faceComes_66 fg_X7_30 hF (fun r66 hF => ?_)
    refine J_iload_n (pc := 69) C dX7_faceComes_69 rfl ?_
    refine J_iald (pc := 70) C dX7_faceComes_70 hF (fun v70 hF => ?_)
    refine J_goto (pc := 71) (tgt := 78) C dX7_faceComes_71 rfl ?_
    refine J_msk (m := [true, true, false, false, false, false, false]) rfl ?_
    exact kX7_faceComes_78 C h59 a0 x1 v70 hF
def fX7_faceComes (h : Hp) (a0 : Nat) (x1 : Int32) (x2 : Int32) : Option Hp := gO h 7 a0 (
  (fX7_placeOf h a0 x1 x2).bind fun q8 =>
  if q8 < 0 then
    (getR h 7 a0 9).bind fun r24 =>
    (rdI h r24 x1).bind fun v28 =>
    fX7_faceComes_34 h a0 x1 x2 (x1 * 8) q8 (imin v28 7)
  else
    fX7_faceComes_34 h a0 x1 x2 (x1 * 8) q8 q8)
set_option maxRecDepth 100000 in
theorem kX7_faceComes {h : Hp} {a0 : Nat} {x1 : Int32} {x2 : Int32} {z : Hp} (hF : fX7_faceComes h a0 x1 x2 = some z) : Mc yX7_faceComes cX7_faceComes 7 none 3 0 0 [.ref a0, .int x1, .int x2] h (none, z) := by
  have hF := (gO_some hF).2
  refine Mc_of [some (.ref a0), some (.int x1), some (.int x2), none, none, none, none] plX7 rfl rfl (Nat.le_of_ble_eq_true rfl) (fun X C => ?_)
  refine J_iload_n (pc := 0) C dX7_faceComes_0 rfl ?_
  refine J_bipush (pc := 1) C dX7_faceComes_1 bc_8 ?_
  refine J_imul (pc := 3) C dX7_faceComes_3 ?_
  refine J_istore_n (pc := 4) (lv' := [some (.ref a0), some (.int x1), some (.int x2), some (.int (x1 * 8)), none, none, none]) C dX7_faceComes_4 rfl ?_
  refine J_aload_n (pc := 5) C dX7_faceComes_5 rfl ?_
  refine J_iload_n (pc := 6) C dX7_faceComes_6 rfl ?_
  refine J_iload_n (pc := 7) C dX7_faceComes_7 rfl ?_
  refine J_bind hF (fun q8 hq hF => ?_)
  refine J_callV0_ip (pc := 8) (stk := [.int x2, .int x1, .ref a0]) (st := []) C dX7_faceComes_8 yw_X7_placeOf w_MLX7_73 in_X7_placeOf sl_X7_placeOf ⟨_, rfl, rfl⟩ (kX7_placeOf hq) (gO_some hq).1 rfl (by decide) rfl (Nat.le_of_ble_eq_true rfl) ?_
  refine J_istore (pc := 11) (lv' := [some (.ref a0), some (.int x1), some (.int x2), some (.int (x1 * 8)), some (.int q8), none, none]) C dX7_faceComes_11 rfl ?_
  refine J_iload (pc := 13) C dX7_faceComes_13 rfl ?_
  refine J_if_lt (pc := 15) (tgt := 23) C dX7_faceComes_15 rfl hF (fun hF => ?_) (fun hF => ?_)
  · refine J_aload_n (pc := 23) C dX7_faceComes_23 rfl ?_
    refine J_getR (pc := 24) C dX7_faceComes_24 fg_X7_30 hF (fun r24 hF => ?_)
    refine J_iload_n (pc := 27) C dX7_faceComes_27 rfl ?_
    refine J_iald (pc := 28) C dX7_faceComes_28 hF (fun v28 hF => ?_)
    refine J_bipush (pc := 29) C dX7_faceComes_29 bc_7 ?_
    refine J_mmin (pc := 31) C dX7_faceComes_31 w_MLX7_93 w_mn1 w_mn2 w_mn3 (by decide) (Nat.le_of_ble_eq_true rfl) ?_
    exact kX7_faceComes_34 C h a0 x1 x2 (x1 * 8) q8 (imin v28 7) hF
  · refine J_iload (pc := 18) C dX7_faceComes_18 rfl ?_
    refine J_goto (pc := 20) (tgt := 34) C dX7_faceComes_20 rfl ?_
    exact kX7_faceComes_34 C h a0 x1 x2 (x1 * 8) q8 q8 hF
def fX7_fare_113 (h : Hp) (y0 : Int32) : Option (Int32 × Hp) :=
  (fX8_held y0 99).bind fun q127 =>
  some (q127, h)
set_option maxRecDepth 100000 in
theorem kX7_fare_113 {X : Cx} {z : (Int32 × Hp)} (C : Jc X yX7_fare cX7_fare 5 (some .int) 2 0 0 (some (.int z.1), z.2)) (h : Hp) (y0 : Int32) (hF : fX7_fare_113 h y0 = some z) : J X 0 0 0 0 113 [none, none, none, none, none] [.int y0] h := by
  unfold fX7_fare_113 at hF
  refine J_istore (pc := 113) (lv' := [none, none, none, none, some (.int y0)]) C dX7_fare_113 rfl ?_
  refine J_goto (pc := 115) (tgt := 123) C dX7_fare_115 rfl ?_
  refine J_iload (pc := 123) C dX7_fare_123 rfl ?_
  refine J_bipush (pc := 125) C dX7_fare_125 bc_99 ?_
  refine J_bind hF (fun q127 hq hF => ?_)
  refine J_callSN0_ip (pc := 127) (stk := [.int 99, .int y0]) (st := []) C dX7_fare_127 yw_X8_held (by decide +kernel) st_X8_held (kX8_held hq) rfl (by decide) rfl (Nat.le_of_ble_eq_true rfl) ?_
  exact J_iret (pc := 130) C dX7_fare_130 hF (by decide) (by decide)
def fX7_fare (h : Hp) (a0 : Nat) (x1 : Int32) : Option (Int32 × Hp) := gO h 7 a0 (
  (getR h 7 a0 6).bind fun r1 =>
  (rdI h r1 x1).bind fun v5 =>
  (getR h 7 a0 9).bind fun r8 =>
  (rdI h r8 x1).bind fun v12 =>
  (getR h 7 a0 5).bind fun r15 =>
  (rdI h r15 x1).bind fun v19 =>
  if v19 = 2 then
    (dvz (2 + v5) 2).bind fun v60 =>
    (fX8_held v60 99).bind fun q127 =>
    some (q127, h)
  else
    if v19 = 3 then
      (fX8_held 1 99).bind fun q127 =>
      some (q127, h)
    else
      if v19 = 4 then
        (fX8_held ((2 + v5) + 1) 99).bind fun q127 =>
        some (q127, h)
      else
        if v19 = 5 then
          (dvz (2 + v5) 2).bind fun v60 =>
          (fX8_held v60 99).bind fun q127 =>
          some (q127, h)
        else
          if v19 = 6 then
            (getR h 7 a0 12).bind fun r83 =>
            (fX2_isTold h r83).bind fun q86 =>
            if q86 = 0 then
              fX7_fare_113 h (v5 + v12)
            else
              (getR h 7 a0 12).bind fun r93 =>
              (getR h 7 a0 7).bind fun r99 =>
              (rdI h r99 x1).bind fun v103 =>
              (fX2_value h r93 v5 v12 v103).bind fun q104 =>
              fX7_fare_113 q104.2 q104.1
          else
            (fX8_held (2 + v5) 99).bind fun q127 =>
            some (q127, h))
set_option maxRecDepth 100000 in
theorem kX7_fare {h : Hp} {a0 : Nat} {x1 : Int32} {z : (Int32 × Hp)} (hF : fX7_fare h a0 x1 = some z) : Mc yX7_fare cX7_fare 5 (some .int) 2 0 0 [.ref a0, .int x1] h (some (.int z.1), z.2) := by
  have hF := (gO_some hF).2
  refine Mc_of [some (.ref a0), some (.int x1), none, none, none] plX7 rfl rfl (Nat.le_of_ble_eq_true rfl) (fun X C => ?_)
  refine J_aload_n (pc := 0) C dX7_fare_0 rfl ?_
  refine J_getR (pc := 1) C dX7_fare_1 fg_X7_21 hF (fun r1 hF => ?_)
  refine J_iload_n (pc := 4) C dX7_fare_4 rfl ?_
  refine J_iald (pc := 5) C dX7_fare_5 hF (fun v5 hF => ?_)
  refine J_istore_n (pc := 6) (lv' := [some (.ref a0), some (.int x1), some (.int v5), none, none]) C dX7_fare_6 rfl ?_
  refine J_aload_n (pc := 7) C dX7_fare_7 rfl ?_
  refine J_getR (pc := 8) C dX7_fare_8 fg_X7_30 hF (fun r8 hF => ?_)
  refine J_iload_n (pc := 11) C dX7_fare_11 rfl ?_
  refine J_iald (pc := 12) C dX7_fare_12 hF (fun v12 hF => ?_)
  refine J_istore_n (pc := 13) (lv' := [some (.ref a0), some (.int x1), some (.int v5), some (.int v12), none]) C dX7_fare_13 rfl ?_
  refine J_aload_n (pc := 14) C dX7_fare_14 rfl ?_
  refine J_getR (pc := 15) C dX7_fare_15 fg_X7_18 hF (fun r15 hF => ?_)
  refine J_iload_n (pc := 18) C dX7_fare_18 rfl ?_
  refine J_iald (pc := 19) C dX7_fare_19 hF (fun v19 hF => ?_)
  refine J_br hF (fun hc20_2 hF => ?_) (fun hc20_2 hF => ?_)
  · refine J_tsIn (pc := 20) (tgt := 56) C 2 hc20_2 dX7_fare_20 (by decide) (by decide) rfl rfl ?_
    refine J_iconst (pc := 56) C dX7_fare_56 ic_2 ?_
    refine J_iload_n (pc := 57) C dX7_fare_57 rfl ?_
    refine J_iadd (pc := 58) C dX7_fare_58 ?_
    refine J_iconst (pc := 59) C dX7_fare_59 ic_2 ?_
    refine J_idiv (pc := 60) C dX7_fare_60 hF (fun v60 hF => ?_)
    refine J_istore (pc := 61) (lv' := [some (.ref a0), some (.int x1), some (.int v5), some (.int v12), some (.int v60)]) C dX7_fare_61 rfl ?_
    refine J_goto (pc := 63) (tgt := 123) C dX7_fare_63 rfl ?_
    refine J_iload (pc := 123) C dX7_fare_123 rfl ?_
    refine J_bipush (pc := 125) C dX7_fare_125 bc_99 ?_
    refine J_bind hF (fun q127 hq hF => ?_)
    refine J_callSN0_ip (pc := 127) (stk := [.int 99, .int v60]) (st := []) C dX7_fare_127 yw_X8_held (by decide +kernel) st_X8_held (kX8_held hq) rfl (by decide) rfl (Nat.le_of_ble_eq_true rfl) ?_
    exact J_iret (pc := 130) C dX7_fare_130 hF (by decide) (by decide)
  · refine J_br hF (fun hc20_3 hF => ?_) (fun hc20_3 hF => ?_)
    · refine J_tsIn (pc := 20) (tgt := 66) C 3 hc20_3 dX7_fare_20 (by decide) (by decide) rfl rfl ?_
      refine J_iconst (pc := 66) C dX7_fare_66 ic_1 ?_
      refine J_istore (pc := 67) (lv' := [some (.ref a0), some (.int x1), some (.int v5), some (.int v12), some (.int 1)]) C dX7_fare_67 rfl ?_
      refine J_goto (pc := 69) (tgt := 123) C dX7_fare_69 rfl ?_
      refine J_iload (pc := 123) C dX7_fare_123 rfl ?_
      refine J_bipush (pc := 125) C dX7_fare_125 bc_99 ?_
      refine J_bind hF (fun q127 hq hF => ?_)
      refine J_callSN0_ip (pc := 127) (stk := [.int 99, .int 1]) (st := []) C dX7_fare_127 yw_X8_held (by decide +kernel) st_X8_held (kX8_held hq) rfl (by decide) rfl (Nat.le_of_ble_eq_true rfl) ?_
      exact J_iret (pc := 130) C dX7_fare_130 hF (by decide) (by decide)
    · refine J_br hF (fun hc20_4 hF => ?_) (fun hc20_4 hF => ?_)
      · refine J_tsIn (pc := 20) (tgt := 72) C 4 hc20_4 dX7_fare_20 (by decide) (by decide) rfl rfl ?_
        refine J_iconst (pc := 72) C dX7_fare_72 ic_2 ?_
        refine J_iload_n (pc := 73) C dX7_fare_73 rfl ?_
        refine J_iadd (pc := 74) C dX7_fare_74 ?_
        refine J_iconst (pc := 75) C dX7_fare_75 ic_1 ?_
        refine J_iadd (pc := 76) C dX7_fare_76 ?_
        refine J_istore (pc := 77) (lv' := [some (.ref a0), some (.int x1), some (.int v5), some (.int v12), some (.int ((2 + v5) + 1))]) C dX7_fare_77 rfl ?_
        refine J_goto (pc := 79) (tgt := 123) C dX7_fare_79 rfl ?_
        refine J_iload (pc := 123) C dX7_fare_123 rfl ?_
        refine J_bipush (pc := 125) C dX7_fare_125 bc_99 ?_
        refine J_bind hF (fun q127 hq hF => ?_)
        refine J_callSN0_ip (pc := 127) (stk := [.int 99, .int ((2 + v5) + 1)]) (st := []) C dX7_fare_127 yw_X8_held (by decide +kernel) st_X8_held (kX8_held hq) rfl (by decide) rfl (Nat.le_of_ble_eq_true rfl) ?_
        exact J_iret (pc := 130) C dX7_fare_130 hF (by decide) (by decide)
      · refine J_br hF (fun hc20_5 hF => ?_) (fun hc20_5 hF => ?_)
        · refine J_tsIn (pc := 20) (tgt := 56) C 5 hc20_5 dX7_fare_20 (by decide) (by decide) rfl rfl ?_
          refine J_iconst (pc := 56) C dX7_fare_56 ic_2 ?_
          refine J_iload_n (pc := 57) C dX7_fare_57 rfl ?_
          refine J_iadd (pc := 58) C dX7_fare_58 ?_
          refine J_iconst (pc := 59) C dX7_fare_59 ic_2 ?_
          refine J_idiv (pc := 60) C dX7_fare_60 hF (fun v60 hF => ?_)
          refine J_istore (pc := 61) (lv' := [some (.ref a0), some (.int x1), some (.int v5), some (.int v12), some (.int v60)]) C dX7_fare_61 rfl ?_
          refine J_goto (pc := 63) (tgt := 123) C dX7_fare_63 rfl ?_
          refine J_iload (pc := 123) C dX7_fare_123 rfl ?_
          refine J_bipush (pc := 125) C dX7_fare_125 bc_99 ?_
          refine J_bind hF (fun q127 hq hF => ?_)
          refine J_callSN0_ip (pc := 127) (stk := [.int 99, .int v60]) (st := []) C dX7_fare_127 yw_X8_held (by decide +kernel) st_X8_held (kX8_held hq) rfl (by decide) rfl (Nat.le_of_ble_eq_true rfl) ?_
          exact J_iret (pc := 130) C dX7_fare_130 hF (by decide) (by decide)
        · refine J_br hF (fun hc20_6 hF => ?_) (fun hc20_6 hF => ?_)
          · refine J_tsIn (pc := 20) (tgt := 82) C 6 hc20_6 dX7_fare_20 (by decide) (by decide) rfl rfl ?_
            refine J_aload_n (pc := 82) C dX7_fare_82 rfl ?_
            refine J_getR (pc := 83) C dX7_fare_83 fg_X7_40 hF (fun r83 hF => ?_)
            refine J_bind hF (fun q86 hq hF => ?_)
            refine J_callV0_ip (pc := 86) (stk := [.ref r83]) (st := []) C dX7_fare_86 yw_X2_isTold w_MLX7_59 in_X2_isTold sl_X2_isTold ⟨_, rfl, rfl⟩ (kX2_isTold hq) (gO_some hq).1 rfl (by decide) rfl (Nat.le_of_ble_eq_true rfl) ?_
            refine J_if_eq (pc := 89) (tgt := 110) C dX7_fare_89 rfl hF (fun hF => ?_) (fun hF => ?_)
            · refine J_iload_n (pc := 110) C dX7_fare_110 rfl ?_
              refine J_iload_n (pc := 111) C dX7_fare_111 rfl ?_
              refine J_iadd (pc := 112) C dX7_fare_112 ?_
              refine J_msk (m := [false, false, false, false, false]) rfl ?_
              exact kX7_fare_113 C h (v5 + v12) hF
            · refine J_aload_n (pc := 92) C dX7_fare_92 rfl ?_
              refine J_getR (pc := 93) C dX7_fare_93 fg_X7_40 hF (fun r93 hF => ?_)
              refine J_iload_n (pc := 96) C dX7_fare_96 rfl ?_
              refine J_iload_n (pc := 97) C dX7_fare_97 rfl ?_
              refine J_aload_n (pc := 98) C dX7_fare_98 rfl ?_
              refine J_getR (pc := 99) C dX7_fare_99 fg_X7_24 hF (fun r99 hF => ?_)
              refine J_iload_n (pc := 102) C dX7_fare_102 rfl ?_
              refine J_iald (pc := 103) C dX7_fare_103 hF (fun v103 hF => ?_)
              refine J_bind hF (fun q104 hq hF => ?_)
              refine J_callV0_i (pc := 104) (stk := [.int v103, .int v12, .int v5, .ref r93]) (st := []) C dX7_fare_104 yw_X2_value w_MLX7_65 in_X2_value sl_X2_value ⟨_, rfl, rfl⟩ (kX2_value hq) (gO_some hq).1 rfl (by decide) rfl (Nat.le_of_ble_eq_true rfl) ?_
              refine J_goto (pc := 107) (tgt := 113) C dX7_fare_107 rfl ?_
              refine J_msk (m := [false, false, false, false, false]) rfl ?_
              exact kX7_fare_113 C q104.2 q104.1 hF
          · have hD : J X 0 0 0 0 118 [some (.ref a0), some (.int x1), some (.int v5), some (.int v12), none] [] h := by
              refine J_iconst (pc := 118) C dX7_fare_118 ic_2 ?_
              refine J_iload_n (pc := 119) C dX7_fare_119 rfl ?_
              refine J_iadd (pc := 120) C dX7_fare_120 ?_
              refine J_istore (pc := 121) (lv' := [some (.ref a0), some (.int x1), some (.int v5), some (.int v12), some (.int (2 + v5))]) C dX7_fare_121 rfl ?_
              refine J_iload (pc := 123) C dX7_fare_123 rfl ?_
              refine J_bipush (pc := 125) C dX7_fare_125 bc_99 ?_
              refine J_bind hF (fun q127 hq hF => ?_)
              refine J_callSN0_ip (pc := 127) (stk := [.int 99, .int (2 + v5)]) (st := []) C dX7_fare_127 yw_X8_held (by decide +kernel) st_X8_held (kX8_held hq) rfl (by decide) rfl (Nat.le_of_ble_eq_true rfl) ?_
              exact J_iret (pc := 130) C dX7_fare_130 hF (by decide) (by decide)
            refine J_tsOut (pc := 20) (tgt := 118) C dX7_fare_20 (by have z0 := lv_neT hc20_2 (a := 2) rfl; have z1 := lv_neT hc20_3 (a := 3) rfl; have z2 := lv_neT hc20_4 (a := 4) rfl; have z3 := lv_neT hc20_5 (a := 5) rfl; have z4 := lv_neT hc20_6 (a := 6) rfl; omega) rfl hD
def fX7_knows (h : Hp) (a0 : Nat) (x1 : Int32) (x2 : Int32) : Option Int32 := gO h 7 a0 (
  (fX7_placeOf h a0 x1 x2).bind fun q3 =>
  if q3 < 0 then
    some 0
  else
    some 1)
set_option maxRecDepth 100000 in
theorem kX7_knows {h : Hp} {a0 : Nat} {x1 : Int32} {x2 : Int32} {z : Int32} (hF : fX7_knows h a0 x1 x2 = some z) : Mc yX7_knows cX7_knows 3 (some .boolean) 1 0 0 [.ref a0, .int x1, .int x2] h (some (.int z), h) := by
  have hF := (gO_some hF).2
  refine Mc_of [some (.ref a0), some (.int x1), some (.int x2)] plX7 rfl rfl (Nat.le_of_ble_eq_true rfl) (fun X C => ?_)
  refine J_aload_n (pc := 0) C dX7_knows_0 rfl ?_
  refine J_iload_n (pc := 1) C dX7_knows_1 rfl ?_
  refine J_iload_n (pc := 2) C dX7_knows_2 rfl ?_
  refine J_bind hF (fun q3 hq hF => ?_)
  refine J_callV0_ip (pc := 3) (stk := [.int x2, .int x1, .ref a0]) (st := []) C dX7_knows_3 yw_X7_placeOf w_MLX7_73 in_X7_placeOf sl_X7_placeOf ⟨_, rfl, rfl⟩ (kX7_placeOf hq) (gO_some hq).1 rfl (by decide) rfl (Nat.le_of_ble_eq_true rfl) ?_
  refine J_if_lt (pc := 6) (tgt := 13) C dX7_knows_6 rfl hF (fun hF => ?_) (fun hF => ?_)
  · refine J_iconst (pc := 13) C dX7_knows_13 ic_0 ?_
    exact J_zretP (pc := 14) C dX7_knows_14 rfl hF (by decide) (by decide)
  · refine J_iconst (pc := 9) C dX7_knows_9 ic_1 ?_
    refine J_goto (pc := 10) (tgt := 14) C dX7_knows_10 rfl ?_
    exact J_zretP (pc := 14) C dX7_knows_14 rfl hF (by decide) (by decide)
def fX7_loseFace (h : Hp) (a0 : Nat) (x1 : Int32) (x2 : Int32) : Option Hp := gO h 7 a0 (
  (fX7_placeOf h a0 x1 x2).bind fun q8 =>
  if q8 < 0 then
    some h
  else
    (getR h 7 a0 9).bind fun r19 =>
    (rdI h r19 x1).bind fun v23 =>
    (getR h 7 a0 10).bind fun r32 =>
    (getR h 7 a0 10).bind fun r42 =>
    (acopy h r32 (((x1 * 8) + q8) + 1) r42 ((x1 * 8) + q8) ((v23 - q8) - 1)).bind fun h51 =>
    (getR h51 7 a0 9).bind fun r55 =>
    (rdI h51 r55 x1).bind fun v60 =>
    (wrI h51 r55 x1 (v60 - 1)).bind fun h63 =>
    some h63)
set_option maxRecDepth 100000 in
theorem kX7_loseFace {h : Hp} {a0 : Nat} {x1 : Int32} {x2 : Int32} {z : Hp} (hF : fX7_loseFace h a0 x1 x2 = some z) : Mc yX7_loseFace cX7_loseFace 6 none 1 0 0 [.ref a0, .int x1, .int x2] h (none, z) := by
  have hF := (gO_some hF).2
  refine Mc_of [some (.ref a0), some (.int x1), some (.int x2), none, none, none] plX7 rfl rfl (Nat.le_of_ble_eq_true rfl) (fun X C => ?_)
  refine J_iload_n (pc := 0) C dX7_loseFace_0 rfl ?_
  refine J_bipush (pc := 1) C dX7_loseFace_1 bc_8 ?_
  refine J_imul (pc := 3) C dX7_loseFace_3 ?_
  refine J_istore_n (pc := 4) (lv' := [some (.ref a0), some (.int x1), some (.int x2), some (.int (x1 * 8)), none, none]) C dX7_loseFace_4 rfl ?_
  refine J_aload_n (pc := 5) C dX7_loseFace_5 rfl ?_
  refine J_iload_n (pc := 6) C dX7_loseFace_6 rfl ?_
  refine J_iload_n (pc := 7) C dX7_loseFace_7 rfl ?_
  refine J_bind hF (fun q8 hq hF => ?_)
  refine J_callV0_ip (pc := 8) (stk := [.int x2, .int x1, .ref a0]) (st := []) C dX7_loseFace_8 yw_X7_placeOf w_MLX7_73 in_X7_placeOf sl_X7_placeOf ⟨_, rfl, rfl⟩ (kX7_placeOf hq) (gO_some hq).1 rfl (by decide) rfl (Nat.le_of_ble_eq_true rfl) ?_
  refine J_istore (pc := 11) (lv' := [some (.ref a0), some (.int x1), some (.int x2), some (.int (x1 * 8)), some (.int q8), none]) C dX7_loseFace_11 rfl ?_
  refine J_iload (pc := 13) C dX7_loseFace_13 rfl ?_
  refine J_if_lt (pc := 15) (tgt := 64) C dX7_loseFace_15 rfl hF (fun hF => ?_) (fun hF => ?_)
  · exact J_vret (pc := 64) C dX7_loseFace_64 hF (by decide) (by decide)
  · refine J_aload_n (pc := 18) C dX7_loseFace_18 rfl ?_
    refine J_getR (pc := 19) C dX7_loseFace_19 fg_X7_30 hF (fun r19 hF => ?_)
    refine J_iload_n (pc := 22) C dX7_loseFace_22 rfl ?_
    refine J_iald (pc := 23) C dX7_loseFace_23 hF (fun v23 hF => ?_)
    refine J_iload (pc := 24) C dX7_loseFace_24 rfl ?_
    refine J_isub (pc := 26) C dX7_loseFace_26 ?_
    refine J_iconst (pc := 27) C dX7_loseFace_27 ic_1 ?_
    refine J_isub (pc := 28) C dX7_loseFace_28 ?_
    refine J_istore (pc := 29) (lv' := [some (.ref a0), some (.int x1), some (.int x2), some (.int (x1 * 8)), some (.int q8), some (.int ((v23 - q8) - 1))]) C dX7_loseFace_29 rfl ?_
    refine J_aload_n (pc := 31) C dX7_loseFace_31 rfl ?_
    refine J_getR (pc := 32) C dX7_loseFace_32 fg_X7_33 hF (fun r32 hF => ?_)
    refine J_iload_n (pc := 35) C dX7_loseFace_35 rfl ?_
    refine J_iload (pc := 36) C dX7_loseFace_36 rfl ?_
    refine J_iadd (pc := 38) C dX7_loseFace_38 ?_
    refine J_iconst (pc := 39) C dX7_loseFace_39 ic_1 ?_
    refine J_iadd (pc := 40) C dX7_loseFace_40 ?_
    refine J_aload_n (pc := 41) C dX7_loseFace_41 rfl ?_
    refine J_getR (pc := 42) C dX7_loseFace_42 fg_X7_33 hF (fun r42 hF => ?_)
    refine J_iload_n (pc := 45) C dX7_loseFace_45 rfl ?_
    refine J_iload (pc := 46) C dX7_loseFace_46 rfl ?_
    refine J_iadd (pc := 48) C dX7_loseFace_48 ?_
    refine J_iload (pc := 49) C dX7_loseFace_49 rfl ?_
    refine J_acopy (pc := 51) C dX7_loseFace_51 w_MLX7_53 w_ac1 w_ac2 w_ac3 (by decide) (Nat.le_of_ble_eq_true rfl) hF (fun h51 hF => ?_)
    refine J_aload_n (pc := 54) C dX7_loseFace_54 rfl ?_
    refine J_getR (pc := 55) C dX7_loseFace_55 fg_X7_30 hF (fun r55 hF => ?_)
    refine J_iload_n (pc := 58) C dX7_loseFace_58 rfl ?_
    refine J_dup2 (pc := 59) C dX7_loseFace_59 rfl rfl ?_
    refine J_iald (pc := 60) C dX7_loseFace_60 hF (fun v60 hF => ?_)
    refine J_iconst (pc := 61) C dX7_loseFace_61 ic_1 ?_
    refine J_isub (pc := 62) C dX7_loseFace_62 ?_
    refine J_iast (pc := 63) C dX7_loseFace_63 hF (fun h63 hF => ?_)
    exact J_vret (pc := 64) C dX7_loseFace_64 hF (by decide) (by decide)
def fX8_isUnder_4 (h : Hp) : Nat → Int32 → Int32 → Int32 → Option Int32
  | 0, _, _, _ => none
  | n4 + 1, x1, x2, x3 =>
    if (7 : Int32) ≤ x3 then
      some 0
    else
      if x2 < 0 then
        some 0
      else
        if x2 = x1 then
          some 1
        else
          (rdT 7 tabA x2).bind fun v25 =>
          fX8_isUnder_4 h n4 x1 v25 (x3 + 1)
set_option maxRecDepth 100000 in
theorem kX8_isUnder_4 {X : Cx} {z : Int32} {h : Hp} (C : Jc X yX8_isUnder cX8_isUnder 4 (some .boolean) 0 0 0 (some (.int z), h)) : ∀ (n4 : Nat) (x1 : Int32) (x2 : Int32) (x3 : Int32), fX8_isUnder_4 h n4 x1 x2 x3 = some z → J X 0 0 0 0 4 [none, some (.int x1), some (.int x2), some (.int x3)] [] h := by
  intro n4
  induction n4 with
  | zero => intro x1 x2 x3 hF; cases hF
  | succ n4 ih =>
    intro x1 x2 x3 hF
    rw [fX8_isUnder_4] at hF
    refine J_iload_n (pc := 4) C dX8_isUnder_4 rfl ?_
    refine J_bipush (pc := 5) C dX8_isUnder_5 bc_7 ?_
    refine J_icmp_ge (pc := 7) (tgt := 33) C dX8_isUnder_7 rfl hF (fun hF => ?_) (fun hF => ?_)
    · refine J_iconst (pc := 33) C dX8_isUnder_33 ic_0 ?_
      exact J_zretP (pc := 34) C dX8_isUnder_34 rfl hF (by decide) (by decide)
    · refine J_iload_n (pc := 10) C dX8_isUnder_10 rfl ?_
      refine J_if_lt (pc := 11) (tgt := 33) C dX8_isUnder_11 rfl hF (fun hF => ?_) (fun hF => ?_)
      · refine J_iconst (pc := 33) C dX8_isUnder_33 ic_0 ?_
        exact J_zretP (pc := 34) C dX8_isUnder_34 rfl hF (by decide) (by decide)
      · refine J_iload_n (pc := 14) C dX8_isUnder_14 rfl ?_
        refine J_iload_n (pc := 15) C dX8_isUnder_15 rfl ?_
        refine J_icmp_ne (pc := 16) (tgt := 21) C dX8_isUnder_16 rfl hF (fun hF => ?_) (fun hF => ?_)
        · refine J_iconst (pc := 19) C dX8_isUnder_19 ic_1 ?_
          exact J_zretP (pc := 20) C dX8_isUnder_20 rfl hF (by decide) (by decide)
        · refine J_getsA (pc := 21) C dX8_isUnder_21 w_FLX8_347 ?_
          refine J_iload_n (pc := 24) C dX8_isUnder_24 rfl ?_
          refine J_tiA (pc := 25) C dX8_isUnder_25 hF (fun v25 hF => ?_)
          refine J_istore_n (pc := 26) (lv' := [none, some (.int x1), some (.int v25), some (.int x3)]) C dX8_isUnder_26 rfl ?_
          refine J_iinc (pc := 27) (lv' := [none, some (.int x1), some (.int v25), some (.int (x3 + 1))]) C dX8_isUnder_27 rfl ic_1 rfl ?_
          refine J_goto (pc := 30) (tgt := 4) C dX8_isUnder_30 rfl ?_
          exact ih x1 v25 (x3 + 1) hF
def fX8_isUnder (h : Hp) (x0 : Int32) (x1 : Int32) : Option Int32 :=
  fX8_isUnder_4 h 1000 x1 x0 0
set_option maxRecDepth 100000 in
theorem kX8_isUnder {h : Hp} {x0 : Int32} {x1 : Int32} {z : Int32} (hF : fX8_isUnder h x0 x1 = some z) : Mc yX8_isUnder cX8_isUnder 4 (some .boolean) 0 0 0 [.int x0, .int x1] h (some (.int z), h) := by
  unfold fX8_isUnder at hF
  refine Mc_of [some (.int x0), some (.int x1), none, none] plX8 rfl rfl (Nat.le_of_ble_eq_true rfl) (fun X C => ?_)
  refine J_iload_n (pc := 0) C dX8_isUnder_0 rfl ?_
  refine J_istore_n (pc := 1) (lv' := [some (.int x0), some (.int x1), some (.int x0), none]) C dX8_isUnder_1 rfl ?_
  refine J_iconst (pc := 2) C dX8_isUnder_2 ic_0 ?_
  refine J_istore_n (pc := 3) (lv' := [some (.int x0), some (.int x1), some (.int x0), some (.int 0)]) C dX8_isUnder_3 rfl ?_
  refine J_msk (m := [false, true, true, true]) rfl ?_
  exact kX8_isUnder_4 C 1000 x1 x0 0 hF
