theorem w_CLX4_16 : Cond.classLink RX4 16 "[[I" ∈ FT := FT_of 279 (by decide +kernel) (by decide +kernel)
theorem w_CLX8_7 : Cond.classLink RX8 7 RX2 ∈ FT := FT_of 95 (by decide +kernel) (by decide +kernel)
theorem fn_X8_7 : Fn RX8 7 2 2 [.null, .null] := ⟨_, tyX2, rfl, rfl, uw_X2, tyX2_ok, w_CLX8_7, w_insX2, w_iniX2, (show ∀ j, j < 2 → defaultValue (tyX2 j) = vp_V [.null, .null] j by decide +kernel)⟩
theorem w_CLX8_18 : Cond.classLink RX8 18 RX1 ∈ FT := FT_of 109 (by decide +kernel) (by decide +kernel)
theorem w_insX1 : Cond.instantiable RX1 9 ∈ FT := FT_of 110 (by decide +kernel) (by decide +kernel)
theorem w_iniX1 : Cond.initialized RX1 ∈ FT := FT_of 75 (by decide +kernel) (by decide +kernel)
theorem fn_X8_18 : Fn RX8 18 1 9 [.null, .null, .null, .int 0, .null, .int 0, .null, .int 0, .int 0] := ⟨_, tyX1, rfl, rfl, uw_X1, tyX1_ok, w_CLX8_18, w_insX1, w_iniX1, (show ∀ j, j < 9 → defaultValue (tyX1 j) = vp_V [.null, .null, .null, .int 0, .null, .int 0, .null, .int 0, .int 0] j by decide +kernel)⟩
theorem w_CLX8_30 : Cond.classLink RX8 30 RX6 ∈ FT := FT_of 235 (by decide +kernel) (by decide +kernel)
theorem w_insX6 : Cond.instantiable RX6 8 ∈ FT := FT_of 236 (by decide +kernel) (by decide +kernel)
theorem w_iniX6 : Cond.initialized RX6 ∈ FT := FT_of 78 (by decide +kernel) (by decide +kernel)
theorem fn_X8_30 : Fn RX8 30 6 8 [.null, .int 0, .int 0, .null, .null, .int 0, .int 0, .int 0] := ⟨_, tyX6, rfl, rfl, uw_X6, tyX6_ok, w_CLX8_30, w_insX6, w_iniX6, (show ∀ j, j < 8 → defaultValue (tyX6 j) = vp_V [.null, .int 0, .int 0, .null, .null, .int 0, .int 0, .int 0] j by decide +kernel)⟩
theorem w_CLX8_37 : Cond.classLink RX8 37 RX4 ∈ FT := FT_of 273 (by decide +kernel) (by decide +kernel)
theorem w_insX4 : Cond.instantiable RX4 3 ∈ FT := FT_of 274 (by decide +kernel) (by decide +kernel)
theorem w_iniX4 : Cond.initialized RX4 ∈ FT := FT_of 79 (by decide +kernel) (by decide +kernel)
theorem fn_X8_37 : Fn RX8 37 4 3 [.null, .null, .null] := ⟨_, tyX4, rfl, rfl, uw_X4, tyX4_ok, w_CLX8_37, w_insX4, w_iniX4, (show ∀ j, j < 3 → defaultValue (tyX4 j) = vp_V [.null, .null, .null] j by decide +kernel)⟩
theorem w_CLX8_44 : Cond.classLink RX8 44 RX5 ∈ FT := FT_of 294 (by decide +kernel) (by decide +kernel)
theorem w_insX5 : Cond.instantiable RX5 6 ∈ FT := FT_of 295 (by decide +kernel) (by decide +kernel)
theorem w_iniX5 : Cond.initialized RX5 ∈ FT := FT_of 80 (by decide +kernel) (by decide +kernel)
theorem fn_X8_44 : Fn RX8 44 5 6 [.null, .int 0, .int 0, .int 0, .int 0, .int 0] := ⟨_, tyX5, rfl, rfl, uw_X5, tyX5_ok, w_CLX8_44, w_insX5, w_iniX5, (show ∀ j, j < 6 → defaultValue (tyX5 j) = vp_V [.null, .int 0, .int 0, .int 0, .int 0, .int 0] j by decide +kernel)⟩
theorem fi_X8_12 : Fp RX8 "<init>" 12 8 0 (.object "FourthFace$Law") := ⟨fg_X8_12, ⟨_, tyX8, rfl, tyX8_ok, nmX8, rfl, Or.inr ⟨rfl, rfl, rfl⟩⟩⟩
theorem fi_X8_23 : Fp RX8 "<init>" 23 8 1 (.object "FourthFace$Ferry") := ⟨fg_X8_23, ⟨_, tyX8, rfl, tyX8_ok, nmX8, rfl, Or.inr ⟨rfl, rfl, rfl⟩⟩⟩
theorem fi_X8_27 : Fp RX8 "<init>" 27 8 2 (.object "FourthFace$Ferry") := ⟨fg_X8_27, ⟨_, tyX8, rfl, tyX8_ok, nmX8, rfl, Or.inr ⟨rfl, rfl, rfl⟩⟩⟩
theorem fi_X8_33 : Fp RX8 "<init>" 33 8 3 (.object "FourthFace$WhatIf") := ⟨fg_X8_33, ⟨_, tyX8, rfl, tyX8_ok, nmX8, rfl, Or.inr ⟨rfl, rfl, rfl⟩⟩⟩
theorem fi_X8_40 : Fp RX8 "<init>" 40 8 4 (.object "FourthFace$Sheets") := ⟨fg_X8_40, ⟨_, tyX8, rfl, tyX8_ok, nmX8, rfl, Or.inr ⟨rfl, rfl, rfl⟩⟩⟩
theorem fi_X8_47 : Fp RX8 "<init>" 47 8 5 (.object "FourthFace$Voices") := ⟨fg_X8_47, ⟨_, tyX8, rfl, tyX8_ok, nmX8, rfl, Or.inr ⟨rfl, rfl, rfl⟩⟩⟩
theorem fi_X8_51 : Fp RX8 "<init>" 51 8 6 (.array .int) := ⟨fg_X8_51, ⟨_, tyX8, rfl, tyX8_ok, nmX8, rfl, Or.inr ⟨rfl, rfl, rfl⟩⟩⟩
theorem fi_X4_9 : Fp RX4 "<init>" 9 4 0 (.array .int) := ⟨fg_X4_9, ⟨_, tyX4, rfl, tyX4_ok, nmX4, rfl, Or.inr ⟨rfl, rfl, rfl⟩⟩⟩
theorem fi_X4_13 : Fp RX4 "<init>" 13 4 1 (.array .int) := ⟨fg_X4_13, ⟨_, tyX4, rfl, tyX4_ok, nmX4, rfl, Or.inr ⟨rfl, rfl, rfl⟩⟩⟩
theorem fi_X4_18 : Fp RX4 "<init>" 18 4 2 (.array (.array .int)) := ⟨fg_X4_18, ⟨_, tyX4, rfl, tyX4_ok, nmX4, rfl, Or.inr ⟨rfl, rfl, rfl⟩⟩⟩
theorem in_X1_init : Cond.instanceMethod yX1_init ∈ FT := FT_of 112 (by decide +kernel) (by decide +kernel)
theorem in_X4_init : Cond.instanceMethod yX4_init ∈ FT := FT_of 276 (by decide +kernel) (by decide +kernel)
theorem in_X5_init : Cond.instanceMethod yX5_init ∈ FT := FT_of 297 (by decide +kernel) (by decide +kernel)
theorem in_X6_init : Cond.instanceMethod yX6_init ∈ FT := FT_of 238 (by decide +kernel) (by decide +kernel)
theorem w_MLX8_1 : Cond.methodLink RX8 1 objectInit ∈ FT := FT_of 92 (by decide +kernel) (by decide +kernel)
theorem w_MLX8_9 : Cond.methodLink RX8 9 yX2_init ∈ FT := FT_of 97 (by decide +kernel) (by decide +kernel)
theorem w_MLX8_20 : Cond.methodLink RX8 20 yX1_init ∈ FT := FT_of 111 (by decide +kernel) (by decide +kernel)
theorem w_MLX8_32 : Cond.methodLink RX8 32 yX6_init ∈ FT := FT_of 237 (by decide +kernel) (by decide +kernel)
theorem w_MLX4_1 : Cond.methodLink RX4 1 objectInit ∈ FT := FT_of 278 (by decide +kernel) (by decide +kernel)
theorem yw_X1_init : Yw yX1_init cX1_init 2 none 1 := ⟨FT_of 113 (by decide +kernel) (by decide +kernel), w_in_X1, (by decide +kernel), (by decide +kernel), (by decide)⟩
theorem yw_X4_init : Yw yX4_init cX4_init 1 none 0 := ⟨FT_of 277 (by decide +kernel) (by decide +kernel), w_in_X4, (by decide +kernel), (by decide +kernel), (by decide)⟩
theorem yw_X5_init : Yw yX5_init cX5_init 1 none 0 := ⟨FT_of 298 (by decide +kernel) (by decide +kernel), w_in_X5, (by decide +kernel), (by decide +kernel), (by decide)⟩
theorem yw_X6_init : Yw yX6_init cX6_init 3 none 1 := ⟨FT_of 239 (by decide +kernel) (by decide +kernel), w_in_X6, (by decide +kernel), (by decide +kernel), (by decide)⟩
def fX4_init (h : Hp) (a0 : Nat) : Option Hp :=
  (newA 4 h 4).bind fun q6 =>
  (putV q6.2 4 a0 0 (.ref q6.1)).bind fun h8 =>
  (newA 4 h8 4).bind fun q13 =>
  (putV q13.2 4 a0 1 (.ref q13.1)).bind fun h15 =>
  (newM h15).bind fun q22 =>
  (putV q22.2 4 a0 2 (.ref q22.1)).bind fun h26 =>
  some h26
set_option maxRecDepth 100000 in
theorem kX4_init {h : Hp} {a0 : Nat} {z : Hp} (hF : fX4_init h a0 = some z) : Mc yX4_init cX4_init 1 none 1 7 108 [.ref a0] h (none, z) := by
  unfold fX4_init at hF
  refine Mc_of [some (.ref a0)] plX4 rfl rfl (Nat.le_of_ble_eq_true rfl) (fun X C => ?_)
  refine J_aload_n (pc := 0) C dX4_init_0 rfl ?_
  refine J_objInit (pc := 1) C dX4_init_1 w_MLX4_1 (by decide) (Nat.le_of_ble_eq_true rfl) ?_
  refine J_aload_n (pc := 4) C dX4_init_4 rfl ?_
  refine J_iconst (pc := 5) C dX4_init_5 ic_4 ?_
  refine J_newarr (pc := 6) C dX4_init_6 (cap := 4) w_AC (by decide) (by decide) (by decide) hF (fun q6 hF => ?_)
  refine J_put (pc := 8) C dX4_init_8 fi_X4_9 hF rfl rfl (fun h8 hF => ?_)
  refine J_aload_n (pc := 11) C dX4_init_11 rfl ?_
  refine J_iconst (pc := 12) C dX4_init_12 ic_4 ?_
  refine J_newarr (pc := 13) C dX4_init_13 (cap := 4) w_AC (by decide) (by decide) (by decide) hF (fun q13 hF => ?_)
  refine J_put (pc := 15) C dX4_init_15 fi_X4_13 hF rfl rfl (fun h15 hF => ?_)
  refine J_aload_n (pc := 18) C dX4_init_18 rfl ?_
  refine J_iconst (pc := 19) C dX4_init_19 ic_4 ?_
  refine J_bipush (pc := 20) C dX4_init_20 bc_24 ?_
  refine J_multi (pc := 22) C dX4_init_22 w_CLX4_16 w_AC (by decide) (by decide) hF (fun q22 hF => ?_)
  refine J_put (pc := 26) C dX4_init_26 fi_X4_18 hF rfl rfl (fun h26 hF => ?_)
  exact J_vret (pc := 29) C dX4_init_29 hF (by decide) (by decide)
def fX8_init (h : Hp) (a0 : Nat) : Option Hp :=
  (newO h 2 [.null, .null]).bind fun q5 =>
  (newA 0 q5.2 0).bind fun q10 =>
  (fX2_init q10.2 q5.1 q10.1).bind fun q12 =>
  (putV q12 8 a0 0 (.ref q5.1)).bind fun h15 =>
  (newO h15 1 [.null, .null, .null, .int 0, .null, .int 0, .null, .int 0, .int 0]).bind fun q19 =>
  (getR q19.2 8 a0 0).bind fun r24 =>
  (fX1_init q19.2 q19.1 r24).bind fun q27 =>
  (putV q27 8 a0 1 (.ref q19.1)).bind fun h30 =>
  (newO h30 1 [.null, .null, .null, .int 0, .null, .int 0, .null, .int 0, .int 0]).bind fun q34 =>
  (getR q34.2 8 a0 0).bind fun r39 =>
  (fX1_init q34.2 q34.1 r39).bind fun q42 =>
  (putV q42 8 a0 2 (.ref q34.1)).bind fun h45 =>
  (newO h45 6 [.null, .int 0, .int 0, .null, .null, .int 0, .int 0, .int 0]).bind fun q49 =>
  (getR q49.2 8 a0 0).bind fun r54 =>
  (fX6_init q49.2 q49.1 r54).bind fun q57 =>
  (putV q57 8 a0 3 (.ref q49.1)).bind fun h60 =>
  (newO h60 4 [.null, .null, .null]).bind fun q64 =>
  (fX4_init q64.2 q64.1).bind fun q68 =>
  (putV q68 8 a0 4 (.ref q64.1)).bind fun h71 =>
  (newO h71 5 [.null, .int 0, .int 0, .int 0, .int 0, .int 0]).bind fun q75 =>
  (fX5_init q75.2 q75.1).bind fun q79 =>
  (putV q79 8 a0 5 (.ref q75.1)).bind fun h82 =>
  (newA 7 h82 7).bind fun q88 =>
  (putV q88.2 8 a0 6 (.ref q88.1)).bind fun h90 =>
  some h90
set_option maxRecDepth 100000 in
theorem kX8_init {h : Hp} {a0 : Nat} {z : Hp} (hF : fX8_init h a0 = some z) : Mc yX8_init cX8_init 1 none 3 124 1343 [.ref a0] h (none, z) := by
  unfold fX8_init at hF
  refine Mc_of [some (.ref a0)] plX8 rfl rfl (Nat.le_of_ble_eq_true rfl) (fun X C => ?_)
  refine J_aload_n (pc := 0) C dX8_init_0 rfl ?_
  refine J_objInit (pc := 1) C dX8_init_1 w_MLX8_1 (by decide) (Nat.le_of_ble_eq_true rfl) ?_
  refine J_aload_n (pc := 4) C dX8_init_4 rfl ?_
  refine J_new (pc := 5) C dX8_init_5 fn_X8_7 (by decide) (by decide) hF (fun q5 hF => ?_)
  refine J_dup (pc := 8) C dX8_init_8 rfl ?_
  refine J_iconst (pc := 9) C dX8_init_9 ic_0 ?_
  refine J_newarr (pc := 10) C dX8_init_10 (cap := 0) w_AC (by decide) (by decide) (by decide) hF (fun q10 hF => ?_)
  refine J_bind hF (fun q12 hq hF => ?_)
  refine J_callI_v (pc := 12) (stk := [.ref q10.1, .ref q5.1, .ref q5.1, .ref a0]) (st := [.ref q5.1, .ref a0]) C dX8_init_12 yw_X2_init w_MLX8_9 rfl in_X2_init (kX2_init hq) rfl (by decide) (by decide) (by decide) rfl (Nat.le_of_ble_eq_true rfl) ?_
  refine J_put (pc := 15) C dX8_init_15 fi_X8_12 hF rfl rfl (fun h15 hF => ?_)
  refine J_aload_n (pc := 18) C dX8_init_18 rfl ?_
  refine J_new (pc := 19) C dX8_init_19 fn_X8_18 (by decide) (by decide) hF (fun q19 hF => ?_)
  refine J_dup (pc := 22) C dX8_init_22 rfl ?_
  refine J_aload_n (pc := 23) C dX8_init_23 rfl ?_
  refine J_getR (pc := 24) C dX8_init_24 fg_X8_12 hF (fun r24 hF => ?_)
  refine J_bind hF (fun q27 hq hF => ?_)
  refine J_callI_v (pc := 27) (stk := [.ref r24, .ref q19.1, .ref q19.1, .ref a0]) (st := [.ref q19.1, .ref a0]) C dX8_init_27 yw_X1_init w_MLX8_20 rfl in_X1_init (kX1_init hq) rfl (by decide) (by decide) (by decide) rfl (Nat.le_of_ble_eq_true rfl) ?_
  refine J_put (pc := 30) C dX8_init_30 fi_X8_23 hF rfl rfl (fun h30 hF => ?_)
  refine J_aload_n (pc := 33) C dX8_init_33 rfl ?_
  refine J_new (pc := 34) C dX8_init_34 fn_X8_18 (by decide) (by decide) hF (fun q34 hF => ?_)
  refine J_dup (pc := 37) C dX8_init_37 rfl ?_
  refine J_aload_n (pc := 38) C dX8_init_38 rfl ?_
  refine J_getR (pc := 39) C dX8_init_39 fg_X8_12 hF (fun r39 hF => ?_)
  refine J_bind hF (fun q42 hq hF => ?_)
  refine J_callI_v (pc := 42) (stk := [.ref r39, .ref q34.1, .ref q34.1, .ref a0]) (st := [.ref q34.1, .ref a0]) C dX8_init_42 yw_X1_init w_MLX8_20 rfl in_X1_init (kX1_init hq) rfl (by decide) (by decide) (by decide) rfl (Nat.le_of_ble_eq_true rfl) ?_
  refine J_put (pc := 45) C dX8_init_45 fi_X8_27 hF rfl rfl (fun h45 hF => ?_)
  refine J_aload_n (pc := 48) C dX8_init_48 rfl ?_
  refine J_new (pc := 49) C dX8_init_49 fn_X8_30 (by decide) (by decide) hF (fun q49 hF => ?_)
  refine J_dup (pc := 52) C dX8_init_52 rfl ?_
  refine J_aload_n (pc := 53) C dX8_init_53 rfl ?_
  refine J_getR (pc := 54) C dX8_init_54 fg_X8_12 hF (fun r54 hF => ?_)
  refine J_bind hF (fun q57 hq hF => ?_)
  refine J_callI_v (pc := 57) (stk := [.ref r54, .ref q49.1, .ref q49.1, .ref a0]) (st := [.ref q49.1, .ref a0]) C dX8_init_57 yw_X6_init w_MLX8_32 rfl in_X6_init (kX6_init hq) rfl (by decide) (by decide) (by decide) rfl (Nat.le_of_ble_eq_true rfl) ?_
  refine J_put (pc := 60) C dX8_init_60 fi_X8_33 hF rfl rfl (fun h60 hF => ?_)
  refine J_aload_n (pc := 63) C dX8_init_63 rfl ?_
  refine J_new (pc := 64) C dX8_init_64 fn_X8_37 (by decide) (by decide) hF (fun q64 hF => ?_)
  refine J_dup (pc := 67) C dX8_init_67 rfl ?_
  refine J_bind hF (fun q68 hq hF => ?_)
  refine J_callIN_v (pc := 68) (stk := [.ref q64.1, .ref q64.1, .ref a0]) (st := [.ref q64.1, .ref a0]) C dX8_init_68 yw_X4_init (by decide +kernel) rfl in_X4_init (kX4_init hq) rfl (by decide) (by decide) (by decide) rfl (Nat.le_of_ble_eq_true rfl) ?_
  refine J_put (pc := 71) C dX8_init_71 fi_X8_40 hF rfl rfl (fun h71 hF => ?_)
  refine J_aload_n (pc := 74) C dX8_init_74 rfl ?_
  refine J_new (pc := 75) C dX8_init_75 fn_X8_44 (by decide) (by decide) hF (fun q75 hF => ?_)
  refine J_dup (pc := 78) C dX8_init_78 rfl ?_
  refine J_bind hF (fun q79 hq hF => ?_)
  refine J_callIN_v (pc := 79) (stk := [.ref q75.1, .ref q75.1, .ref a0]) (st := [.ref q75.1, .ref a0]) C dX8_init_79 yw_X5_init (by decide +kernel) rfl in_X5_init (kX5_init hq) rfl (by decide) (by decide) (by decide) rfl (Nat.le_of_ble_eq_true rfl) ?_
  refine J_put (pc := 82) C dX8_init_82 fi_X8_47 hF rfl rfl (fun h82 hF => ?_)
  refine J_aload_n (pc := 85) C dX8_init_85 rfl ?_
  refine J_bipush (pc := 86) C dX8_init_86 bc_7 ?_
  refine J_newarr (pc := 88) C dX8_init_88 (cap := 7) w_AC (by decide) (by decide) (by decide) hF (fun q88 hF => ?_)
  refine J_put (pc := 90) C dX8_init_90 fi_X8_51 hF rfl rfl (fun h90 hF => ?_)
  exact J_vret (pc := 93) C dX8_init_93 hF (by decide) (by decide)
