/-! ===== the law from its first instruction ===== -/
theorem w_CLXL_7 : Cond.classLink RXL 7 RX8 ∈ FT := FT_of 87 (by decide +kernel) (by decide +kernel)
theorem w_insX8 : Cond.instantiable RX8 8 ∈ FT := FT_of 88 (by decide +kernel) (by decide +kernel)
theorem w_iniX8 : Cond.initialized RX8 ∈ FT := FT_of 73 (by decide +kernel) (by decide +kernel)
theorem fn_XL_7 : Fn RXL 7 8 8 [.null, .null, .null, .null, .null, .null, .null, .int 0] := ⟨_, tyX8, rfl, rfl, uw_X8, tyX8_ok, w_CLXL_7, w_insX8, w_iniX8, (show ∀ j, j < 8 → defaultValue (tyX8 j) = vp_V [.null, .null, .null, .null, .null, .null, .null, .int 0] j by decide +kernel)⟩
theorem w_CLXL_10 : Cond.classLink RXL 10 RX9 ∈ FT := FT_of 898 (by decide +kernel) (by decide +kernel)
theorem w_insX9 : Cond.instantiable RX9 27 ∈ FT := FT_of 899 (by decide +kernel) (by decide +kernel)
theorem w_iniX9 : Cond.initialized RX9 ∈ FT := FT_of 81 (by decide +kernel) (by decide +kernel)
theorem fn_XL_10 : Fn RXL 10 9 27 [.null, .null, .null, .null, .int 0, .null, .int 0, .int 0, .int 0, .int 0, .null, .null, .null, .null, .null, .null, .int 0, .int 0, .int 0, .null, .int 0, .int 0, .int 0, .null, .null, .null, .null] := ⟨_, tyX9, rfl, rfl, uw_X9, tyX9_ok, w_CLXL_10, w_insX9, w_iniX9, (show ∀ j, j < 27 → defaultValue (tyX9 j) = vp_V [.null, .null, .null, .null, .int 0, .null, .int 0, .int 0, .int 0, .int 0, .null, .null, .null, .null, .null, .null, .int 0, .int 0, .int 0, .null, .int 0, .int 0, .int 0, .null, .null, .null, .null] j by decide +kernel)⟩
theorem in_X8_init : Cond.instanceMethod yX8_init ∈ FT := FT_of 90 (by decide +kernel) (by decide +kernel)
theorem in_X9_init : Cond.instanceMethod yX9_init ∈ FT := FT_of 901 (by decide +kernel) (by decide +kernel)
theorem w_MLXL_9 : Cond.methodLink RXL 9 yX8_init ∈ FT := FT_of 89 (by decide +kernel) (by decide +kernel)
theorem w_MLXL_12 : Cond.methodLink RXL 12 yX9_init ∈ FT := FT_of 900 (by decide +kernel) (by decide +kernel)
theorem yw_X8_init : Yw yX8_init cX8_init 1 none 0 := ⟨FT_of 91 (by decide +kernel) (by decide +kernel), w_in_X8, (by decide +kernel), (by decide +kernel), (by decide)⟩
theorem yw_X9_init : Yw yX9_init cX9_init 1 none 0 := ⟨FT_of 902 (by decide +kernel) (by decide +kernel), w_in_X9, (by decide +kernel), (by decide +kernel), (by decide)⟩
def fXH (L : Nat) (xs : Nat → Int32) (h : Hp) : Option (Int32 × Hp) :=
  (newO h 8 [.null, .null, .null, .null, .null, .null, .null, .int 0]).bind fun q0 =>
  (fX8_init q0.2 q0.1).bind fun q4 =>
  (newO q4 9 [.null, .null, .null, .null, .int 0, .null, .int 0, .int 0, .int 0, .int 0, .null, .null, .null, .null, .null, .null, .int 0, .int 0, .int 0, .null, .int 0, .int 0, .int 0, .null, .null, .null, .null]).bind fun q8 =>
  (fX9_init q8.2 q8.1).bind fun q12 =>
  fXL L xs 513 q12 q0.1 q8.1 0
set_option maxRecDepth 100000 in
theorem kXH {X : Cx} {z : Int32 × Hp} {bS L : Nat} {xs : Nat → Int32} {h : Hp} (C : Jc X x code 4 (some .boolean) 1300 2707 101202 (some (.int z.1), z.2)) (hs : Scr X bS L xs) (hF : fXH L xs h = some z) : J X 2707 101202 0 0 0 [some (.ref bS), none, none, none] [] h := by
  unfold fXH at hF
  refine J_new (pc := 0) C dXL_law_0 fn_XL_7 (by decide) (by decide) hF (fun q0 hF => ?_)
  refine J_dup (pc := 3) C dXL_law_3 rfl ?_
  refine J_bind hF (fun q4 hq hF => ?_)
  refine J_callI_v (pc := 4) (stk := [.ref q0.1, .ref q0.1]) (st := [.ref q0.1]) C dXL_law_4 yw_X8_init w_MLXL_9 rfl in_X8_init (kX8_init hq) rfl (by decide) (by decide) (by decide) rfl (Nat.le_of_ble_eq_true rfl) ?_
  refine J_astore_n (pc := 7) (lv' := [some (.ref bS), some (.ref q0.1), none, none]) C dXL_law_7 rfl ?_
  refine J_new (pc := 8) C dXL_law_8 fn_XL_10 (by decide) (by decide) hF (fun q8 hF => ?_)
  refine J_dup (pc := 11) C dXL_law_11 rfl ?_
  refine J_bind hF (fun q12 hq hF => ?_)
  refine J_callI_v (pc := 12) (stk := [.ref q8.1, .ref q8.1]) (st := [.ref q8.1]) C dXL_law_12 yw_X9_init w_MLXL_12 rfl in_X9_init (kX9_init hq) rfl (by decide) (by decide) (by decide) rfl (Nat.le_of_ble_eq_true rfl) ?_
  refine J_astore_n (pc := 15) (lv' := [some (.ref bS), some (.ref q0.1), some (.ref q8.1), none]) C dXL_law_15 rfl ?_
  refine J_iconst (pc := 16) C dXL_law_16 ic_0 ?_
  refine J_istore_n (pc := 17) (lv' := [some (.ref bS), some (.ref q0.1), some (.ref q8.1), some (.int 0)]) C dXL_law_17 rfl ?_
  exact kXL C hs 513 _ _ q12 q0.1 q8.1 0 (by decide) (by decide) hF
