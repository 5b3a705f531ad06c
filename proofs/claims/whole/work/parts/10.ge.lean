def fX8_crossings_49 : Nat → Hp → Nat → Int32 → Nat → Int32 → Int32 → Option (Int32 × Hp)
  | 0, _, _, _, _, _, _ => none
  | n49 + 1, h, a0, x1, a2, x3, x4 =>
    (getR h 8 a0 4).bind fun r54 =>
    (getR h 4 r54 1).bind fun r57 =>
    (rdI h r57 x1).bind fun v61 =>
    if v61 ≤ (x4 + 1) then
      some (x3, h)
    else
      (rdI h a2 x4).bind fun v69 =>
      (rdI h a2 (x4 + 1)).bind fun v75 =>
      (fX8_refusalOfCrossing h a0 v69 v75).bind fun q76 =>
      if q76 = 0 then
        (getR h 8 a0 1).bind fun r85 =>
        (rdI h a2 x4).bind fun v91 =>
        (rdI h a2 (x4 + 1)).bind fun v97 =>
        (fX1_carryAndBook h r85 v91 v97).bind fun q98 =>
        fX8_crossings_49 n49 q98.2 a0 x1 a2 (x3 + 1) (x4 + 2)
      else
        some (x3, h)
set_option maxRecDepth 100000 in
theorem kX8_crossings_49 {X : Cx} {z : (Int32 × Hp)} (C : Jc X yX8_crossings cX8_crossings 5 (some .int) 6 0 0 (some (.int z.1), z.2)) : ∀ (n49 : Nat) (h : Hp) (a0 : Nat) (x1 : Int32) (a2 : Nat) (x3 : Int32) (x4 : Int32), fX8_crossings_49 n49 h a0 x1 a2 x3 x4 = some z → J X 0 0 0 0 49 [some (.ref a0), some (.int x1), some (.ref a2), some (.int x3), some (.int x4)] [] h := by
  intro n49
  induction n49 with
  | zero => intro h a0 x1 a2 x3 x4 hF; cases hF
  | succ n49 ih =>
    intro h a0 x1 a2 x3 x4 hF
    rw [fX8_crossings_49] at hF
    refine J_iload (pc := 49) C dX8_crossings_49 rfl ?_
    refine J_iconst (pc := 51) C dX8_crossings_51 ic_1 ?_
    refine J_iadd (pc := 52) C dX8_crossings_52 ?_
    refine J_aload_n (pc := 53) C dX8_crossings_53 rfl ?_
    refine J_getR (pc := 54) C dX8_crossings_54 fg_X8_40 hF (fun r54 hF => ?_)
    refine J_getR (pc := 57) C dX8_crossings_57 fg_X8_305 hF (fun r57 hF => ?_)
    refine J_iload_n (pc := 60) C dX8_crossings_60 rfl ?_
    refine J_iald (pc := 61) C dX8_crossings_61 hF (fun v61 hF => ?_)
    refine J_icmp_ge (pc := 62) (tgt := 111) C dX8_crossings_62 rfl hF (fun hF => ?_) (fun hF => ?_)
    · refine J_iload_n (pc := 111) C dX8_crossings_111 rfl ?_
      exact J_iret (pc := 112) C dX8_crossings_112 hF (by decide) (by decide)
    · refine J_aload_n (pc := 65) C dX8_crossings_65 rfl ?_
      refine J_aload_n (pc := 66) C dX8_crossings_66 rfl ?_
      refine J_iload (pc := 67) C dX8_crossings_67 rfl ?_
      refine J_iald (pc := 69) C dX8_crossings_69 hF (fun v69 hF => ?_)
      refine J_aload_n (pc := 70) C dX8_crossings_70 rfl ?_
      refine J_iload (pc := 71) C dX8_crossings_71 rfl ?_
      refine J_iconst (pc := 73) C dX8_crossings_73 ic_1 ?_
      refine J_iadd (pc := 74) C dX8_crossings_74 ?_
      refine J_iald (pc := 75) C dX8_crossings_75 hF (fun v75 hF => ?_)
      refine J_bind hF (fun q76 hq hF => ?_)
      refine J_callV0_ip (pc := 76) (stk := [.int v75, .int v69, .ref a0]) (st := []) C dX8_crossings_76 yw_X8_refusalOfCrossing w_MLX8_178 in_X8_refusalOfCrossing sl_X8_refusalOfCrossing ⟨_, rfl, rfl⟩ (kX8_refusalOfCrossing hq) (gO_some hq).1 rfl (by decide) rfl (Nat.le_of_ble_eq_true rfl) ?_
      refine J_if_eq (pc := 79) (tgt := 84) C dX8_crossings_79 rfl hF (fun hF => ?_) (fun hF => ?_)
      · refine J_aload_n (pc := 84) C dX8_crossings_84 rfl ?_
        refine J_getR (pc := 85) C dX8_crossings_85 fg_X8_23 hF (fun r85 hF => ?_)
        refine J_aload_n (pc := 88) C dX8_crossings_88 rfl ?_
        refine J_iload (pc := 89) C dX8_crossings_89 rfl ?_
        refine J_iald (pc := 91) C dX8_crossings_91 hF (fun v91 hF => ?_)
        refine J_aload_n (pc := 92) C dX8_crossings_92 rfl ?_
        refine J_iload (pc := 93) C dX8_crossings_93 rfl ?_
        refine J_iconst (pc := 95) C dX8_crossings_95 ic_1 ?_
        refine J_iadd (pc := 96) C dX8_crossings_96 ?_
        refine J_iald (pc := 97) C dX8_crossings_97 hF (fun v97 hF => ?_)
        refine J_bind hF (fun q98 hq hF => ?_)
        refine J_callV0_i (pc := 98) (stk := [.int v97, .int v91, .ref r85]) (st := []) C dX8_crossings_98 yw_X1_carryAndBook w_MLX8_181 in_X1_carryAndBook sl_X1_carryAndBook ⟨_, rfl, rfl⟩ (kX1_carryAndBook hq) (gO_some hq).1 rfl (by decide) rfl (Nat.le_of_ble_eq_true rfl) ?_
        refine J_pop (pc := 101) C dX8_crossings_101 rfl ?_
        refine J_iinc (pc := 102) (lv' := [some (.ref a0), some (.int x1), some (.ref a2), some (.int (x3 + 1)), some (.int x4)]) C dX8_crossings_102 rfl ic_1 rfl ?_
        refine J_iinc (pc := 105) (lv' := [some (.ref a0), some (.int x1), some (.ref a2), some (.int (x3 + 1)), some (.int (x4 + 2))]) C dX8_crossings_105 rfl ic_2 rfl ?_
        refine J_goto (pc := 108) (tgt := 49) C dX8_crossings_108 rfl ?_
        exact ih q98.2 a0 x1 a2 (x3 + 1) (x4 + 2) hF
      · refine J_iload_n (pc := 82) C dX8_crossings_82 rfl ?_
        exact J_iret (pc := 83) C dX8_crossings_83 hF (by decide) (by decide)
def fX8_crossings (h : Hp) (a0 : Nat) (x1 : Int32) : Option (Int32 × Hp) := gO h 8 a0 (
  (getR h 8 a0 4).bind fun r1 =>
  (fX4_isOne h r1 x1).bind fun q5 =>
  if q5 = 0 then
    (fX8_refuse h a0 1).bind fun q13 =>
    some (q13.1, q13.2)
  else
    (getR h 8 a0 4).bind fun r18 =>
    (fX4_isMissing h r18 x1).bind fun q22 =>
    if q22 = 0 then
      (getR h 8 a0 4).bind fun r35 =>
      (getR h 4 r35 2).bind fun r38 =>
      (rdR h r38 x1).bind fun r42 =>
      fX8_crossings_49 1000 h a0 x1 r42 0 0
    else
      (fX8_refuse h a0 2).bind fun q30 =>
      some (q30.1, q30.2))
set_option maxRecDepth 100000 in
theorem kX8_crossings {h : Hp} {a0 : Nat} {x1 : Int32} {z : (Int32 × Hp)} (hF : fX8_crossings h a0 x1 = some z) : Mc yX8_crossings cX8_crossings 5 (some .int) 6 0 0 [.ref a0, .int x1] h (some (.int z.1), z.2) := by
  have hF := (gO_some hF).2
  refine Mc_of [some (.ref a0), some (.int x1), none, none, none] plX8 rfl rfl (Nat.le_of_ble_eq_true rfl) (fun X C => ?_)
  refine J_aload_n (pc := 0) C dX8_crossings_0 rfl ?_
  refine J_getR (pc := 1) C dX8_crossings_1 fg_X8_40 hF (fun r1 hF => ?_)
  refine J_iload_n (pc := 4) C dX8_crossings_4 rfl ?_
  refine J_bind hF (fun q5 hq hF => ?_)
  refine J_callV0_ip (pc := 5) (stk := [.int x1, .ref r1]) (st := []) C dX8_crossings_5 yw_X4_isOne w_MLX8_292 in_X4_isOne sl_X4_isOne ⟨_, rfl, rfl⟩ (kX4_isOne hq) (gO_some hq).1 rfl (by decide) rfl (Nat.le_of_ble_eq_true rfl) ?_
  refine J_if_ne (pc := 8) (tgt := 17) C dX8_crossings_8 rfl hF (fun hF => ?_) (fun hF => ?_)
  · refine J_aload_n (pc := 11) C dX8_crossings_11 rfl ?_
    refine J_iconst (pc := 12) C dX8_crossings_12 ic_1 ?_
    refine J_bind hF (fun q13 hq hF => ?_)
    refine J_callV0_i (pc := 13) (stk := [.int 1, .ref a0]) (st := []) C dX8_crossings_13 yw_X8_refuse w_MLX8_59 in_X8_refuse sl_X8_refuse ⟨_, rfl, rfl⟩ (kX8_refuse hq) (gO_some hq).1 rfl (by decide) rfl (Nat.le_of_ble_eq_true rfl) ?_
    exact J_iret (pc := 16) C dX8_crossings_16 hF (by decide) (by decide)
  · refine J_aload_n (pc := 17) C dX8_crossings_17 rfl ?_
    refine J_getR (pc := 18) C dX8_crossings_18 fg_X8_40 hF (fun r18 hF => ?_)
    refine J_iload_n (pc := 21) C dX8_crossings_21 rfl ?_
    refine J_bind hF (fun q22 hq hF => ?_)
    refine J_callV0_ip (pc := 22) (stk := [.int x1, .ref r18]) (st := []) C dX8_crossings_22 yw_X4_isMissing w_MLX8_302 in_X4_isMissing sl_X4_isMissing ⟨_, rfl, rfl⟩ (kX4_isMissing hq) (gO_some hq).1 rfl (by decide) rfl (Nat.le_of_ble_eq_true rfl) ?_
    refine J_if_eq (pc := 25) (tgt := 34) C dX8_crossings_25 rfl hF (fun hF => ?_) (fun hF => ?_)
    · refine J_aload_n (pc := 34) C dX8_crossings_34 rfl ?_
      refine J_getR (pc := 35) C dX8_crossings_35 fg_X8_40 hF (fun r35 hF => ?_)
      refine J_getR (pc := 38) C dX8_crossings_38 fg_X8_317 hF (fun r38 hF => ?_)
      refine J_iload_n (pc := 41) C dX8_crossings_41 rfl ?_
      refine J_aald (pc := 42) C dX8_crossings_42 hF (fun r42 hF => ?_)
      refine J_astore_n (pc := 43) (lv' := [some (.ref a0), some (.int x1), some (.ref r42), none, none]) C dX8_crossings_43 rfl ?_
      refine J_iconst (pc := 44) C dX8_crossings_44 ic_0 ?_
      refine J_istore_n (pc := 45) (lv' := [some (.ref a0), some (.int x1), some (.ref r42), some (.int 0), none]) C dX8_crossings_45 rfl ?_
      refine J_iconst (pc := 46) C dX8_crossings_46 ic_0 ?_
      refine J_istore (pc := 47) (lv' := [some (.ref a0), some (.int x1), some (.ref r42), some (.int 0), some (.int 0)]) C dX8_crossings_47 rfl ?_
      exact kX8_crossings_49 C 1000 h a0 x1 r42 0 0 hF
    · refine J_aload_n (pc := 28) C dX8_crossings_28 rfl ?_
      refine J_iconst (pc := 29) C dX8_crossings_29 ic_2 ?_
      refine J_bind hF (fun q30 hq hF => ?_)
      refine J_callV0_i (pc := 30) (stk := [.int 2, .ref a0]) (st := []) C dX8_crossings_30 yw_X8_refuse w_MLX8_59 in_X8_refuse sl_X8_refuse ⟨_, rfl, rfl⟩ (kX8_refuse hq) (gO_some hq).1 rfl (by decide) rfl (Nat.le_of_ble_eq_true rfl) ?_
      exact J_iret (pc := 33) C dX8_crossings_33 hF (by decide) (by decide)
def fX8_debt (h : Hp) (a0 : Nat) (x1 : Int32) (x2 : Int32) (x3 : Int32) : Option (Int32 × Hp) := gO h 8 a0 (
  (getR h 8 a0 1).bind fun r1 =>
  (getR h 1 r1 0).bind fun r4 =>
  (fX7_hasPerson h r4 x1).bind fun q12 =>
  if q12 = 0 then
    (fX8_refuse h a0 1).bind fun q34 =>
    some (q34.1, q34.2)
  else
    (fX7_hasPerson h r4 x2).bind fun q21 =>
    if q21 = 0 then
      (fX8_refuse h a0 1).bind fun q34 =>
      some (q34.1, q34.2)
    else
      if x1 = x2 then
        (fX8_refuse h a0 1).bind fun q34 =>
        some (q34.1, q34.2)
      else
        if x3 < 1 then
          (fX8_refuse h a0 1).bind fun q52 =>
          some (q52.1, q52.2)
        else
          if x3 ≤ 999 then
            (getR h 8 a0 1).bind fun r57 =>
            (getR h 1 r57 1).bind fun r60 =>
            (getI h 0 r60 0).bind fun v63 =>
            if v63 < 8 then
              (getR h 8 a0 1).bind fun r78 =>
              (getR h 1 r78 1).bind fun r81 =>
              (fX0_add h r81 x1 x2 x3).bind fun q87 =>
              some (q87.1, q87.2)
            else
              (fX8_refuse h a0 4).bind fun q73 =>
              some (q73.1, q73.2)
          else
            (fX8_refuse h a0 1).bind fun q52 =>
            some (q52.1, q52.2))
set_option maxRecDepth 100000 in
theorem kX8_debt {h : Hp} {a0 : Nat} {x1 : Int32} {x2 : Int32} {x3 : Int32} {z : (Int32 × Hp)} (hF : fX8_debt h a0 x1 x2 x3 = some z) : Mc yX8_debt cX8_debt 5 (some .int) 1 0 0 [.ref a0, .int x1, .int x2, .int x3] h (some (.int z.1), z.2) := by
  have hF := (gO_some hF).2
  refine Mc_of [some (.ref a0), some (.int x1), some (.int x2), some (.int x3), none] plX8 rfl rfl (Nat.le_of_ble_eq_true rfl) (fun X C => ?_)
  refine J_aload_n (pc := 0) C dX8_debt_0 rfl ?_
  refine J_getR (pc := 1) C dX8_debt_1 fg_X8_23 hF (fun r1 hF => ?_)
  refine J_getR (pc := 4) C dX8_debt_4 fg_X8_63 hF (fun r4 hF => ?_)
  refine J_astore (pc := 7) (lv' := [some (.ref a0), some (.int x1), some (.int x2), some (.int x3), some (.ref r4)]) C dX8_debt_7 rfl ?_
  refine J_aload (pc := 9) C dX8_debt_9 rfl ?_
  refine J_iload_n (pc := 11) C dX8_debt_11 rfl ?_
  refine J_bind hF (fun q12 hq hF => ?_)
  refine J_callV0_ip (pc := 12) (stk := [.int x1, .ref r4]) (st := []) C dX8_debt_12 yw_X7_hasPerson w_MLX8_76 in_X7_hasPerson sl_X7_hasPerson ⟨_, rfl, rfl⟩ (kX7_hasPerson hq) (gO_some hq).1 rfl (by decide) rfl (Nat.le_of_ble_eq_true rfl) ?_
  refine J_if_eq (pc := 15) (tgt := 32) C dX8_debt_15 rfl hF (fun hF => ?_) (fun hF => ?_)
  · refine J_aload_n (pc := 32) C dX8_debt_32 rfl ?_
    refine J_iconst (pc := 33) C dX8_debt_33 ic_1 ?_
    refine J_bind hF (fun q34 hq hF => ?_)
    refine J_callV0_i (pc := 34) (stk := [.int 1, .ref a0]) (st := []) C dX8_debt_34 yw_X8_refuse w_MLX8_59 in_X8_refuse sl_X8_refuse ⟨_, rfl, rfl⟩ (kX8_refuse hq) (gO_some hq).1 rfl (by decide) rfl (Nat.le_of_ble_eq_true rfl) ?_
    exact J_iret (pc := 37) C dX8_debt_37 hF (by decide) (by decide)
  · refine J_aload (pc := 18) C dX8_debt_18 rfl ?_
    refine J_iload_n (pc := 20) C dX8_debt_20 rfl ?_
    refine J_bind hF (fun q21 hq hF => ?_)
    refine J_callV0_ip (pc := 21) (stk := [.int x2, .ref r4]) (st := []) C dX8_debt_21 yw_X7_hasPerson w_MLX8_76 in_X7_hasPerson sl_X7_hasPerson ⟨_, rfl, rfl⟩ (kX7_hasPerson hq) (gO_some hq).1 rfl (by decide) rfl (Nat.le_of_ble_eq_true rfl) ?_
    refine J_if_eq (pc := 24) (tgt := 32) C dX8_debt_24 rfl hF (fun hF => ?_) (fun hF => ?_)
    · refine J_aload_n (pc := 32) C dX8_debt_32 rfl ?_
      refine J_iconst (pc := 33) C dX8_debt_33 ic_1 ?_
      refine J_bind hF (fun q34 hq hF => ?_)
      refine J_callV0_i (pc := 34) (stk := [.int 1, .ref a0]) (st := []) C dX8_debt_34 yw_X8_refuse w_MLX8_59 in_X8_refuse sl_X8_refuse ⟨_, rfl, rfl⟩ (kX8_refuse hq) (gO_some hq).1 rfl (by decide) rfl (Nat.le_of_ble_eq_true rfl) ?_
      exact J_iret (pc := 37) C dX8_debt_37 hF (by decide) (by decide)
    · refine J_iload_n (pc := 27) C dX8_debt_27 rfl ?_
      refine J_iload_n (pc := 28) C dX8_debt_28 rfl ?_
      refine J_icmp_ne (pc := 29) (tgt := 38) C dX8_debt_29 rfl hF (fun hF => ?_) (fun hF => ?_)
      · refine J_aload_n (pc := 32) C dX8_debt_32 rfl ?_
        refine J_iconst (pc := 33) C dX8_debt_33 ic_1 ?_
        refine J_bind hF (fun q34 hq hF => ?_)
        refine J_callV0_i (pc := 34) (stk := [.int 1, .ref a0]) (st := []) C dX8_debt_34 yw_X8_refuse w_MLX8_59 in_X8_refuse sl_X8_refuse ⟨_, rfl, rfl⟩ (kX8_refuse hq) (gO_some hq).1 rfl (by decide) rfl (Nat.le_of_ble_eq_true rfl) ?_
        exact J_iret (pc := 37) C dX8_debt_37 hF (by decide) (by decide)
      · refine J_iload_n (pc := 38) C dX8_debt_38 rfl ?_
        refine J_iconst (pc := 39) C dX8_debt_39 ic_1 ?_
        refine J_icmp_lt (pc := 40) (tgt := 50) C dX8_debt_40 rfl hF (fun hF => ?_) (fun hF => ?_)
        · refine J_aload_n (pc := 50) C dX8_debt_50 rfl ?_
          refine J_iconst (pc := 51) C dX8_debt_51 ic_1 ?_
          refine J_bind hF (fun q52 hq hF => ?_)
          refine J_callV0_i (pc := 52) (stk := [.int 1, .ref a0]) (st := []) C dX8_debt_52 yw_X8_refuse w_MLX8_59 in_X8_refuse sl_X8_refuse ⟨_, rfl, rfl⟩ (kX8_refuse hq) (gO_some hq).1 rfl (by decide) rfl (Nat.le_of_ble_eq_true rfl) ?_
          exact J_iret (pc := 55) C dX8_debt_55 hF (by decide) (by decide)
        · refine J_iload_n (pc := 43) C dX8_debt_43 rfl ?_
          refine J_sipush (pc := 44) C dX8_debt_44 sc_999 ?_
          refine J_icmp_le (pc := 47) (tgt := 56) C dX8_debt_47 rfl hF (fun hF => ?_) (fun hF => ?_)
          · refine J_aload_n (pc := 56) C dX8_debt_56 rfl ?_
            refine J_getR (pc := 57) C dX8_debt_57 fg_X8_23 hF (fun r57 hF => ?_)
            refine J_getR (pc := 60) C dX8_debt_60 fg_X8_205 hF (fun r60 hF => ?_)
            refine J_getI (pc := 63) C dX8_debt_63 fg_X8_209 hF (fun v63 hF => ?_)
            refine J_bipush (pc := 66) C dX8_debt_66 bc_8 ?_
            refine J_icmp_lt (pc := 68) (tgt := 77) C dX8_debt_68 rfl hF (fun hF => ?_) (fun hF => ?_)
            · refine J_aload_n (pc := 77) C dX8_debt_77 rfl ?_
              refine J_getR (pc := 78) C dX8_debt_78 fg_X8_23 hF (fun r78 hF => ?_)
              refine J_getR (pc := 81) C dX8_debt_81 fg_X8_205 hF (fun r81 hF => ?_)
              refine J_iload_n (pc := 84) C dX8_debt_84 rfl ?_
              refine J_iload_n (pc := 85) C dX8_debt_85 rfl ?_
              refine J_iload_n (pc := 86) C dX8_debt_86 rfl ?_
              refine J_bind hF (fun q87 hq hF => ?_)
              refine J_callV0_i (pc := 87) (stk := [.int x3, .int x2, .int x1, .ref r81]) (st := []) C dX8_debt_87 yw_X0_add w_MLX8_212 in_X0_add sl_X0_add ⟨_, rfl, rfl⟩ (kX0_add hq) (gO_some hq).1 rfl (by decide) rfl (Nat.le_of_ble_eq_true rfl) ?_
              exact J_iret (pc := 90) C dX8_debt_90 hF (by decide) (by decide)
            · refine J_aload_n (pc := 71) C dX8_debt_71 rfl ?_
              refine J_iconst (pc := 72) C dX8_debt_72 ic_4 ?_
              refine J_bind hF (fun q73 hq hF => ?_)
              refine J_callV0_i (pc := 73) (stk := [.int 4, .ref a0]) (st := []) C dX8_debt_73 yw_X8_refuse w_MLX8_59 in_X8_refuse sl_X8_refuse ⟨_, rfl, rfl⟩ (kX8_refuse hq) (gO_some hq).1 rfl (by decide) rfl (Nat.le_of_ble_eq_true rfl) ?_
              exact J_iret (pc := 76) C dX8_debt_76 hF (by decide) (by decide)
          · refine J_aload_n (pc := 50) C dX8_debt_50 rfl ?_
            refine J_iconst (pc := 51) C dX8_debt_51 ic_1 ?_
            refine J_bind hF (fun q52 hq hF => ?_)
            refine J_callV0_i (pc := 52) (stk := [.int 1, .ref a0]) (st := []) C dX8_debt_52 yw_X8_refuse w_MLX8_59 in_X8_refuse sl_X8_refuse ⟨_, rfl, rfl⟩ (kX8_refuse hq) (gO_some hq).1 rfl (by decide) rfl (Nat.le_of_ble_eq_true rfl) ?_
            exact J_iret (pc := 55) C dX8_debt_55 hF (by decide) (by decide)
def fX8_debtIs (h : Hp) (a0 : Nat) (x1 : Int32) (x2 : Int32) : Option (Int32 × Hp) := gO h 8 a0 (
  (getR h 8 a0 1).bind fun r1 =>
  (getR h 1 r1 1).bind fun r4 =>
  if x1 < 0 then
    (fX8_refuse h a0 1).bind fun q22 =>
    some (q22.1, q22.2)
  else
    (getI h 0 r4 0).bind fun v14 =>
    if x1 < v14 then
      if x2 = 0 then
        (getR h 0 r4 1).bind fun r57 =>
        (rdI h r57 x1).bind fun v61 =>
        some (v61, h)
      else
        if x2 = 1 then
          (getR h 0 r4 2).bind fun r64 =>
          (rdI h r64 x1).bind fun v68 =>
          some (v68, h)
        else
          if x2 = 2 then
            (getR h 0 r4 3).bind fun r71 =>
            (rdI h r71 x1).bind fun v75 =>
            some (v75, h)
          else
            if x2 = 3 then
              (getR h 8 a0 1).bind fun r80 =>
              (getR h 1 r80 0).bind fun r83 =>
              (fX0_holds h r4 x1 r83).bind fun q86 =>
              if q86 = 0 then
                some (0, h)
              else
                some (1, h)
            else
              (fX8_refuse h a0 1).bind fun q100 =>
              some (q100.1, q100.2)
    else
      (fX8_refuse h a0 1).bind fun q22 =>
      some (q22.1, q22.2))
set_option maxRecDepth 100000 in
theorem kX8_debtIs {h : Hp} {a0 : Nat} {x1 : Int32} {x2 : Int32} {z : (Int32 × Hp)} (hF : fX8_debtIs h a0 x1 x2 = some z) : Mc yX8_debtIs cX8_debtIs 4 (some .int) 3 0 0 [.ref a0, .int x1, .int x2] h (some (.int z.1), z.2) := by
  have hF := (gO_some hF).2
  refine Mc_of [some (.ref a0), some (.int x1), some (.int x2), none] plX8 rfl rfl (Nat.le_of_ble_eq_true rfl) (fun X C => ?_)
  refine J_aload_n (pc := 0) C dX8_debtIs_0 rfl ?_
  refine J_getR (pc := 1) C dX8_debtIs_1 fg_X8_23 hF (fun r1 hF => ?_)
  refine J_getR (pc := 4) C dX8_debtIs_4 fg_X8_205 hF (fun r4 hF => ?_)
  refine J_astore_n (pc := 7) (lv' := [some (.ref a0), some (.int x1), some (.int x2), some (.ref r4)]) C dX8_debtIs_7 rfl ?_
  refine J_iload_n (pc := 8) C dX8_debtIs_8 rfl ?_
  refine J_if_lt (pc := 9) (tgt := 20) C dX8_debtIs_9 rfl hF (fun hF => ?_) (fun hF => ?_)
  · refine J_aload_n (pc := 20) C dX8_debtIs_20 rfl ?_
    refine J_iconst (pc := 21) C dX8_debtIs_21 ic_1 ?_
    refine J_bind hF (fun q22 hq hF => ?_)
    refine J_callV0_i (pc := 22) (stk := [.int 1, .ref a0]) (st := []) C dX8_debtIs_22 yw_X8_refuse w_MLX8_59 in_X8_refuse sl_X8_refuse ⟨_, rfl, rfl⟩ (kX8_refuse hq) (gO_some hq).1 rfl (by decide) rfl (Nat.le_of_ble_eq_true rfl) ?_
    exact J_iret (pc := 25) C dX8_debtIs_25 hF (by decide) (by decide)
  · refine J_iload_n (pc := 12) C dX8_debtIs_12 rfl ?_
    refine J_aload_n (pc := 13) C dX8_debtIs_13 rfl ?_
    refine J_getI (pc := 14) C dX8_debtIs_14 fg_X8_209 hF (fun v14 hF => ?_)
    refine J_icmp_lt (pc := 17) (tgt := 26) C dX8_debtIs_17 rfl hF (fun hF => ?_) (fun hF => ?_)
    · refine J_iload_n (pc := 26) C dX8_debtIs_26 rfl ?_
      refine J_br hF (fun hc27_0 hF => ?_) (fun hc27_0 hF => ?_)
      · refine J_tsIn (pc := 27) (tgt := 56) C 0 hc27_0 dX8_debtIs_27 (by decide) (by decide) rfl rfl ?_
        refine J_aload_n (pc := 56) C dX8_debtIs_56 rfl ?_
        refine J_getR (pc := 57) C dX8_debtIs_57 fg_X8_215 hF (fun r57 hF => ?_)
        refine J_iload_n (pc := 60) C dX8_debtIs_60 rfl ?_
        refine J_iald (pc := 61) C dX8_debtIs_61 hF (fun v61 hF => ?_)
        exact J_iret (pc := 62) C dX8_debtIs_62 hF (by decide) (by decide)
      · refine J_br hF (fun hc27_1 hF => ?_) (fun hc27_1 hF => ?_)
        · refine J_tsIn (pc := 27) (tgt := 63) C 1 hc27_1 dX8_debtIs_27 (by decide) (by decide) rfl rfl ?_
          refine J_aload_n (pc := 63) C dX8_debtIs_63 rfl ?_
          refine J_getR (pc := 64) C dX8_debtIs_64 fg_X8_218 hF (fun r64 hF => ?_)
          refine J_iload_n (pc := 67) C dX8_debtIs_67 rfl ?_
          refine J_iald (pc := 68) C dX8_debtIs_68 hF (fun v68 hF => ?_)
          exact J_iret (pc := 69) C dX8_debtIs_69 hF (by decide) (by decide)
        · refine J_br hF (fun hc27_2 hF => ?_) (fun hc27_2 hF => ?_)
          · refine J_tsIn (pc := 27) (tgt := 70) C 2 hc27_2 dX8_debtIs_27 (by decide) (by decide) rfl rfl ?_
            refine J_aload_n (pc := 70) C dX8_debtIs_70 rfl ?_
            refine J_getR (pc := 71) C dX8_debtIs_71 fg_X8_221 hF (fun r71 hF => ?_)
            refine J_iload_n (pc := 74) C dX8_debtIs_74 rfl ?_
            refine J_iald (pc := 75) C dX8_debtIs_75 hF (fun v75 hF => ?_)
            exact J_iret (pc := 76) C dX8_debtIs_76 hF (by decide) (by decide)
          · refine J_br hF (fun hc27_3 hF => ?_) (fun hc27_3 hF => ?_)
            · refine J_tsIn (pc := 27) (tgt := 77) C 3 hc27_3 dX8_debtIs_27 (by decide) (by decide) rfl rfl ?_
              refine J_aload_n (pc := 77) C dX8_debtIs_77 rfl ?_
              refine J_iload_n (pc := 78) C dX8_debtIs_78 rfl ?_
              refine J_aload_n (pc := 79) C dX8_debtIs_79 rfl ?_
              refine J_getR (pc := 80) C dX8_debtIs_80 fg_X8_23 hF (fun r80 hF => ?_)
              refine J_getR (pc := 83) C dX8_debtIs_83 fg_X8_63 hF (fun r83 hF => ?_)
              refine J_bind hF (fun q86 hq hF => ?_)
              refine J_callV0_ip (pc := 86) (stk := [.ref r83, .int x1, .ref r4]) (st := []) C dX8_debtIs_86 yw_X0_holds w_MLX8_224 in_X0_holds sl_X0_holds ⟨_, rfl, rfl⟩ (kX0_holds hq) (gO_some hq).1 rfl (by decide) rfl (Nat.le_of_ble_eq_true rfl) ?_
              refine J_if_eq (pc := 89) (tgt := 96) C dX8_debtIs_89 rfl hF (fun hF => ?_) (fun hF => ?_)
              · refine J_iconst (pc := 96) C dX8_debtIs_96 ic_0 ?_
                exact J_iret (pc := 97) C dX8_debtIs_97 hF (by decide) (by decide)
              · refine J_iconst (pc := 92) C dX8_debtIs_92 ic_1 ?_
                refine J_goto (pc := 93) (tgt := 97) C dX8_debtIs_93 rfl ?_
                exact J_iret (pc := 97) C dX8_debtIs_97 hF (by decide) (by decide)
            · have hD : J X 0 0 0 0 98 [some (.ref a0), some (.int x1), some (.int x2), some (.ref r4)] [] h := by
                refine J_aload_n (pc := 98) C dX8_debtIs_98 rfl ?_
                refine J_iconst (pc := 99) C dX8_debtIs_99 ic_1 ?_
                refine J_bind hF (fun q100 hq hF => ?_)
                refine J_callV0_i (pc := 100) (stk := [.int 1, .ref a0]) (st := []) C dX8_debtIs_100 yw_X8_refuse w_MLX8_59 in_X8_refuse sl_X8_refuse ⟨_, rfl, rfl⟩ (kX8_refuse hq) (gO_some hq).1 rfl (by decide) rfl (Nat.le_of_ble_eq_true rfl) ?_
                exact J_iret (pc := 103) C dX8_debtIs_103 hF (by decide) (by decide)
              refine J_tsOut (pc := 27) (tgt := 98) C dX8_debtIs_27 (by have z0 := lv_neT hc27_0 (a := 0) rfl; have z1 := lv_neT hc27_1 (a := 1) rfl; have z2 := lv_neT hc27_2 (a := 2) rfl; have z3 := lv_neT hc27_3 (a := 3) rfl; omega) rfl hD
    · refine J_aload_n (pc := 20) C dX8_debtIs_20 rfl ?_
      refine J_iconst (pc := 21) C dX8_debtIs_21 ic_1 ?_
      refine J_bind hF (fun q22 hq hF => ?_)
      refine J_callV0_i (pc := 22) (stk := [.int 1, .ref a0]) (st := []) C dX8_debtIs_22 yw_X8_refuse w_MLX8_59 in_X8_refuse sl_X8_refuse ⟨_, rfl, rfl⟩ (kX8_refuse hq) (gO_some hq).1 rfl (by decide) rfl (Nat.le_of_ble_eq_true rfl) ?_
      exact J_iret (pc := 25) C dX8_debtIs_25 hF (by decide) (by decide)
def fX8_draws_56 : Nat → Hp → Nat → Int32 → Int32 → Option (Int32 × Hp)
  | 0, _, _, _, _ => none
  | n56 + 1, h, a0, x1, x2 =>
    if x1 ≤ x2 then
      (getR h 8 a0 1).bind fun r75 =>
      (getR h 1 r75 0).bind fun r78 =>
      (getI h 7 r78 0).bind fun v81 =>
      some (v81, h)
    else
      (getR h 8 a0 1).bind fun r62 =>
      (fX1_crossByDraw h r62).bind fun q65 =>
      fX8_draws_56 n56 q65 a0 x1 (x2 + 1)
set_option maxRecDepth 100000 in
theorem kX8_draws_56 {X : Cx} {z : (Int32 × Hp)} (C : Jc X yX8_draws cX8_draws 3 (some .int) 7 0 0 (some (.int z.1), z.2)) : ∀ (n56 : Nat) (h : Hp) (a0 : Nat) (x1 : Int32) (x2 : Int32), fX8_draws_56 n56 h a0 x1 x2 = some z → J X 0 0 0 0 56 [some (.ref a0), some (.int x1), some (.int x2)] [] h := by
  intro n56
  induction n56 with
  | zero => intro h a0 x1 x2 hF; cases hF
  | succ n56 ih =>
    intro h a0 x1 x2 hF
    rw [fX8_draws_56] at hF
    refine J_iload_n (pc := 56) C dX8_draws_56 rfl ?_
    refine J_iload_n (pc := 57) C dX8_draws_57 rfl ?_
    refine J_icmp_ge (pc := 58) (tgt := 74) C dX8_draws_58 rfl hF (fun hF => ?_) (fun hF => ?_)
    · refine J_aload_n (pc := 74) C dX8_draws_74 rfl ?_
      refine J_getR (pc := 75) C dX8_draws_75 fg_X8_23 hF (fun r75 hF => ?_)
      refine J_getR (pc := 78) C dX8_draws_78 fg_X8_63 hF (fun r78 hF => ?_)
      refine J_getI (pc := 81) C dX8_draws_81 fg_X8_184 hF (fun v81 hF => ?_)
      exact J_iret (pc := 84) C dX8_draws_84 hF (by decide) (by decide)
    · refine J_aload_n (pc := 61) C dX8_draws_61 rfl ?_
      refine J_getR (pc := 62) C dX8_draws_62 fg_X8_23 hF (fun r62 hF => ?_)
      refine J_bind hF (fun q65 hq hF => ?_)
      refine J_callV0_v (pc := 65) (stk := [.ref r62]) (st := []) C dX8_draws_65 yw_X1_crossByDraw w_MLX8_191 in_X1_crossByDraw sl_X1_crossByDraw ⟨_, rfl, rfl⟩ (kX1_crossByDraw hq) (gO_some hq).1 rfl (by decide) rfl (Nat.le_of_ble_eq_true rfl) ?_
      refine J_iinc (pc := 68) (lv' := [some (.ref a0), some (.int x1), some (.int (x2 + 1))]) C dX8_draws_68 rfl ic_1 rfl ?_
      refine J_goto (pc := 71) (tgt := 56) C dX8_draws_71 rfl ?_
      exact ih q65 a0 x1 (x2 + 1) hF
def fX8_draws (h : Hp) (a0 : Nat) (x1 : Int32) : Option (Int32 × Hp) := gO h 8 a0 (
  if x1 < 1 then
    (fX8_refuse h a0 1).bind fun q13 =>
    some (q13.1, q13.2)
  else
    if x1 ≤ 60 then
      (getR h 8 a0 1).bind fun r18 =>
      (getR h 1 r18 0).bind fun r21 =>
      (getI h 7 r21 2).bind fun v24 =>
      if v24 = 0 then
        (fX8_refuse h a0 3).bind fun q50 =>
        some (q50.1, q50.2)
      else
        (getR h 8 a0 1).bind fun r31 =>
        (getR h 1 r31 0).bind fun r34 =>
        (getI h 7 r34 0).bind fun v37 =>
        if (v37 + x1) ≤ 9999 then
          fX8_draws_56 1000 h a0 x1 0
        else
          (fX8_refuse h a0 3).bind fun q50 =>
          some (q50.1, q50.2)
    else
      (fX8_refuse h a0 1).bind fun q13 =>
      some (q13.1, q13.2))
set_option maxRecDepth 100000 in
theorem kX8_draws {h : Hp} {a0 : Nat} {x1 : Int32} {z : (Int32 × Hp)} (hF : fX8_draws h a0 x1 = some z) : Mc yX8_draws cX8_draws 3 (some .int) 7 0 0 [.ref a0, .int x1] h (some (.int z.1), z.2) := by
  have hF := (gO_some hF).2
  refine Mc_of [some (.ref a0), some (.int x1), none] plX8 rfl rfl (Nat.le_of_ble_eq_true rfl) (fun X C => ?_)
  refine J_iload_n (pc := 0) C dX8_draws_0 rfl ?_
  refine J_iconst (pc := 1) C dX8_draws_1 ic_1 ?_
  refine J_icmp_lt (pc := 2) (tgt := 11) C dX8_draws_2 rfl hF (fun hF => ?_) (fun hF => ?_)
  · refine J_aload_n (pc := 11) C dX8_draws_11 rfl ?_
    refine J_iconst (pc := 12) C dX8_draws_12 ic_1 ?_
    refine J_bind hF (fun q13 hq hF => ?_)
    refine J_callV0_i (pc := 13) (stk := [.int 1, .ref a0]) (st := []) C dX8_draws_13 yw_X8_refuse w_MLX8_59 in_X8_refuse sl_X8_refuse ⟨_, rfl, rfl⟩ (kX8_refuse hq) (gO_some hq).1 rfl (by decide) rfl (Nat.le_of_ble_eq_true rfl) ?_
    exact J_iret (pc := 16) C dX8_draws_16 hF (by decide) (by decide)
  · refine J_iload_n (pc := 5) C dX8_draws_5 rfl ?_
    refine J_bipush (pc := 6) C dX8_draws_6 bc_60 ?_
    refine J_icmp_le (pc := 8) (tgt := 17) C dX8_draws_8 rfl hF (fun hF => ?_) (fun hF => ?_)
    · refine J_aload_n (pc := 17) C dX8_draws_17 rfl ?_
      refine J_getR (pc := 18) C dX8_draws_18 fg_X8_23 hF (fun r18 hF => ?_)
      refine J_getR (pc := 21) C dX8_draws_21 fg_X8_63 hF (fun r21 hF => ?_)
      refine J_getI (pc := 24) C dX8_draws_24 fg_X8_96 hF (fun v24 hF => ?_)
      refine J_if_eq (pc := 27) (tgt := 48) C dX8_draws_27 rfl hF (fun hF => ?_) (fun hF => ?_)
      · refine J_aload_n (pc := 48) C dX8_draws_48 rfl ?_
        refine J_iconst (pc := 49) C dX8_draws_49 ic_3 ?_
        refine J_bind hF (fun q50 hq hF => ?_)
        refine J_callV0_i (pc := 50) (stk := [.int 3, .ref a0]) (st := []) C dX8_draws_50 yw_X8_refuse w_MLX8_59 in_X8_refuse sl_X8_refuse ⟨_, rfl, rfl⟩ (kX8_refuse hq) (gO_some hq).1 rfl (by decide) rfl (Nat.le_of_ble_eq_true rfl) ?_
        exact J_iret (pc := 53) C dX8_draws_53 hF (by decide) (by decide)
      · refine J_aload_n (pc := 30) C dX8_draws_30 rfl ?_
        refine J_getR (pc := 31) C dX8_draws_31 fg_X8_23 hF (fun r31 hF => ?_)
        refine J_getR (pc := 34) C dX8_draws_34 fg_X8_63 hF (fun r34 hF => ?_)
        refine J_getI (pc := 37) C dX8_draws_37 fg_X8_184 hF (fun v37 hF => ?_)
        refine J_iload_n (pc := 40) C dX8_draws_40 rfl ?_
        refine J_iadd (pc := 41) C dX8_draws_41 ?_
        refine J_sipush (pc := 42) C dX8_draws_42 sc_9999 ?_
        refine J_icmp_le (pc := 45) (tgt := 54) C dX8_draws_45 rfl hF (fun hF => ?_) (fun hF => ?_)
        · refine J_iconst (pc := 54) C dX8_draws_54 ic_0 ?_
          refine J_istore_n (pc := 55) (lv' := [some (.ref a0), some (.int x1), some (.int 0)]) C dX8_draws_55 rfl ?_
          exact kX8_draws_56 C 1000 h a0 x1 0 hF
        · refine J_aload_n (pc := 48) C dX8_draws_48 rfl ?_
          refine J_iconst (pc := 49) C dX8_draws_49 ic_3 ?_
          refine J_bind hF (fun q50 hq hF => ?_)
          refine J_callV0_i (pc := 50) (stk := [.int 3, .ref a0]) (st := []) C dX8_draws_50 yw_X8_refuse w_MLX8_59 in_X8_refuse sl_X8_refuse ⟨_, rfl, rfl⟩ (kX8_refuse hq) (gO_some hq).1 rfl (by decide) rfl (Nat.le_of_ble_eq_true rfl) ?_
          exact J_iret (pc := 53) C dX8_draws_53 hF (by decide) (by decide)
    · refine J_aload_n (pc := 11) C dX8_draws_11 rfl ?_
      refine J_iconst (pc := 12) C dX8_draws_12 ic_1 ?_
      refine J_bind hF (fun q13 hq hF => ?_)
      refine J_callV0_i (pc := 13) (stk := [.int 1, .ref a0]) (st := []) C dX8_draws_13 yw_X8_refuse w_MLX8_59 in_X8_refuse sl_X8_refuse ⟨_, rfl, rfl⟩ (kX8_refuse hq) (gO_some hq).1 rfl (by decide) rfl (Nat.le_of_ble_eq_true rfl) ?_
      exact J_iret (pc := 16) C dX8_draws_16 hF (by decide) (by decide)
def fX8_exchange (h : Hp) (a0 : Nat) (x1 : Int32) (x2 : Int32) : Option (Int32 × Hp) :=
  (rdI h a0 x1).bind fun v2 =>
  (wrI h a0 x1 x2).bind fun h7 =>
  some (v2, h7)
set_option maxRecDepth 100000 in
theorem kX8_exchange {h : Hp} {a0 : Nat} {x1 : Int32} {x2 : Int32} {z : (Int32 × Hp)} (hF : fX8_exchange h a0 x1 x2 = some z) : Mc yX8_exchange cX8_exchange 4 (some .int) 0 0 0 [.ref a0, .int x1, .int x2] h (some (.int z.1), z.2) := by
  unfold fX8_exchange at hF
  refine Mc_of [some (.ref a0), some (.int x1), some (.int x2), none] plX8 rfl rfl (Nat.le_of_ble_eq_true rfl) (fun X C => ?_)
  refine J_aload_n (pc := 0) C dX8_exchange_0 rfl ?_
  refine J_iload_n (pc := 1) C dX8_exchange_1 rfl ?_
  refine J_iald (pc := 2) C dX8_exchange_2 hF (fun v2 hF => ?_)
  refine J_istore_n (pc := 3) (lv' := [some (.ref a0), some (.int x1), some (.int x2), some (.int v2)]) C dX8_exchange_3 rfl ?_
  refine J_aload_n (pc := 4) C dX8_exchange_4 rfl ?_
  refine J_iload_n (pc := 5) C dX8_exchange_5 rfl ?_
  refine J_iload_n (pc := 6) C dX8_exchange_6 rfl ?_
  refine J_iast (pc := 7) C dX8_exchange_7 hF (fun h7 hF => ?_)
  refine J_iload_n (pc := 8) C dX8_exchange_8 rfl ?_
  exact J_iret (pc := 9) C dX8_exchange_9 hF (by decide) (by decide)
def fX8_feed_40 : Nat → Hp → Nat → Int64 → Int32 → Int32 → Option (Int32 × Hp)
  | 0, _, _, _, _, _ => none
  | n40 + 1, h, a0, l1, x3, x4 =>
    if x3 ≤ x4 then
      (getR h 8 a0 1).bind fun r93 =>
      (getI h 1 r93 3).bind fun v96 =>
      some (v96, h)
    else
      (getR h 8 a0 1).bind fun r47 =>
      (getR h 1 r47 2).bind fun r50 =>
      (getR h 8 a0 1).bind fun r54 =>
      (getI h 1 r54 3).bind fun v57 =>
      (wrI h r50 v57 (((lushr l1 (8 * x4)).toInt32) &&& 255)).bind fun h72 =>
      (getR h72 8 a0 1).bind fun r74 =>
      (getI h72 1 r74 3).bind fun v78 =>
      (putV h72 1 r74 3 (.int (v78 + 1))).bind fun h83 =>
      fX8_feed_40 n40 h83 a0 l1 x3 (x4 + 1)
set_option maxRecDepth 100000 in
theorem kX8_feed_40 {X : Cx} {z : (Int32 × Hp)} (C : Jc X yX8_feed cX8_feed 5 (some .int) 1 0 0 (some (.int z.1), z.2)) : ∀ (n40 : Nat) (h : Hp) (a0 : Nat) (l1 : Int64) (x3 : Int32) (x4 : Int32), fX8_feed_40 n40 h a0 l1 x3 x4 = some z → J X 0 0 0 0 40 [some (.ref a0), some (.long l1), none, some (.int x3), some (.int x4)] [] h := by
  intro n40
  induction n40 with
  | zero => intro h a0 l1 x3 x4 hF; cases hF
  | succ n40 ih =>
    intro h a0 l1 x3 x4 hF
    rw [fX8_feed_40] at hF
    refine J_iload (pc := 40) C dX8_feed_40 rfl ?_
    refine J_iload_n (pc := 42) C dX8_feed_42 rfl ?_
    refine J_icmp_ge (pc := 43) (tgt := 92) C dX8_feed_43 rfl hF (fun hF => ?_) (fun hF => ?_)
    · refine J_aload_n (pc := 92) C dX8_feed_92 rfl ?_
      refine J_getR (pc := 93) C dX8_feed_93 fg_X8_23 hF (fun r93 hF => ?_)
      refine J_getI (pc := 96) C dX8_feed_96 fg_X8_142 hF (fun v96 hF => ?_)
      exact J_iret (pc := 99) C dX8_feed_99 hF (by decide) (by decide)
    · refine J_aload_n (pc := 46) C dX8_feed_46 rfl ?_
      refine J_getR (pc := 47) C dX8_feed_47 fg_X8_23 hF (fun r47 hF => ?_)
      refine J_getR (pc := 50) C dX8_feed_50 fg_X8_145 hF (fun r50 hF => ?_)
      refine J_aload_n (pc := 53) C dX8_feed_53 rfl ?_
      refine J_getR (pc := 54) C dX8_feed_54 fg_X8_23 hF (fun r54 hF => ?_)
      refine J_getI (pc := 57) C dX8_feed_57 fg_X8_142 hF (fun v57 hF => ?_)
      refine J_lload_n (pc := 60) C dX8_feed_60 rfl ?_
      refine J_bipush (pc := 61) C dX8_feed_61 bc_8 ?_
      refine J_iload (pc := 63) C dX8_feed_63 rfl ?_
      refine J_imul (pc := 65) C dX8_feed_65 ?_
      refine J_lushr (pc := 66) C dX8_feed_66 ?_
      refine J_l2i (pc := 67) C dX8_feed_67 ?_
      refine J_sipush (pc := 68) C dX8_feed_68 sc_255 ?_
      refine J_iand (pc := 71) C dX8_feed_71 ?_
      refine J_iast (pc := 72) C dX8_feed_72 hF (fun h72 hF => ?_)
      refine J_aload_n (pc := 73) C dX8_feed_73 rfl ?_
      refine J_getR (pc := 74) C dX8_feed_74 fg_X8_23 hF (fun r74 hF => ?_)
      refine J_dup (pc := 77) C dX8_feed_77 rfl ?_
      refine J_getI (pc := 78) C dX8_feed_78 fg_X8_142 hF (fun v78 hF => ?_)
      refine J_iconst (pc := 81) C dX8_feed_81 ic_1 ?_
      refine J_iadd (pc := 82) C dX8_feed_82 ?_
      refine J_put (pc := 83) C dX8_feed_83 (fp_X8_142 _) hF rfl rfl (fun h83 hF => ?_)
      refine J_iinc (pc := 86) (lv' := [some (.ref a0), some (.long l1), none, some (.int x3), some (.int (x4 + 1))]) C dX8_feed_86 rfl ic_1 rfl ?_
      refine J_goto (pc := 89) (tgt := 40) C dX8_feed_89 rfl ?_
      exact ih h83 a0 l1 x3 (x4 + 1) hF
def fX8_feed (h : Hp) (a0 : Nat) (l1 : Int64) (x3 : Int32) : Option (Int32 × Hp) := gO h 8 a0 (
  if x3 < 1 then
    (fX8_refuse h a0 1).bind fun q13 =>
    some (q13.1, q13.2)
  else
    if x3 ≤ 8 then
      (getR h 8 a0 1).bind fun r18 =>
      (getI h 1 r18 3).bind fun v21 =>
      if (v21 + x3) ≤ 60 then
        fX8_feed_40 1000 h a0 l1 x3 0
      else
        (fX8_refuse h a0 4).bind fun q33 =>
        some (q33.1, q33.2)
    else
      (fX8_refuse h a0 1).bind fun q13 =>
      some (q13.1, q13.2))
set_option maxRecDepth 100000 in
theorem kX8_feed {h : Hp} {a0 : Nat} {l1 : Int64} {x3 : Int32} {z : (Int32 × Hp)} (hF : fX8_feed h a0 l1 x3 = some z) : Mc yX8_feed cX8_feed 5 (some .int) 1 0 0 [.ref a0, .long l1, .int x3] h (some (.int z.1), z.2) := by
  have hF := (gO_some hF).2
  refine Mc_of [some (.ref a0), some (.long l1), none, some (.int x3), none] plX8 rfl rfl (Nat.le_of_ble_eq_true rfl) (fun X C => ?_)
  refine J_iload_n (pc := 0) C dX8_feed_0 rfl ?_
  refine J_iconst (pc := 1) C dX8_feed_1 ic_1 ?_
  refine J_icmp_lt (pc := 2) (tgt := 11) C dX8_feed_2 rfl hF (fun hF => ?_) (fun hF => ?_)
  · refine J_aload_n (pc := 11) C dX8_feed_11 rfl ?_
    refine J_iconst (pc := 12) C dX8_feed_12 ic_1 ?_
    refine J_bind hF (fun q13 hq hF => ?_)
    refine J_callV0_i (pc := 13) (stk := [.int 1, .ref a0]) (st := []) C dX8_feed_13 yw_X8_refuse w_MLX8_59 in_X8_refuse sl_X8_refuse ⟨_, rfl, rfl⟩ (kX8_refuse hq) (gO_some hq).1 rfl (by decide) rfl (Nat.le_of_ble_eq_true rfl) ?_
    exact J_iret (pc := 16) C dX8_feed_16 hF (by decide) (by decide)
  · refine J_iload_n (pc := 5) C dX8_feed_5 rfl ?_
    refine J_bipush (pc := 6) C dX8_feed_6 bc_8 ?_
    refine J_icmp_le (pc := 8) (tgt := 17) C dX8_feed_8 rfl hF (fun hF => ?_) (fun hF => ?_)
    · refine J_aload_n (pc := 17) C dX8_feed_17 rfl ?_
      refine J_getR (pc := 18) C dX8_feed_18 fg_X8_23 hF (fun r18 hF => ?_)
      refine J_getI (pc := 21) C dX8_feed_21 fg_X8_142 hF (fun v21 hF => ?_)
      refine J_iload_n (pc := 24) C dX8_feed_24 rfl ?_
      refine J_iadd (pc := 25) C dX8_feed_25 ?_
      refine J_bipush (pc := 26) C dX8_feed_26 bc_60 ?_
      refine J_icmp_le (pc := 28) (tgt := 37) C dX8_feed_28 rfl hF (fun hF => ?_) (fun hF => ?_)
      · refine J_iconst (pc := 37) C dX8_feed_37 ic_0 ?_
        refine J_istore (pc := 38) (lv' := [some (.ref a0), some (.long l1), none, some (.int x3), some (.int 0)]) C dX8_feed_38 rfl ?_
        exact kX8_feed_40 C 1000 h a0 l1 x3 0 hF
      · refine J_aload_n (pc := 31) C dX8_feed_31 rfl ?_
        refine J_iconst (pc := 32) C dX8_feed_32 ic_4 ?_
        refine J_bind hF (fun q33 hq hF => ?_)
        refine J_callV0_i (pc := 33) (stk := [.int 4, .ref a0]) (st := []) C dX8_feed_33 yw_X8_refuse w_MLX8_59 in_X8_refuse sl_X8_refuse ⟨_, rfl, rfl⟩ (kX8_refuse hq) (gO_some hq).1 rfl (by decide) rfl (Nat.le_of_ble_eq_true rfl) ?_
        exact J_iret (pc := 36) C dX8_feed_36 hF (by decide) (by decide)
    · refine J_aload_n (pc := 11) C dX8_feed_11 rfl ?_
      refine J_iconst (pc := 12) C dX8_feed_12 ic_1 ?_
      refine J_bind hF (fun q13 hq hF => ?_)
      refine J_callV0_i (pc := 13) (stk := [.int 1, .ref a0]) (st := []) C dX8_feed_13 yw_X8_refuse w_MLX8_59 in_X8_refuse sl_X8_refuse ⟨_, rfl, rfl⟩ (kX8_refuse hq) (gO_some hq).1 rfl (by decide) rfl (Nat.le_of_ble_eq_true rfl) ?_
      exact J_iret (pc := 16) C dX8_feed_16 hF (by decide) (by decide)
def fX8_forget (h : Hp) (a0 : Nat) (x1 : Int32) : Option (Int32 × Hp) := gO h 8 a0 (
  (getR h 8 a0 1).bind fun r1 =>
  (getR h 1 r1 0).bind fun r4 =>
  (fX7_hasMan h r4 x1).bind fun q8 =>
  if q8 = 0 then
    (fX8_refuse h a0 1).bind fun q16 =>
    some (q16.1, q16.2)
  else
    (getR h 8 a0 1).bind fun r21 =>
    (getR h 1 r21 0).bind fun r24 =>
    (getR h 7 r24 9).bind fun r27 =>
    (fX8_exchange h r27 x1 0).bind fun q32 =>
    some (q32.1, q32.2))
set_option maxRecDepth 100000 in
theorem kX8_forget {h : Hp} {a0 : Nat} {x1 : Int32} {z : (Int32 × Hp)} (hF : fX8_forget h a0 x1 = some z) : Mc yX8_forget cX8_forget 2 (some .int) 1 0 0 [.ref a0, .int x1] h (some (.int z.1), z.2) := by
  have hF := (gO_some hF).2
  refine Mc_of [some (.ref a0), some (.int x1)] plX8 rfl rfl (Nat.le_of_ble_eq_true rfl) (fun X C => ?_)
  refine J_aload_n (pc := 0) C dX8_forget_0 rfl ?_
  refine J_getR (pc := 1) C dX8_forget_1 fg_X8_23 hF (fun r1 hF => ?_)
  refine J_getR (pc := 4) C dX8_forget_4 fg_X8_63 hF (fun r4 hF => ?_)
  refine J_iload_n (pc := 7) C dX8_forget_7 rfl ?_
  refine J_bind hF (fun q8 hq hF => ?_)
  refine J_callV0_ip (pc := 8) (stk := [.int x1, .ref r4]) (st := []) C dX8_forget_8 yw_X7_hasMan w_MLX8_103 in_X7_hasMan sl_X7_hasMan ⟨_, rfl, rfl⟩ (kX7_hasMan hq) (gO_some hq).1 rfl (by decide) rfl (Nat.le_of_ble_eq_true rfl) ?_
  refine J_if_ne (pc := 11) (tgt := 20) C dX8_forget_11 rfl hF (fun hF => ?_) (fun hF => ?_)
  · refine J_aload_n (pc := 14) C dX8_forget_14 rfl ?_
    refine J_iconst (pc := 15) C dX8_forget_15 ic_1 ?_
    refine J_bind hF (fun q16 hq hF => ?_)
    refine J_callV0_i (pc := 16) (stk := [.int 1, .ref a0]) (st := []) C dX8_forget_16 yw_X8_refuse w_MLX8_59 in_X8_refuse sl_X8_refuse ⟨_, rfl, rfl⟩ (kX8_refuse hq) (gO_some hq).1 rfl (by decide) rfl (Nat.le_of_ble_eq_true rfl) ?_
    exact J_iret (pc := 19) C dX8_forget_19 hF (by decide) (by decide)
  · refine J_aload_n (pc := 20) C dX8_forget_20 rfl ?_
    refine J_getR (pc := 21) C dX8_forget_21 fg_X8_23 hF (fun r21 hF => ?_)
    refine J_getR (pc := 24) C dX8_forget_24 fg_X8_63 hF (fun r24 hF => ?_)
    refine J_getR (pc := 27) C dX8_forget_27 fg_X8_124 hF (fun r27 hF => ?_)
    refine J_iload_n (pc := 30) C dX8_forget_30 rfl ?_
    refine J_iconst (pc := 31) C dX8_forget_31 ic_0 ?_
    refine J_bind hF (fun q32 hq hF => ?_)
    refine J_callS0_i (pc := 32) (stk := [.int 0, .int x1, .ref r27]) (st := []) C dX8_forget_32 yw_X8_exchange w_MLX8_138 st_X8_exchange (kX8_exchange hq) rfl (by decide) rfl (Nat.le_of_ble_eq_true rfl) ?_
    exact J_iret (pc := 35) C dX8_forget_35 hF (by decide) (by decide)
def fX8_hearsay (h : Hp) (a0 : Nat) (x1 : Int32) (x2 : Int32) : Option (Int32 × Hp) := gO h 8 a0 (
  (fX8_refusalOfMeeting h a0 x1 x2).bind fun q3 =>
  if q3 = 0 then
    (getR h 8 a0 3).bind fun r18 =>
    (getR h 8 a0 1).bind fun r22 =>
    (getR h 1 r22 0).bind fun r25 =>
    (fX6_behindOne h r18 r25 x1 x2).bind fun q30 =>
    (fX7_bitsOfKnowers q30.2 q30.1 x2).bind fun q34 =>
    some (q34, q30.2)
  else
    (fX8_refuse h a0 q3).bind fun q13 =>
    some (q13.1, q13.2))
set_option maxRecDepth 100000 in
theorem kX8_hearsay {h : Hp} {a0 : Nat} {x1 : Int32} {x2 : Int32} {z : (Int32 × Hp)} (hF : fX8_hearsay h a0 x1 x2 = some z) : Mc yX8_hearsay cX8_hearsay 4 (some .int) 6 0 0 [.ref a0, .int x1, .int x2] h (some (.int z.1), z.2) := by
  have hF := (gO_some hF).2
  refine Mc_of [some (.ref a0), some (.int x1), some (.int x2), none] plX8 rfl rfl (Nat.le_of_ble_eq_true rfl) (fun X C => ?_)
  refine J_aload_n (pc := 0) C dX8_hearsay_0 rfl ?_
  refine J_iload_n (pc := 1) C dX8_hearsay_1 rfl ?_
  refine J_iload_n (pc := 2) C dX8_hearsay_2 rfl ?_
  refine J_bind hF (fun q3 hq hF => ?_)
  refine J_callV0_ip (pc := 3) (stk := [.int x2, .int x1, .ref a0]) (st := []) C dX8_hearsay_3 yw_X8_refusalOfMeeting w_MLX8_237 in_X8_refusalOfMeeting sl_X8_refusalOfMeeting ⟨_, rfl, rfl⟩ (kX8_refusalOfMeeting hq) (gO_some hq).1 rfl (by decide) rfl (Nat.le_of_ble_eq_true rfl) ?_
  refine J_istore_n (pc := 6) (lv' := [some (.ref a0), some (.int x1), some (.int x2), some (.int q3)]) C dX8_hearsay_6 rfl ?_
  refine J_iload_n (pc := 7) C dX8_hearsay_7 rfl ?_
  refine J_if_eq (pc := 8) (tgt := 17) C dX8_hearsay_8 rfl hF (fun hF => ?_) (fun hF => ?_)
  · refine J_aload_n (pc := 17) C dX8_hearsay_17 rfl ?_
    refine J_getR (pc := 18) C dX8_hearsay_18 fg_X8_33 hF (fun r18 hF => ?_)
    refine J_aload_n (pc := 21) C dX8_hearsay_21 rfl ?_
    refine J_getR (pc := 22) C dX8_hearsay_22 fg_X8_23 hF (fun r22 hF => ?_)
    refine J_getR (pc := 25) C dX8_hearsay_25 fg_X8_63 hF (fun r25 hF => ?_)
    refine J_iload_n (pc := 28) C dX8_hearsay_28 rfl ?_
    refine J_iload_n (pc := 29) C dX8_hearsay_29 rfl ?_
    refine J_bind hF (fun q30 hq hF => ?_)
    refine J_callV0_r (pc := 30) (stk := [.int x2, .int x1, .ref r25, .ref r18]) (st := []) C dX8_hearsay_30 yw_X6_behindOne w_MLX8_240 in_X6_behindOne sl_X6_behindOne ⟨_, rfl, rfl⟩ (kX6_behindOne hq) (gO_some hq).1 rfl (by decide) rfl (Nat.le_of_ble_eq_true rfl) ?_
    refine J_iload_n (pc := 33) C dX8_hearsay_33 rfl ?_
    refine J_bind hF (fun q34 hq hF => ?_)
    refine J_callV0_ip (pc := 34) (stk := [.int x2, .ref q30.1]) (st := []) C dX8_hearsay_34 yw_X7_bitsOfKnowers w_MLX8_85 in_X7_bitsOfKnowers sl_X7_bitsOfKnowers ⟨_, rfl, rfl⟩ (kX7_bitsOfKnowers hq) (gO_some hq).1 rfl (by decide) rfl (Nat.le_of_ble_eq_true rfl) ?_
    exact J_iret (pc := 37) C dX8_hearsay_37 hF (by decide) (by decide)
  · refine J_aload_n (pc := 11) C dX8_hearsay_11 rfl ?_
    refine J_iload_n (pc := 12) C dX8_hearsay_12 rfl ?_
    refine J_bind hF (fun q13 hq hF => ?_)
    refine J_callV0_i (pc := 13) (stk := [.int q3, .ref a0]) (st := []) C dX8_hearsay_13 yw_X8_refuse w_MLX8_59 in_X8_refuse sl_X8_refuse ⟨_, rfl, rfl⟩ (kX8_refuse hq) (gO_some hq).1 rfl (by decide) rfl (Nat.le_of_ble_eq_true rfl) ?_
    exact J_iret (pc := 16) C dX8_hearsay_16 hF (by decide) (by decide)
def fX8_image (h : Hp) (a0 : Nat) : Option (Int32 × Hp) := gO h 8 a0 (
  (getR h 8 a0 2).bind fun r1 =>
  (getR h 8 a0 1).bind fun r5 =>
  (fX1_copyFrom h r1 r5).bind fun q8 =>
  (getI q8 8 a0 7).bind fun v13 =>
  (putV q8 8 a0 7 (.int (v13 + 1))).bind fun h18 =>
  (getI h18 8 a0 7).bind fun v22 =>
  some (v22, h18))
set_option maxRecDepth 100000 in
theorem kX8_image {h : Hp} {a0 : Nat} {z : (Int32 × Hp)} (hF : fX8_image h a0 = some z) : Mc yX8_image cX8_image 1 (some .int) 3 0 0 [.ref a0] h (some (.int z.1), z.2) := by
  have hF := (gO_some hF).2
  refine Mc_of [some (.ref a0)] plX8 rfl rfl (Nat.le_of_ble_eq_true rfl) (fun X C => ?_)
  refine J_aload_n (pc := 0) C dX8_image_0 rfl ?_
  refine J_getR (pc := 1) C dX8_image_1 fg_X8_27 hF (fun r1 hF => ?_)
  refine J_aload_n (pc := 4) C dX8_image_4 rfl ?_
  refine J_getR (pc := 5) C dX8_image_5 fg_X8_23 hF (fun r5 hF => ?_)
  refine J_bind hF (fun q8 hq hF => ?_)
  refine J_callV0_v (pc := 8) (stk := [.ref r5, .ref r1]) (st := []) C dX8_image_8 yw_X1_copyFrom w_MLX8_327 in_X1_copyFrom sl_X1_copyFrom ⟨_, rfl, rfl⟩ (kX1_copyFrom hq) (gO_some hq).1 rfl (by decide) rfl (Nat.le_of_ble_eq_true rfl) ?_
  refine J_aload_n (pc := 11) C dX8_image_11 rfl ?_
  refine J_dup (pc := 12) C dX8_image_12 rfl ?_
  refine J_getI (pc := 13) C dX8_image_13 fg_X8_265 hF (fun v13 hF => ?_)
  refine J_iconst (pc := 16) C dX8_image_16 ic_1 ?_
  refine J_iadd (pc := 17) C dX8_image_17 ?_
  refine J_put (pc := 18) C dX8_image_18 (fp_X8_265 _) hF rfl rfl (fun h18 hF => ?_)
  refine J_aload_n (pc := 21) C dX8_image_21 rfl ?_
  refine J_getI (pc := 22) C dX8_image_22 fg_X8_265 hF (fun v22 hF => ?_)
  exact J_iret (pc := 25) C dX8_image_25 hF (by decide) (by decide)
def fX8_isBank (x0 : Int32) : Option Int32 :=
  if x0 < 0 then
    some 0
  else
    if (2 : Int32) ≤ x0 then
      some 0
    else
      some 1
set_option maxRecDepth 100000 in
theorem kX8_isBank {h : Hp} {x0 : Int32} {z : Int32} (hF : fX8_isBank x0 = some z) : Mc yX8_isBank cX8_isBank 1 (some .boolean) 0 0 0 [.int x0] h (some (.int z), h) := by
  unfold fX8_isBank at hF
  refine Mc_of [some (.int x0)] plX8 rfl rfl (Nat.le_of_ble_eq_true rfl) (fun X C => ?_)
  refine J_iload_n (pc := 0) C dX8_isBank_0 rfl ?_
  refine J_if_lt (pc := 1) (tgt := 13) C dX8_isBank_1 rfl hF (fun hF => ?_) (fun hF => ?_)
  · refine J_iconst (pc := 13) C dX8_isBank_13 ic_0 ?_
    exact J_zretP (pc := 14) C dX8_isBank_14 rfl hF (by decide) (by decide)
  · refine J_iload_n (pc := 4) C dX8_isBank_4 rfl ?_
    refine J_iconst (pc := 5) C dX8_isBank_5 ic_2 ?_
    refine J_icmp_ge (pc := 6) (tgt := 13) C dX8_isBank_6 rfl hF (fun hF => ?_) (fun hF => ?_)
    · refine J_iconst (pc := 13) C dX8_isBank_13 ic_0 ?_
      exact J_zretP (pc := 14) C dX8_isBank_14 rfl hF (by decide) (by decide)
    · refine J_iconst (pc := 9) C dX8_isBank_9 ic_1 ?_
      refine J_goto (pc := 10) (tgt := 14) C dX8_isBank_10 rfl ?_
      exact J_zretP (pc := 14) C dX8_isBank_14 rfl hF (by decide) (by decide)
def fX8_isUse (x0 : Int32) : Option Int32 :=
  if x0 < 0 then
    some 0
  else
    if (2 : Int32) ≤ x0 then
      some 0
    else
      some 1
set_option maxRecDepth 100000 in
theorem kX8_isUse {h : Hp} {x0 : Int32} {z : Int32} (hF : fX8_isUse x0 = some z) : Mc yX8_isUse cX8_isUse 1 (some .boolean) 0 0 0 [.int x0] h (some (.int z), h) := by
  unfold fX8_isUse at hF
  refine Mc_of [some (.int x0)] plX8 rfl rfl (Nat.le_of_ble_eq_true rfl) (fun X C => ?_)
  refine J_iload_n (pc := 0) C dX8_isUse_0 rfl ?_
  refine J_if_lt (pc := 1) (tgt := 13) C dX8_isUse_1 rfl hF (fun hF => ?_) (fun hF => ?_)
  · refine J_iconst (pc := 13) C dX8_isUse_13 ic_0 ?_
    exact J_zretP (pc := 14) C dX8_isUse_14 rfl hF (by decide) (by decide)
  · refine J_iload_n (pc := 4) C dX8_isUse_4 rfl ?_
    refine J_iconst (pc := 5) C dX8_isUse_5 ic_2 ?_
    refine J_icmp_ge (pc := 6) (tgt := 13) C dX8_isUse_6 rfl hF (fun hF => ?_) (fun hF => ?_)
    · refine J_iconst (pc := 13) C dX8_isUse_13 ic_0 ?_
      exact J_zretP (pc := 14) C dX8_isUse_14 rfl hF (by decide) (by decide)
    · refine J_iconst (pc := 9) C dX8_isUse_9 ic_1 ?_
      refine J_goto (pc := 10) (tgt := 14) C dX8_isUse_10 rfl ?_
      exact J_zretP (pc := 14) C dX8_isUse_14 rfl hF (by decide) (by decide)
def fX8_judge_83 : Nat → Hp → Nat → Int32 → Int32 → Int32 → Int32 → Int32 → Int32 → Option (Int32 × Hp)
  | 0, _, _, _, _, _, _, _, _ => none
  | n83 + 1, h, a0, x1, x2, x3, x4, x5, x6 =>
    if x5 ≤ x6 then
      if x3 = x4 then
        some ((-1), h)
      else
        some (x5, h)
    else
      (getR h 8 a0 4).bind fun r91 =>
      (getR h 4 r91 2).bind fun r94 =>
      (rdR h r94 x1).bind fun r98 =>
      (rdI h r98 x6).bind fun v101 =>
      (getR h 8 a0 1).bind fun r103 =>
      (getR h 1 r103 0).bind fun r106 =>
      (fX7_face h r106 x2 x6).bind fun q112 =>
      if v101 = q112 then
        fX8_judge_83 n83 h a0 x1 x2 x3 x4 x5 (x6 + 1)
      else
        some (x6, h)
set_option maxRecDepth 100000 in
theorem kX8_judge_83 {X : Cx} {z : (Int32 × Hp)} (C : Jc X yX8_judge cX8_judge 7 (some .int) 1 0 0 (some (.int z.1), z.2)) : ∀ (n83 : Nat) (h : Hp) (a0 : Nat) (x1 : Int32) (x2 : Int32) (x3 : Int32) (x4 : Int32) (x5 : Int32) (x6 : Int32), fX8_judge_83 n83 h a0 x1 x2 x3 x4 x5 x6 = some z → J X 0 0 0 0 83 [some (.ref a0), some (.int x1), some (.int x2), some (.int x3), some (.int x4), some (.int x5), some (.int x6)] [] h := by
  intro n83
  induction n83 with
  | zero => intro h a0 x1 x2 x3 x4 x5 x6 hF; cases hF
  | succ n83 ih =>
    intro h a0 x1 x2 x3 x4 x5 x6 hF
    rw [fX8_judge_83] at hF
    refine J_iload (pc := 83) C dX8_judge_83 rfl ?_
    refine J_iload (pc := 85) C dX8_judge_85 rfl ?_
    refine J_icmp_ge (pc := 87) (tgt := 127) C dX8_judge_87 rfl hF (fun hF => ?_) (fun hF => ?_)
    · refine J_iload_n (pc := 127) C dX8_judge_127 rfl ?_
      refine J_iload (pc := 128) C dX8_judge_128 rfl ?_
      refine J_icmp_ne (pc := 130) (tgt := 137) C dX8_judge_130 rfl hF (fun hF => ?_) (fun hF => ?_)
      · refine J_iconst (pc := 133) C dX8_judge_133 ic_m1 ?_
        refine J_goto (pc := 134) (tgt := 139) C dX8_judge_134 rfl ?_
        exact J_iret (pc := 139) C dX8_judge_139 hF (by decide) (by decide)
      · refine J_iload (pc := 137) C dX8_judge_137 rfl ?_
        exact J_iret (pc := 139) C dX8_judge_139 hF (by decide) (by decide)
    · refine J_aload_n (pc := 90) C dX8_judge_90 rfl ?_
      refine J_getR (pc := 91) C dX8_judge_91 fg_X8_40 hF (fun r91 hF => ?_)
      refine J_getR (pc := 94) C dX8_judge_94 fg_X8_317 hF (fun r94 hF => ?_)
      refine J_iload_n (pc := 97) C dX8_judge_97 rfl ?_
      refine J_aald (pc := 98) C dX8_judge_98 hF (fun r98 hF => ?_)
      refine J_iload (pc := 99) C dX8_judge_99 rfl ?_
      refine J_iald (pc := 101) C dX8_judge_101 hF (fun v101 hF => ?_)
      refine J_aload_n (pc := 102) C dX8_judge_102 rfl ?_
      refine J_getR (pc := 103) C dX8_judge_103 fg_X8_23 hF (fun r103 hF => ?_)
      refine J_getR (pc := 106) C dX8_judge_106 fg_X8_63 hF (fun r106 hF => ?_)
      refine J_iload_n (pc := 109) C dX8_judge_109 rfl ?_
      refine J_iload (pc := 110) C dX8_judge_110 rfl ?_
      refine J_bind hF (fun q112 hq hF => ?_)
      refine J_callV0_ip (pc := 112) (stk := [.int x6, .int x2, .ref r106, .int v101]) (st := [.int v101]) C dX8_judge_112 yw_X7_face w_MLX8_127 in_X7_face sl_X7_face ⟨_, rfl, rfl⟩ (kX7_face hq) (gO_some hq).1 rfl (by decide) rfl (Nat.le_of_ble_eq_true rfl) ?_
      refine J_icmp_eq (pc := 115) (tgt := 121) C dX8_judge_115 rfl hF (fun hF => ?_) (fun hF => ?_)
      · refine J_iinc (pc := 121) (lv' := [some (.ref a0), some (.int x1), some (.int x2), some (.int x3), some (.int x4), some (.int x5), some (.int (x6 + 1))]) C dX8_judge_121 rfl ic_1 rfl ?_
        refine J_goto (pc := 124) (tgt := 83) C dX8_judge_124 rfl ?_
        exact ih h a0 x1 x2 x3 x4 x5 (x6 + 1) hF
      · refine J_iload (pc := 118) C dX8_judge_118 rfl ?_
        exact J_iret (pc := 120) C dX8_judge_120 hF (by decide) (by decide)
def fX8_judge (h : Hp) (a0 : Nat) (x1 : Int32) (x2 : Int32) : Option (Int32 × Hp) := gO h 8 a0 (
  (getR h 8 a0 4).bind fun r1 =>
  (fX4_isOne h r1 x1).bind fun q5 =>
  if q5 = 0 then
    (fX8_refuse h a0 1).bind fun q27 =>
    some (q27.1, q27.2)
  else
    (getR h 8 a0 1).bind fun r12 =>
    (getR h 1 r12 0).bind fun r15 =>
    (fX7_hasMan h r15 x2).bind fun q19 =>
    if q19 = 0 then
      (fX8_refuse h a0 1).bind fun q27 =>
      some (q27.1, q27.2)
    else
      (getR h 8 a0 4).bind fun r32 =>
      (fX4_isMissing h r32 x1).bind fun q36 =>
      if q36 = 0 then
        (getR h 8 a0 4).bind fun r49 =>
        (getR h 4 r49 1).bind fun r52 =>
        (rdI h r52 x1).bind fun v56 =>
        (getR h 8 a0 1).bind fun r59 =>
        (getR h 1 r59 0).bind fun r62 =>
        (getR h 7 r62 9).bind fun r65 =>
        (rdI h r65 x2).bind fun v69 =>
        fX8_judge_83 1000 h a0 x1 x2 v56 v69 (imin v56 v69) 0
      else
        (fX8_refuse h a0 2).bind fun q44 =>
        some (q44.1, q44.2))
set_option maxRecDepth 100000 in
theorem kX8_judge {h : Hp} {a0 : Nat} {x1 : Int32} {x2 : Int32} {z : (Int32 × Hp)} (hF : fX8_judge h a0 x1 x2 = some z) : Mc yX8_judge cX8_judge 7 (some .int) 1 0 0 [.ref a0, .int x1, .int x2] h (some (.int z.1), z.2) := by
  have hF := (gO_some hF).2
  refine Mc_of [some (.ref a0), some (.int x1), some (.int x2), none, none, none, none] plX8 rfl rfl (Nat.le_of_ble_eq_true rfl) (fun X C => ?_)
  refine J_aload_n (pc := 0) C dX8_judge_0 rfl ?_
  refine J_getR (pc := 1) C dX8_judge_1 fg_X8_40 hF (fun r1 hF => ?_)
  refine J_iload_n (pc := 4) C dX8_judge_4 rfl ?_
  refine J_bind hF (fun q5 hq hF => ?_)
  refine J_callV0_ip (pc := 5) (stk := [.int x1, .ref r1]) (st := []) C dX8_judge_5 yw_X4_isOne w_MLX8_292 in_X4_isOne sl_X4_isOne ⟨_, rfl, rfl⟩ (kX4_isOne hq) (gO_some hq).1 rfl (by decide) rfl (Nat.le_of_ble_eq_true rfl) ?_
  refine J_if_eq (pc := 8) (tgt := 25) C dX8_judge_8 rfl hF (fun hF => ?_) (fun hF => ?_)
  · refine J_aload_n (pc := 25) C dX8_judge_25 rfl ?_
    refine J_iconst (pc := 26) C dX8_judge_26 ic_1 ?_
    refine J_bind hF (fun q27 hq hF => ?_)
    refine J_callV0_i (pc := 27) (stk := [.int 1, .ref a0]) (st := []) C dX8_judge_27 yw_X8_refuse w_MLX8_59 in_X8_refuse sl_X8_refuse ⟨_, rfl, rfl⟩ (kX8_refuse hq) (gO_some hq).1 rfl (by decide) rfl (Nat.le_of_ble_eq_true rfl) ?_
    exact J_iret (pc := 30) C dX8_judge_30 hF (by decide) (by decide)
  · refine J_aload_n (pc := 11) C dX8_judge_11 rfl ?_
    refine J_getR (pc := 12) C dX8_judge_12 fg_X8_23 hF (fun r12 hF => ?_)
    refine J_getR (pc := 15) C dX8_judge_15 fg_X8_63 hF (fun r15 hF => ?_)
    refine J_iload_n (pc := 18) C dX8_judge_18 rfl ?_
    refine J_bind hF (fun q19 hq hF => ?_)
    refine J_callV0_ip (pc := 19) (stk := [.int x2, .ref r15]) (st := []) C dX8_judge_19 yw_X7_hasMan w_MLX8_103 in_X7_hasMan sl_X7_hasMan ⟨_, rfl, rfl⟩ (kX7_hasMan hq) (gO_some hq).1 rfl (by decide) rfl (Nat.le_of_ble_eq_true rfl) ?_
    refine J_if_ne (pc := 22) (tgt := 31) C dX8_judge_22 rfl hF (fun hF => ?_) (fun hF => ?_)
    · refine J_aload_n (pc := 25) C dX8_judge_25 rfl ?_
      refine J_iconst (pc := 26) C dX8_judge_26 ic_1 ?_
      refine J_bind hF (fun q27 hq hF => ?_)
      refine J_callV0_i (pc := 27) (stk := [.int 1, .ref a0]) (st := []) C dX8_judge_27 yw_X8_refuse w_MLX8_59 in_X8_refuse sl_X8_refuse ⟨_, rfl, rfl⟩ (kX8_refuse hq) (gO_some hq).1 rfl (by decide) rfl (Nat.le_of_ble_eq_true rfl) ?_
      exact J_iret (pc := 30) C dX8_judge_30 hF (by decide) (by decide)
    · refine J_aload_n (pc := 31) C dX8_judge_31 rfl ?_
      refine J_getR (pc := 32) C dX8_judge_32 fg_X8_40 hF (fun r32 hF => ?_)
      refine J_iload_n (pc := 35) C dX8_judge_35 rfl ?_
      refine J_bind hF (fun q36 hq hF => ?_)
      refine J_callV0_ip (pc := 36) (stk := [.int x1, .ref r32]) (st := []) C dX8_judge_36 yw_X4_isMissing w_MLX8_302 in_X4_isMissing sl_X4_isMissing ⟨_, rfl, rfl⟩ (kX4_isMissing hq) (gO_some hq).1 rfl (by decide) rfl (Nat.le_of_ble_eq_true rfl) ?_
      refine J_if_eq (pc := 39) (tgt := 48) C dX8_judge_39 rfl hF (fun hF => ?_) (fun hF => ?_)
      · refine J_aload_n (pc := 48) C dX8_judge_48 rfl ?_
        refine J_getR (pc := 49) C dX8_judge_49 fg_X8_40 hF (fun r49 hF => ?_)
        refine J_getR (pc := 52) C dX8_judge_52 fg_X8_305 hF (fun r52 hF => ?_)
        refine J_iload_n (pc := 55) C dX8_judge_55 rfl ?_
        refine J_iald (pc := 56) C dX8_judge_56 hF (fun v56 hF => ?_)
        refine J_istore_n (pc := 57) (lv' := [some (.ref a0), some (.int x1), some (.int x2), some (.int v56), none, none, none]) C dX8_judge_57 rfl ?_
        refine J_aload_n (pc := 58) C dX8_judge_58 rfl ?_
        refine J_getR (pc := 59) C dX8_judge_59 fg_X8_23 hF (fun r59 hF => ?_)
        refine J_getR (pc := 62) C dX8_judge_62 fg_X8_63 hF (fun r62 hF => ?_)
        refine J_getR (pc := 65) C dX8_judge_65 fg_X8_124 hF (fun r65 hF => ?_)
        refine J_iload_n (pc := 68) C dX8_judge_68 rfl ?_
        refine J_iald (pc := 69) C dX8_judge_69 hF (fun v69 hF => ?_)
        refine J_istore (pc := 70) (lv' := [some (.ref a0), some (.int x1), some (.int x2), some (.int v56), some (.int v69), none, none]) C dX8_judge_70 rfl ?_
        refine J_iload_n (pc := 72) C dX8_judge_72 rfl ?_
        refine J_iload (pc := 73) C dX8_judge_73 rfl ?_
        refine J_mmin (pc := 75) C dX8_judge_75 w_MLX8_228 w_mn1 w_mn2 w_mn3 (by decide) (Nat.le_of_ble_eq_true rfl) ?_
        refine J_istore (pc := 78) (lv' := [some (.ref a0), some (.int x1), some (.int x2), some (.int v56), some (.int v69), some (.int (imin v56 v69)), none]) C dX8_judge_78 rfl ?_
        refine J_iconst (pc := 80) C dX8_judge_80 ic_0 ?_
        refine J_istore (pc := 81) (lv' := [some (.ref a0), some (.int x1), some (.int x2), some (.int v56), some (.int v69), some (.int (imin v56 v69)), some (.int 0)]) C dX8_judge_81 rfl ?_
        exact kX8_judge_83 C 1000 h a0 x1 x2 v56 v69 (imin v56 v69) 0 hF
      · refine J_aload_n (pc := 42) C dX8_judge_42 rfl ?_
        refine J_iconst (pc := 43) C dX8_judge_43 ic_2 ?_
        refine J_bind hF (fun q44 hq hF => ?_)
        refine J_callV0_i (pc := 44) (stk := [.int 2, .ref a0]) (st := []) C dX8_judge_44 yw_X8_refuse w_MLX8_59 in_X8_refuse sl_X8_refuse ⟨_, rfl, rfl⟩ (kX8_refuse hq) (gO_some hq).1 rfl (by decide) rfl (Nat.le_of_ble_eq_true rfl) ?_
        exact J_iret (pc := 47) C dX8_judge_47 hF (by decide) (by decide)
def fX8_loses (h : Hp) (a0 : Nat) (x1 : Int32) (x2 : Int32) : Option (Int32 × Hp) := gO h 8 a0 (
  (fX8_refusalOfMeeting h a0 x1 x2).bind fun q3 =>
  if q3 = 0 then
    (getR h 8 a0 3).bind fun r18 =>
    (getR h 8 a0 1).bind fun r22 =>
    (getR h 1 r22 0).bind fun r25 =>
    (fX6_behindOne h r18 r25 x1 x2).bind fun q30 =>
    (getR q30.2 8 a0 1).bind fun r36 =>
    (getR q30.2 1 r36 1).bind fun r39 =>
    (getR q30.2 8 a0 1).bind fun r43 =>
    (getR q30.2 1 r43 0).bind fun r46 =>
    (fX0_holding q30.2 r39 r46).bind fun q49 =>
    (getR q30.2 8 a0 1).bind fun r53 =>
    (getR q30.2 1 r53 1).bind fun r56 =>
    (fX0_holding q30.2 r56 q30.1).bind fun q61 =>
    some (q49 - q61, q30.2)
  else
    (fX8_refuse h a0 q3).bind fun q13 =>
    some (q13.1, q13.2))
set_option maxRecDepth 100000 in
theorem kX8_loses {h : Hp} {a0 : Nat} {x1 : Int32} {x2 : Int32} {z : (Int32 × Hp)} (hF : fX8_loses h a0 x1 x2 = some z) : Mc yX8_loses cX8_loses 5 (some .int) 6 0 0 [.ref a0, .int x1, .int x2] h (some (.int z.1), z.2) := by
  have hF := (gO_some hF).2
  refine Mc_of [some (.ref a0), some (.int x1), some (.int x2), none, none] plX8 rfl rfl (Nat.le_of_ble_eq_true rfl) (fun X C => ?_)
  refine J_aload_n (pc := 0) C dX8_loses_0 rfl ?_
  refine J_iload_n (pc := 1) C dX8_loses_1 rfl ?_
  refine J_iload_n (pc := 2) C dX8_loses_2 rfl ?_
  refine J_bind hF (fun q3 hq hF => ?_)
  refine J_callV0_ip (pc := 3) (stk := [.int x2, .int x1, .ref a0]) (st := []) C dX8_loses_3 yw_X8_refusalOfMeeting w_MLX8_237 in_X8_refusalOfMeeting sl_X8_refusalOfMeeting ⟨_, rfl, rfl⟩ (kX8_refusalOfMeeting hq) (gO_some hq).1 rfl (by decide) rfl (Nat.le_of_ble_eq_true rfl) ?_
  refine J_istore_n (pc := 6) (lv' := [some (.ref a0), some (.int x1), some (.int x2), some (.int q3), none]) C dX8_loses_6 rfl ?_
  refine J_iload_n (pc := 7) C dX8_loses_7 rfl ?_
  refine J_if_eq (pc := 8) (tgt := 17) C dX8_loses_8 rfl hF (fun hF => ?_) (fun hF => ?_)
  · refine J_aload_n (pc := 17) C dX8_loses_17 rfl ?_
    refine J_getR (pc := 18) C dX8_loses_18 fg_X8_33 hF (fun r18 hF => ?_)
    refine J_aload_n (pc := 21) C dX8_loses_21 rfl ?_
    refine J_getR (pc := 22) C dX8_loses_22 fg_X8_23 hF (fun r22 hF => ?_)
    refine J_getR (pc := 25) C dX8_loses_25 fg_X8_63 hF (fun r25 hF => ?_)
    refine J_iload_n (pc := 28) C dX8_loses_28 rfl ?_
    refine J_iload_n (pc := 29) C dX8_loses_29 rfl ?_
    refine J_bind hF (fun q30 hq hF => ?_)
    refine J_callV0_r (pc := 30) (stk := [.int x2, .int x1, .ref r25, .ref r18]) (st := []) C dX8_loses_30 yw_X6_behindOne w_MLX8_240 in_X6_behindOne sl_X6_behindOne ⟨_, rfl, rfl⟩ (kX6_behindOne hq) (gO_some hq).1 rfl (by decide) rfl (Nat.le_of_ble_eq_true rfl) ?_
    refine J_astore (pc := 33) (lv' := [some (.ref a0), some (.int x1), some (.int x2), some (.int q3), some (.ref q30.1)]) C dX8_loses_33 rfl ?_
    refine J_aload_n (pc := 35) C dX8_loses_35 rfl ?_
    refine J_getR (pc := 36) C dX8_loses_36 fg_X8_23 hF (fun r36 hF => ?_)
    refine J_getR (pc := 39) C dX8_loses_39 fg_X8_205 hF (fun r39 hF => ?_)
    refine J_aload_n (pc := 42) C dX8_loses_42 rfl ?_
    refine J_getR (pc := 43) C dX8_loses_43 fg_X8_23 hF (fun r43 hF => ?_)
    refine J_getR (pc := 46) C dX8_loses_46 fg_X8_63 hF (fun r46 hF => ?_)
    refine J_bind hF (fun q49 hq hF => ?_)
    refine J_callV0_ip (pc := 49) (stk := [.ref r46, .ref r39]) (st := []) C dX8_loses_49 yw_X0_holding w_MLX8_244 in_X0_holding sl_X0_holding ⟨_, rfl, rfl⟩ (kX0_holding hq) (gO_some hq).1 rfl (by decide) rfl (Nat.le_of_ble_eq_true rfl) ?_
    refine J_aload_n (pc := 52) C dX8_loses_52 rfl ?_
    refine J_getR (pc := 53) C dX8_loses_53 fg_X8_23 hF (fun r53 hF => ?_)
    refine J_getR (pc := 56) C dX8_loses_56 fg_X8_205 hF (fun r56 hF => ?_)
    refine J_aload (pc := 59) C dX8_loses_59 rfl ?_
    refine J_bind hF (fun q61 hq hF => ?_)
    refine J_callV0_ip (pc := 61) (stk := [.ref q30.1, .ref r56, .int q49]) (st := [.int q49]) C dX8_loses_61 yw_X0_holding w_MLX8_244 in_X0_holding sl_X0_holding ⟨_, rfl, rfl⟩ (kX0_holding hq) (gO_some hq).1 rfl (by decide) rfl (Nat.le_of_ble_eq_true rfl) ?_
    refine J_isub (pc := 64) C dX8_loses_64 ?_
    exact J_iret (pc := 65) C dX8_loses_65 hF (by decide) (by decide)
  · refine J_aload_n (pc := 11) C dX8_loses_11 rfl ?_
    refine J_iload_n (pc := 12) C dX8_loses_12 rfl ?_
    refine J_bind hF (fun q13 hq hF => ?_)
    refine J_callV0_i (pc := 13) (stk := [.int q3, .ref a0]) (st := []) C dX8_loses_13 yw_X8_refuse w_MLX8_59 in_X8_refuse sl_X8_refuse ⟨_, rfl, rfl⟩ (kX8_refuse hq) (gO_some hq).1 rfl (by decide) rfl (Nat.le_of_ble_eq_true rfl) ?_
    exact J_iret (pc := 16) C dX8_loses_16 hF (by decide) (by decide)
def fX8_man (h : Hp) (a0 : Nat) (x1 : Int32) (x2 : Int32) : Option (Int32 × Hp) := gO h 8 a0 (
  if x1 < 0 then
    (fX8_refuse h a0 1).bind fun q19 =>
    some (q19.1, q19.2)
  else
    if (70 : Int32) ≤ x1 then
      (fX8_refuse h a0 1).bind fun q19 =>
      some (q19.1, q19.2)
    else
      (fX8_isBank x2).bind fun q11 =>
      if q11 = 0 then
        (fX8_refuse h a0 1).bind fun q19 =>
        some (q19.1, q19.2)
      else
        (getR h 8 a0 1).bind fun r24 =>
        (getR h 1 r24 0).bind fun r27 =>
        (getI h 7 r27 2).bind fun v30 =>
        if v30 < 4 then
          (getR h 8 a0 1).bind fun r44 =>
          (getR h 1 r44 0).bind fun r47 =>
          (dvz x1 10).bind fun v53 =>
          (rmz x1 10).bind fun v57 =>
          (fX7_addMan h r47 v53 v57 x2).bind fun q59 =>
          some (q59.1, q59.2)
        else
          (fX8_refuse h a0 4).bind fun q39 =>
          some (q39.1, q39.2))
set_option maxRecDepth 100000 in
theorem kX8_man {h : Hp} {a0 : Nat} {x1 : Int32} {x2 : Int32} {z : (Int32 × Hp)} (hF : fX8_man h a0 x1 x2 = some z) : Mc yX8_man cX8_man 3 (some .int) 1 0 0 [.ref a0, .int x1, .int x2] h (some (.int z.1), z.2) := by
  have hF := (gO_some hF).2
  refine Mc_of [some (.ref a0), some (.int x1), some (.int x2)] plX8 rfl rfl (Nat.le_of_ble_eq_true rfl) (fun X C => ?_)
  refine J_iload_n (pc := 0) C dX8_man_0 rfl ?_
  refine J_if_lt (pc := 1) (tgt := 17) C dX8_man_1 rfl hF (fun hF => ?_) (fun hF => ?_)
  · refine J_aload_n (pc := 17) C dX8_man_17 rfl ?_
    refine J_iconst (pc := 18) C dX8_man_18 ic_1 ?_
    refine J_bind hF (fun q19 hq hF => ?_)
    refine J_callV0_i (pc := 19) (stk := [.int 1, .ref a0]) (st := []) C dX8_man_19 yw_X8_refuse w_MLX8_59 in_X8_refuse sl_X8_refuse ⟨_, rfl, rfl⟩ (kX8_refuse hq) (gO_some hq).1 rfl (by decide) rfl (Nat.le_of_ble_eq_true rfl) ?_
    exact J_iret (pc := 22) C dX8_man_22 hF (by decide) (by decide)
  · refine J_iload_n (pc := 4) C dX8_man_4 rfl ?_
    refine J_bipush (pc := 5) C dX8_man_5 bc_70 ?_
    refine J_icmp_ge (pc := 7) (tgt := 17) C dX8_man_7 rfl hF (fun hF => ?_) (fun hF => ?_)
    · refine J_aload_n (pc := 17) C dX8_man_17 rfl ?_
      refine J_iconst (pc := 18) C dX8_man_18 ic_1 ?_
      refine J_bind hF (fun q19 hq hF => ?_)
      refine J_callV0_i (pc := 19) (stk := [.int 1, .ref a0]) (st := []) C dX8_man_19 yw_X8_refuse w_MLX8_59 in_X8_refuse sl_X8_refuse ⟨_, rfl, rfl⟩ (kX8_refuse hq) (gO_some hq).1 rfl (by decide) rfl (Nat.le_of_ble_eq_true rfl) ?_
      exact J_iret (pc := 22) C dX8_man_22 hF (by decide) (by decide)
    · refine J_iload_n (pc := 10) C dX8_man_10 rfl ?_
      refine J_bind hF (fun q11 hq hF => ?_)
      refine J_callS0_ip (pc := 11) (stk := [.int x2]) (st := []) C dX8_man_11 yw_X8_isBank w_MLX8_55 st_X8_isBank (kX8_isBank hq) rfl (by decide) rfl (Nat.le_of_ble_eq_true rfl) ?_
      refine J_if_ne (pc := 14) (tgt := 23) C dX8_man_14 rfl hF (fun hF => ?_) (fun hF => ?_)
      · refine J_aload_n (pc := 17) C dX8_man_17 rfl ?_
        refine J_iconst (pc := 18) C dX8_man_18 ic_1 ?_
        refine J_bind hF (fun q19 hq hF => ?_)
        refine J_callV0_i (pc := 19) (stk := [.int 1, .ref a0]) (st := []) C dX8_man_19 yw_X8_refuse w_MLX8_59 in_X8_refuse sl_X8_refuse ⟨_, rfl, rfl⟩ (kX8_refuse hq) (gO_some hq).1 rfl (by decide) rfl (Nat.le_of_ble_eq_true rfl) ?_
        exact J_iret (pc := 22) C dX8_man_22 hF (by decide) (by decide)
      · refine J_aload_n (pc := 23) C dX8_man_23 rfl ?_
        refine J_getR (pc := 24) C dX8_man_24 fg_X8_23 hF (fun r24 hF => ?_)
        refine J_getR (pc := 27) C dX8_man_27 fg_X8_63 hF (fun r27 hF => ?_)
        refine J_getI (pc := 30) C dX8_man_30 fg_X8_96 hF (fun v30 hF => ?_)
        refine J_iconst (pc := 33) C dX8_man_33 ic_4 ?_
        refine J_icmp_lt (pc := 34) (tgt := 43) C dX8_man_34 rfl hF (fun hF => ?_) (fun hF => ?_)
        · refine J_aload_n (pc := 43) C dX8_man_43 rfl ?_
          refine J_getR (pc := 44) C dX8_man_44 fg_X8_23 hF (fun r44 hF => ?_)
          refine J_getR (pc := 47) C dX8_man_47 fg_X8_63 hF (fun r47 hF => ?_)
          refine J_iload_n (pc := 50) C dX8_man_50 rfl ?_
          refine J_bipush (pc := 51) C dX8_man_51 bc_10 ?_
          refine J_idiv (pc := 53) C dX8_man_53 hF (fun v53 hF => ?_)
          refine J_iload_n (pc := 54) C dX8_man_54 rfl ?_
          refine J_bipush (pc := 55) C dX8_man_55 bc_10 ?_
          refine J_irem (pc := 57) C dX8_man_57 hF (fun v57 hF => ?_)
          refine J_iload_n (pc := 58) C dX8_man_58 rfl ?_
          refine J_bind hF (fun q59 hq hF => ?_)
          refine J_callV0_i (pc := 59) (stk := [.int x2, .int v57, .int v53, .ref r47]) (st := []) C dX8_man_59 yw_X7_addMan w_MLX8_99 in_X7_addMan sl_X7_addMan ⟨_, rfl, rfl⟩ (kX7_addMan hq) (gO_some hq).1 rfl (by decide) rfl (Nat.le_of_ble_eq_true rfl) ?_
          exact J_iret (pc := 62) C dX8_man_62 hF (by decide) (by decide)
        · refine J_aload_n (pc := 37) C dX8_man_37 rfl ?_
          refine J_iconst (pc := 38) C dX8_man_38 ic_4 ?_
          refine J_bind hF (fun q39 hq hF => ?_)
          refine J_callV0_i (pc := 39) (stk := [.int 4, .ref a0]) (st := []) C dX8_man_39 yw_X8_refuse w_MLX8_59 in_X8_refuse sl_X8_refuse ⟨_, rfl, rfl⟩ (kX8_refuse hq) (gO_some hq).1 rfl (by decide) rfl (Nat.le_of_ble_eq_true rfl) ?_
          exact J_iret (pc := 42) C dX8_man_42 hF (by decide) (by decide)
def fX8_manIs (h : Hp) (a0 : Nat) (x1 : Int32) (x2 : Int32) : Option (Int32 × Hp) := gO h 8 a0 (
  (getR h 8 a0 1).bind fun r1 =>
  (getR h 1 r1 0).bind fun r4 =>
  (fX7_hasMan h r4 x1).bind fun q10 =>
  if q10 = 0 then
    (fX8_refuse h a0 1).bind fun q18 =>
    some (q18.1, q18.2)
  else
    if x2 = 0 then
      (getR h 7 r4 5).bind fun r65 =>
      (rdI h r65 x1).bind fun v69 =>
      some (v69, h)
    else
      if x2 = 1 then
        (getR h 7 r4 6).bind fun r72 =>
        (rdI h r72 x1).bind fun v76 =>
        some (v76, h)
      else
        if x2 = 2 then
          (getR h 7 r4 7).bind fun r79 =>
          (rdI h r79 x1).bind fun v83 =>
          some (v83, h)
        else
          if x2 = 3 then
            (getR h 7 r4 8).bind fun r86 =>
            (rdI h r86 x1).bind fun v90 =>
            some (v90, h)
          else
            if x2 = 4 then
              (fX7_keeps h r4 x1).bind fun q94 =>
              some (q94.1, q94.2)
            else
              if x2 = 5 then
                (fX7_fare h r4 x1).bind fun q100 =>
                some (q100.1, q100.2)
              else
                if x2 = 6 then
                  (getR h 7 r4 9).bind fun r105 =>
                  (rdI h r105 x1).bind fun v109 =>
                  some (v109, h)
                else
                  if x2 < 7 then
                    (fX8_refuse h a0 1).bind fun q125 =>
                    some (q125.1, q125.2)
                  else
                    if x2 < 15 then
                      (fX7_face h r4 x1 (x2 - 7)).bind fun q135 =>
                      some (q135, h)
                    else
                      (fX8_refuse h a0 1).bind fun q125 =>
                      some (q125.1, q125.2))
set_option maxRecDepth 100000 in
theorem kX8_manIs {h : Hp} {a0 : Nat} {x1 : Int32} {x2 : Int32} {z : (Int32 × Hp)} (hF : fX8_manIs h a0 x1 x2 = some z) : Mc yX8_manIs cX8_manIs 4 (some .int) 3 0 0 [.ref a0, .int x1, .int x2] h (some (.int z.1), z.2) := by
  have hF := (gO_some hF).2
  refine Mc_of [some (.ref a0), some (.int x1), some (.int x2), none] plX8 rfl rfl (Nat.le_of_ble_eq_true rfl) (fun X C => ?_)
  refine J_aload_n (pc := 0) C dX8_manIs_0 rfl ?_
  refine J_getR (pc := 1) C dX8_manIs_1 fg_X8_23 hF (fun r1 hF => ?_)
  refine J_getR (pc := 4) C dX8_manIs_4 fg_X8_63 hF (fun r4 hF => ?_)
  refine J_astore_n (pc := 7) (lv' := [some (.ref a0), some (.int x1), some (.int x2), some (.ref r4)]) C dX8_manIs_7 rfl ?_
  refine J_aload_n (pc := 8) C dX8_manIs_8 rfl ?_
  refine J_iload_n (pc := 9) C dX8_manIs_9 rfl ?_
  refine J_bind hF (fun q10 hq hF => ?_)
  refine J_callV0_ip (pc := 10) (stk := [.int x1, .ref r4]) (st := []) C dX8_manIs_10 yw_X7_hasMan w_MLX8_103 in_X7_hasMan sl_X7_hasMan ⟨_, rfl, rfl⟩ (kX7_hasMan hq) (gO_some hq).1 rfl (by decide) rfl (Nat.le_of_ble_eq_true rfl) ?_
  refine J_if_ne (pc := 13) (tgt := 22) C dX8_manIs_13 rfl hF (fun hF => ?_) (fun hF => ?_)
  · refine J_aload_n (pc := 16) C dX8_manIs_16 rfl ?_
    refine J_iconst (pc := 17) C dX8_manIs_17 ic_1 ?_
    refine J_bind hF (fun q18 hq hF => ?_)
    refine J_callV0_i (pc := 18) (stk := [.int 1, .ref a0]) (st := []) C dX8_manIs_18 yw_X8_refuse w_MLX8_59 in_X8_refuse sl_X8_refuse ⟨_, rfl, rfl⟩ (kX8_refuse hq) (gO_some hq).1 rfl (by decide) rfl (Nat.le_of_ble_eq_true rfl) ?_
    exact J_iret (pc := 21) C dX8_manIs_21 hF (by decide) (by decide)
  · refine J_iload_n (pc := 22) C dX8_manIs_22 rfl ?_
    refine J_br hF (fun hc23_0 hF => ?_) (fun hc23_0 hF => ?_)
    · refine J_tsIn (pc := 23) (tgt := 64) C 0 hc23_0 dX8_manIs_23 (by decide) (by decide) rfl rfl ?_
      refine J_aload_n (pc := 64) C dX8_manIs_64 rfl ?_
      refine J_getR (pc := 65) C dX8_manIs_65 fg_X8_106 hF (fun r65 hF => ?_)
      refine J_iload_n (pc := 68) C dX8_manIs_68 rfl ?_
      refine J_iald (pc := 69) C dX8_manIs_69 hF (fun v69 hF => ?_)
      exact J_iret (pc := 70) C dX8_manIs_70 hF (by decide) (by decide)
    · refine J_br hF (fun hc23_1 hF => ?_) (fun hc23_1 hF => ?_)
      · refine J_tsIn (pc := 23) (tgt := 71) C 1 hc23_1 dX8_manIs_23 (by decide) (by decide) rfl rfl ?_
        refine J_aload_n (pc := 71) C dX8_manIs_71 rfl ?_
        refine J_getR (pc := 72) C dX8_manIs_72 fg_X8_109 hF (fun r72 hF => ?_)
        refine J_iload_n (pc := 75) C dX8_manIs_75 rfl ?_
        refine J_iald (pc := 76) C dX8_manIs_76 hF (fun v76 hF => ?_)
        exact J_iret (pc := 77) C dX8_manIs_77 hF (by decide) (by decide)
      · refine J_br hF (fun hc23_2 hF => ?_) (fun hc23_2 hF => ?_)
        · refine J_tsIn (pc := 23) (tgt := 78) C 2 hc23_2 dX8_manIs_23 (by decide) (by decide) rfl rfl ?_
          refine J_aload_n (pc := 78) C dX8_manIs_78 rfl ?_
          refine J_getR (pc := 79) C dX8_manIs_79 fg_X8_112 hF (fun r79 hF => ?_)
          refine J_iload_n (pc := 82) C dX8_manIs_82 rfl ?_
          refine J_iald (pc := 83) C dX8_manIs_83 hF (fun v83 hF => ?_)
          exact J_iret (pc := 84) C dX8_manIs_84 hF (by decide) (by decide)
        · refine J_br hF (fun hc23_3 hF => ?_) (fun hc23_3 hF => ?_)
          · refine J_tsIn (pc := 23) (tgt := 85) C 3 hc23_3 dX8_manIs_23 (by decide) (by decide) rfl rfl ?_
            refine J_aload_n (pc := 85) C dX8_manIs_85 rfl ?_
            refine J_getR (pc := 86) C dX8_manIs_86 fg_X8_115 hF (fun r86 hF => ?_)
            refine J_iload_n (pc := 89) C dX8_manIs_89 rfl ?_
            refine J_iald (pc := 90) C dX8_manIs_90 hF (fun v90 hF => ?_)
            exact J_iret (pc := 91) C dX8_manIs_91 hF (by decide) (by decide)
          · refine J_br hF (fun hc23_4 hF => ?_) (fun hc23_4 hF => ?_)
            · refine J_tsIn (pc := 23) (tgt := 92) C 4 hc23_4 dX8_manIs_23 (by decide) (by decide) rfl rfl ?_
              refine J_aload_n (pc := 92) C dX8_manIs_92 rfl ?_
              refine J_iload_n (pc := 93) C dX8_manIs_93 rfl ?_
              refine J_bind hF (fun q94 hq hF => ?_)
              refine J_callV0_i (pc := 94) (stk := [.int x1, .ref r4]) (st := []) C dX8_manIs_94 yw_X7_keeps w_MLX8_118 in_X7_keeps sl_X7_keeps ⟨_, rfl, rfl⟩ (kX7_keeps hq) (gO_some hq).1 rfl (by decide) rfl (Nat.le_of_ble_eq_true rfl) ?_
              exact J_iret (pc := 97) C dX8_manIs_97 hF (by decide) (by decide)
            · refine J_br hF (fun hc23_5 hF => ?_) (fun hc23_5 hF => ?_)
              · refine J_tsIn (pc := 23) (tgt := 98) C 5 hc23_5 dX8_manIs_23 (by decide) (by decide) rfl rfl ?_
                refine J_aload_n (pc := 98) C dX8_manIs_98 rfl ?_
                refine J_iload_n (pc := 99) C dX8_manIs_99 rfl ?_
                refine J_bind hF (fun q100 hq hF => ?_)
                refine J_callV0_i (pc := 100) (stk := [.int x1, .ref r4]) (st := []) C dX8_manIs_100 yw_X7_fare w_MLX8_121 in_X7_fare sl_X7_fare ⟨_, rfl, rfl⟩ (kX7_fare hq) (gO_some hq).1 rfl (by decide) rfl (Nat.le_of_ble_eq_true rfl) ?_
                exact J_iret (pc := 103) C dX8_manIs_103 hF (by decide) (by decide)
              · refine J_br hF (fun hc23_6 hF => ?_) (fun hc23_6 hF => ?_)
                · refine J_tsIn (pc := 23) (tgt := 104) C 6 hc23_6 dX8_manIs_23 (by decide) (by decide) rfl rfl ?_
                  refine J_aload_n (pc := 104) C dX8_manIs_104 rfl ?_
                  refine J_getR (pc := 105) C dX8_manIs_105 fg_X8_124 hF (fun r105 hF => ?_)
                  refine J_iload_n (pc := 108) C dX8_manIs_108 rfl ?_
                  refine J_iald (pc := 109) C dX8_manIs_109 hF (fun v109 hF => ?_)
                  exact J_iret (pc := 110) C dX8_manIs_110 hF (by decide) (by decide)
                · have hD : J X 0 0 0 0 111 [some (.ref a0), some (.int x1), some (.int x2), some (.ref r4)] [] h := by
                    refine J_iload_n (pc := 111) C dX8_manIs_111 rfl ?_
                    refine J_bipush (pc := 112) C dX8_manIs_112 bc_7 ?_
                    refine J_icmp_lt (pc := 114) (tgt := 123) C dX8_manIs_114 rfl hF (fun hF => ?_) (fun hF => ?_)
                    · refine J_aload_n (pc := 123) C dX8_manIs_123 rfl ?_
                      refine J_iconst (pc := 124) C dX8_manIs_124 ic_1 ?_
                      refine J_bind hF (fun q125 hq hF => ?_)
                      refine J_callV0_i (pc := 125) (stk := [.int 1, .ref a0]) (st := []) C dX8_manIs_125 yw_X8_refuse w_MLX8_59 in_X8_refuse sl_X8_refuse ⟨_, rfl, rfl⟩ (kX8_refuse hq) (gO_some hq).1 rfl (by decide) rfl (Nat.le_of_ble_eq_true rfl) ?_
                      exact J_iret (pc := 128) C dX8_manIs_128 hF (by decide) (by decide)
                    · refine J_iload_n (pc := 117) C dX8_manIs_117 rfl ?_
                      refine J_bipush (pc := 118) C dX8_manIs_118 bc_15 ?_
                      refine J_icmp_lt (pc := 120) (tgt := 129) C dX8_manIs_120 rfl hF (fun hF => ?_) (fun hF => ?_)
                      · refine J_aload_n (pc := 129) C dX8_manIs_129 rfl ?_
                        refine J_iload_n (pc := 130) C dX8_manIs_130 rfl ?_
                        refine J_iload_n (pc := 131) C dX8_manIs_131 rfl ?_
                        refine J_bipush (pc := 132) C dX8_manIs_132 bc_7 ?_
                        refine J_isub (pc := 134) C dX8_manIs_134 ?_
                        refine J_bind hF (fun q135 hq hF => ?_)
                        refine J_callV0_ip (pc := 135) (stk := [.int (x2 - 7), .int x1, .ref r4]) (st := []) C dX8_manIs_135 yw_X7_face w_MLX8_127 in_X7_face sl_X7_face ⟨_, rfl, rfl⟩ (kX7_face hq) (gO_some hq).1 rfl (by decide) rfl (Nat.le_of_ble_eq_true rfl) ?_
                        exact J_iret (pc := 138) C dX8_manIs_138 hF (by decide) (by decide)
                      · refine J_aload_n (pc := 123) C dX8_manIs_123 rfl ?_
                        refine J_iconst (pc := 124) C dX8_manIs_124 ic_1 ?_
                        refine J_bind hF (fun q125 hq hF => ?_)
                        refine J_callV0_i (pc := 125) (stk := [.int 1, .ref a0]) (st := []) C dX8_manIs_125 yw_X8_refuse w_MLX8_59 in_X8_refuse sl_X8_refuse ⟨_, rfl, rfl⟩ (kX8_refuse hq) (gO_some hq).1 rfl (by decide) rfl (Nat.le_of_ble_eq_true rfl) ?_
                        exact J_iret (pc := 128) C dX8_manIs_128 hF (by decide) (by decide)
                  refine J_tsOut (pc := 23) (tgt := 111) C dX8_manIs_23 (by have z0 := lv_neT hc23_0 (a := 0) rfl; have z1 := lv_neT hc23_1 (a := 1) rfl; have z2 := lv_neT hc23_2 (a := 2) rfl; have z3 := lv_neT hc23_3 (a := 3) rfl; have z4 := lv_neT hc23_4 (a := 4) rfl; have z5 := lv_neT hc23_5 (a := 5) rfl; have z6 := lv_neT hc23_6 (a := 6) rfl; omega) rfl hD
def fX8_memory (h : Hp) (a0 : Nat) (x1 : Int32) (x2 : Int32) : Option (Int32 × Hp) := gO h 8 a0 (
  (getR h 8 a0 1).bind fun r1 =>
  (getR h 1 r1 0).bind fun r4 =>
  (fX7_hasMan h r4 x1).bind fun q8 =>
  if q8 = 0 then
    (fX8_refuse h a0 1).bind fun q30 =>
    some (q30.1, q30.2)
  else
    (getR h 8 a0 1).bind fun r15 =>
    (getR h 1 r15 0).bind fun r18 =>
    (fX7_hasPerson h r18 x2).bind fun q22 =>
    if q22 = 0 then
      (fX8_refuse h a0 1).bind fun q30 =>
      some (q30.1, q30.2)
    else
      (getR h 8 a0 1).bind fun r35 =>
      (fX1_facesBackTo h r35 x1 x2).bind fun q40 =>
      if q40 ≤ 8 then
        some (q40, h)
      else
        (fX8_refuse h a0 2).bind fun q52 =>
        some (q52.1, q52.2))
set_option maxRecDepth 100000 in
theorem kX8_memory {h : Hp} {a0 : Nat} {x1 : Int32} {x2 : Int32} {z : (Int32 × Hp)} (hF : fX8_memory h a0 x1 x2 = some z) : Mc yX8_memory cX8_memory 4 (some .int) 2 0 0 [.ref a0, .int x1, .int x2] h (some (.int z.1), z.2) := by
  have hF := (gO_some hF).2
  refine Mc_of [some (.ref a0), some (.int x1), some (.int x2), none] plX8 rfl rfl (Nat.le_of_ble_eq_true rfl) (fun X C => ?_)
  refine J_aload_n (pc := 0) C dX8_memory_0 rfl ?_
  refine J_getR (pc := 1) C dX8_memory_1 fg_X8_23 hF (fun r1 hF => ?_)
  refine J_getR (pc := 4) C dX8_memory_4 fg_X8_63 hF (fun r4 hF => ?_)
  refine J_iload_n (pc := 7) C dX8_memory_7 rfl ?_
  refine J_bind hF (fun q8 hq hF => ?_)
  refine J_callV0_ip (pc := 8) (stk := [.int x1, .ref r4]) (st := []) C dX8_memory_8 yw_X7_hasMan w_MLX8_103 in_X7_hasMan sl_X7_hasMan ⟨_, rfl, rfl⟩ (kX7_hasMan hq) (gO_some hq).1 rfl (by decide) rfl (Nat.le_of_ble_eq_true rfl) ?_
  refine J_if_eq (pc := 11) (tgt := 28) C dX8_memory_11 rfl hF (fun hF => ?_) (fun hF => ?_)
  · refine J_aload_n (pc := 28) C dX8_memory_28 rfl ?_
    refine J_iconst (pc := 29) C dX8_memory_29 ic_1 ?_
    refine J_bind hF (fun q30 hq hF => ?_)
    refine J_callV0_i (pc := 30) (stk := [.int 1, .ref a0]) (st := []) C dX8_memory_30 yw_X8_refuse w_MLX8_59 in_X8_refuse sl_X8_refuse ⟨_, rfl, rfl⟩ (kX8_refuse hq) (gO_some hq).1 rfl (by decide) rfl (Nat.le_of_ble_eq_true rfl) ?_
    exact J_iret (pc := 33) C dX8_memory_33 hF (by decide) (by decide)
  · refine J_aload_n (pc := 14) C dX8_memory_14 rfl ?_
    refine J_getR (pc := 15) C dX8_memory_15 fg_X8_23 hF (fun r15 hF => ?_)
    refine J_getR (pc := 18) C dX8_memory_18 fg_X8_63 hF (fun r18 hF => ?_)
    refine J_iload_n (pc := 21) C dX8_memory_21 rfl ?_
    refine J_bind hF (fun q22 hq hF => ?_)
    refine J_callV0_ip (pc := 22) (stk := [.int x2, .ref r18]) (st := []) C dX8_memory_22 yw_X7_hasPerson w_MLX8_76 in_X7_hasPerson sl_X7_hasPerson ⟨_, rfl, rfl⟩ (kX7_hasPerson hq) (gO_some hq).1 rfl (by decide) rfl (Nat.le_of_ble_eq_true rfl) ?_
    refine J_if_ne (pc := 25) (tgt := 34) C dX8_memory_25 rfl hF (fun hF => ?_) (fun hF => ?_)
    · refine J_aload_n (pc := 28) C dX8_memory_28 rfl ?_
      refine J_iconst (pc := 29) C dX8_memory_29 ic_1 ?_
      refine J_bind hF (fun q30 hq hF => ?_)
      refine J_callV0_i (pc := 30) (stk := [.int 1, .ref a0]) (st := []) C dX8_memory_30 yw_X8_refuse w_MLX8_59 in_X8_refuse sl_X8_refuse ⟨_, rfl, rfl⟩ (kX8_refuse hq) (gO_some hq).1 rfl (by decide) rfl (Nat.le_of_ble_eq_true rfl) ?_
      exact J_iret (pc := 33) C dX8_memory_33 hF (by decide) (by decide)
    · refine J_aload_n (pc := 34) C dX8_memory_34 rfl ?_
      refine J_getR (pc := 35) C dX8_memory_35 fg_X8_23 hF (fun r35 hF => ?_)
      refine J_iload_n (pc := 38) C dX8_memory_38 rfl ?_
      refine J_iload_n (pc := 39) C dX8_memory_39 rfl ?_
      refine J_bind hF (fun q40 hq hF => ?_)
      refine J_callV0_ip (pc := 40) (stk := [.int x2, .int x1, .ref r35]) (st := []) C dX8_memory_40 yw_X1_facesBackTo w_MLX8_262 in_X1_facesBackTo sl_X1_facesBackTo ⟨_, rfl, rfl⟩ (kX1_facesBackTo hq) (gO_some hq).1 rfl (by decide) rfl (Nat.le_of_ble_eq_true rfl) ?_
      refine J_istore_n (pc := 43) (lv' := [some (.ref a0), some (.int x1), some (.int x2), some (.int q40)]) C dX8_memory_43 rfl ?_
      refine J_iload_n (pc := 44) C dX8_memory_44 rfl ?_
      refine J_bipush (pc := 45) C dX8_memory_45 bc_8 ?_
      refine J_icmp_le (pc := 47) (tgt := 58) C dX8_memory_47 rfl hF (fun hF => ?_) (fun hF => ?_)
      · refine J_iload_n (pc := 58) C dX8_memory_58 rfl ?_
        exact J_iret (pc := 59) C dX8_memory_59 hF (by decide) (by decide)
      · refine J_aload_n (pc := 50) C dX8_memory_50 rfl ?_
        refine J_iconst (pc := 51) C dX8_memory_51 ic_2 ?_
        refine J_bind hF (fun q52 hq hF => ?_)
        refine J_callV0_i (pc := 52) (stk := [.int 2, .ref a0]) (st := []) C dX8_memory_52 yw_X8_refuse w_MLX8_59 in_X8_refuse sl_X8_refuse ⟨_, rfl, rfl⟩ (kX8_refuse hq) (gO_some hq).1 rfl (by decide) rfl (Nat.le_of_ble_eq_true rfl) ?_
        refine J_goto (pc := 55) (tgt := 59) C dX8_memory_55 rfl ?_
        exact J_iret (pc := 59) C dX8_memory_59 hF (by decide) (by decide)
def fX8_move (h : Hp) (a0 : Nat) (x1 : Int32) (x2 : Int32) (x3 : Int32) (x4 : Int32) (x5 : Int32) : Option (Int32 × Hp) := gO h 8 a0 (
  (getR h 8 a0 4).bind fun r1 =>
  (fX4_isOne h r1 x1).bind fun q5 =>
  if q5 = 0 then
    (fX8_refuse h a0 1).bind fun q24 =>
    some (q24.1, q24.2)
  else
    (getR h 8 a0 4).bind fun r12 =>
    (fX4_isOne h r12 x3).bind fun q16 =>
    if q16 = 0 then
      (fX8_refuse h a0 1).bind fun q24 =>
      some (q24.1, q24.2)
    else
      (getR h 8 a0 4).bind fun r29 =>
      (fX4_isMissing h r29 x1).bind fun q33 =>
      if q33 = 0 then
        (getR h 8 a0 4).bind fun r40 =>
        (fX4_isMissing h r40 x3).bind fun q44 =>
        if q44 = 0 then
          (getR h 8 a0 4).bind fun r57 =>
          (getR h 4 r57 0).bind fun r60 =>
          (rdI h r60 x1).bind fun v64 =>
          (getR h 8 a0 4).bind fun r66 =>
          (getR h 4 r66 0).bind fun r69 =>
          (rdI h r69 x3).bind fun v73 =>
          if v64 = v73 then
            (getR h 8 a0 4).bind fun r84 =>
            (fX4_stand h r84 x1 x2 x5).bind fun q91 =>
            if q91 = 0 then
              (fX8_refuse h a0 1).bind fun q114 =>
              some (q114.1, q114.2)
            else
              (getR h 8 a0 4).bind fun r98 =>
              (fX4_stand h r98 x3 x4 x5).bind fun q106 =>
              if q106 = 0 then
                (fX8_refuse h a0 1).bind fun q114 =>
                some (q114.1, q114.2)
              else
                (getR h 8 a0 4).bind fun r119 =>
                (getR h 4 r119 2).bind fun r122 =>
                (rdR h r122 x1).bind fun r126 =>
                (getR h 8 a0 4).bind fun r129 =>
                (getR h 4 r129 2).bind fun r132 =>
                (rdR h r132 x3).bind fun r136 =>
                (acopy h r126 x2 r136 x4 x5).bind fun h141 =>
                some (x5, h141)
          else
            (fX8_refuse h a0 5).bind fun q79 =>
            some (q79.1, q79.2)
        else
          (fX8_refuse h a0 2).bind fun q52 =>
          some (q52.1, q52.2)
      else
        (fX8_refuse h a0 2).bind fun q52 =>
        some (q52.1, q52.2))
set_option maxRecDepth 100000 in
theorem kX8_move {h : Hp} {a0 : Nat} {x1 : Int32} {x2 : Int32} {x3 : Int32} {x4 : Int32} {x5 : Int32} {z : (Int32 × Hp)} (hF : fX8_move h a0 x1 x2 x3 x4 x5 = some z) : Mc yX8_move cX8_move 6 (some .int) 1 0 0 [.ref a0, .int x1, .int x2, .int x3, .int x4, .int x5] h (some (.int z.1), z.2) := by
  have hF := (gO_some hF).2
  refine Mc_of [some (.ref a0), some (.int x1), some (.int x2), some (.int x3), some (.int x4), some (.int x5)] plX8 rfl rfl (Nat.le_of_ble_eq_true rfl) (fun X C => ?_)
  refine J_aload_n (pc := 0) C dX8_move_0 rfl ?_
  refine J_getR (pc := 1) C dX8_move_1 fg_X8_40 hF (fun r1 hF => ?_)
  refine J_iload_n (pc := 4) C dX8_move_4 rfl ?_
  refine J_bind hF (fun q5 hq hF => ?_)
  refine J_callV0_ip (pc := 5) (stk := [.int x1, .ref r1]) (st := []) C dX8_move_5 yw_X4_isOne w_MLX8_292 in_X4_isOne sl_X4_isOne ⟨_, rfl, rfl⟩ (kX4_isOne hq) (gO_some hq).1 rfl (by decide) rfl (Nat.le_of_ble_eq_true rfl) ?_
  refine J_if_eq (pc := 8) (tgt := 22) C dX8_move_8 rfl hF (fun hF => ?_) (fun hF => ?_)
  · refine J_aload_n (pc := 22) C dX8_move_22 rfl ?_
    refine J_iconst (pc := 23) C dX8_move_23 ic_1 ?_
    refine J_bind hF (fun q24 hq hF => ?_)
    refine J_callV0_i (pc := 24) (stk := [.int 1, .ref a0]) (st := []) C dX8_move_24 yw_X8_refuse w_MLX8_59 in_X8_refuse sl_X8_refuse ⟨_, rfl, rfl⟩ (kX8_refuse hq) (gO_some hq).1 rfl (by decide) rfl (Nat.le_of_ble_eq_true rfl) ?_
    exact J_iret (pc := 27) C dX8_move_27 hF (by decide) (by decide)
  · refine J_aload_n (pc := 11) C dX8_move_11 rfl ?_
    refine J_getR (pc := 12) C dX8_move_12 fg_X8_40 hF (fun r12 hF => ?_)
    refine J_iload_n (pc := 15) C dX8_move_15 rfl ?_
    refine J_bind hF (fun q16 hq hF => ?_)
    refine J_callV0_ip (pc := 16) (stk := [.int x3, .ref r12]) (st := []) C dX8_move_16 yw_X4_isOne w_MLX8_292 in_X4_isOne sl_X4_isOne ⟨_, rfl, rfl⟩ (kX4_isOne hq) (gO_some hq).1 rfl (by decide) rfl (Nat.le_of_ble_eq_true rfl) ?_
    refine J_if_ne (pc := 19) (tgt := 28) C dX8_move_19 rfl hF (fun hF => ?_) (fun hF => ?_)
    · refine J_aload_n (pc := 22) C dX8_move_22 rfl ?_
      refine J_iconst (pc := 23) C dX8_move_23 ic_1 ?_
      refine J_bind hF (fun q24 hq hF => ?_)
      refine J_callV0_i (pc := 24) (stk := [.int 1, .ref a0]) (st := []) C dX8_move_24 yw_X8_refuse w_MLX8_59 in_X8_refuse sl_X8_refuse ⟨_, rfl, rfl⟩ (kX8_refuse hq) (gO_some hq).1 rfl (by decide) rfl (Nat.le_of_ble_eq_true rfl) ?_
      exact J_iret (pc := 27) C dX8_move_27 hF (by decide) (by decide)
    · refine J_aload_n (pc := 28) C dX8_move_28 rfl ?_
      refine J_getR (pc := 29) C dX8_move_29 fg_X8_40 hF (fun r29 hF => ?_)
      refine J_iload_n (pc := 32) C dX8_move_32 rfl ?_
      refine J_bind hF (fun q33 hq hF => ?_)
      refine J_callV0_ip (pc := 33) (stk := [.int x1, .ref r29]) (st := []) C dX8_move_33 yw_X4_isMissing w_MLX8_302 in_X4_isMissing sl_X4_isMissing ⟨_, rfl, rfl⟩ (kX4_isMissing hq) (gO_some hq).1 rfl (by decide) rfl (Nat.le_of_ble_eq_true rfl) ?_
      refine J_if_ne (pc := 36) (tgt := 50) C dX8_move_36 rfl hF (fun hF => ?_) (fun hF => ?_)
      · refine J_aload_n (pc := 39) C dX8_move_39 rfl ?_
        refine J_getR (pc := 40) C dX8_move_40 fg_X8_40 hF (fun r40 hF => ?_)
        refine J_iload_n (pc := 43) C dX8_move_43 rfl ?_
        refine J_bind hF (fun q44 hq hF => ?_)
        refine J_callV0_ip (pc := 44) (stk := [.int x3, .ref r40]) (st := []) C dX8_move_44 yw_X4_isMissing w_MLX8_302 in_X4_isMissing sl_X4_isMissing ⟨_, rfl, rfl⟩ (kX4_isMissing hq) (gO_some hq).1 rfl (by decide) rfl (Nat.le_of_ble_eq_true rfl) ?_
        refine J_if_eq (pc := 47) (tgt := 56) C dX8_move_47 rfl hF (fun hF => ?_) (fun hF => ?_)
        · refine J_aload_n (pc := 56) C dX8_move_56 rfl ?_
          refine J_getR (pc := 57) C dX8_move_57 fg_X8_40 hF (fun r57 hF => ?_)
          refine J_getR (pc := 60) C dX8_move_60 fg_X8_310 hF (fun r60 hF => ?_)
          refine J_iload_n (pc := 63) C dX8_move_63 rfl ?_
          refine J_iald (pc := 64) C dX8_move_64 hF (fun v64 hF => ?_)
          refine J_aload_n (pc := 65) C dX8_move_65 rfl ?_
          refine J_getR (pc := 66) C dX8_move_66 fg_X8_40 hF (fun r66 hF => ?_)
          refine J_getR (pc := 69) C dX8_move_69 fg_X8_310 hF (fun r69 hF => ?_)
          refine J_iload_n (pc := 72) C dX8_move_72 rfl ?_
          refine J_iald (pc := 73) C dX8_move_73 hF (fun v73 hF => ?_)
          refine J_icmp_eq (pc := 74) (tgt := 83) C dX8_move_74 rfl hF (fun hF => ?_) (fun hF => ?_)
          · refine J_aload_n (pc := 83) C dX8_move_83 rfl ?_
            refine J_getR (pc := 84) C dX8_move_84 fg_X8_40 hF (fun r84 hF => ?_)
            refine J_iload_n (pc := 87) C dX8_move_87 rfl ?_
            refine J_iload_n (pc := 88) C dX8_move_88 rfl ?_
            refine J_iload (pc := 89) C dX8_move_89 rfl ?_
            refine J_bind hF (fun q91 hq hF => ?_)
            refine J_callV0_ip (pc := 91) (stk := [.int x5, .int x2, .int x1, .ref r84]) (st := []) C dX8_move_91 yw_X4_stand w_MLX8_313 in_X4_stand sl_X4_stand ⟨_, rfl, rfl⟩ (kX4_stand hq) (gO_some hq).1 rfl (by decide) rfl (Nat.le_of_ble_eq_true rfl) ?_
            refine J_if_eq (pc := 94) (tgt := 112) C dX8_move_94 rfl hF (fun hF => ?_) (fun hF => ?_)
            · refine J_aload_n (pc := 112) C dX8_move_112 rfl ?_
              refine J_iconst (pc := 113) C dX8_move_113 ic_1 ?_
              refine J_bind hF (fun q114 hq hF => ?_)
              refine J_callV0_i (pc := 114) (stk := [.int 1, .ref a0]) (st := []) C dX8_move_114 yw_X8_refuse w_MLX8_59 in_X8_refuse sl_X8_refuse ⟨_, rfl, rfl⟩ (kX8_refuse hq) (gO_some hq).1 rfl (by decide) rfl (Nat.le_of_ble_eq_true rfl) ?_
              exact J_iret (pc := 117) C dX8_move_117 hF (by decide) (by decide)
            · refine J_aload_n (pc := 97) C dX8_move_97 rfl ?_
              refine J_getR (pc := 98) C dX8_move_98 fg_X8_40 hF (fun r98 hF => ?_)
              refine J_iload_n (pc := 101) C dX8_move_101 rfl ?_
              refine J_iload (pc := 102) C dX8_move_102 rfl ?_
              refine J_iload (pc := 104) C dX8_move_104 rfl ?_
              refine J_bind hF (fun q106 hq hF => ?_)
              refine J_callV0_ip (pc := 106) (stk := [.int x5, .int x4, .int x3, .ref r98]) (st := []) C dX8_move_106 yw_X4_stand w_MLX8_313 in_X4_stand sl_X4_stand ⟨_, rfl, rfl⟩ (kX4_stand hq) (gO_some hq).1 rfl (by decide) rfl (Nat.le_of_ble_eq_true rfl) ?_
              refine J_if_ne (pc := 109) (tgt := 118) C dX8_move_109 rfl hF (fun hF => ?_) (fun hF => ?_)
              · refine J_aload_n (pc := 112) C dX8_move_112 rfl ?_
                refine J_iconst (pc := 113) C dX8_move_113 ic_1 ?_
                refine J_bind hF (fun q114 hq hF => ?_)
                refine J_callV0_i (pc := 114) (stk := [.int 1, .ref a0]) (st := []) C dX8_move_114 yw_X8_refuse w_MLX8_59 in_X8_refuse sl_X8_refuse ⟨_, rfl, rfl⟩ (kX8_refuse hq) (gO_some hq).1 rfl (by decide) rfl (Nat.le_of_ble_eq_true rfl) ?_
                exact J_iret (pc := 117) C dX8_move_117 hF (by decide) (by decide)
              · refine J_aload_n (pc := 118) C dX8_move_118 rfl ?_
                refine J_getR (pc := 119) C dX8_move_119 fg_X8_40 hF (fun r119 hF => ?_)
                refine J_getR (pc := 122) C dX8_move_122 fg_X8_317 hF (fun r122 hF => ?_)
                refine J_iload_n (pc := 125) C dX8_move_125 rfl ?_
                refine J_aald (pc := 126) C dX8_move_126 hF (fun r126 hF => ?_)
                refine J_iload_n (pc := 127) C dX8_move_127 rfl ?_
                refine J_aload_n (pc := 128) C dX8_move_128 rfl ?_
                refine J_getR (pc := 129) C dX8_move_129 fg_X8_40 hF (fun r129 hF => ?_)
                refine J_getR (pc := 132) C dX8_move_132 fg_X8_317 hF (fun r132 hF => ?_)
                refine J_iload_n (pc := 135) C dX8_move_135 rfl ?_
                refine J_aald (pc := 136) C dX8_move_136 hF (fun r136 hF => ?_)
                refine J_iload (pc := 137) C dX8_move_137 rfl ?_
                refine J_iload (pc := 139) C dX8_move_139 rfl ?_
                refine J_acopy (pc := 141) C dX8_move_141 w_MLX8_321 w_ac1 w_ac2 w_ac3 (by decide) (Nat.le_of_ble_eq_true rfl) hF (fun h141 hF => ?_)
                refine J_iload (pc := 144) C dX8_move_144 rfl ?_
                exact J_iret (pc := 146) C dX8_move_146 hF (by decide) (by decide)
          · refine J_aload_n (pc := 77) C dX8_move_77 rfl ?_
            refine J_iconst (pc := 78) C dX8_move_78 ic_5 ?_
            refine J_bind hF (fun q79 hq hF => ?_)
            refine J_callV0_i (pc := 79) (stk := [.int 5, .ref a0]) (st := []) C dX8_move_79 yw_X8_refuse w_MLX8_59 in_X8_refuse sl_X8_refuse ⟨_, rfl, rfl⟩ (kX8_refuse hq) (gO_some hq).1 rfl (by decide) rfl (Nat.le_of_ble_eq_true rfl) ?_
            exact J_iret (pc := 82) C dX8_move_82 hF (by decide) (by decide)
        · refine J_aload_n (pc := 50) C dX8_move_50 rfl ?_
          refine J_iconst (pc := 51) C dX8_move_51 ic_2 ?_
          refine J_bind hF (fun q52 hq hF => ?_)
          refine J_callV0_i (pc := 52) (stk := [.int 2, .ref a0]) (st := []) C dX8_move_52 yw_X8_refuse w_MLX8_59 in_X8_refuse sl_X8_refuse ⟨_, rfl, rfl⟩ (kX8_refuse hq) (gO_some hq).1 rfl (by decide) rfl (Nat.le_of_ble_eq_true rfl) ?_
          exact J_iret (pc := 55) C dX8_move_55 hF (by decide) (by decide)
      · refine J_aload_n (pc := 50) C dX8_move_50 rfl ?_
        refine J_iconst (pc := 51) C dX8_move_51 ic_2 ?_
        refine J_bind hF (fun q52 hq hF => ?_)
        refine J_callV0_i (pc := 52) (stk := [.int 2, .ref a0]) (st := []) C dX8_move_52 yw_X8_refuse w_MLX8_59 in_X8_refuse sl_X8_refuse ⟨_, rfl, rfl⟩ (kX8_refuse hq) (gO_some hq).1 rfl (by decide) rfl (Nat.le_of_ble_eq_true rfl) ?_
        exact J_iret (pc := 55) C dX8_move_55 hF (by decide) (by decide)
def fX8_pay (h : Hp) (a0 : Nat) (x1 : Int32) : Option (Int32 × Hp) := gO h 8 a0 (
  (getR h 8 a0 1).bind fun r1 =>
  (getR h 1 r1 1).bind fun r4 =>
  (getR h 8 a0 1).bind fun r9 =>
  (getR h 1 r9 0).bind fun r12 =>
  if x1 < 0 then
    (fX8_refuse h a0 1).bind fun q30 =>
    some (q30.1, q30.2)
  else
    (getI h 0 r4 0).bind fun v22 =>
    if x1 < v22 then
      (getR h 0 r4 1).bind fun r35 =>
      (rdI h r35 x1).bind fun v39 =>
      (getR h 0 r4 2).bind fun r43 =>
      (rdI h r43 x1).bind fun v47 =>
      (fX0_holds h r4 x1 r12).bind fun q53 =>
      if q53 = 0 then
        (fX8_refuse h a0 3).bind fun q71 =>
        some (q71.1, q71.2)
      else
        (getR h 7 r12 4).bind fun r60 =>
        (rdI h r60 v39).bind fun v65 =>
        if v65 = 0 then
          (fX8_refuse h a0 3).bind fun q71 =>
          some (q71.1, q71.2)
        else
          (getR h 0 r4 3).bind fun r76 =>
          (rdI h r76 x1).bind fun v80 =>
          (getR h 7 r12 4).bind fun r82 =>
          (rdI h r82 v39).bind fun v87 =>
          (getR h 7 r12 4).bind fun r94 =>
          (rdI h r94 v39).bind fun v100 =>
          (wrI h r94 v39 (v100 - (imin v80 v87))).bind fun h104 =>
          (getR h104 7 r12 4).bind fun r106 =>
          (getR h104 7 r12 4).bind fun r112 =>
          (rdI h104 r112 v47).bind fun v117 =>
          (wrI h104 r106 v47 (imin (v117 + (imin v80 v87)) 9999)).bind fun h127 =>
          (fX0_lessen h127 r4 x1 (imin v80 v87)).bind fun q132 =>
          some (imin v80 v87, q132)
    else
      (fX8_refuse h a0 1).bind fun q30 =>
      some (q30.1, q30.2))
set_option maxRecDepth 100000 in
theorem kX8_pay {h : Hp} {a0 : Nat} {x1 : Int32} {z : (Int32 × Hp)} (hF : fX8_pay h a0 x1 = some z) : Mc yX8_pay cX8_pay 7 (some .int) 3 0 0 [.ref a0, .int x1] h (some (.int z.1), z.2) := by
  have hF := (gO_some hF).2
  refine Mc_of [some (.ref a0), some (.int x1), none, none, none, none, none] plX8 rfl rfl (Nat.le_of_ble_eq_true rfl) (fun X C => ?_)
  refine J_aload_n (pc := 0) C dX8_pay_0 rfl ?_
  refine J_getR (pc := 1) C dX8_pay_1 fg_X8_23 hF (fun r1 hF => ?_)
  refine J_getR (pc := 4) C dX8_pay_4 fg_X8_205 hF (fun r4 hF => ?_)
  refine J_astore_n (pc := 7) (lv' := [some (.ref a0), some (.int x1), some (.ref r4), none, none, none, none]) C dX8_pay_7 rfl ?_
  refine J_aload_n (pc := 8) C dX8_pay_8 rfl ?_
  refine J_getR (pc := 9) C dX8_pay_9 fg_X8_23 hF (fun r9 hF => ?_)
  refine J_getR (pc := 12) C dX8_pay_12 fg_X8_63 hF (fun r12 hF => ?_)
  refine J_astore_n (pc := 15) (lv' := [some (.ref a0), some (.int x1), some (.ref r4), some (.ref r12), none, none, none]) C dX8_pay_15 rfl ?_
  refine J_iload_n (pc := 16) C dX8_pay_16 rfl ?_
  refine J_if_lt (pc := 17) (tgt := 28) C dX8_pay_17 rfl hF (fun hF => ?_) (fun hF => ?_)
  · refine J_aload_n (pc := 28) C dX8_pay_28 rfl ?_
    refine J_iconst (pc := 29) C dX8_pay_29 ic_1 ?_
    refine J_bind hF (fun q30 hq hF => ?_)
    refine J_callV0_i (pc := 30) (stk := [.int 1, .ref a0]) (st := []) C dX8_pay_30 yw_X8_refuse w_MLX8_59 in_X8_refuse sl_X8_refuse ⟨_, rfl, rfl⟩ (kX8_refuse hq) (gO_some hq).1 rfl (by decide) rfl (Nat.le_of_ble_eq_true rfl) ?_
    exact J_iret (pc := 33) C dX8_pay_33 hF (by decide) (by decide)
  · refine J_iload_n (pc := 20) C dX8_pay_20 rfl ?_
    refine J_aload_n (pc := 21) C dX8_pay_21 rfl ?_
    refine J_getI (pc := 22) C dX8_pay_22 fg_X8_209 hF (fun v22 hF => ?_)
    refine J_icmp_lt (pc := 25) (tgt := 34) C dX8_pay_25 rfl hF (fun hF => ?_) (fun hF => ?_)
    · refine J_aload_n (pc := 34) C dX8_pay_34 rfl ?_
      refine J_getR (pc := 35) C dX8_pay_35 fg_X8_215 hF (fun r35 hF => ?_)
      refine J_iload_n (pc := 38) C dX8_pay_38 rfl ?_
      refine J_iald (pc := 39) C dX8_pay_39 hF (fun v39 hF => ?_)
      refine J_istore (pc := 40) (lv' := [some (.ref a0), some (.int x1), some (.ref r4), some (.ref r12), some (.int v39), none, none]) C dX8_pay_40 rfl ?_
      refine J_aload_n (pc := 42) C dX8_pay_42 rfl ?_
      refine J_getR (pc := 43) C dX8_pay_43 fg_X8_218 hF (fun r43 hF => ?_)
      refine J_iload_n (pc := 46) C dX8_pay_46 rfl ?_
      refine J_iald (pc := 47) C dX8_pay_47 hF (fun v47 hF => ?_)
      refine J_istore (pc := 48) (lv' := [some (.ref a0), some (.int x1), some (.ref r4), some (.ref r12), some (.int v39), some (.int v47), none]) C dX8_pay_48 rfl ?_
      refine J_aload_n (pc := 50) C dX8_pay_50 rfl ?_
      refine J_iload_n (pc := 51) C dX8_pay_51 rfl ?_
      refine J_aload_n (pc := 52) C dX8_pay_52 rfl ?_
      refine J_bind hF (fun q53 hq hF => ?_)
      refine J_callV0_ip (pc := 53) (stk := [.ref r12, .int x1, .ref r4]) (st := []) C dX8_pay_53 yw_X0_holds w_MLX8_224 in_X0_holds sl_X0_holds ⟨_, rfl, rfl⟩ (kX0_holds hq) (gO_some hq).1 rfl (by decide) rfl (Nat.le_of_ble_eq_true rfl) ?_
      refine J_if_eq (pc := 56) (tgt := 69) C dX8_pay_56 rfl hF (fun hF => ?_) (fun hF => ?_)
      · refine J_aload_n (pc := 69) C dX8_pay_69 rfl ?_
        refine J_iconst (pc := 70) C dX8_pay_70 ic_3 ?_
        refine J_bind hF (fun q71 hq hF => ?_)
        refine J_callV0_i (pc := 71) (stk := [.int 3, .ref a0]) (st := []) C dX8_pay_71 yw_X8_refuse w_MLX8_59 in_X8_refuse sl_X8_refuse ⟨_, rfl, rfl⟩ (kX8_refuse hq) (gO_some hq).1 rfl (by decide) rfl (Nat.le_of_ble_eq_true rfl) ?_
        exact J_iret (pc := 74) C dX8_pay_74 hF (by decide) (by decide)
      · refine J_aload_n (pc := 59) C dX8_pay_59 rfl ?_
        refine J_getR (pc := 60) C dX8_pay_60 fg_X8_82 hF (fun r60 hF => ?_)
        refine J_iload (pc := 63) C dX8_pay_63 rfl ?_
        refine J_iald (pc := 65) C dX8_pay_65 hF (fun v65 hF => ?_)
        refine J_if_ne (pc := 66) (tgt := 75) C dX8_pay_66 rfl hF (fun hF => ?_) (fun hF => ?_)
        · refine J_aload_n (pc := 69) C dX8_pay_69 rfl ?_
          refine J_iconst (pc := 70) C dX8_pay_70 ic_3 ?_
          refine J_bind hF (fun q71 hq hF => ?_)
          refine J_callV0_i (pc := 71) (stk := [.int 3, .ref a0]) (st := []) C dX8_pay_71 yw_X8_refuse w_MLX8_59 in_X8_refuse sl_X8_refuse ⟨_, rfl, rfl⟩ (kX8_refuse hq) (gO_some hq).1 rfl (by decide) rfl (Nat.le_of_ble_eq_true rfl) ?_
          exact J_iret (pc := 74) C dX8_pay_74 hF (by decide) (by decide)
        · refine J_aload_n (pc := 75) C dX8_pay_75 rfl ?_
          refine J_getR (pc := 76) C dX8_pay_76 fg_X8_221 hF (fun r76 hF => ?_)
          refine J_iload_n (pc := 79) C dX8_pay_79 rfl ?_
          refine J_iald (pc := 80) C dX8_pay_80 hF (fun v80 hF => ?_)
          refine J_aload_n (pc := 81) C dX8_pay_81 rfl ?_
          refine J_getR (pc := 82) C dX8_pay_82 fg_X8_82 hF (fun r82 hF => ?_)
          refine J_iload (pc := 85) C dX8_pay_85 rfl ?_
          refine J_iald (pc := 87) C dX8_pay_87 hF (fun v87 hF => ?_)
          refine J_mmin (pc := 88) C dX8_pay_88 w_MLX8_228 w_mn1 w_mn2 w_mn3 (by decide) (Nat.le_of_ble_eq_true rfl) ?_
          refine J_istore (pc := 91) (lv' := [some (.ref a0), some (.int x1), some (.ref r4), some (.ref r12), some (.int v39), some (.int v47), some (.int (imin v80 v87))]) C dX8_pay_91 rfl ?_
          refine J_aload_n (pc := 93) C dX8_pay_93 rfl ?_
          refine J_getR (pc := 94) C dX8_pay_94 fg_X8_82 hF (fun r94 hF => ?_)
          refine J_iload (pc := 97) C dX8_pay_97 rfl ?_
          refine J_dup2 (pc := 99) C dX8_pay_99 rfl rfl ?_
          refine J_iald (pc := 100) C dX8_pay_100 hF (fun v100 hF => ?_)
          refine J_iload (pc := 101) C dX8_pay_101 rfl ?_
          refine J_isub (pc := 103) C dX8_pay_103 ?_
          refine J_iast (pc := 104) C dX8_pay_104 hF (fun h104 hF => ?_)
          refine J_aload_n (pc := 105) C dX8_pay_105 rfl ?_
          refine J_getR (pc := 106) C dX8_pay_106 fg_X8_82 hF (fun r106 hF => ?_)
          refine J_iload (pc := 109) C dX8_pay_109 rfl ?_
          refine J_aload_n (pc := 111) C dX8_pay_111 rfl ?_
          refine J_getR (pc := 112) C dX8_pay_112 fg_X8_82 hF (fun r112 hF => ?_)
          refine J_iload (pc := 115) C dX8_pay_115 rfl ?_
          refine J_iald (pc := 117) C dX8_pay_117 hF (fun v117 hF => ?_)
          refine J_iload (pc := 118) C dX8_pay_118 rfl ?_
          refine J_iadd (pc := 120) C dX8_pay_120 ?_
          refine J_sipush (pc := 121) C dX8_pay_121 sc_9999 ?_
          refine J_mmin (pc := 124) C dX8_pay_124 w_MLX8_228 w_mn1 w_mn2 w_mn3 (by decide) (Nat.le_of_ble_eq_true rfl) ?_
          refine J_iast (pc := 127) C dX8_pay_127 hF (fun h127 hF => ?_)
          refine J_aload_n (pc := 128) C dX8_pay_128 rfl ?_
          refine J_iload_n (pc := 129) C dX8_pay_129 rfl ?_
          refine J_iload (pc := 130) C dX8_pay_130 rfl ?_
          refine J_bind hF (fun q132 hq hF => ?_)
          refine J_callV0_v (pc := 132) (stk := [.int (imin v80 v87), .int x1, .ref r4]) (st := []) C dX8_pay_132 yw_X0_lessen w_MLX8_233 in_X0_lessen sl_X0_lessen ⟨_, rfl, rfl⟩ (kX0_lessen hq) (gO_some hq).1 rfl (by decide) rfl (Nat.le_of_ble_eq_true rfl) ?_
          refine J_iload (pc := 135) C dX8_pay_135 rfl ?_
          exact J_iret (pc := 137) C dX8_pay_137 hF (by decide) (by decide)
    · refine J_aload_n (pc := 28) C dX8_pay_28 rfl ?_
      refine J_iconst (pc := 29) C dX8_pay_29 ic_1 ?_
      refine J_bind hF (fun q30 hq hF => ?_)
      refine J_callV0_i (pc := 30) (stk := [.int 1, .ref a0]) (st := []) C dX8_pay_30 yw_X8_refuse w_MLX8_59 in_X8_refuse sl_X8_refuse ⟨_, rfl, rfl⟩ (kX8_refuse hq) (gO_some hq).1 rfl (by decide) rfl (Nat.le_of_ble_eq_true rfl) ?_
      exact J_iret (pc := 33) C dX8_pay_33 hF (by decide) (by decide)
def fX8_person (h : Hp) (a0 : Nat) (x1 : Int32) : Option (Int32 × Hp) := gO h 8 a0 (
  (fX8_isBank x1).bind fun q1 =>
  if q1 = 0 then
    (fX8_refuse h a0 1).bind fun q9 =>
    some (q9.1, q9.2)
  else
    (getR h 8 a0 1).bind fun r14 =>
    (getR h 1 r14 0).bind fun r17 =>
    (getI h 7 r17 1).bind fun v20 =>
    if v20 < 8 then
      (getR h 8 a0 1).bind fun r35 =>
      (getR h 1 r35 0).bind fun r38 =>
      (fX7_addPerson h r38 x1).bind fun q42 =>
      some (q42.1, q42.2)
    else
      (fX8_refuse h a0 4).bind fun q30 =>
      some (q30.1, q30.2))
set_option maxRecDepth 100000 in
theorem kX8_person {h : Hp} {a0 : Nat} {x1 : Int32} {z : (Int32 × Hp)} (hF : fX8_person h a0 x1 = some z) : Mc yX8_person cX8_person 2 (some .int) 1 0 0 [.ref a0, .int x1] h (some (.int z.1), z.2) := by
  have hF := (gO_some hF).2
  refine Mc_of [some (.ref a0), some (.int x1)] plX8 rfl rfl (Nat.le_of_ble_eq_true rfl) (fun X C => ?_)
  refine J_iload_n (pc := 0) C dX8_person_0 rfl ?_
  refine J_bind hF (fun q1 hq hF => ?_)
  refine J_callS0_ip (pc := 1) (stk := [.int x1]) (st := []) C dX8_person_1 yw_X8_isBank w_MLX8_55 st_X8_isBank (kX8_isBank hq) rfl (by decide) rfl (Nat.le_of_ble_eq_true rfl) ?_
  refine J_if_ne (pc := 4) (tgt := 13) C dX8_person_4 rfl hF (fun hF => ?_) (fun hF => ?_)
  · refine J_aload_n (pc := 7) C dX8_person_7 rfl ?_
    refine J_iconst (pc := 8) C dX8_person_8 ic_1 ?_
    refine J_bind hF (fun q9 hq hF => ?_)
    refine J_callV0_i (pc := 9) (stk := [.int 1, .ref a0]) (st := []) C dX8_person_9 yw_X8_refuse w_MLX8_59 in_X8_refuse sl_X8_refuse ⟨_, rfl, rfl⟩ (kX8_refuse hq) (gO_some hq).1 rfl (by decide) rfl (Nat.le_of_ble_eq_true rfl) ?_
    exact J_iret (pc := 12) C dX8_person_12 hF (by decide) (by decide)
  · refine J_aload_n (pc := 13) C dX8_person_13 rfl ?_
    refine J_getR (pc := 14) C dX8_person_14 fg_X8_23 hF (fun r14 hF => ?_)
    refine J_getR (pc := 17) C dX8_person_17 fg_X8_63 hF (fun r17 hF => ?_)
    refine J_getI (pc := 20) C dX8_person_20 fg_X8_67 hF (fun v20 hF => ?_)
    refine J_bipush (pc := 23) C dX8_person_23 bc_8 ?_
    refine J_icmp_lt (pc := 25) (tgt := 34) C dX8_person_25 rfl hF (fun hF => ?_) (fun hF => ?_)
    · refine J_aload_n (pc := 34) C dX8_person_34 rfl ?_
      refine J_getR (pc := 35) C dX8_person_35 fg_X8_23 hF (fun r35 hF => ?_)
      refine J_getR (pc := 38) C dX8_person_38 fg_X8_63 hF (fun r38 hF => ?_)
      refine J_iload_n (pc := 41) C dX8_person_41 rfl ?_
      refine J_bind hF (fun q42 hq hF => ?_)
      refine J_callV0_i (pc := 42) (stk := [.int x1, .ref r38]) (st := []) C dX8_person_42 yw_X7_addPerson w_MLX8_73 in_X7_addPerson sl_X7_addPerson ⟨_, rfl, rfl⟩ (kX7_addPerson hq) (gO_some hq).1 rfl (by decide) rfl (Nat.le_of_ble_eq_true rfl) ?_
      exact J_iret (pc := 45) C dX8_person_45 hF (by decide) (by decide)
    · refine J_aload_n (pc := 28) C dX8_person_28 rfl ?_
      refine J_iconst (pc := 29) C dX8_person_29 ic_4 ?_
      refine J_bind hF (fun q30 hq hF => ?_)
      refine J_callV0_i (pc := 30) (stk := [.int 4, .ref a0]) (st := []) C dX8_person_30 yw_X8_refuse w_MLX8_59 in_X8_refuse sl_X8_refuse ⟨_, rfl, rfl⟩ (kX8_refuse hq) (gO_some hq).1 rfl (by decide) rfl (Nat.le_of_ble_eq_true rfl) ?_
      exact J_iret (pc := 33) C dX8_person_33 hF (by decide) (by decide)
