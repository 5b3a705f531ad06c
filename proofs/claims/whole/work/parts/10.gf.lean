def fX8_personIs (h : Hp) (a0 : Nat) (x1 : Int32) (x2 : Int32) : Option (Int32 × Hp) := gO h 8 a0 (
  (getR h 8 a0 1).bind fun r1 =>
  (getR h 1 r1 0).bind fun r4 =>
  (fX7_hasPerson h r4 x1).bind fun q10 =>
  if q10 = 0 then
    (fX8_refuse h a0 1).bind fun q18 =>
    some (q18.1, q18.2)
  else
    if x2 = 0 then
      (getR h 7 r4 3).bind fun r53 =>
      (rdI h r53 x1).bind fun v57 =>
      some (v57, h)
    else
      if x2 = 1 then
        (getR h 7 r4 4).bind fun r60 =>
        (rdI h r60 x1).bind fun v64 =>
        some (v64, h)
      else
        if x2 = 2 then
          (fX7_bitsOfKnowers h r4 x1).bind fun q68 =>
          (fJ6_bitCount_0f7a4 q68).bind fun q71 =>
          some (q71, h)
        else
          if x2 = 3 then
            (fX7_leastOfHeap h r4 x1).bind fun q77 =>
            some (q77, h)
          else
            (fX8_refuse h a0 1).bind fun q83 =>
            some (q83.1, q83.2))
set_option maxRecDepth 100000 in
theorem kX8_personIs {h : Hp} {a0 : Nat} {x1 : Int32} {x2 : Int32} {z : (Int32 × Hp)} (hF : fX8_personIs h a0 x1 x2 = some z) : Mc yX8_personIs cX8_personIs 4 (some .int) 3 0 0 [.ref a0, .int x1, .int x2] h (some (.int z.1), z.2) := by
  have hF := (gO_some hF).2
  refine Mc_of [some (.ref a0), some (.int x1), some (.int x2), none] plX8 rfl rfl (Nat.le_of_ble_eq_true rfl) (fun X C => ?_)
  refine J_aload_n (pc := 0) C dX8_personIs_0 rfl ?_
  refine J_getR (pc := 1) C dX8_personIs_1 fg_X8_23 hF (fun r1 hF => ?_)
  refine J_getR (pc := 4) C dX8_personIs_4 fg_X8_63 hF (fun r4 hF => ?_)
  refine J_astore_n (pc := 7) (lv' := [some (.ref a0), some (.int x1), some (.int x2), some (.ref r4)]) C dX8_personIs_7 rfl ?_
  refine J_aload_n (pc := 8) C dX8_personIs_8 rfl ?_
  refine J_iload_n (pc := 9) C dX8_personIs_9 rfl ?_
  refine J_bind hF (fun q10 hq hF => ?_)
  refine J_callV0_ip (pc := 10) (stk := [.int x1, .ref r4]) (st := []) C dX8_personIs_10 yw_X7_hasPerson w_MLX8_76 in_X7_hasPerson sl_X7_hasPerson ⟨_, rfl, rfl⟩ (kX7_hasPerson hq) (gO_some hq).1 rfl (by decide) rfl (Nat.le_of_ble_eq_true rfl) ?_
  refine J_if_ne (pc := 13) (tgt := 22) C dX8_personIs_13 rfl hF (fun hF => ?_) (fun hF => ?_)
  · refine J_aload_n (pc := 16) C dX8_personIs_16 rfl ?_
    refine J_iconst (pc := 17) C dX8_personIs_17 ic_1 ?_
    refine J_bind hF (fun q18 hq hF => ?_)
    refine J_callV0_i (pc := 18) (stk := [.int 1, .ref a0]) (st := []) C dX8_personIs_18 yw_X8_refuse w_MLX8_59 in_X8_refuse sl_X8_refuse ⟨_, rfl, rfl⟩ (kX8_refuse hq) (gO_some hq).1 rfl (by decide) rfl (Nat.le_of_ble_eq_true rfl) ?_
    exact J_iret (pc := 21) C dX8_personIs_21 hF (by decide) (by decide)
  · refine J_iload_n (pc := 22) C dX8_personIs_22 rfl ?_
    refine J_br hF (fun hc23_0 hF => ?_) (fun hc23_0 hF => ?_)
    · refine J_tsIn (pc := 23) (tgt := 52) C 0 hc23_0 dX8_personIs_23 (by decide) (by decide) rfl rfl ?_
      refine J_aload_n (pc := 52) C dX8_personIs_52 rfl ?_
      refine J_getR (pc := 53) C dX8_personIs_53 fg_X8_79 hF (fun r53 hF => ?_)
      refine J_iload_n (pc := 56) C dX8_personIs_56 rfl ?_
      refine J_iald (pc := 57) C dX8_personIs_57 hF (fun v57 hF => ?_)
      exact J_iret (pc := 58) C dX8_personIs_58 hF (by decide) (by decide)
    · refine J_br hF (fun hc23_1 hF => ?_) (fun hc23_1 hF => ?_)
      · refine J_tsIn (pc := 23) (tgt := 59) C 1 hc23_1 dX8_personIs_23 (by decide) (by decide) rfl rfl ?_
        refine J_aload_n (pc := 59) C dX8_personIs_59 rfl ?_
        refine J_getR (pc := 60) C dX8_personIs_60 fg_X8_82 hF (fun r60 hF => ?_)
        refine J_iload_n (pc := 63) C dX8_personIs_63 rfl ?_
        refine J_iald (pc := 64) C dX8_personIs_64 hF (fun v64 hF => ?_)
        exact J_iret (pc := 65) C dX8_personIs_65 hF (by decide) (by decide)
      · refine J_br hF (fun hc23_2 hF => ?_) (fun hc23_2 hF => ?_)
        · refine J_tsIn (pc := 23) (tgt := 66) C 2 hc23_2 dX8_personIs_23 (by decide) (by decide) rfl rfl ?_
          refine J_aload_n (pc := 66) C dX8_personIs_66 rfl ?_
          refine J_iload_n (pc := 67) C dX8_personIs_67 rfl ?_
          refine J_bind hF (fun q68 hq hF => ?_)
          refine J_callV0_ip (pc := 68) (stk := [.int x1, .ref r4]) (st := []) C dX8_personIs_68 yw_X7_bitsOfKnowers w_MLX8_85 in_X7_bitsOfKnowers sl_X7_bitsOfKnowers ⟨_, rfl, rfl⟩ (kX7_bitsOfKnowers hq) (gO_some hq).1 rfl (by decide) rfl (Nat.le_of_ble_eq_true rfl) ?_
          refine J_bind hF (fun q71 hq hF => ?_)
          refine J_callS0_ip (pc := 71) (stk := [.int q68]) (st := []) C dX8_personIs_71 yw_J6_bitCount_0f7a4 w_MLX8_88 st_J6_bitCount_0f7a4 (kJ6_bitCount_0f7a4 hq) rfl (by decide) rfl (Nat.le_of_ble_eq_true rfl) ?_
          exact J_iret (pc := 74) C dX8_personIs_74 hF (by decide) (by decide)
        · refine J_br hF (fun hc23_3 hF => ?_) (fun hc23_3 hF => ?_)
          · refine J_tsIn (pc := 23) (tgt := 75) C 3 hc23_3 dX8_personIs_23 (by decide) (by decide) rfl rfl ?_
            refine J_aload_n (pc := 75) C dX8_personIs_75 rfl ?_
            refine J_iload_n (pc := 76) C dX8_personIs_76 rfl ?_
            refine J_bind hF (fun q77 hq hF => ?_)
            refine J_callV0_ip (pc := 77) (stk := [.int x1, .ref r4]) (st := []) C dX8_personIs_77 yw_X7_leastOfHeap w_MLX8_93 in_X7_leastOfHeap sl_X7_leastOfHeap ⟨_, rfl, rfl⟩ (kX7_leastOfHeap hq) (gO_some hq).1 rfl (by decide) rfl (Nat.le_of_ble_eq_true rfl) ?_
            exact J_iret (pc := 80) C dX8_personIs_80 hF (by decide) (by decide)
          · have hD : J X 0 0 0 0 81 [some (.ref a0), some (.int x1), some (.int x2), some (.ref r4)] [] h := by
              refine J_aload_n (pc := 81) C dX8_personIs_81 rfl ?_
              refine J_iconst (pc := 82) C dX8_personIs_82 ic_1 ?_
              refine J_bind hF (fun q83 hq hF => ?_)
              refine J_callV0_i (pc := 83) (stk := [.int 1, .ref a0]) (st := []) C dX8_personIs_83 yw_X8_refuse w_MLX8_59 in_X8_refuse sl_X8_refuse ⟨_, rfl, rfl⟩ (kX8_refuse hq) (gO_some hq).1 rfl (by decide) rfl (Nat.le_of_ble_eq_true rfl) ?_
              exact J_iret (pc := 86) C dX8_personIs_86 hF (by decide) (by decide)
            refine J_tsOut (pc := 23) (tgt := 81) C dX8_personIs_23 (by have z0 := lv_neT hc23_0 (a := 0) rfl; have z1 := lv_neT hc23_1 (a := 1) rfl; have z2 := lv_neT hc23_2 (a := 2) rfl; have z3 := lv_neT hc23_3 (a := 3) rfl; omega) rfl hD
def fX8_put (h : Hp) (a0 : Nat) (x1 : Int32) (x2 : Int32) (x3 : Int32) : Option (Int32 × Hp) := gO h 8 a0 (
  (getR h 8 a0 4).bind fun r1 =>
  (fX4_isOne h r1 x1).bind fun q5 =>
  if q5 = 0 then
    (fX8_refuse h a0 1).bind fun q13 =>
    some (q13.1, q13.2)
  else
    (getR h 8 a0 4).bind fun r18 =>
    (fX4_isMissing h r18 x1).bind fun q22 =>
    if q22 = 0 then
      if x2 < 0 then
        (fX8_refuse h a0 1).bind fun q53 =>
        some (q53.1, q53.2)
      else
        (getR h 8 a0 4).bind fun r40 =>
        (getR h 4 r40 1).bind fun r43 =>
        (rdI h r43 x1).bind fun v47 =>
        if x2 < v47 then
          (getR h 8 a0 4).bind fun r58 =>
          (fX4_write h r58 x1 x2 x3).bind fun q64 =>
          some (1, q64)
        else
          (fX8_refuse h a0 1).bind fun q53 =>
          some (q53.1, q53.2)
    else
      (fX8_refuse h a0 2).bind fun q30 =>
      some (q30.1, q30.2))
set_option maxRecDepth 100000 in
theorem kX8_put {h : Hp} {a0 : Nat} {x1 : Int32} {x2 : Int32} {x3 : Int32} {z : (Int32 × Hp)} (hF : fX8_put h a0 x1 x2 x3 = some z) : Mc yX8_put cX8_put 4 (some .int) 1 0 0 [.ref a0, .int x1, .int x2, .int x3] h (some (.int z.1), z.2) := by
  have hF := (gO_some hF).2
  refine Mc_of [some (.ref a0), some (.int x1), some (.int x2), some (.int x3)] plX8 rfl rfl (Nat.le_of_ble_eq_true rfl) (fun X C => ?_)
  refine J_aload_n (pc := 0) C dX8_put_0 rfl ?_
  refine J_getR (pc := 1) C dX8_put_1 fg_X8_40 hF (fun r1 hF => ?_)
  refine J_iload_n (pc := 4) C dX8_put_4 rfl ?_
  refine J_bind hF (fun q5 hq hF => ?_)
  refine J_callV0_ip (pc := 5) (stk := [.int x1, .ref r1]) (st := []) C dX8_put_5 yw_X4_isOne w_MLX8_292 in_X4_isOne sl_X4_isOne ⟨_, rfl, rfl⟩ (kX4_isOne hq) (gO_some hq).1 rfl (by decide) rfl (Nat.le_of_ble_eq_true rfl) ?_
  refine J_if_ne (pc := 8) (tgt := 17) C dX8_put_8 rfl hF (fun hF => ?_) (fun hF => ?_)
  · refine J_aload_n (pc := 11) C dX8_put_11 rfl ?_
    refine J_iconst (pc := 12) C dX8_put_12 ic_1 ?_
    refine J_bind hF (fun q13 hq hF => ?_)
    refine J_callV0_i (pc := 13) (stk := [.int 1, .ref a0]) (st := []) C dX8_put_13 yw_X8_refuse w_MLX8_59 in_X8_refuse sl_X8_refuse ⟨_, rfl, rfl⟩ (kX8_refuse hq) (gO_some hq).1 rfl (by decide) rfl (Nat.le_of_ble_eq_true rfl) ?_
    exact J_iret (pc := 16) C dX8_put_16 hF (by decide) (by decide)
  · refine J_aload_n (pc := 17) C dX8_put_17 rfl ?_
    refine J_getR (pc := 18) C dX8_put_18 fg_X8_40 hF (fun r18 hF => ?_)
    refine J_iload_n (pc := 21) C dX8_put_21 rfl ?_
    refine J_bind hF (fun q22 hq hF => ?_)
    refine J_callV0_ip (pc := 22) (stk := [.int x1, .ref r18]) (st := []) C dX8_put_22 yw_X4_isMissing w_MLX8_302 in_X4_isMissing sl_X4_isMissing ⟨_, rfl, rfl⟩ (kX4_isMissing hq) (gO_some hq).1 rfl (by decide) rfl (Nat.le_of_ble_eq_true rfl) ?_
    refine J_if_eq (pc := 25) (tgt := 34) C dX8_put_25 rfl hF (fun hF => ?_) (fun hF => ?_)
    · refine J_iload_n (pc := 34) C dX8_put_34 rfl ?_
      refine J_if_lt (pc := 35) (tgt := 51) C dX8_put_35 rfl hF (fun hF => ?_) (fun hF => ?_)
      · refine J_aload_n (pc := 51) C dX8_put_51 rfl ?_
        refine J_iconst (pc := 52) C dX8_put_52 ic_1 ?_
        refine J_bind hF (fun q53 hq hF => ?_)
        refine J_callV0_i (pc := 53) (stk := [.int 1, .ref a0]) (st := []) C dX8_put_53 yw_X8_refuse w_MLX8_59 in_X8_refuse sl_X8_refuse ⟨_, rfl, rfl⟩ (kX8_refuse hq) (gO_some hq).1 rfl (by decide) rfl (Nat.le_of_ble_eq_true rfl) ?_
        exact J_iret (pc := 56) C dX8_put_56 hF (by decide) (by decide)
      · refine J_iload_n (pc := 38) C dX8_put_38 rfl ?_
        refine J_aload_n (pc := 39) C dX8_put_39 rfl ?_
        refine J_getR (pc := 40) C dX8_put_40 fg_X8_40 hF (fun r40 hF => ?_)
        refine J_getR (pc := 43) C dX8_put_43 fg_X8_305 hF (fun r43 hF => ?_)
        refine J_iload_n (pc := 46) C dX8_put_46 rfl ?_
        refine J_iald (pc := 47) C dX8_put_47 hF (fun v47 hF => ?_)
        refine J_icmp_lt (pc := 48) (tgt := 57) C dX8_put_48 rfl hF (fun hF => ?_) (fun hF => ?_)
        · refine J_aload_n (pc := 57) C dX8_put_57 rfl ?_
          refine J_getR (pc := 58) C dX8_put_58 fg_X8_40 hF (fun r58 hF => ?_)
          refine J_iload_n (pc := 61) C dX8_put_61 rfl ?_
          refine J_iload_n (pc := 62) C dX8_put_62 rfl ?_
          refine J_iload_n (pc := 63) C dX8_put_63 rfl ?_
          refine J_bind hF (fun q64 hq hF => ?_)
          refine J_callV0_v (pc := 64) (stk := [.int x3, .int x2, .int x1, .ref r58]) (st := []) C dX8_put_64 yw_X4_write w_MLX8_307 in_X4_write sl_X4_write ⟨_, rfl, rfl⟩ (kX4_write hq) (gO_some hq).1 rfl (by decide) rfl (Nat.le_of_ble_eq_true rfl) ?_
          refine J_iconst (pc := 67) C dX8_put_67 ic_1 ?_
          exact J_iret (pc := 68) C dX8_put_68 hF (by decide) (by decide)
        · refine J_aload_n (pc := 51) C dX8_put_51 rfl ?_
          refine J_iconst (pc := 52) C dX8_put_52 ic_1 ?_
          refine J_bind hF (fun q53 hq hF => ?_)
          refine J_callV0_i (pc := 53) (stk := [.int 1, .ref a0]) (st := []) C dX8_put_53 yw_X8_refuse w_MLX8_59 in_X8_refuse sl_X8_refuse ⟨_, rfl, rfl⟩ (kX8_refuse hq) (gO_some hq).1 rfl (by decide) rfl (Nat.le_of_ble_eq_true rfl) ?_
          exact J_iret (pc := 56) C dX8_put_56 hF (by decide) (by decide)
    · refine J_aload_n (pc := 28) C dX8_put_28 rfl ?_
      refine J_iconst (pc := 29) C dX8_put_29 ic_2 ?_
      refine J_bind hF (fun q30 hq hF => ?_)
      refine J_callV0_i (pc := 30) (stk := [.int 2, .ref a0]) (st := []) C dX8_put_30 yw_X8_refuse w_MLX8_59 in_X8_refuse sl_X8_refuse ⟨_, rfl, rfl⟩ (kX8_refuse hq) (gO_some hq).1 rfl (by decide) rfl (Nat.le_of_ble_eq_true rfl) ?_
      exact J_iret (pc := 33) C dX8_put_33 hF (by decide) (by decide)
def fX8_restore (h : Hp) (a0 : Nat) : Option (Int32 × Hp) := gO h 8 a0 (
  (getI h 8 a0 7).bind fun v1 =>
  if v1 = 0 then
    (fX8_refuse h a0 2).bind fun q9 =>
    some (q9.1, q9.2)
  else
    (getR h 8 a0 1).bind fun r14 =>
    (getR h 8 a0 2).bind fun r18 =>
    (fX1_copyFrom h r14 r18).bind fun q21 =>
    (getR q21 8 a0 1).bind fun r25 =>
    (getR q21 1 r25 0).bind fun r28 =>
    (getI q21 7 r28 0).bind fun v31 =>
    some (v31, q21))
set_option maxRecDepth 100000 in
theorem kX8_restore {h : Hp} {a0 : Nat} {z : (Int32 × Hp)} (hF : fX8_restore h a0 = some z) : Mc yX8_restore cX8_restore 1 (some .int) 3 0 0 [.ref a0] h (some (.int z.1), z.2) := by
  have hF := (gO_some hF).2
  refine Mc_of [some (.ref a0)] plX8 rfl rfl (Nat.le_of_ble_eq_true rfl) (fun X C => ?_)
  refine J_aload_n (pc := 0) C dX8_restore_0 rfl ?_
  refine J_getI (pc := 1) C dX8_restore_1 fg_X8_265 hF (fun v1 hF => ?_)
  refine J_if_ne (pc := 4) (tgt := 13) C dX8_restore_4 rfl hF (fun hF => ?_) (fun hF => ?_)
  · refine J_aload_n (pc := 7) C dX8_restore_7 rfl ?_
    refine J_iconst (pc := 8) C dX8_restore_8 ic_2 ?_
    refine J_bind hF (fun q9 hq hF => ?_)
    refine J_callV0_i (pc := 9) (stk := [.int 2, .ref a0]) (st := []) C dX8_restore_9 yw_X8_refuse w_MLX8_59 in_X8_refuse sl_X8_refuse ⟨_, rfl, rfl⟩ (kX8_refuse hq) (gO_some hq).1 rfl (by decide) rfl (Nat.le_of_ble_eq_true rfl) ?_
    exact J_iret (pc := 12) C dX8_restore_12 hF (by decide) (by decide)
  · refine J_aload_n (pc := 13) C dX8_restore_13 rfl ?_
    refine J_getR (pc := 14) C dX8_restore_14 fg_X8_23 hF (fun r14 hF => ?_)
    refine J_aload_n (pc := 17) C dX8_restore_17 rfl ?_
    refine J_getR (pc := 18) C dX8_restore_18 fg_X8_27 hF (fun r18 hF => ?_)
    refine J_bind hF (fun q21 hq hF => ?_)
    refine J_callV0_v (pc := 21) (stk := [.ref r18, .ref r14]) (st := []) C dX8_restore_21 yw_X1_copyFrom w_MLX8_327 in_X1_copyFrom sl_X1_copyFrom ⟨_, rfl, rfl⟩ (kX1_copyFrom hq) (gO_some hq).1 rfl (by decide) rfl (Nat.le_of_ble_eq_true rfl) ?_
    refine J_aload_n (pc := 24) C dX8_restore_24 rfl ?_
    refine J_getR (pc := 25) C dX8_restore_25 fg_X8_23 hF (fun r25 hF => ?_)
    refine J_getR (pc := 28) C dX8_restore_28 fg_X8_63 hF (fun r28 hF => ?_)
    refine J_getI (pc := 31) C dX8_restore_31 fg_X8_184 hF (fun v31 hF => ?_)
    exact J_iret (pc := 34) C dX8_restore_34 hF (by decide) (by decide)
def fX8_rows (h : Hp) (a0 : Nat) (x1 : Int32) (x2 : Int32) : Option (Int32 × Hp) := gO h 8 a0 (
  if x1 < 0 then
    (fX8_refuse h a0 1).bind fun q20 =>
    some (q20.1, q20.2)
  else
    if (3 : Int32) < x1 then
      (fX8_refuse h a0 1).bind fun q20 =>
      some (q20.1, q20.2)
    else
      if x2 < 0 then
        (fX8_refuse h a0 1).bind fun q20 =>
        some (q20.1, q20.2)
      else
        if x2 ≤ 1 then
          (getI h 8 a0 7).bind fun v25 =>
          if v25 = 0 then
            (fX8_refuse h a0 2).bind fun q33 =>
            some (q33.1, q33.2)
          else
            (getR h 8 a0 3).bind fun r38 =>
            (getR h 8 a0 2).bind fun r42 =>
            (getR h 1 r42 0).bind fun r45 =>
            (getR h 8 a0 1).bind fun r49 =>
            (getR h 1 r49 0).bind fun r52 =>
            (fX6_findRows h r38 r45 r52 x1).bind fun q56 =>
            if x2 = 0 then
              (getR q56 8 a0 3).bind fun r64 =>
              (getI q56 6 r64 6).bind fun v67 =>
              some (v67, q56)
            else
              (getR q56 8 a0 3).bind fun r74 =>
              (getI q56 6 r74 7).bind fun v77 =>
              some (v77, q56)
        else
          (fX8_refuse h a0 1).bind fun q20 =>
          some (q20.1, q20.2))
set_option maxRecDepth 100000 in
theorem kX8_rows {h : Hp} {a0 : Nat} {x1 : Int32} {x2 : Int32} {z : (Int32 × Hp)} (hF : fX8_rows h a0 x1 x2 = some z) : Mc yX8_rows cX8_rows 3 (some .int) 15 0 0 [.ref a0, .int x1, .int x2] h (some (.int z.1), z.2) := by
  have hF := (gO_some hF).2
  refine Mc_of [some (.ref a0), some (.int x1), some (.int x2)] plX8 rfl rfl (Nat.le_of_ble_eq_true rfl) (fun X C => ?_)
  refine J_iload_n (pc := 0) C dX8_rows_0 rfl ?_
  refine J_if_lt (pc := 1) (tgt := 18) C dX8_rows_1 rfl hF (fun hF => ?_) (fun hF => ?_)
  · refine J_aload_n (pc := 18) C dX8_rows_18 rfl ?_
    refine J_iconst (pc := 19) C dX8_rows_19 ic_1 ?_
    refine J_bind hF (fun q20 hq hF => ?_)
    refine J_callV0_i (pc := 20) (stk := [.int 1, .ref a0]) (st := []) C dX8_rows_20 yw_X8_refuse w_MLX8_59 in_X8_refuse sl_X8_refuse ⟨_, rfl, rfl⟩ (kX8_refuse hq) (gO_some hq).1 rfl (by decide) rfl (Nat.le_of_ble_eq_true rfl) ?_
    exact J_iret (pc := 23) C dX8_rows_23 hF (by decide) (by decide)
  · refine J_iload_n (pc := 4) C dX8_rows_4 rfl ?_
    refine J_iconst (pc := 5) C dX8_rows_5 ic_3 ?_
    refine J_icmp_gt (pc := 6) (tgt := 18) C dX8_rows_6 rfl hF (fun hF => ?_) (fun hF => ?_)
    · refine J_aload_n (pc := 18) C dX8_rows_18 rfl ?_
      refine J_iconst (pc := 19) C dX8_rows_19 ic_1 ?_
      refine J_bind hF (fun q20 hq hF => ?_)
      refine J_callV0_i (pc := 20) (stk := [.int 1, .ref a0]) (st := []) C dX8_rows_20 yw_X8_refuse w_MLX8_59 in_X8_refuse sl_X8_refuse ⟨_, rfl, rfl⟩ (kX8_refuse hq) (gO_some hq).1 rfl (by decide) rfl (Nat.le_of_ble_eq_true rfl) ?_
      exact J_iret (pc := 23) C dX8_rows_23 hF (by decide) (by decide)
    · refine J_iload_n (pc := 9) C dX8_rows_9 rfl ?_
      refine J_if_lt (pc := 10) (tgt := 18) C dX8_rows_10 rfl hF (fun hF => ?_) (fun hF => ?_)
      · refine J_aload_n (pc := 18) C dX8_rows_18 rfl ?_
        refine J_iconst (pc := 19) C dX8_rows_19 ic_1 ?_
        refine J_bind hF (fun q20 hq hF => ?_)
        refine J_callV0_i (pc := 20) (stk := [.int 1, .ref a0]) (st := []) C dX8_rows_20 yw_X8_refuse w_MLX8_59 in_X8_refuse sl_X8_refuse ⟨_, rfl, rfl⟩ (kX8_refuse hq) (gO_some hq).1 rfl (by decide) rfl (Nat.le_of_ble_eq_true rfl) ?_
        exact J_iret (pc := 23) C dX8_rows_23 hF (by decide) (by decide)
      · refine J_iload_n (pc := 13) C dX8_rows_13 rfl ?_
        refine J_iconst (pc := 14) C dX8_rows_14 ic_1 ?_
        refine J_icmp_le (pc := 15) (tgt := 24) C dX8_rows_15 rfl hF (fun hF => ?_) (fun hF => ?_)
        · refine J_aload_n (pc := 24) C dX8_rows_24 rfl ?_
          refine J_getI (pc := 25) C dX8_rows_25 fg_X8_265 hF (fun v25 hF => ?_)
          refine J_if_ne (pc := 28) (tgt := 37) C dX8_rows_28 rfl hF (fun hF => ?_) (fun hF => ?_)
          · refine J_aload_n (pc := 31) C dX8_rows_31 rfl ?_
            refine J_iconst (pc := 32) C dX8_rows_32 ic_2 ?_
            refine J_bind hF (fun q33 hq hF => ?_)
            refine J_callV0_i (pc := 33) (stk := [.int 2, .ref a0]) (st := []) C dX8_rows_33 yw_X8_refuse w_MLX8_59 in_X8_refuse sl_X8_refuse ⟨_, rfl, rfl⟩ (kX8_refuse hq) (gO_some hq).1 rfl (by decide) rfl (Nat.le_of_ble_eq_true rfl) ?_
            exact J_iret (pc := 36) C dX8_rows_36 hF (by decide) (by decide)
          · refine J_aload_n (pc := 37) C dX8_rows_37 rfl ?_
            refine J_getR (pc := 38) C dX8_rows_38 fg_X8_33 hF (fun r38 hF => ?_)
            refine J_aload_n (pc := 41) C dX8_rows_41 rfl ?_
            refine J_getR (pc := 42) C dX8_rows_42 fg_X8_27 hF (fun r42 hF => ?_)
            refine J_getR (pc := 45) C dX8_rows_45 fg_X8_63 hF (fun r45 hF => ?_)
            refine J_aload_n (pc := 48) C dX8_rows_48 rfl ?_
            refine J_getR (pc := 49) C dX8_rows_49 fg_X8_23 hF (fun r49 hF => ?_)
            refine J_getR (pc := 52) C dX8_rows_52 fg_X8_63 hF (fun r52 hF => ?_)
            refine J_iload_n (pc := 55) C dX8_rows_55 rfl ?_
            refine J_bind hF (fun q56 hq hF => ?_)
            refine J_callV0_v (pc := 56) (stk := [.int x1, .ref r52, .ref r45, .ref r38]) (st := []) C dX8_rows_56 yw_X6_findRows w_MLX8_268 in_X6_findRows sl_X6_findRows ⟨_, rfl, rfl⟩ (kX6_findRows hq) (gO_some hq).1 rfl (by decide) rfl (Nat.le_of_ble_eq_true rfl) ?_
            refine J_iload_n (pc := 59) C dX8_rows_59 rfl ?_
            refine J_if_ne (pc := 60) (tgt := 73) C dX8_rows_60 rfl hF (fun hF => ?_) (fun hF => ?_)
            · refine J_aload_n (pc := 63) C dX8_rows_63 rfl ?_
              refine J_getR (pc := 64) C dX8_rows_64 fg_X8_33 hF (fun r64 hF => ?_)
              refine J_getI (pc := 67) C dX8_rows_67 fg_X8_272 hF (fun v67 hF => ?_)
              refine J_goto (pc := 70) (tgt := 80) C dX8_rows_70 rfl ?_
              exact J_iret (pc := 80) C dX8_rows_80 hF (by decide) (by decide)
            · refine J_aload_n (pc := 73) C dX8_rows_73 rfl ?_
              refine J_getR (pc := 74) C dX8_rows_74 fg_X8_33 hF (fun r74 hF => ?_)
              refine J_getI (pc := 77) C dX8_rows_77 fg_X8_275 hF (fun v77 hF => ?_)
              exact J_iret (pc := 80) C dX8_rows_80 hF (by decide) (by decide)
        · refine J_aload_n (pc := 18) C dX8_rows_18 rfl ?_
          refine J_iconst (pc := 19) C dX8_rows_19 ic_1 ?_
          refine J_bind hF (fun q20 hq hF => ?_)
          refine J_callV0_i (pc := 20) (stk := [.int 1, .ref a0]) (st := []) C dX8_rows_20 yw_X8_refuse w_MLX8_59 in_X8_refuse sl_X8_refuse ⟨_, rfl, rfl⟩ (kX8_refuse hq) (gO_some hq).1 rfl (by decide) rfl (Nat.le_of_ble_eq_true rfl) ?_
          exact J_iret (pc := 23) C dX8_rows_23 hF (by decide) (by decide)
def fX8_seed (h : Hp) (a0 : Nat) (x1 : Int32) : Option (Int32 × Hp) := gO h 8 a0 (
  (getR h 8 a0 1).bind fun r1 =>
  (getI h 1 r1 8).bind fun v4 =>
  (getR h 8 a0 1).bind fun r9 =>
  (putV h 1 r9 8 (.int x1)).bind fun h13 =>
  some (v4, h13))
set_option maxRecDepth 100000 in
theorem kX8_seed {h : Hp} {a0 : Nat} {x1 : Int32} {z : (Int32 × Hp)} (hF : fX8_seed h a0 x1 = some z) : Mc yX8_seed cX8_seed 3 (some .int) 0 0 0 [.ref a0, .int x1] h (some (.int z.1), z.2) := by
  have hF := (gO_some hF).2
  refine Mc_of [some (.ref a0), some (.int x1), none] plX8 rfl rfl (Nat.le_of_ble_eq_true rfl) (fun X C => ?_)
  refine J_aload_n (pc := 0) C dX8_seed_0 rfl ?_
  refine J_getR (pc := 1) C dX8_seed_1 fg_X8_23 hF (fun r1 hF => ?_)
  refine J_getI (pc := 4) C dX8_seed_4 fg_X8_194 hF (fun v4 hF => ?_)
  refine J_istore_n (pc := 7) (lv' := [some (.ref a0), some (.int x1), some (.int v4)]) C dX8_seed_7 rfl ?_
  refine J_aload_n (pc := 8) C dX8_seed_8 rfl ?_
  refine J_getR (pc := 9) C dX8_seed_9 fg_X8_23 hF (fun r9 hF => ?_)
  refine J_iload_n (pc := 12) C dX8_seed_12 rfl ?_
  refine J_put (pc := 13) C dX8_seed_13 (fp_X8_194 _) hF rfl rfl (fun h13 hF => ?_)
  refine J_iload_n (pc := 16) C dX8_seed_16 rfl ?_
  exact J_iret (pc := 17) C dX8_seed_17 hF (by decide) (by decide)
def fX8_setMan_72 (h : Hp) (a0 : Nat) (x1 : Int32) (x2 : Int32) (x3 : Int32) (a4 : Nat) : Option (Int32 × Hp) :=
  if x2 = 2 then
    (fX8_isBank x3).bind fun q78 =>
    if q78 = 0 then
      (fX8_refuse h a0 1).bind fun q97 =>
      some (q97.1, q97.2)
    else
      (getR h 7 a4 7).bind fun r86 =>
      (fX8_exchange h r86 x1 x3).bind fun q91 =>
      some (q91.1, q91.2)
  else
    (fX8_refuse h a0 1).bind fun q97 =>
    some (q97.1, q97.2)
set_option maxRecDepth 100000 in
theorem kX8_setMan_72 {X : Cx} {z : (Int32 × Hp)} (C : Jc X yX8_setMan cX8_setMan 5 (some .int) 1 0 0 (some (.int z.1), z.2)) (h : Hp) (a0 : Nat) (x1 : Int32) (x2 : Int32) (x3 : Int32) (a4 : Nat) (hF : fX8_setMan_72 h a0 x1 x2 x3 a4 = some z) : J X 0 0 0 0 72 [some (.ref a0), some (.int x1), some (.int x2), some (.int x3), some (.ref a4)] [] h := by
  unfold fX8_setMan_72 at hF
  refine J_iload_n (pc := 72) C dX8_setMan_72 rfl ?_
  refine J_iconst (pc := 73) C dX8_setMan_73 ic_2 ?_
  refine J_icmp_ne (pc := 74) (tgt := 95) C dX8_setMan_74 rfl hF (fun hF => ?_) (fun hF => ?_)
  · refine J_iload_n (pc := 77) C dX8_setMan_77 rfl ?_
    refine J_bind hF (fun q78 hq hF => ?_)
    refine J_callS0_ip (pc := 78) (stk := [.int x3]) (st := []) C dX8_setMan_78 yw_X8_isBank w_MLX8_55 st_X8_isBank (kX8_isBank hq) rfl (by decide) rfl (Nat.le_of_ble_eq_true rfl) ?_
    refine J_if_eq (pc := 81) (tgt := 95) C dX8_setMan_81 rfl hF (fun hF => ?_) (fun hF => ?_)
    · refine J_aload_n (pc := 95) C dX8_setMan_95 rfl ?_
      refine J_iconst (pc := 96) C dX8_setMan_96 ic_1 ?_
      refine J_bind hF (fun q97 hq hF => ?_)
      refine J_callV0_i (pc := 97) (stk := [.int 1, .ref a0]) (st := []) C dX8_setMan_97 yw_X8_refuse w_MLX8_59 in_X8_refuse sl_X8_refuse ⟨_, rfl, rfl⟩ (kX8_refuse hq) (gO_some hq).1 rfl (by decide) rfl (Nat.le_of_ble_eq_true rfl) ?_
      exact J_iret (pc := 100) C dX8_setMan_100 hF (by decide) (by decide)
    · refine J_aload (pc := 84) C dX8_setMan_84 rfl ?_
      refine J_getR (pc := 86) C dX8_setMan_86 fg_X8_112 hF (fun r86 hF => ?_)
      refine J_iload_n (pc := 89) C dX8_setMan_89 rfl ?_
      refine J_iload_n (pc := 90) C dX8_setMan_90 rfl ?_
      refine J_bind hF (fun q91 hq hF => ?_)
      refine J_callS0_i (pc := 91) (stk := [.int x3, .int x1, .ref r86]) (st := []) C dX8_setMan_91 yw_X8_exchange w_MLX8_138 st_X8_exchange (kX8_exchange hq) rfl (by decide) rfl (Nat.le_of_ble_eq_true rfl) ?_
      exact J_iret (pc := 94) C dX8_setMan_94 hF (by decide) (by decide)
  · refine J_aload_n (pc := 95) C dX8_setMan_95 rfl ?_
    refine J_iconst (pc := 96) C dX8_setMan_96 ic_1 ?_
    refine J_bind hF (fun q97 hq hF => ?_)
    refine J_callV0_i (pc := 97) (stk := [.int 1, .ref a0]) (st := []) C dX8_setMan_97 yw_X8_refuse w_MLX8_59 in_X8_refuse sl_X8_refuse ⟨_, rfl, rfl⟩ (kX8_refuse hq) (gO_some hq).1 rfl (by decide) rfl (Nat.le_of_ble_eq_true rfl) ?_
    exact J_iret (pc := 100) C dX8_setMan_100 hF (by decide) (by decide)
def fX8_setMan_46 (h : Hp) (a0 : Nat) (x1 : Int32) (x2 : Int32) (x3 : Int32) (a4 : Nat) : Option (Int32 × Hp) :=
  if x2 = 1 then
    if x3 < 0 then
      fX8_setMan_72 h a0 x1 x2 x3 a4
    else
      if (9 : Int32) < x3 then
        fX8_setMan_72 h a0 x1 x2 x3 a4
      else
        (getR h 7 a4 6).bind fun r63 =>
        (fX8_exchange h r63 x1 x3).bind fun q68 =>
        some (q68.1, q68.2)
  else
    fX8_setMan_72 h a0 x1 x2 x3 a4
set_option maxRecDepth 100000 in
theorem kX8_setMan_46 {X : Cx} {z : (Int32 × Hp)} (C : Jc X yX8_setMan cX8_setMan 5 (some .int) 1 0 0 (some (.int z.1), z.2)) (h : Hp) (a0 : Nat) (x1 : Int32) (x2 : Int32) (x3 : Int32) (a4 : Nat) (hF : fX8_setMan_46 h a0 x1 x2 x3 a4 = some z) : J X 0 0 0 0 46 [some (.ref a0), some (.int x1), some (.int x2), some (.int x3), some (.ref a4)] [] h := by
  unfold fX8_setMan_46 at hF
  refine J_iload_n (pc := 46) C dX8_setMan_46 rfl ?_
  refine J_iconst (pc := 47) C dX8_setMan_47 ic_1 ?_
  refine J_icmp_ne (pc := 48) (tgt := 72) C dX8_setMan_48 rfl hF (fun hF => ?_) (fun hF => ?_)
  · refine J_iload_n (pc := 51) C dX8_setMan_51 rfl ?_
    refine J_if_lt (pc := 52) (tgt := 72) C dX8_setMan_52 rfl hF (fun hF => ?_) (fun hF => ?_)
    · exact kX8_setMan_72 C h a0 x1 x2 x3 a4 hF
    · refine J_iload_n (pc := 55) C dX8_setMan_55 rfl ?_
      refine J_bipush (pc := 56) C dX8_setMan_56 bc_9 ?_
      refine J_icmp_gt (pc := 58) (tgt := 72) C dX8_setMan_58 rfl hF (fun hF => ?_) (fun hF => ?_)
      · exact kX8_setMan_72 C h a0 x1 x2 x3 a4 hF
      · refine J_aload (pc := 61) C dX8_setMan_61 rfl ?_
        refine J_getR (pc := 63) C dX8_setMan_63 fg_X8_109 hF (fun r63 hF => ?_)
        refine J_iload_n (pc := 66) C dX8_setMan_66 rfl ?_
        refine J_iload_n (pc := 67) C dX8_setMan_67 rfl ?_
        refine J_bind hF (fun q68 hq hF => ?_)
        refine J_callS0_i (pc := 68) (stk := [.int x3, .int x1, .ref r63]) (st := []) C dX8_setMan_68 yw_X8_exchange w_MLX8_138 st_X8_exchange (kX8_exchange hq) rfl (by decide) rfl (Nat.le_of_ble_eq_true rfl) ?_
        exact J_iret (pc := 71) C dX8_setMan_71 hF (by decide) (by decide)
  · exact kX8_setMan_72 C h a0 x1 x2 x3 a4 hF
def fX8_setMan (h : Hp) (a0 : Nat) (x1 : Int32) (x2 : Int32) (x3 : Int32) : Option (Int32 × Hp) := gO h 8 a0 (
  (getR h 8 a0 1).bind fun r1 =>
  (getR h 1 r1 0).bind fun r4 =>
  (fX7_hasMan h r4 x1).bind fun q12 =>
  if q12 = 0 then
    (fX8_refuse h a0 1).bind fun q20 =>
    some (q20.1, q20.2)
  else
    if x2 = 0 then
      (fX8_isKind x3).bind fun q29 =>
      if q29 = 0 then
        fX8_setMan_46 h a0 x1 x2 x3 r4
      else
        (getR h 7 r4 5).bind fun r37 =>
        (fX8_exchange h r37 x1 x3).bind fun q42 =>
        some (q42.1, q42.2)
    else
      fX8_setMan_46 h a0 x1 x2 x3 r4)
set_option maxRecDepth 100000 in
theorem kX8_setMan {h : Hp} {a0 : Nat} {x1 : Int32} {x2 : Int32} {x3 : Int32} {z : (Int32 × Hp)} (hF : fX8_setMan h a0 x1 x2 x3 = some z) : Mc yX8_setMan cX8_setMan 5 (some .int) 1 0 0 [.ref a0, .int x1, .int x2, .int x3] h (some (.int z.1), z.2) := by
  have hF := (gO_some hF).2
  refine Mc_of [some (.ref a0), some (.int x1), some (.int x2), some (.int x3), none] plX8 rfl rfl (Nat.le_of_ble_eq_true rfl) (fun X C => ?_)
  refine J_aload_n (pc := 0) C dX8_setMan_0 rfl ?_
  refine J_getR (pc := 1) C dX8_setMan_1 fg_X8_23 hF (fun r1 hF => ?_)
  refine J_getR (pc := 4) C dX8_setMan_4 fg_X8_63 hF (fun r4 hF => ?_)
  refine J_astore (pc := 7) (lv' := [some (.ref a0), some (.int x1), some (.int x2), some (.int x3), some (.ref r4)]) C dX8_setMan_7 rfl ?_
  refine J_aload (pc := 9) C dX8_setMan_9 rfl ?_
  refine J_iload_n (pc := 11) C dX8_setMan_11 rfl ?_
  refine J_bind hF (fun q12 hq hF => ?_)
  refine J_callV0_ip (pc := 12) (stk := [.int x1, .ref r4]) (st := []) C dX8_setMan_12 yw_X7_hasMan w_MLX8_103 in_X7_hasMan sl_X7_hasMan ⟨_, rfl, rfl⟩ (kX7_hasMan hq) (gO_some hq).1 rfl (by decide) rfl (Nat.le_of_ble_eq_true rfl) ?_
  refine J_if_ne (pc := 15) (tgt := 24) C dX8_setMan_15 rfl hF (fun hF => ?_) (fun hF => ?_)
  · refine J_aload_n (pc := 18) C dX8_setMan_18 rfl ?_
    refine J_iconst (pc := 19) C dX8_setMan_19 ic_1 ?_
    refine J_bind hF (fun q20 hq hF => ?_)
    refine J_callV0_i (pc := 20) (stk := [.int 1, .ref a0]) (st := []) C dX8_setMan_20 yw_X8_refuse w_MLX8_59 in_X8_refuse sl_X8_refuse ⟨_, rfl, rfl⟩ (kX8_refuse hq) (gO_some hq).1 rfl (by decide) rfl (Nat.le_of_ble_eq_true rfl) ?_
    exact J_iret (pc := 23) C dX8_setMan_23 hF (by decide) (by decide)
  · refine J_iload_n (pc := 24) C dX8_setMan_24 rfl ?_
    refine J_if_ne (pc := 25) (tgt := 46) C dX8_setMan_25 rfl hF (fun hF => ?_) (fun hF => ?_)
    · refine J_iload_n (pc := 28) C dX8_setMan_28 rfl ?_
      refine J_bind hF (fun q29 hq hF => ?_)
      refine J_callS0_ip (pc := 29) (stk := [.int x3]) (st := []) C dX8_setMan_29 yw_X8_isKind w_MLX8_131 st_X8_isKind (kX8_isKind hq) rfl (by decide) rfl (Nat.le_of_ble_eq_true rfl) ?_
      refine J_if_eq (pc := 32) (tgt := 46) C dX8_setMan_32 rfl hF (fun hF => ?_) (fun hF => ?_)
      · exact kX8_setMan_46 C h a0 x1 x2 x3 r4 hF
      · refine J_aload (pc := 35) C dX8_setMan_35 rfl ?_
        refine J_getR (pc := 37) C dX8_setMan_37 fg_X8_106 hF (fun r37 hF => ?_)
        refine J_iload_n (pc := 40) C dX8_setMan_40 rfl ?_
        refine J_iload_n (pc := 41) C dX8_setMan_41 rfl ?_
        refine J_bind hF (fun q42 hq hF => ?_)
        refine J_callS0_i (pc := 42) (stk := [.int x3, .int x1, .ref r37]) (st := []) C dX8_setMan_42 yw_X8_exchange w_MLX8_138 st_X8_exchange (kX8_exchange hq) rfl (by decide) rfl (Nat.le_of_ble_eq_true rfl) ?_
        exact J_iret (pc := 45) C dX8_setMan_45 hF (by decide) (by decide)
    · exact kX8_setMan_46 C h a0 x1 x2 x3 r4 hF
def fX8_setPerson_46 (h : Hp) (a0 : Nat) (x1 : Int32) (x2 : Int32) (x3 : Int32) (a4 : Nat) : Option (Int32 × Hp) :=
  if x2 = 1 then
    if x3 < 0 then
      (fX8_refuse h a0 1).bind fun q75 =>
      some (q75.1, q75.2)
    else
      if (9999 : Int32) < x3 then
        (fX8_refuse h a0 1).bind fun q75 =>
        some (q75.1, q75.2)
      else
        (getR h 7 a4 4).bind fun r64 =>
        (fX8_exchange h r64 x1 x3).bind fun q69 =>
        some (q69.1, q69.2)
  else
    (fX8_refuse h a0 1).bind fun q75 =>
    some (q75.1, q75.2)
set_option maxRecDepth 100000 in
theorem kX8_setPerson_46 {X : Cx} {z : (Int32 × Hp)} (C : Jc X yX8_setPerson cX8_setPerson 5 (some .int) 1 0 0 (some (.int z.1), z.2)) (h : Hp) (a0 : Nat) (x1 : Int32) (x2 : Int32) (x3 : Int32) (a4 : Nat) (hF : fX8_setPerson_46 h a0 x1 x2 x3 a4 = some z) : J X 0 0 0 0 46 [some (.ref a0), some (.int x1), some (.int x2), some (.int x3), some (.ref a4)] [] h := by
  unfold fX8_setPerson_46 at hF
  refine J_iload_n (pc := 46) C dX8_setPerson_46 rfl ?_
  refine J_iconst (pc := 47) C dX8_setPerson_47 ic_1 ?_
  refine J_icmp_ne (pc := 48) (tgt := 73) C dX8_setPerson_48 rfl hF (fun hF => ?_) (fun hF => ?_)
  · refine J_iload_n (pc := 51) C dX8_setPerson_51 rfl ?_
    refine J_if_lt (pc := 52) (tgt := 73) C dX8_setPerson_52 rfl hF (fun hF => ?_) (fun hF => ?_)
    · refine J_aload_n (pc := 73) C dX8_setPerson_73 rfl ?_
      refine J_iconst (pc := 74) C dX8_setPerson_74 ic_1 ?_
      refine J_bind hF (fun q75 hq hF => ?_)
      refine J_callV0_i (pc := 75) (stk := [.int 1, .ref a0]) (st := []) C dX8_setPerson_75 yw_X8_refuse w_MLX8_59 in_X8_refuse sl_X8_refuse ⟨_, rfl, rfl⟩ (kX8_refuse hq) (gO_some hq).1 rfl (by decide) rfl (Nat.le_of_ble_eq_true rfl) ?_
      exact J_iret (pc := 78) C dX8_setPerson_78 hF (by decide) (by decide)
    · refine J_iload_n (pc := 55) C dX8_setPerson_55 rfl ?_
      refine J_sipush (pc := 56) C dX8_setPerson_56 sc_9999 ?_
      refine J_icmp_gt (pc := 59) (tgt := 73) C dX8_setPerson_59 rfl hF (fun hF => ?_) (fun hF => ?_)
      · refine J_aload_n (pc := 73) C dX8_setPerson_73 rfl ?_
        refine J_iconst (pc := 74) C dX8_setPerson_74 ic_1 ?_
        refine J_bind hF (fun q75 hq hF => ?_)
        refine J_callV0_i (pc := 75) (stk := [.int 1, .ref a0]) (st := []) C dX8_setPerson_75 yw_X8_refuse w_MLX8_59 in_X8_refuse sl_X8_refuse ⟨_, rfl, rfl⟩ (kX8_refuse hq) (gO_some hq).1 rfl (by decide) rfl (Nat.le_of_ble_eq_true rfl) ?_
        exact J_iret (pc := 78) C dX8_setPerson_78 hF (by decide) (by decide)
      · refine J_aload (pc := 62) C dX8_setPerson_62 rfl ?_
        refine J_getR (pc := 64) C dX8_setPerson_64 fg_X8_82 hF (fun r64 hF => ?_)
        refine J_iload_n (pc := 67) C dX8_setPerson_67 rfl ?_
        refine J_iload_n (pc := 68) C dX8_setPerson_68 rfl ?_
        refine J_bind hF (fun q69 hq hF => ?_)
        refine J_callS0_i (pc := 69) (stk := [.int x3, .int x1, .ref r64]) (st := []) C dX8_setPerson_69 yw_X8_exchange w_MLX8_138 st_X8_exchange (kX8_exchange hq) rfl (by decide) rfl (Nat.le_of_ble_eq_true rfl) ?_
        exact J_iret (pc := 72) C dX8_setPerson_72 hF (by decide) (by decide)
  · refine J_aload_n (pc := 73) C dX8_setPerson_73 rfl ?_
    refine J_iconst (pc := 74) C dX8_setPerson_74 ic_1 ?_
    refine J_bind hF (fun q75 hq hF => ?_)
    refine J_callV0_i (pc := 75) (stk := [.int 1, .ref a0]) (st := []) C dX8_setPerson_75 yw_X8_refuse w_MLX8_59 in_X8_refuse sl_X8_refuse ⟨_, rfl, rfl⟩ (kX8_refuse hq) (gO_some hq).1 rfl (by decide) rfl (Nat.le_of_ble_eq_true rfl) ?_
    exact J_iret (pc := 78) C dX8_setPerson_78 hF (by decide) (by decide)
def fX8_setPerson (h : Hp) (a0 : Nat) (x1 : Int32) (x2 : Int32) (x3 : Int32) : Option (Int32 × Hp) := gO h 8 a0 (
  (getR h 8 a0 1).bind fun r1 =>
  (getR h 1 r1 0).bind fun r4 =>
  (fX7_hasPerson h r4 x1).bind fun q12 =>
  if q12 = 0 then
    (fX8_refuse h a0 1).bind fun q20 =>
    some (q20.1, q20.2)
  else
    if x2 = 0 then
      (fX8_isBank x3).bind fun q29 =>
      if q29 = 0 then
        fX8_setPerson_46 h a0 x1 x2 x3 r4
      else
        (getR h 7 r4 3).bind fun r37 =>
        (fX8_exchange h r37 x1 x3).bind fun q42 =>
        some (q42.1, q42.2)
    else
      fX8_setPerson_46 h a0 x1 x2 x3 r4)
set_option maxRecDepth 100000 in
theorem kX8_setPerson {h : Hp} {a0 : Nat} {x1 : Int32} {x2 : Int32} {x3 : Int32} {z : (Int32 × Hp)} (hF : fX8_setPerson h a0 x1 x2 x3 = some z) : Mc yX8_setPerson cX8_setPerson 5 (some .int) 1 0 0 [.ref a0, .int x1, .int x2, .int x3] h (some (.int z.1), z.2) := by
  have hF := (gO_some hF).2
  refine Mc_of [some (.ref a0), some (.int x1), some (.int x2), some (.int x3), none] plX8 rfl rfl (Nat.le_of_ble_eq_true rfl) (fun X C => ?_)
  refine J_aload_n (pc := 0) C dX8_setPerson_0 rfl ?_
  refine J_getR (pc := 1) C dX8_setPerson_1 fg_X8_23 hF (fun r1 hF => ?_)
  refine J_getR (pc := 4) C dX8_setPerson_4 fg_X8_63 hF (fun r4 hF => ?_)
  refine J_astore (pc := 7) (lv' := [some (.ref a0), some (.int x1), some (.int x2), some (.int x3), some (.ref r4)]) C dX8_setPerson_7 rfl ?_
  refine J_aload (pc := 9) C dX8_setPerson_9 rfl ?_
  refine J_iload_n (pc := 11) C dX8_setPerson_11 rfl ?_
  refine J_bind hF (fun q12 hq hF => ?_)
  refine J_callV0_ip (pc := 12) (stk := [.int x1, .ref r4]) (st := []) C dX8_setPerson_12 yw_X7_hasPerson w_MLX8_76 in_X7_hasPerson sl_X7_hasPerson ⟨_, rfl, rfl⟩ (kX7_hasPerson hq) (gO_some hq).1 rfl (by decide) rfl (Nat.le_of_ble_eq_true rfl) ?_
  refine J_if_ne (pc := 15) (tgt := 24) C dX8_setPerson_15 rfl hF (fun hF => ?_) (fun hF => ?_)
  · refine J_aload_n (pc := 18) C dX8_setPerson_18 rfl ?_
    refine J_iconst (pc := 19) C dX8_setPerson_19 ic_1 ?_
    refine J_bind hF (fun q20 hq hF => ?_)
    refine J_callV0_i (pc := 20) (stk := [.int 1, .ref a0]) (st := []) C dX8_setPerson_20 yw_X8_refuse w_MLX8_59 in_X8_refuse sl_X8_refuse ⟨_, rfl, rfl⟩ (kX8_refuse hq) (gO_some hq).1 rfl (by decide) rfl (Nat.le_of_ble_eq_true rfl) ?_
    exact J_iret (pc := 23) C dX8_setPerson_23 hF (by decide) (by decide)
  · refine J_iload_n (pc := 24) C dX8_setPerson_24 rfl ?_
    refine J_if_ne (pc := 25) (tgt := 46) C dX8_setPerson_25 rfl hF (fun hF => ?_) (fun hF => ?_)
    · refine J_iload_n (pc := 28) C dX8_setPerson_28 rfl ?_
      refine J_bind hF (fun q29 hq hF => ?_)
      refine J_callS0_ip (pc := 29) (stk := [.int x3]) (st := []) C dX8_setPerson_29 yw_X8_isBank w_MLX8_55 st_X8_isBank (kX8_isBank hq) rfl (by decide) rfl (Nat.le_of_ble_eq_true rfl) ?_
      refine J_if_eq (pc := 32) (tgt := 46) C dX8_setPerson_32 rfl hF (fun hF => ?_) (fun hF => ?_)
      · exact kX8_setPerson_46 C h a0 x1 x2 x3 r4 hF
      · refine J_aload (pc := 35) C dX8_setPerson_35 rfl ?_
        refine J_getR (pc := 37) C dX8_setPerson_37 fg_X8_79 hF (fun r37 hF => ?_)
        refine J_iload_n (pc := 40) C dX8_setPerson_40 rfl ?_
        refine J_iload_n (pc := 41) C dX8_setPerson_41 rfl ?_
        refine J_bind hF (fun q42 hq hF => ?_)
        refine J_callS0_i (pc := 42) (stk := [.int x3, .int x1, .ref r37]) (st := []) C dX8_setPerson_42 yw_X8_exchange w_MLX8_138 st_X8_exchange (kX8_exchange hq) rfl (by decide) rfl (Nat.le_of_ble_eq_true rfl) ?_
        exact J_iret (pc := 45) C dX8_setPerson_45 hF (by decide) (by decide)
    · exact kX8_setPerson_46 C h a0 x1 x2 x3 r4 hF
def fX8_sheet_58 (h : Hp) (a0 : Nat) (x1 : Int32) (x2 : Int32) (x3 : Int32) : Option (Int32 × Hp) :=
  (getR h 8 a0 4).bind fun r59 =>
  if x2 = 0 then
    (fX4_layOut h r59 x1 x2 0).bind fun q73 =>
    some (1, q73)
  else
    (fX4_layOut h r59 x1 x2 x3).bind fun q73 =>
    some (1, q73)
set_option maxRecDepth 100000 in
theorem kX8_sheet_58 {X : Cx} {z : (Int32 × Hp)} (C : Jc X yX8_sheet cX8_sheet 4 (some .int) 2 0 0 (some (.int z.1), z.2)) (h : Hp) (a0 : Nat) (x1 : Int32) (x2 : Int32) (x3 : Int32) (hF : fX8_sheet_58 h a0 x1 x2 x3 = some z) : J X 0 0 0 0 58 [some (.ref a0), some (.int x1), some (.int x2), some (.int x3)] [] h := by
  unfold fX8_sheet_58 at hF
  refine J_aload_n (pc := 58) C dX8_sheet_58 rfl ?_
  refine J_getR (pc := 59) C dX8_sheet_59 fg_X8_40 hF (fun r59 hF => ?_)
  refine J_iload_n (pc := 62) C dX8_sheet_62 rfl ?_
  refine J_iload_n (pc := 63) C dX8_sheet_63 rfl ?_
  refine J_iload_n (pc := 64) C dX8_sheet_64 rfl ?_
  refine J_if_ne (pc := 65) (tgt := 72) C dX8_sheet_65 rfl hF (fun hF => ?_) (fun hF => ?_)
  · refine J_iconst (pc := 68) C dX8_sheet_68 ic_0 ?_
    refine J_goto (pc := 69) (tgt := 73) C dX8_sheet_69 rfl ?_
    refine J_bind hF (fun q73 hq hF => ?_)
    refine J_callV0_v (pc := 73) (stk := [.int 0, .int x2, .int x1, .ref r59]) (st := []) C dX8_sheet_73 yw_X4_layOut w_MLX8_298 in_X4_layOut sl_X4_layOut ⟨_, rfl, rfl⟩ (kX4_layOut hq) (gO_some hq).1 rfl (by decide) rfl (Nat.le_of_ble_eq_true rfl) ?_
    refine J_iconst (pc := 76) C dX8_sheet_76 ic_1 ?_
    exact J_iret (pc := 77) C dX8_sheet_77 hF (by decide) (by decide)
  · refine J_iload_n (pc := 72) C dX8_sheet_72 rfl ?_
    refine J_bind hF (fun q73 hq hF => ?_)
    refine J_callV0_v (pc := 73) (stk := [.int x3, .int x2, .int x1, .ref r59]) (st := []) C dX8_sheet_73 yw_X4_layOut w_MLX8_298 in_X4_layOut sl_X4_layOut ⟨_, rfl, rfl⟩ (kX4_layOut hq) (gO_some hq).1 rfl (by decide) rfl (Nat.le_of_ble_eq_true rfl) ?_
    refine J_iconst (pc := 76) C dX8_sheet_76 ic_1 ?_
    exact J_iret (pc := 77) C dX8_sheet_77 hF (by decide) (by decide)
def fX8_sheet_42 (h : Hp) (a0 : Nat) (x1 : Int32) (x2 : Int32) (x3 : Int32) : Option (Int32 × Hp) :=
  if x2 = 0 then
    fX8_sheet_58 h a0 x1 x2 x3
  else
    if x3 ≤ 24 then
      fX8_sheet_58 h a0 x1 x2 x3
    else
      (fX8_refuse h a0 1).bind fun q54 =>
      some (q54.1, q54.2)
set_option maxRecDepth 100000 in
theorem kX8_sheet_42 {X : Cx} {z : (Int32 × Hp)} (C : Jc X yX8_sheet cX8_sheet 4 (some .int) 2 0 0 (some (.int z.1), z.2)) (h : Hp) (a0 : Nat) (x1 : Int32) (x2 : Int32) (x3 : Int32) (hF : fX8_sheet_42 h a0 x1 x2 x3 = some z) : J X 0 0 0 0 42 [some (.ref a0), some (.int x1), some (.int x2), some (.int x3)] [] h := by
  unfold fX8_sheet_42 at hF
  refine J_iload_n (pc := 42) C dX8_sheet_42 rfl ?_
  refine J_if_eq (pc := 43) (tgt := 58) C dX8_sheet_43 rfl hF (fun hF => ?_) (fun hF => ?_)
  · exact kX8_sheet_58 C h a0 x1 x2 x3 hF
  · refine J_iload_n (pc := 46) C dX8_sheet_46 rfl ?_
    refine J_bipush (pc := 47) C dX8_sheet_47 bc_24 ?_
    refine J_icmp_le (pc := 49) (tgt := 58) C dX8_sheet_49 rfl hF (fun hF => ?_) (fun hF => ?_)
    · exact kX8_sheet_58 C h a0 x1 x2 x3 hF
    · refine J_aload_n (pc := 52) C dX8_sheet_52 rfl ?_
      refine J_iconst (pc := 53) C dX8_sheet_53 ic_1 ?_
      refine J_bind hF (fun q54 hq hF => ?_)
      refine J_callV0_i (pc := 54) (stk := [.int 1, .ref a0]) (st := []) C dX8_sheet_54 yw_X8_refuse w_MLX8_59 in_X8_refuse sl_X8_refuse ⟨_, rfl, rfl⟩ (kX8_refuse hq) (gO_some hq).1 rfl (by decide) rfl (Nat.le_of_ble_eq_true rfl) ?_
      exact J_iret (pc := 57) C dX8_sheet_57 hF (by decide) (by decide)
def fX8_sheet (h : Hp) (a0 : Nat) (x1 : Int32) (x2 : Int32) (x3 : Int32) : Option (Int32 × Hp) := gO h 8 a0 (
  (getR h 8 a0 4).bind fun r1 =>
  (fX4_isOne h r1 x1).bind fun q5 =>
  if q5 = 0 then
    (fX8_refuse h a0 1).bind fun q24 =>
    some (q24.1, q24.2)
  else
    (getR h 8 a0 4).bind fun r12 =>
    (fX4_isWidth h r12 x2).bind fun q16 =>
    if q16 = 0 then
      (fX8_refuse h a0 1).bind fun q24 =>
      some (q24.1, q24.2)
    else
      if x2 = 0 then
        fX8_sheet_42 h a0 x1 x2 x3
      else
        if 0 ≤ x3 then
          fX8_sheet_42 h a0 x1 x2 x3
        else
          (fX8_refuse h a0 3).bind fun q38 =>
          some (q38.1, q38.2))
set_option maxRecDepth 100000 in
theorem kX8_sheet {h : Hp} {a0 : Nat} {x1 : Int32} {x2 : Int32} {x3 : Int32} {z : (Int32 × Hp)} (hF : fX8_sheet h a0 x1 x2 x3 = some z) : Mc yX8_sheet cX8_sheet 4 (some .int) 2 0 0 [.ref a0, .int x1, .int x2, .int x3] h (some (.int z.1), z.2) := by
  have hF := (gO_some hF).2
  refine Mc_of [some (.ref a0), some (.int x1), some (.int x2), some (.int x3)] plX8 rfl rfl (Nat.le_of_ble_eq_true rfl) (fun X C => ?_)
  refine J_aload_n (pc := 0) C dX8_sheet_0 rfl ?_
  refine J_getR (pc := 1) C dX8_sheet_1 fg_X8_40 hF (fun r1 hF => ?_)
  refine J_iload_n (pc := 4) C dX8_sheet_4 rfl ?_
  refine J_bind hF (fun q5 hq hF => ?_)
  refine J_callV0_ip (pc := 5) (stk := [.int x1, .ref r1]) (st := []) C dX8_sheet_5 yw_X4_isOne w_MLX8_292 in_X4_isOne sl_X4_isOne ⟨_, rfl, rfl⟩ (kX4_isOne hq) (gO_some hq).1 rfl (by decide) rfl (Nat.le_of_ble_eq_true rfl) ?_
  refine J_if_eq (pc := 8) (tgt := 22) C dX8_sheet_8 rfl hF (fun hF => ?_) (fun hF => ?_)
  · refine J_aload_n (pc := 22) C dX8_sheet_22 rfl ?_
    refine J_iconst (pc := 23) C dX8_sheet_23 ic_1 ?_
    refine J_bind hF (fun q24 hq hF => ?_)
    refine J_callV0_i (pc := 24) (stk := [.int 1, .ref a0]) (st := []) C dX8_sheet_24 yw_X8_refuse w_MLX8_59 in_X8_refuse sl_X8_refuse ⟨_, rfl, rfl⟩ (kX8_refuse hq) (gO_some hq).1 rfl (by decide) rfl (Nat.le_of_ble_eq_true rfl) ?_
    exact J_iret (pc := 27) C dX8_sheet_27 hF (by decide) (by decide)
  · refine J_aload_n (pc := 11) C dX8_sheet_11 rfl ?_
    refine J_getR (pc := 12) C dX8_sheet_12 fg_X8_40 hF (fun r12 hF => ?_)
    refine J_iload_n (pc := 15) C dX8_sheet_15 rfl ?_
    refine J_bind hF (fun q16 hq hF => ?_)
    refine J_callV0_ip (pc := 16) (stk := [.int x2, .ref r12]) (st := []) C dX8_sheet_16 yw_X4_isWidth w_MLX8_295 in_X4_isWidth sl_X4_isWidth ⟨_, rfl, rfl⟩ (kX4_isWidth hq) (gO_some hq).1 rfl (by decide) rfl (Nat.le_of_ble_eq_true rfl) ?_
    refine J_if_ne (pc := 19) (tgt := 28) C dX8_sheet_19 rfl hF (fun hF => ?_) (fun hF => ?_)
    · refine J_aload_n (pc := 22) C dX8_sheet_22 rfl ?_
      refine J_iconst (pc := 23) C dX8_sheet_23 ic_1 ?_
      refine J_bind hF (fun q24 hq hF => ?_)
      refine J_callV0_i (pc := 24) (stk := [.int 1, .ref a0]) (st := []) C dX8_sheet_24 yw_X8_refuse w_MLX8_59 in_X8_refuse sl_X8_refuse ⟨_, rfl, rfl⟩ (kX8_refuse hq) (gO_some hq).1 rfl (by decide) rfl (Nat.le_of_ble_eq_true rfl) ?_
      exact J_iret (pc := 27) C dX8_sheet_27 hF (by decide) (by decide)
    · refine J_iload_n (pc := 28) C dX8_sheet_28 rfl ?_
      refine J_if_eq (pc := 29) (tgt := 42) C dX8_sheet_29 rfl hF (fun hF => ?_) (fun hF => ?_)
      · exact kX8_sheet_42 C h a0 x1 x2 x3 hF
      · refine J_iload_n (pc := 32) C dX8_sheet_32 rfl ?_
        refine J_if_ge (pc := 33) (tgt := 42) C dX8_sheet_33 rfl hF (fun hF => ?_) (fun hF => ?_)
        · exact kX8_sheet_42 C h a0 x1 x2 x3 hF
        · refine J_aload_n (pc := 36) C dX8_sheet_36 rfl ?_
          refine J_iconst (pc := 37) C dX8_sheet_37 ic_3 ?_
          refine J_bind hF (fun q38 hq hF => ?_)
          refine J_callV0_i (pc := 38) (stk := [.int 3, .ref a0]) (st := []) C dX8_sheet_38 yw_X8_refuse w_MLX8_59 in_X8_refuse sl_X8_refuse ⟨_, rfl, rfl⟩ (kX8_refuse hq) (gO_some hq).1 rfl (by decide) rfl (Nat.le_of_ble_eq_true rfl) ?_
          exact J_iret (pc := 41) C dX8_sheet_41 hF (by decide) (by decide)
def fX8_stranger (h : Hp) (a0 : Nat) (x1 : Int32) (x2 : Int32) (x3 : Int32) : Option (Int32 × Hp) := gO h 8 a0 (
  (getR h 8 a0 1).bind fun r1 =>
  (getR h 1 r1 0).bind fun r4 =>
  (fX7_hasPerson h r4 x1).bind fun q8 =>
  if q8 = 0 then
    (fX8_refuse h a0 1).bind fun q30 =>
    some (q30.1, q30.2)
  else
    (getR h 8 a0 1).bind fun r15 =>
    (getR h 1 r15 0).bind fun r18 =>
    (fX7_hasMan h r18 x2).bind fun q22 =>
    if q22 = 0 then
      (fX8_refuse h a0 1).bind fun q30 =>
      some (q30.1, q30.2)
    else
      if x3 < 0 then
        (fX8_refuse h a0 1).bind fun q45 =>
        some (q45.1, q45.2)
      else
        if x3 ≤ 4 then
          (getR h 8 a0 3).bind fun r50 =>
          (getR h 8 a0 1).bind fun r54 =>
          (getR h 1 r54 0).bind fun r57 =>
          (fX6_fewestHired h r50 r57 x1 x2 x3).bind fun q63 =>
          if q63.1 ≤ x3 then
            some (q63.1, q63.2)
          else
            (fX8_refuse q63.2 a0 2).bind fun q76 =>
            some (q76.1, q76.2)
        else
          (fX8_refuse h a0 1).bind fun q45 =>
          some (q45.1, q45.2))
set_option maxRecDepth 100000 in
theorem kX8_stranger {h : Hp} {a0 : Nat} {x1 : Int32} {x2 : Int32} {x3 : Int32} {z : (Int32 × Hp)} (hF : fX8_stranger h a0 x1 x2 x3 = some z) : Mc yX8_stranger cX8_stranger 5 (some .int) 15 0 0 [.ref a0, .int x1, .int x2, .int x3] h (some (.int z.1), z.2) := by
  have hF := (gO_some hF).2
  refine Mc_of [some (.ref a0), some (.int x1), some (.int x2), some (.int x3), none] plX8 rfl rfl (Nat.le_of_ble_eq_true rfl) (fun X C => ?_)
  refine J_aload_n (pc := 0) C dX8_stranger_0 rfl ?_
  refine J_getR (pc := 1) C dX8_stranger_1 fg_X8_23 hF (fun r1 hF => ?_)
  refine J_getR (pc := 4) C dX8_stranger_4 fg_X8_63 hF (fun r4 hF => ?_)
  refine J_iload_n (pc := 7) C dX8_stranger_7 rfl ?_
  refine J_bind hF (fun q8 hq hF => ?_)
  refine J_callV0_ip (pc := 8) (stk := [.int x1, .ref r4]) (st := []) C dX8_stranger_8 yw_X7_hasPerson w_MLX8_76 in_X7_hasPerson sl_X7_hasPerson ⟨_, rfl, rfl⟩ (kX7_hasPerson hq) (gO_some hq).1 rfl (by decide) rfl (Nat.le_of_ble_eq_true rfl) ?_
  refine J_if_eq (pc := 11) (tgt := 28) C dX8_stranger_11 rfl hF (fun hF => ?_) (fun hF => ?_)
  · refine J_aload_n (pc := 28) C dX8_stranger_28 rfl ?_
    refine J_iconst (pc := 29) C dX8_stranger_29 ic_1 ?_
    refine J_bind hF (fun q30 hq hF => ?_)
    refine J_callV0_i (pc := 30) (stk := [.int 1, .ref a0]) (st := []) C dX8_stranger_30 yw_X8_refuse w_MLX8_59 in_X8_refuse sl_X8_refuse ⟨_, rfl, rfl⟩ (kX8_refuse hq) (gO_some hq).1 rfl (by decide) rfl (Nat.le_of_ble_eq_true rfl) ?_
    exact J_iret (pc := 33) C dX8_stranger_33 hF (by decide) (by decide)
  · refine J_aload_n (pc := 14) C dX8_stranger_14 rfl ?_
    refine J_getR (pc := 15) C dX8_stranger_15 fg_X8_23 hF (fun r15 hF => ?_)
    refine J_getR (pc := 18) C dX8_stranger_18 fg_X8_63 hF (fun r18 hF => ?_)
    refine J_iload_n (pc := 21) C dX8_stranger_21 rfl ?_
    refine J_bind hF (fun q22 hq hF => ?_)
    refine J_callV0_ip (pc := 22) (stk := [.int x2, .ref r18]) (st := []) C dX8_stranger_22 yw_X7_hasMan w_MLX8_103 in_X7_hasMan sl_X7_hasMan ⟨_, rfl, rfl⟩ (kX7_hasMan hq) (gO_some hq).1 rfl (by decide) rfl (Nat.le_of_ble_eq_true rfl) ?_
    refine J_if_ne (pc := 25) (tgt := 34) C dX8_stranger_25 rfl hF (fun hF => ?_) (fun hF => ?_)
    · refine J_aload_n (pc := 28) C dX8_stranger_28 rfl ?_
      refine J_iconst (pc := 29) C dX8_stranger_29 ic_1 ?_
      refine J_bind hF (fun q30 hq hF => ?_)
      refine J_callV0_i (pc := 30) (stk := [.int 1, .ref a0]) (st := []) C dX8_stranger_30 yw_X8_refuse w_MLX8_59 in_X8_refuse sl_X8_refuse ⟨_, rfl, rfl⟩ (kX8_refuse hq) (gO_some hq).1 rfl (by decide) rfl (Nat.le_of_ble_eq_true rfl) ?_
      exact J_iret (pc := 33) C dX8_stranger_33 hF (by decide) (by decide)
    · refine J_iload_n (pc := 34) C dX8_stranger_34 rfl ?_
      refine J_if_lt (pc := 35) (tgt := 43) C dX8_stranger_35 rfl hF (fun hF => ?_) (fun hF => ?_)
      · refine J_aload_n (pc := 43) C dX8_stranger_43 rfl ?_
        refine J_iconst (pc := 44) C dX8_stranger_44 ic_1 ?_
        refine J_bind hF (fun q45 hq hF => ?_)
        refine J_callV0_i (pc := 45) (stk := [.int 1, .ref a0]) (st := []) C dX8_stranger_45 yw_X8_refuse w_MLX8_59 in_X8_refuse sl_X8_refuse ⟨_, rfl, rfl⟩ (kX8_refuse hq) (gO_some hq).1 rfl (by decide) rfl (Nat.le_of_ble_eq_true rfl) ?_
        exact J_iret (pc := 48) C dX8_stranger_48 hF (by decide) (by decide)
      · refine J_iload_n (pc := 38) C dX8_stranger_38 rfl ?_
        refine J_iconst (pc := 39) C dX8_stranger_39 ic_4 ?_
        refine J_icmp_le (pc := 40) (tgt := 49) C dX8_stranger_40 rfl hF (fun hF => ?_) (fun hF => ?_)
        · refine J_aload_n (pc := 49) C dX8_stranger_49 rfl ?_
          refine J_getR (pc := 50) C dX8_stranger_50 fg_X8_33 hF (fun r50 hF => ?_)
          refine J_aload_n (pc := 53) C dX8_stranger_53 rfl ?_
          refine J_getR (pc := 54) C dX8_stranger_54 fg_X8_23 hF (fun r54 hF => ?_)
          refine J_getR (pc := 57) C dX8_stranger_57 fg_X8_63 hF (fun r57 hF => ?_)
          refine J_iload_n (pc := 60) C dX8_stranger_60 rfl ?_
          refine J_iload_n (pc := 61) C dX8_stranger_61 rfl ?_
          refine J_iload_n (pc := 62) C dX8_stranger_62 rfl ?_
          refine J_bind hF (fun q63 hq hF => ?_)
          refine J_callV0_i (pc := 63) (stk := [.int x3, .int x2, .int x1, .ref r57, .ref r50]) (st := []) C dX8_stranger_63 yw_X6_fewestHired w_MLX8_248 in_X6_fewestHired sl_X6_fewestHired ⟨_, rfl, rfl⟩ (kX6_fewestHired hq) (gO_some hq).1 rfl (by decide) rfl (Nat.le_of_ble_eq_true rfl) ?_
          refine J_istore (pc := 66) (lv' := [some (.ref a0), some (.int x1), some (.int x2), some (.int x3), some (.int q63.1)]) C dX8_stranger_66 rfl ?_
          refine J_iload (pc := 68) C dX8_stranger_68 rfl ?_
          refine J_iload_n (pc := 70) C dX8_stranger_70 rfl ?_
          refine J_icmp_le (pc := 71) (tgt := 82) C dX8_stranger_71 rfl hF (fun hF => ?_) (fun hF => ?_)
          · refine J_iload (pc := 82) C dX8_stranger_82 rfl ?_
            exact J_iret (pc := 84) C dX8_stranger_84 hF (by decide) (by decide)
          · refine J_aload_n (pc := 74) C dX8_stranger_74 rfl ?_
            refine J_iconst (pc := 75) C dX8_stranger_75 ic_2 ?_
            refine J_bind hF (fun q76 hq hF => ?_)
            refine J_callV0_i (pc := 76) (stk := [.int 2, .ref a0]) (st := []) C dX8_stranger_76 yw_X8_refuse w_MLX8_59 in_X8_refuse sl_X8_refuse ⟨_, rfl, rfl⟩ (kX8_refuse hq) (gO_some hq).1 rfl (by decide) rfl (Nat.le_of_ble_eq_true rfl) ?_
            refine J_goto (pc := 79) (tgt := 84) C dX8_stranger_79 rfl ?_
            exact J_iret (pc := 84) C dX8_stranger_84 hF (by decide) (by decide)
        · refine J_aload_n (pc := 43) C dX8_stranger_43 rfl ?_
          refine J_iconst (pc := 44) C dX8_stranger_44 ic_1 ?_
          refine J_bind hF (fun q45 hq hF => ?_)
          refine J_callV0_i (pc := 45) (stk := [.int 1, .ref a0]) (st := []) C dX8_stranger_45 yw_X8_refuse w_MLX8_59 in_X8_refuse sl_X8_refuse ⟨_, rfl, rfl⟩ (kX8_refuse hq) (gO_some hq).1 rfl (by decide) rfl (Nat.le_of_ble_eq_true rfl) ?_
          exact J_iret (pc := 48) C dX8_stranger_48 hF (by decide) (by decide)
def fX8_tell (h : Hp) (a0 : Nat) (x1 : Int32) : Option (Int32 × Hp) := gO h 8 a0 (
  (getR h 8 a0 1).bind fun r1 =>
  (getI h 1 r1 5).bind fun v4 =>
  if v4 < 24 then
    (getR h 8 a0 1).bind fun r19 =>
    (getR h 1 r19 4).bind fun r22 =>
    (getR h 8 a0 1).bind fun r26 =>
    (getI h 1 r26 5).bind fun v29 =>
    (wrI h r22 v29 x1).bind fun h33 =>
    (getR h33 8 a0 1).bind fun r35 =>
    (getI h33 1 r35 5).bind fun v39 =>
    (putV h33 1 r35 5 (.int (v39 + 1))).bind fun h44 =>
    (getR h44 8 a0 1).bind fun r48 =>
    (getI h44 1 r48 5).bind fun v51 =>
    some (v51, h44)
  else
    (fX8_refuse h a0 4).bind fun q14 =>
    some (q14.1, q14.2))
set_option maxRecDepth 100000 in
theorem kX8_tell {h : Hp} {a0 : Nat} {x1 : Int32} {z : (Int32 × Hp)} (hF : fX8_tell h a0 x1 = some z) : Mc yX8_tell cX8_tell 2 (some .int) 1 0 0 [.ref a0, .int x1] h (some (.int z.1), z.2) := by
  have hF := (gO_some hF).2
  refine Mc_of [some (.ref a0), some (.int x1)] plX8 rfl rfl (Nat.le_of_ble_eq_true rfl) (fun X C => ?_)
  refine J_aload_n (pc := 0) C dX8_tell_0 rfl ?_
  refine J_getR (pc := 1) C dX8_tell_1 fg_X8_23 hF (fun r1 hF => ?_)
  refine J_getI (pc := 4) C dX8_tell_4 fg_X8_331 hF (fun v4 hF => ?_)
  refine J_bipush (pc := 7) C dX8_tell_7 bc_24 ?_
  refine J_icmp_lt (pc := 9) (tgt := 18) C dX8_tell_9 rfl hF (fun hF => ?_) (fun hF => ?_)
  · refine J_aload_n (pc := 18) C dX8_tell_18 rfl ?_
    refine J_getR (pc := 19) C dX8_tell_19 fg_X8_23 hF (fun r19 hF => ?_)
    refine J_getR (pc := 22) C dX8_tell_22 fg_X8_334 hF (fun r22 hF => ?_)
    refine J_aload_n (pc := 25) C dX8_tell_25 rfl ?_
    refine J_getR (pc := 26) C dX8_tell_26 fg_X8_23 hF (fun r26 hF => ?_)
    refine J_getI (pc := 29) C dX8_tell_29 fg_X8_331 hF (fun v29 hF => ?_)
    refine J_iload_n (pc := 32) C dX8_tell_32 rfl ?_
    refine J_iast (pc := 33) C dX8_tell_33 hF (fun h33 hF => ?_)
    refine J_aload_n (pc := 34) C dX8_tell_34 rfl ?_
    refine J_getR (pc := 35) C dX8_tell_35 fg_X8_23 hF (fun r35 hF => ?_)
    refine J_dup (pc := 38) C dX8_tell_38 rfl ?_
    refine J_getI (pc := 39) C dX8_tell_39 fg_X8_331 hF (fun v39 hF => ?_)
    refine J_iconst (pc := 42) C dX8_tell_42 ic_1 ?_
    refine J_iadd (pc := 43) C dX8_tell_43 ?_
    refine J_put (pc := 44) C dX8_tell_44 (fp_X8_331 _) hF rfl rfl (fun h44 hF => ?_)
    refine J_aload_n (pc := 47) C dX8_tell_47 rfl ?_
    refine J_getR (pc := 48) C dX8_tell_48 fg_X8_23 hF (fun r48 hF => ?_)
    refine J_getI (pc := 51) C dX8_tell_51 fg_X8_331 hF (fun v51 hF => ?_)
    exact J_iret (pc := 54) C dX8_tell_54 hF (by decide) (by decide)
  · refine J_aload_n (pc := 12) C dX8_tell_12 rfl ?_
    refine J_iconst (pc := 13) C dX8_tell_13 ic_4 ?_
    refine J_bind hF (fun q14 hq hF => ?_)
    refine J_callV0_i (pc := 14) (stk := [.int 4, .ref a0]) (st := []) C dX8_tell_14 yw_X8_refuse w_MLX8_59 in_X8_refuse sl_X8_refuse ⟨_, rfl, rfl⟩ (kX8_refuse hq) (gO_some hq).1 rfl (by decide) rfl (Nat.le_of_ble_eq_true rfl) ?_
    exact J_iret (pc := 17) C dX8_tell_17 hF (by decide) (by decide)
def fX8_text (h : Hp) (a0 : Nat) (x1 : Int32) : Option (Int32 × Hp) := gO h 8 a0 (
  (fX8_isUse x1).bind fun q1 =>
  if q1 = 0 then
    (fX8_refuse h a0 1).bind fun q9 =>
    some (q9.1, q9.2)
  else
    (newO h 3 [.null, .int 0, .int 0, .null, .int 0, .int 0, .int 0]).bind fun q13 =>
    (getR q13.2 8 a0 1).bind fun r18 =>
    (getR q13.2 1 r18 2).bind fun r21 =>
    (getR q13.2 8 a0 1).bind fun r25 =>
    (getI q13.2 1 r25 3).bind fun v28 =>
    (fX3_init q13.2 q13.1 r21 v28 x1).bind fun q32 =>
    (fX3_readsAll q32 q13.1).bind fun q37 =>
    (getR q37.2 8 a0 1).bind fun r42 =>
    (putV q37.2 1 r42 3 (.int 0)).bind fun h46 =>
    if q37.1 = 0 then
      (fX3_place h46 q13.1).bind fun q56 =>
      some (((-10)) - q56, h46)
    else
      (getR h46 8 a0 1).bind fun r62 =>
      (getR h46 1 r62 0).bind fun r65 =>
      (fX3_law h46 q13.1).bind fun q70 =>
      (fX7_setLaw q70.2 r65 x1 q70.1).bind fun q73 =>
      some (1, q73))
set_option maxRecDepth 100000 in
theorem kX8_text {h : Hp} {a0 : Nat} {x1 : Int32} {z : (Int32 × Hp)} (hF : fX8_text h a0 x1 = some z) : Mc yX8_text cX8_text 4 (some .int) 68 5 189 [.ref a0, .int x1] h (some (.int z.1), z.2) := by
  have hF := (gO_some hF).2
  refine Mc_of [some (.ref a0), some (.int x1), none, none] plX8 rfl rfl (Nat.le_of_ble_eq_true rfl) (fun X C => ?_)
  refine J_iload_n (pc := 0) C dX8_text_0 rfl ?_
  refine J_bind hF (fun q1 hq hF => ?_)
  refine J_callS0_ip (pc := 1) (stk := [.int x1]) (st := []) C dX8_text_1 yw_X8_isUse w_MLX8_148 st_X8_isUse (kX8_isUse hq) rfl (by decide) rfl (Nat.le_of_ble_eq_true rfl) ?_
  refine J_if_ne (pc := 4) (tgt := 13) C dX8_text_4 rfl hF (fun hF => ?_) (fun hF => ?_)
  · refine J_aload_n (pc := 7) C dX8_text_7 rfl ?_
    refine J_iconst (pc := 8) C dX8_text_8 ic_1 ?_
    refine J_bind hF (fun q9 hq hF => ?_)
    refine J_callV0_i (pc := 9) (stk := [.int 1, .ref a0]) (st := []) C dX8_text_9 yw_X8_refuse w_MLX8_59 in_X8_refuse sl_X8_refuse ⟨_, rfl, rfl⟩ (kX8_refuse hq) (gO_some hq).1 rfl (by decide) rfl (Nat.le_of_ble_eq_true rfl) ?_
    exact J_iret (pc := 12) C dX8_text_12 hF (by decide) (by decide)
  · refine J_new (pc := 13) C dX8_text_13 fn_X8_151 (by decide) (by decide) hF (fun q13 hF => ?_)
    refine J_dup (pc := 16) C dX8_text_16 rfl ?_
    refine J_aload_n (pc := 17) C dX8_text_17 rfl ?_
    refine J_getR (pc := 18) C dX8_text_18 fg_X8_23 hF (fun r18 hF => ?_)
    refine J_getR (pc := 21) C dX8_text_21 fg_X8_145 hF (fun r21 hF => ?_)
    refine J_aload_n (pc := 24) C dX8_text_24 rfl ?_
    refine J_getR (pc := 25) C dX8_text_25 fg_X8_23 hF (fun r25 hF => ?_)
    refine J_getI (pc := 28) C dX8_text_28 fg_X8_142 hF (fun v28 hF => ?_)
    refine J_iload_n (pc := 31) C dX8_text_31 rfl ?_
    refine J_bind hF (fun q32 hq hF => ?_)
    refine J_callI_v (pc := 32) (stk := [.int x1, .int v28, .ref r21, .ref q13.1, .ref q13.1]) (st := [.ref q13.1]) C dX8_text_32 yw_X3_init w_MLX8_153 rfl in_X3_init (kX3_init hq) rfl (by decide) (by decide) (by decide) rfl (Nat.le_of_ble_eq_true rfl) ?_
    refine J_astore_n (pc := 35) (lv' := [some (.ref a0), some (.int x1), some (.ref q13.1), none]) C dX8_text_35 rfl ?_
    refine J_aload_n (pc := 36) C dX8_text_36 rfl ?_
    refine J_bind hF (fun q37 hq hF => ?_)
    refine J_callV0_i (pc := 37) (stk := [.ref q13.1]) (st := []) C dX8_text_37 yw_X3_readsAll w_MLX8_156 in_X3_readsAll sl_X3_readsAll ⟨_, rfl, rfl⟩ (kX3_readsAll hq) (gO_some hq).1 rfl (by decide) rfl (Nat.le_of_ble_eq_true rfl) ?_
    refine J_istore_n (pc := 40) (lv' := [some (.ref a0), some (.int x1), some (.ref q13.1), some (.int q37.1)]) C dX8_text_40 rfl ?_
    refine J_aload_n (pc := 41) C dX8_text_41 rfl ?_
    refine J_getR (pc := 42) C dX8_text_42 fg_X8_23 hF (fun r42 hF => ?_)
    refine J_iconst (pc := 45) C dX8_text_45 ic_0 ?_
    refine J_put (pc := 46) C dX8_text_46 (fp_X8_142 _) hF rfl rfl (fun h46 hF => ?_)
    refine J_iload_n (pc := 49) C dX8_text_49 rfl ?_
    refine J_if_ne (pc := 50) (tgt := 61) C dX8_text_50 rfl hF (fun hF => ?_) (fun hF => ?_)
    · refine J_bipush (pc := 53) C dX8_text_53 bc_m10 ?_
      refine J_aload_n (pc := 55) C dX8_text_55 rfl ?_
      refine J_bind hF (fun q56 hq hF => ?_)
      refine J_callV0_ip (pc := 56) (stk := [.ref q13.1, .int ((-10))]) (st := [.int ((-10))]) C dX8_text_56 yw_X3_place w_MLX8_160 in_X3_place sl_X3_place ⟨_, rfl, rfl⟩ (kX3_place hq) (gO_some hq).1 rfl (by decide) rfl (Nat.le_of_ble_eq_true rfl) ?_
      refine J_isub (pc := 59) C dX8_text_59 ?_
      exact J_iret (pc := 60) C dX8_text_60 hF (by decide) (by decide)
    · refine J_aload_n (pc := 61) C dX8_text_61 rfl ?_
      refine J_getR (pc := 62) C dX8_text_62 fg_X8_23 hF (fun r62 hF => ?_)
      refine J_getR (pc := 65) C dX8_text_65 fg_X8_63 hF (fun r65 hF => ?_)
      refine J_iload_n (pc := 68) C dX8_text_68 rfl ?_
      refine J_aload_n (pc := 69) C dX8_text_69 rfl ?_
      refine J_bind hF (fun q70 hq hF => ?_)
      refine J_callV_r (pc := 70) (stk := [.ref q13.1, .int x1, .ref r65]) (st := [.int x1, .ref r65]) C dX8_text_70 yw_X3_law w_MLX8_164 in_X3_law sl_X3_law ⟨_, rfl, rfl⟩ (kX3_law hq) (gO_some hq).1 rfl (by decide) (by decide) (by decide) rfl (Nat.le_of_ble_eq_true rfl) ?_
      refine J_bind hF (fun q73 hq hF => ?_)
      refine J_callV0_v (pc := 73) (stk := [.ref q70.1, .int x1, .ref r65]) (st := []) C dX8_text_73 yw_X7_setLaw w_MLX8_168 in_X7_setLaw sl_X7_setLaw ⟨_, rfl, rfl⟩ (kX7_setLaw hq) (gO_some hq).1 rfl (by decide) rfl (Nat.le_of_ble_eq_true rfl) ?_
      refine J_iconst (pc := 76) C dX8_text_76 ic_1 ?_
      exact J_iret (pc := 77) C dX8_text_77 hF (by decide) (by decide)
def fX8_told (h : Hp) (a0 : Nat) (x1 : Int32) : Option (Int32 × Hp) := gO h 8 a0 (
  if x1 < 1 then
    (fX8_refuse h a0 1).bind fun q13 =>
    some (q13.1, q13.2)
  else
    if x1 ≤ 6 then
      (getR h 8 a0 6).bind fun r18 =>
      (rdI h r18 x1).bind fun v22 =>
      some (v22, h)
    else
      (fX8_refuse h a0 1).bind fun q13 =>
      some (q13.1, q13.2))
set_option maxRecDepth 100000 in
theorem kX8_told {h : Hp} {a0 : Nat} {x1 : Int32} {z : (Int32 × Hp)} (hF : fX8_told h a0 x1 = some z) : Mc yX8_told cX8_told 2 (some .int) 1 0 0 [.ref a0, .int x1] h (some (.int z.1), z.2) := by
  have hF := (gO_some hF).2
  refine Mc_of [some (.ref a0), some (.int x1)] plX8 rfl rfl (Nat.le_of_ble_eq_true rfl) (fun X C => ?_)
  refine J_iload_n (pc := 0) C dX8_told_0 rfl ?_
  refine J_iconst (pc := 1) C dX8_told_1 ic_1 ?_
  refine J_icmp_lt (pc := 2) (tgt := 11) C dX8_told_2 rfl hF (fun hF => ?_) (fun hF => ?_)
  · refine J_aload_n (pc := 11) C dX8_told_11 rfl ?_
    refine J_iconst (pc := 12) C dX8_told_12 ic_1 ?_
    refine J_bind hF (fun q13 hq hF => ?_)
    refine J_callV0_i (pc := 13) (stk := [.int 1, .ref a0]) (st := []) C dX8_told_13 yw_X8_refuse w_MLX8_59 in_X8_refuse sl_X8_refuse ⟨_, rfl, rfl⟩ (kX8_refuse hq) (gO_some hq).1 rfl (by decide) rfl (Nat.le_of_ble_eq_true rfl) ?_
    exact J_iret (pc := 16) C dX8_told_16 hF (by decide) (by decide)
  · refine J_iload_n (pc := 5) C dX8_told_5 rfl ?_
    refine J_bipush (pc := 6) C dX8_told_6 bc_6 ?_
    refine J_icmp_le (pc := 8) (tgt := 17) C dX8_told_8 rfl hF (fun hF => ?_) (fun hF => ?_)
    · refine J_aload_n (pc := 17) C dX8_told_17 rfl ?_
      refine J_getR (pc := 18) C dX8_told_18 fg_X8_51 hF (fun r18 hF => ?_)
      refine J_iload_n (pc := 21) C dX8_told_21 rfl ?_
      refine J_iald (pc := 22) C dX8_told_22 hF (fun v22 hF => ?_)
      exact J_iret (pc := 23) C dX8_told_23 hF (by decide) (by decide)
    · refine J_aload_n (pc := 11) C dX8_told_11 rfl ?_
      refine J_iconst (pc := 12) C dX8_told_12 ic_1 ?_
      refine J_bind hF (fun q13 hq hF => ?_)
      refine J_callV0_i (pc := 13) (stk := [.int 1, .ref a0]) (st := []) C dX8_told_13 yw_X8_refuse w_MLX8_59 in_X8_refuse sl_X8_refuse ⟨_, rfl, rfl⟩ (kX8_refuse hq) (gO_some hq).1 rfl (by decide) rfl (Nat.le_of_ble_eq_true rfl) ?_
      exact J_iret (pc := 16) C dX8_told_16 hF (by decide) (by decide)
def fX8_untell (h : Hp) (a0 : Nat) (x1 : Int32) : Option (Int32 × Hp) := gO h 8 a0 (
  (fX8_isUse x1).bind fun q1 =>
  if q1 = 0 then
    (fX8_refuse h a0 1).bind fun q9 =>
    some (q9.1, q9.2)
  else
    (getR h 8 a0 1).bind fun r14 =>
    (getR h 1 r14 0).bind fun r17 =>
    (fX7_law h r17 x1).bind fun q21 =>
    (fX2_isTold h q21).bind fun q24 =>
    (getR h 8 a0 1).bind fun r29 =>
    (getR h 1 r29 0).bind fun r32 =>
    (getR h 8 a0 0).bind fun r37 =>
    (fX7_setLaw h r32 x1 r37).bind fun q40 =>
    if q24 = 0 then
      some (0, q40)
    else
      some (1, q40))
set_option maxRecDepth 100000 in
theorem kX8_untell {h : Hp} {a0 : Nat} {x1 : Int32} {z : (Int32 × Hp)} (hF : fX8_untell h a0 x1 = some z) : Mc yX8_untell cX8_untell 3 (some .int) 1 0 0 [.ref a0, .int x1] h (some (.int z.1), z.2) := by
  have hF := (gO_some hF).2
  refine Mc_of [some (.ref a0), some (.int x1), none] plX8 rfl rfl (Nat.le_of_ble_eq_true rfl) (fun X C => ?_)
  refine J_iload_n (pc := 0) C dX8_untell_0 rfl ?_
  refine J_bind hF (fun q1 hq hF => ?_)
  refine J_callS0_ip (pc := 1) (stk := [.int x1]) (st := []) C dX8_untell_1 yw_X8_isUse w_MLX8_148 st_X8_isUse (kX8_isUse hq) rfl (by decide) rfl (Nat.le_of_ble_eq_true rfl) ?_
  refine J_if_ne (pc := 4) (tgt := 13) C dX8_untell_4 rfl hF (fun hF => ?_) (fun hF => ?_)
  · refine J_aload_n (pc := 7) C dX8_untell_7 rfl ?_
    refine J_iconst (pc := 8) C dX8_untell_8 ic_1 ?_
    refine J_bind hF (fun q9 hq hF => ?_)
    refine J_callV0_i (pc := 9) (stk := [.int 1, .ref a0]) (st := []) C dX8_untell_9 yw_X8_refuse w_MLX8_59 in_X8_refuse sl_X8_refuse ⟨_, rfl, rfl⟩ (kX8_refuse hq) (gO_some hq).1 rfl (by decide) rfl (Nat.le_of_ble_eq_true rfl) ?_
    exact J_iret (pc := 12) C dX8_untell_12 hF (by decide) (by decide)
  · refine J_aload_n (pc := 13) C dX8_untell_13 rfl ?_
    refine J_getR (pc := 14) C dX8_untell_14 fg_X8_23 hF (fun r14 hF => ?_)
    refine J_getR (pc := 17) C dX8_untell_17 fg_X8_63 hF (fun r17 hF => ?_)
    refine J_iload_n (pc := 20) C dX8_untell_20 rfl ?_
    refine J_bind hF (fun q21 hq hF => ?_)
    refine J_callV0_rp (pc := 21) (stk := [.int x1, .ref r17]) (st := []) C dX8_untell_21 yw_X7_law w_MLX8_172 in_X7_law sl_X7_law ⟨_, rfl, rfl⟩ (kX7_law hq) (gO_some hq).1 rfl (by decide) rfl (Nat.le_of_ble_eq_true rfl) ?_
    refine J_bind hF (fun q24 hq hF => ?_)
    refine J_callV0_ip (pc := 24) (stk := [.ref q21]) (st := []) C dX8_untell_24 yw_X2_isTold w_MLX8_175 in_X2_isTold sl_X2_isTold ⟨_, rfl, rfl⟩ (kX2_isTold hq) (gO_some hq).1 rfl (by decide) rfl (Nat.le_of_ble_eq_true rfl) ?_
    refine J_istore_n (pc := 27) (lv' := [some (.ref a0), some (.int x1), some (.int q24)]) C dX8_untell_27 rfl ?_
    refine J_aload_n (pc := 28) C dX8_untell_28 rfl ?_
    refine J_getR (pc := 29) C dX8_untell_29 fg_X8_23 hF (fun r29 hF => ?_)
    refine J_getR (pc := 32) C dX8_untell_32 fg_X8_63 hF (fun r32 hF => ?_)
    refine J_iload_n (pc := 35) C dX8_untell_35 rfl ?_
    refine J_aload_n (pc := 36) C dX8_untell_36 rfl ?_
    refine J_getR (pc := 37) C dX8_untell_37 fg_X8_12 hF (fun r37 hF => ?_)
    refine J_bind hF (fun q40 hq hF => ?_)
    refine J_callV0_v (pc := 40) (stk := [.ref r37, .int x1, .ref r32]) (st := []) C dX8_untell_40 yw_X7_setLaw w_MLX8_168 in_X7_setLaw sl_X7_setLaw ⟨_, rfl, rfl⟩ (kX7_setLaw hq) (gO_some hq).1 rfl (by decide) rfl (Nat.le_of_ble_eq_true rfl) ?_
    refine J_iload_n (pc := 43) C dX8_untell_43 rfl ?_
    refine J_if_eq (pc := 44) (tgt := 51) C dX8_untell_44 rfl hF (fun hF => ?_) (fun hF => ?_)
    · refine J_iconst (pc := 51) C dX8_untell_51 ic_0 ?_
      exact J_iret (pc := 52) C dX8_untell_52 hF (by decide) (by decide)
    · refine J_iconst (pc := 47) C dX8_untell_47 ic_1 ?_
      refine J_goto (pc := 48) (tgt := 52) C dX8_untell_48 rfl ?_
      exact J_iret (pc := 52) C dX8_untell_52 hF (by decide) (by decide)
def fX8_voice (h : Hp) (a0 : Nat) (x1 : Int32) (x2 : Int32) (x3 : Int32) : Option (Int32 × Hp) := gO h 8 a0 (
  (getR h 8 a0 1).bind fun r1 =>
  (getR h 1 r1 0).bind fun r4 =>
  (fX7_hasMan h r4 x1).bind fun q12 =>
  if q12 = 0 then
    (fX8_refuse h a0 1).bind fun q29 =>
    some (q29.1, q29.2)
  else
    if x2 < 0 then
      (fX8_refuse h a0 1).bind fun q29 =>
      some (q29.1, q29.2)
    else
      if x2 < 4 then
        (getR h 8 a0 5).bind fun r34 =>
        (getR h 7 r4 5).bind fun r39 =>
        (rdI h r39 x1).bind fun v43 =>
        (getR h 7 r4 6).bind fun r46 =>
        (rdI h r46 x1).bind fun v50 =>
        (fX5_speak h r34 v43 v50 x1 x2 x3).bind fun q54 =>
        (getR q54.2 8 a0 5).bind fun r60 =>
        (getI q54.2 5 r60 2).bind fun v63 =>
        if v63 = 0 then
          some (q54.1, q54.2)
        else
          (fX8_refuse q54.2 a0 6).bind fun q72 =>
          some (q72.1, q72.2)
      else
        (fX8_refuse h a0 1).bind fun q29 =>
        some (q29.1, q29.2))
set_option maxRecDepth 100000 in
theorem kX8_voice {h : Hp} {a0 : Nat} {x1 : Int32} {x2 : Int32} {x3 : Int32} {z : (Int32 × Hp)} (hF : fX8_voice h a0 x1 x2 x3 = some z) : Mc yX8_voice cX8_voice 6 (some .int) 43 0 0 [.ref a0, .int x1, .int x2, .int x3] h (some (.int z.1), z.2) := by
  have hF := (gO_some hF).2
  refine Mc_of [some (.ref a0), some (.int x1), some (.int x2), some (.int x3), none, none] plX8 rfl rfl (Nat.le_of_ble_eq_true rfl) (fun X C => ?_)
  refine J_aload_n (pc := 0) C dX8_voice_0 rfl ?_
  refine J_getR (pc := 1) C dX8_voice_1 fg_X8_23 hF (fun r1 hF => ?_)
  refine J_getR (pc := 4) C dX8_voice_4 fg_X8_63 hF (fun r4 hF => ?_)
  refine J_astore (pc := 7) (lv' := [some (.ref a0), some (.int x1), some (.int x2), some (.int x3), some (.ref r4), none]) C dX8_voice_7 rfl ?_
  refine J_aload (pc := 9) C dX8_voice_9 rfl ?_
  refine J_iload_n (pc := 11) C dX8_voice_11 rfl ?_
  refine J_bind hF (fun q12 hq hF => ?_)
  refine J_callV0_ip (pc := 12) (stk := [.int x1, .ref r4]) (st := []) C dX8_voice_12 yw_X7_hasMan w_MLX8_103 in_X7_hasMan sl_X7_hasMan ⟨_, rfl, rfl⟩ (kX7_hasMan hq) (gO_some hq).1 rfl (by decide) rfl (Nat.le_of_ble_eq_true rfl) ?_
  refine J_if_eq (pc := 15) (tgt := 27) C dX8_voice_15 rfl hF (fun hF => ?_) (fun hF => ?_)
  · refine J_aload_n (pc := 27) C dX8_voice_27 rfl ?_
    refine J_iconst (pc := 28) C dX8_voice_28 ic_1 ?_
    refine J_bind hF (fun q29 hq hF => ?_)
    refine J_callV0_i (pc := 29) (stk := [.int 1, .ref a0]) (st := []) C dX8_voice_29 yw_X8_refuse w_MLX8_59 in_X8_refuse sl_X8_refuse ⟨_, rfl, rfl⟩ (kX8_refuse hq) (gO_some hq).1 rfl (by decide) rfl (Nat.le_of_ble_eq_true rfl) ?_
    exact J_iret (pc := 32) C dX8_voice_32 hF (by decide) (by decide)
  · refine J_iload_n (pc := 18) C dX8_voice_18 rfl ?_
    refine J_if_lt (pc := 19) (tgt := 27) C dX8_voice_19 rfl hF (fun hF => ?_) (fun hF => ?_)
    · refine J_aload_n (pc := 27) C dX8_voice_27 rfl ?_
      refine J_iconst (pc := 28) C dX8_voice_28 ic_1 ?_
      refine J_bind hF (fun q29 hq hF => ?_)
      refine J_callV0_i (pc := 29) (stk := [.int 1, .ref a0]) (st := []) C dX8_voice_29 yw_X8_refuse w_MLX8_59 in_X8_refuse sl_X8_refuse ⟨_, rfl, rfl⟩ (kX8_refuse hq) (gO_some hq).1 rfl (by decide) rfl (Nat.le_of_ble_eq_true rfl) ?_
      exact J_iret (pc := 32) C dX8_voice_32 hF (by decide) (by decide)
    · refine J_iload_n (pc := 22) C dX8_voice_22 rfl ?_
      refine J_iconst (pc := 23) C dX8_voice_23 ic_4 ?_
      refine J_icmp_lt (pc := 24) (tgt := 33) C dX8_voice_24 rfl hF (fun hF => ?_) (fun hF => ?_)
      · refine J_aload_n (pc := 33) C dX8_voice_33 rfl ?_
        refine J_getR (pc := 34) C dX8_voice_34 fg_X8_47 hF (fun r34 hF => ?_)
        refine J_aload (pc := 37) C dX8_voice_37 rfl ?_
        refine J_getR (pc := 39) C dX8_voice_39 fg_X8_106 hF (fun r39 hF => ?_)
        refine J_iload_n (pc := 42) C dX8_voice_42 rfl ?_
        refine J_iald (pc := 43) C dX8_voice_43 hF (fun v43 hF => ?_)
        refine J_aload (pc := 44) C dX8_voice_44 rfl ?_
        refine J_getR (pc := 46) C dX8_voice_46 fg_X8_109 hF (fun r46 hF => ?_)
        refine J_iload_n (pc := 49) C dX8_voice_49 rfl ?_
        refine J_iald (pc := 50) C dX8_voice_50 hF (fun v50 hF => ?_)
        refine J_iload_n (pc := 51) C dX8_voice_51 rfl ?_
        refine J_iload_n (pc := 52) C dX8_voice_52 rfl ?_
        refine J_iload_n (pc := 53) C dX8_voice_53 rfl ?_
        refine J_bind hF (fun q54 hq hF => ?_)
        refine J_callV0_i (pc := 54) (stk := [.int x3, .int x2, .int x1, .int v50, .int v43, .ref r34]) (st := []) C dX8_voice_54 yw_X5_speak w_MLX8_278 in_X5_speak sl_X5_speak ⟨_, rfl, rfl⟩ (kX5_speak hq) (gO_some hq).1 rfl (by decide) rfl (Nat.le_of_ble_eq_true rfl) ?_
        refine J_istore (pc := 57) (lv' := [some (.ref a0), some (.int x1), some (.int x2), some (.int x3), some (.ref r4), some (.int q54.1)]) C dX8_voice_57 rfl ?_
        refine J_aload_n (pc := 59) C dX8_voice_59 rfl ?_
        refine J_getR (pc := 60) C dX8_voice_60 fg_X8_47 hF (fun r60 hF => ?_)
        refine J_getI (pc := 63) C dX8_voice_63 fg_X8_282 hF (fun v63 hF => ?_)
        refine J_if_eq (pc := 66) (tgt := 78) C dX8_voice_66 rfl hF (fun hF => ?_) (fun hF => ?_)
        · refine J_iload (pc := 78) C dX8_voice_78 rfl ?_
          exact J_iret (pc := 80) C dX8_voice_80 hF (by decide) (by decide)
        · refine J_aload_n (pc := 69) C dX8_voice_69 rfl ?_
          refine J_bipush (pc := 70) C dX8_voice_70 bc_6 ?_
          refine J_bind hF (fun q72 hq hF => ?_)
          refine J_callV0_i (pc := 72) (stk := [.int 6, .ref a0]) (st := []) C dX8_voice_72 yw_X8_refuse w_MLX8_59 in_X8_refuse sl_X8_refuse ⟨_, rfl, rfl⟩ (kX8_refuse hq) (gO_some hq).1 rfl (by decide) rfl (Nat.le_of_ble_eq_true rfl) ?_
          refine J_goto (pc := 75) (tgt := 80) C dX8_voice_75 rfl ?_
          exact J_iret (pc := 80) C dX8_voice_80 hF (by decide) (by decide)
      · refine J_aload_n (pc := 27) C dX8_voice_27 rfl ?_
        refine J_iconst (pc := 28) C dX8_voice_28 ic_1 ?_
        refine J_bind hF (fun q29 hq hF => ?_)
        refine J_callV0_i (pc := 29) (stk := [.int 1, .ref a0]) (st := []) C dX8_voice_29 yw_X8_refuse w_MLX8_59 in_X8_refuse sl_X8_refuse ⟨_, rfl, rfl⟩ (kX8_refuse hq) (gO_some hq).1 rfl (by decide) rfl (Nat.le_of_ble_eq_true rfl) ?_
        exact J_iret (pc := 32) C dX8_voice_32 hF (by decide) (by decide)
def fX8_way (h : Hp) (a0 : Nat) (x1 : Int32) (x2 : Int32) (x3 : Int32) : Option (Int32 × Hp) := gO h 8 a0 (
  (getR h 8 a0 1).bind fun r1 =>
  (getR h 1 r1 0).bind fun r4 =>
  (fX7_hasPerson h r4 x1).bind fun q8 =>
  if q8 = 0 then
    (fX8_refuse h a0 1).bind fun q26 =>
    some (q26.1, q26.2)
  else
    if x2 < 0 then
      (fX8_refuse h a0 1).bind fun q26 =>
      some (q26.1, q26.2)
    else
      if x2 ≤ 6 then
        if x3 < ((-1)) then
          (fX8_refuse h a0 1).bind fun q42 =>
          some (q42.1, q42.2)
        else
          if x3 < x2 then
            (getR h 8 a0 3).bind fun r47 =>
            (getR h 8 a0 1).bind fun r51 =>
            (getR h 1 r51 0).bind fun r54 =>
            (fX6_findsWay h r47 r54 x1 x2).bind fun q59 =>
            if q59.1 = 0 then
              (fX8_refuse q59.2 a0 2).bind fun q67 =>
              some (q67.1, q67.2)
            else
              if 0 ≤ x3 then
                (getR q59.2 8 a0 3).bind fun r86 =>
                (getR q59.2 6 r86 3).bind fun r89 =>
                (rdI q59.2 r89 x3).bind fun v93 =>
                some (v93, q59.2)
              else
                (getR q59.2 8 a0 3).bind fun r76 =>
                (getI q59.2 6 r76 2).bind fun v79 =>
                some (v79, q59.2)
          else
            (fX8_refuse h a0 1).bind fun q42 =>
            some (q42.1, q42.2)
      else
        (fX8_refuse h a0 1).bind fun q26 =>
        some (q26.1, q26.2))
set_option maxRecDepth 100000 in
theorem kX8_way {h : Hp} {a0 : Nat} {x1 : Int32} {x2 : Int32} {x3 : Int32} {z : (Int32 × Hp)} (hF : fX8_way h a0 x1 x2 x3 = some z) : Mc yX8_way cX8_way 4 (some .int) 17 0 0 [.ref a0, .int x1, .int x2, .int x3] h (some (.int z.1), z.2) := by
  have hF := (gO_some hF).2
  refine Mc_of [some (.ref a0), some (.int x1), some (.int x2), some (.int x3)] plX8 rfl rfl (Nat.le_of_ble_eq_true rfl) (fun X C => ?_)
  refine J_aload_n (pc := 0) C dX8_way_0 rfl ?_
  refine J_getR (pc := 1) C dX8_way_1 fg_X8_23 hF (fun r1 hF => ?_)
  refine J_getR (pc := 4) C dX8_way_4 fg_X8_63 hF (fun r4 hF => ?_)
  refine J_iload_n (pc := 7) C dX8_way_7 rfl ?_
  refine J_bind hF (fun q8 hq hF => ?_)
  refine J_callV0_ip (pc := 8) (stk := [.int x1, .ref r4]) (st := []) C dX8_way_8 yw_X7_hasPerson w_MLX8_76 in_X7_hasPerson sl_X7_hasPerson ⟨_, rfl, rfl⟩ (kX7_hasPerson hq) (gO_some hq).1 rfl (by decide) rfl (Nat.le_of_ble_eq_true rfl) ?_
  refine J_if_eq (pc := 11) (tgt := 24) C dX8_way_11 rfl hF (fun hF => ?_) (fun hF => ?_)
  · refine J_aload_n (pc := 24) C dX8_way_24 rfl ?_
    refine J_iconst (pc := 25) C dX8_way_25 ic_1 ?_
    refine J_bind hF (fun q26 hq hF => ?_)
    refine J_callV0_i (pc := 26) (stk := [.int 1, .ref a0]) (st := []) C dX8_way_26 yw_X8_refuse w_MLX8_59 in_X8_refuse sl_X8_refuse ⟨_, rfl, rfl⟩ (kX8_refuse hq) (gO_some hq).1 rfl (by decide) rfl (Nat.le_of_ble_eq_true rfl) ?_
    exact J_iret (pc := 29) C dX8_way_29 hF (by decide) (by decide)
  · refine J_iload_n (pc := 14) C dX8_way_14 rfl ?_
    refine J_if_lt (pc := 15) (tgt := 24) C dX8_way_15 rfl hF (fun hF => ?_) (fun hF => ?_)
    · refine J_aload_n (pc := 24) C dX8_way_24 rfl ?_
      refine J_iconst (pc := 25) C dX8_way_25 ic_1 ?_
      refine J_bind hF (fun q26 hq hF => ?_)
      refine J_callV0_i (pc := 26) (stk := [.int 1, .ref a0]) (st := []) C dX8_way_26 yw_X8_refuse w_MLX8_59 in_X8_refuse sl_X8_refuse ⟨_, rfl, rfl⟩ (kX8_refuse hq) (gO_some hq).1 rfl (by decide) rfl (Nat.le_of_ble_eq_true rfl) ?_
      exact J_iret (pc := 29) C dX8_way_29 hF (by decide) (by decide)
    · refine J_iload_n (pc := 18) C dX8_way_18 rfl ?_
      refine J_bipush (pc := 19) C dX8_way_19 bc_6 ?_
      refine J_icmp_le (pc := 21) (tgt := 30) C dX8_way_21 rfl hF (fun hF => ?_) (fun hF => ?_)
      · refine J_iload_n (pc := 30) C dX8_way_30 rfl ?_
        refine J_iconst (pc := 31) C dX8_way_31 ic_m1 ?_
        refine J_icmp_lt (pc := 32) (tgt := 40) C dX8_way_32 rfl hF (fun hF => ?_) (fun hF => ?_)
        · refine J_aload_n (pc := 40) C dX8_way_40 rfl ?_
          refine J_iconst (pc := 41) C dX8_way_41 ic_1 ?_
          refine J_bind hF (fun q42 hq hF => ?_)
          refine J_callV0_i (pc := 42) (stk := [.int 1, .ref a0]) (st := []) C dX8_way_42 yw_X8_refuse w_MLX8_59 in_X8_refuse sl_X8_refuse ⟨_, rfl, rfl⟩ (kX8_refuse hq) (gO_some hq).1 rfl (by decide) rfl (Nat.le_of_ble_eq_true rfl) ?_
          exact J_iret (pc := 45) C dX8_way_45 hF (by decide) (by decide)
        · refine J_iload_n (pc := 35) C dX8_way_35 rfl ?_
          refine J_iload_n (pc := 36) C dX8_way_36 rfl ?_
          refine J_icmp_lt (pc := 37) (tgt := 46) C dX8_way_37 rfl hF (fun hF => ?_) (fun hF => ?_)
          · refine J_aload_n (pc := 46) C dX8_way_46 rfl ?_
            refine J_getR (pc := 47) C dX8_way_47 fg_X8_33 hF (fun r47 hF => ?_)
            refine J_aload_n (pc := 50) C dX8_way_50 rfl ?_
            refine J_getR (pc := 51) C dX8_way_51 fg_X8_23 hF (fun r51 hF => ?_)
            refine J_getR (pc := 54) C dX8_way_54 fg_X8_63 hF (fun r54 hF => ?_)
            refine J_iload_n (pc := 57) C dX8_way_57 rfl ?_
            refine J_iload_n (pc := 58) C dX8_way_58 rfl ?_
            refine J_bind hF (fun q59 hq hF => ?_)
            refine J_callV0_i (pc := 59) (stk := [.int x2, .int x1, .ref r54, .ref r47]) (st := []) C dX8_way_59 yw_X6_findsWay w_MLX8_252 in_X6_findsWay sl_X6_findsWay ⟨_, rfl, rfl⟩ (kX6_findsWay hq) (gO_some hq).1 rfl (by decide) rfl (Nat.le_of_ble_eq_true rfl) ?_
            refine J_if_ne (pc := 62) (tgt := 71) C dX8_way_62 rfl hF (fun hF => ?_) (fun hF => ?_)
            · refine J_aload_n (pc := 65) C dX8_way_65 rfl ?_
              refine J_iconst (pc := 66) C dX8_way_66 ic_2 ?_
              refine J_bind hF (fun q67 hq hF => ?_)
              refine J_callV0_i (pc := 67) (stk := [.int 2, .ref a0]) (st := []) C dX8_way_67 yw_X8_refuse w_MLX8_59 in_X8_refuse sl_X8_refuse ⟨_, rfl, rfl⟩ (kX8_refuse hq) (gO_some hq).1 rfl (by decide) rfl (Nat.le_of_ble_eq_true rfl) ?_
              exact J_iret (pc := 70) C dX8_way_70 hF (by decide) (by decide)
            · refine J_iload_n (pc := 71) C dX8_way_71 rfl ?_
              refine J_if_ge (pc := 72) (tgt := 85) C dX8_way_72 rfl hF (fun hF => ?_) (fun hF => ?_)
              · refine J_aload_n (pc := 85) C dX8_way_85 rfl ?_
                refine J_getR (pc := 86) C dX8_way_86 fg_X8_33 hF (fun r86 hF => ?_)
                refine J_getR (pc := 89) C dX8_way_89 fg_X8_259 hF (fun r89 hF => ?_)
                refine J_iload_n (pc := 92) C dX8_way_92 rfl ?_
                refine J_iald (pc := 93) C dX8_way_93 hF (fun v93 hF => ?_)
                exact J_iret (pc := 94) C dX8_way_94 hF (by decide) (by decide)
              · refine J_aload_n (pc := 75) C dX8_way_75 rfl ?_
                refine J_getR (pc := 76) C dX8_way_76 fg_X8_33 hF (fun r76 hF => ?_)
                refine J_getI (pc := 79) C dX8_way_79 fg_X8_256 hF (fun v79 hF => ?_)
                refine J_goto (pc := 82) (tgt := 94) C dX8_way_82 rfl ?_
                exact J_iret (pc := 94) C dX8_way_94 hF (by decide) (by decide)
          · refine J_aload_n (pc := 40) C dX8_way_40 rfl ?_
            refine J_iconst (pc := 41) C dX8_way_41 ic_1 ?_
            refine J_bind hF (fun q42 hq hF => ?_)
            refine J_callV0_i (pc := 42) (stk := [.int 1, .ref a0]) (st := []) C dX8_way_42 yw_X8_refuse w_MLX8_59 in_X8_refuse sl_X8_refuse ⟨_, rfl, rfl⟩ (kX8_refuse hq) (gO_some hq).1 rfl (by decide) rfl (Nat.le_of_ble_eq_true rfl) ?_
            exact J_iret (pc := 45) C dX8_way_45 hF (by decide) (by decide)
      · refine J_aload_n (pc := 24) C dX8_way_24 rfl ?_
        refine J_iconst (pc := 25) C dX8_way_25 ic_1 ?_
        refine J_bind hF (fun q26 hq hF => ?_)
        refine J_callV0_i (pc := 26) (stk := [.int 1, .ref a0]) (st := []) C dX8_way_26 yw_X8_refuse w_MLX8_59 in_X8_refuse sl_X8_refuse ⟨_, rfl, rfl⟩ (kX8_refuse hq) (gO_some hq).1 rfl (by decide) rfl (Nat.le_of_ble_eq_true rfl) ?_
        exact J_iret (pc := 29) C dX8_way_29 hF (by decide) (by decide)
