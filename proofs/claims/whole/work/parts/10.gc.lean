def fX3_readJoined_36 (oX3_readJoined : Hp → Nat → Int32 → Int32 → Option Hp) (oX3_readOne : Hp → Nat → Int32 → Option Hp) : Nat → Hp → Nat → Int32 → Int32 → Int32 → Option Hp
  | 0, _, _, _, _, _ => none
  | n36 + 1, h, a0, x1, x2, x4 =>
    if x4 ≤ 0 then
      some h
    else
      (fX3_joinsAt h a0 x1).bind fun q43 =>
      if q43 = 0 then
        some h
      else
        (getR h 3 a0 0).bind fun r50 =>
        (getI h 3 a0 5).bind fun v54 =>
        (rdI h r50 v54).bind fun v57 =>
        (getI h 3 a0 5).bind fun v62 =>
        (putV h 3 a0 5 (.int (v62 + 1))).bind fun h67 =>
        (gO h67 3 a0 (oX3_readJoined h67 a0 (x1 + 1) x2)).bind fun q75 =>
        (fX3_write q75 a0 v57).bind fun q81 =>
        fX3_readJoined_36 oX3_readJoined oX3_readOne n36 q81 a0 x1 x2 (x4 + (-1))
set_option maxRecDepth 100000 in
theorem kX3_readJoined_36 {X : Cx} {z : Hp} {n : Nat} {oX3_readJoined : Hp → Nat → Int32 → Int32 → Option Hp} {oX3_readOne : Hp → Nat → Int32 → Option Hp} (C : Jc X yX3_readJoined cX3_readJoined 6 none (n + 1 + 2) 0 0 (none, z)) (hO : (∀ (h : Hp) (a0 : Nat) (x1 : Int32) (x2 : Int32) (z : Hp), oX3_readJoined h a0 x1 x2 = some z → Mc yX3_readJoined cX3_readJoined 6 none (n + 2) 0 0 [.ref a0, .int x1, .int x2] h (none, z)) ∧ (∀ (h : Hp) (a0 : Nat) (x1 : Int32) (z : Hp), oX3_readOne h a0 x1 = some z → Mc yX3_readOne cX3_readOne 2 none (n + 2) 0 0 [.ref a0, .int x1] h (none, z))) : ∀ (n36 : Nat) (h : Hp) (a0 : Nat) (x1 : Int32) (x2 : Int32) (x4 : Int32), fX3_readJoined_36 oX3_readJoined oX3_readOne n36 h a0 x1 x2 x4 = some z → J X 0 0 0 0 36 [some (.ref a0), some (.int x1), some (.int x2), none, some (.int x4), none] [] h := by
  intro n36
  induction n36 with
  | zero => intro h a0 x1 x2 x4 hF; cases hF
  | succ n36 ih =>
    intro h a0 x1 x2 x4 hF
    rw [fX3_readJoined_36] at hF
    refine J_iload (pc := 36) C dX3_readJoined_36 rfl ?_
    refine J_if_le (pc := 38) (tgt := 90) C dX3_readJoined_38 rfl hF (fun hF => ?_) (fun hF => ?_)
    · exact J_vret (pc := 90) C dX3_readJoined_90 hF (by decide) (by decide)
    · refine J_aload_n (pc := 41) C dX3_readJoined_41 rfl ?_
      refine J_iload_n (pc := 42) C dX3_readJoined_42 rfl ?_
      refine J_bind hF (fun q43 hq hF => ?_)
      refine J_callV0_ip (pc := 43) (stk := [.int x1, .ref a0]) (st := []) C dX3_readJoined_43 yw_X3_joinsAt w_MLX3_54 in_X3_joinsAt sl_X3_joinsAt ⟨_, rfl, rfl⟩ (kX3_joinsAt hq) (gO_some hq).1 rfl (by omega) rfl (Nat.le_of_ble_eq_true rfl) ?_
      refine J_if_eq (pc := 46) (tgt := 90) C dX3_readJoined_46 rfl hF (fun hF => ?_) (fun hF => ?_)
      · exact J_vret (pc := 90) C dX3_readJoined_90 hF (by decide) (by decide)
      · refine J_aload_n (pc := 49) C dX3_readJoined_49 rfl ?_
        refine J_getR (pc := 50) C dX3_readJoined_50 fg_X3_9 hF (fun r50 hF => ?_)
        refine J_aload_n (pc := 53) C dX3_readJoined_53 rfl ?_
        refine J_getI (pc := 54) C dX3_readJoined_54 fg_X3_33 hF (fun v54 hF => ?_)
        refine J_iald (pc := 57) C dX3_readJoined_57 hF (fun v57 hF => ?_)
        refine J_istore (pc := 58) (lv' := [some (.ref a0), some (.int x1), some (.int x2), none, some (.int x4), some (.int v57)]) C dX3_readJoined_58 rfl ?_
        refine J_aload_n (pc := 60) C dX3_readJoined_60 rfl ?_
        refine J_dup (pc := 61) C dX3_readJoined_61 rfl ?_
        refine J_getI (pc := 62) C dX3_readJoined_62 fg_X3_33 hF (fun v62 hF => ?_)
        refine J_iconst (pc := 65) C dX3_readJoined_65 ic_1 ?_
        refine J_iadd (pc := 66) C dX3_readJoined_66 ?_
        refine J_put (pc := 67) C dX3_readJoined_67 (fp_X3_33 _) hF rfl rfl (fun h67 hF => ?_)
        refine J_aload_n (pc := 70) C dX3_readJoined_70 rfl ?_
        refine J_iload_n (pc := 71) C dX3_readJoined_71 rfl ?_
        refine J_iconst (pc := 72) C dX3_readJoined_72 ic_1 ?_
        refine J_iadd (pc := 73) C dX3_readJoined_73 ?_
        refine J_iload_n (pc := 74) C dX3_readJoined_74 rfl ?_
        refine J_bind hF (fun q75 hq hF => ?_)
        have hq := gO_some hq
        refine J_callV0_v (pc := 75) (stk := [.int x2, .int (x1 + 1), .ref a0]) (st := []) C dX3_readJoined_75 yw_X3_readJoined w_MLX3_25 in_X3_readJoined sl_X3_readJoined ⟨_, rfl, rfl⟩ (hO.1 _ _ _ _ _ hq.2) hq.1 rfl (by omega) rfl (Nat.le_of_ble_eq_true rfl) ?_
        refine J_aload_n (pc := 78) C dX3_readJoined_78 rfl ?_
        refine J_iload (pc := 79) C dX3_readJoined_79 rfl ?_
        refine J_bind hF (fun q81 hq hF => ?_)
        refine J_callV0_v (pc := 81) (stk := [.int v57, .ref a0]) (st := []) C dX3_readJoined_81 yw_X3_write w_MLX3_58 in_X3_write sl_X3_write ⟨_, rfl, rfl⟩ (kX3_write hq) (gO_some hq).1 rfl (by omega) rfl (Nat.le_of_ble_eq_true rfl) ?_
        refine J_iinc (pc := 84) (lv' := [some (.ref a0), some (.int x1), some (.int x2), none, some (.int (x4 + (-1))), some (.int v57)]) C dX3_readJoined_84 rfl ic_m1 rfl ?_
        refine J_goto (pc := 87) (tgt := 36) C dX3_readJoined_87 rfl ?_
        refine J_msk (m := [true, true, true, false, true, false]) rfl ?_
        exact ih q81 a0 x1 x2 (x4 + (-1)) hF
def bX3_readJoined (oX3_readJoined : Hp → Nat → Int32 → Int32 → Option Hp) (oX3_readOne : Hp → Nat → Int32 → Option Hp) (h : Hp) (a0 : Nat) (x1 : Int32) (x2 : Int32) : Option Hp :=
  if x1 < 5 then
    (gO h 3 a0 (oX3_readJoined h a0 (x1 + 1) x2)).bind fun q16 =>
    if x1 = 2 then
      fX3_readJoined_36 oX3_readJoined oX3_readOne 1000 q16 a0 x1 x2 1
    else
      (getI q16 3 a0 1).bind fun v29 =>
      fX3_readJoined_36 oX3_readJoined oX3_readOne 1000 q16 a0 x1 x2 v29
  else
    (gO h 3 a0 (oX3_readOne h a0 x2)).bind fun q7 =>
    some q7
set_option maxRecDepth 100000 in
theorem bkX3_readJoined {n : Nat} {oX3_readJoined : Hp → Nat → Int32 → Int32 → Option Hp} {oX3_readOne : Hp → Nat → Int32 → Option Hp} (hO : (∀ (h : Hp) (a0 : Nat) (x1 : Int32) (x2 : Int32) (z : Hp), oX3_readJoined h a0 x1 x2 = some z → Mc yX3_readJoined cX3_readJoined 6 none (n + 2) 0 0 [.ref a0, .int x1, .int x2] h (none, z)) ∧ (∀ (h : Hp) (a0 : Nat) (x1 : Int32) (z : Hp), oX3_readOne h a0 x1 = some z → Mc yX3_readOne cX3_readOne 2 none (n + 2) 0 0 [.ref a0, .int x1] h (none, z))) {h : Hp} {a0 : Nat} {x1 : Int32} {x2 : Int32} {z : Hp} (hF : bX3_readJoined oX3_readJoined oX3_readOne h a0 x1 x2 = some z) : Mc yX3_readJoined cX3_readJoined 6 none (n + 1 + 2) 0 0 [.ref a0, .int x1, .int x2] h (none, z) := by
  unfold bX3_readJoined at hF
  refine Mc_of [some (.ref a0), some (.int x1), some (.int x2), none, none, none] plX3 rfl rfl (Nat.le_of_ble_eq_true rfl) (fun X C => ?_)
  refine J_iload_n (pc := 0) C dX3_readJoined_0 rfl ?_
  refine J_iconst (pc := 1) C dX3_readJoined_1 ic_5 ?_
  refine J_icmp_lt (pc := 2) (tgt := 11) C dX3_readJoined_2 rfl hF (fun hF => ?_) (fun hF => ?_)
  · refine J_aload_n (pc := 11) C dX3_readJoined_11 rfl ?_
    refine J_iload_n (pc := 12) C dX3_readJoined_12 rfl ?_
    refine J_iconst (pc := 13) C dX3_readJoined_13 ic_1 ?_
    refine J_iadd (pc := 14) C dX3_readJoined_14 ?_
    refine J_iload_n (pc := 15) C dX3_readJoined_15 rfl ?_
    refine J_bind hF (fun q16 hq hF => ?_)
    have hq := gO_some hq
    refine J_callV0_v (pc := 16) (stk := [.int x2, .int (x1 + 1), .ref a0]) (st := []) C dX3_readJoined_16 yw_X3_readJoined w_MLX3_25 in_X3_readJoined sl_X3_readJoined ⟨_, rfl, rfl⟩ (hO.1 _ _ _ _ _ hq.2) hq.1 rfl (by omega) rfl (Nat.le_of_ble_eq_true rfl) ?_
    refine J_iload_n (pc := 19) C dX3_readJoined_19 rfl ?_
    refine J_iconst (pc := 20) C dX3_readJoined_20 ic_2 ?_
    refine J_icmp_ne (pc := 21) (tgt := 28) C dX3_readJoined_21 rfl hF (fun hF => ?_) (fun hF => ?_)
    · refine J_iconst (pc := 24) C dX3_readJoined_24 ic_1 ?_
      refine J_goto (pc := 25) (tgt := 32) C dX3_readJoined_25 rfl ?_
      refine J_istore_n (pc := 32) (lv' := [some (.ref a0), some (.int x1), some (.int x2), some (.int 1), none, none]) C dX3_readJoined_32 rfl ?_
      refine J_iload_n (pc := 33) C dX3_readJoined_33 rfl ?_
      refine J_istore (pc := 34) (lv' := [some (.ref a0), some (.int x1), some (.int x2), some (.int 1), some (.int 1), none]) C dX3_readJoined_34 rfl ?_
      refine J_msk (m := [true, true, true, false, true, false]) rfl ?_
      exact kX3_readJoined_36 C hO 1000 q16 a0 x1 x2 1 hF
    · refine J_aload_n (pc := 28) C dX3_readJoined_28 rfl ?_
      refine J_getI (pc := 29) C dX3_readJoined_29 fg_X3_15 hF (fun v29 hF => ?_)
      refine J_istore_n (pc := 32) (lv' := [some (.ref a0), some (.int x1), some (.int x2), some (.int v29), none, none]) C dX3_readJoined_32 rfl ?_
      refine J_iload_n (pc := 33) C dX3_readJoined_33 rfl ?_
      refine J_istore (pc := 34) (lv' := [some (.ref a0), some (.int x1), some (.int x2), some (.int v29), some (.int v29), none]) C dX3_readJoined_34 rfl ?_
      refine J_msk (m := [true, true, true, false, true, false]) rfl ?_
      exact kX3_readJoined_36 C hO 1000 q16 a0 x1 x2 v29 hF
  · refine J_aload_n (pc := 5) C dX3_readJoined_5 rfl ?_
    refine J_iload_n (pc := 6) C dX3_readJoined_6 rfl ?_
    refine J_bind hF (fun q7 hq hF => ?_)
    have hq := gO_some hq
    refine J_callV0_v (pc := 7) (stk := [.int x2, .ref a0]) (st := []) C dX3_readJoined_7 yw_X3_readOne w_MLX3_50 in_X3_readOne sl_X3_readOne ⟨_, rfl, rfl⟩ (hO.2 _ _ _ _ hq.2) hq.1 rfl (by omega) rfl (Nat.le_of_ble_eq_true rfl) ?_
    exact J_vret (pc := 10) C dX3_readJoined_10 hF (by decide) (by decide)
def fX3_readOne_111 (oX3_readJoined : Hp → Nat → Int32 → Int32 → Option Hp) (oX3_readOne : Hp → Nat → Int32 → Option Hp) (h : Hp) (a0 : Nat) (x1 : Int32) : Option Hp :=
  (fX3_sees h a0 40).bind fun q114 =>
  if q114 = 0 then
    (putV h 3 a0 6 (.int 1)).bind fun h152 =>
    some h152
  else
    if (5 : Int32) ≤ x1 then
      (putV h 3 a0 6 (.int 1)).bind fun h152 =>
      some h152
    else
      (getI h 3 a0 5).bind fun v127 =>
      (putV h 3 a0 5 (.int (v127 + 1))).bind fun h132 =>
      (gO h132 3 a0 (oX3_readJoined h132 a0 0 (x1 + 1))).bind fun q140 =>
      (fX3_close q140 a0).bind fun q144 =>
      some q144
set_option maxRecDepth 100000 in
theorem kX3_readOne_111 {X : Cx} {z : Hp} {n : Nat} {oX3_readJoined : Hp → Nat → Int32 → Int32 → Option Hp} {oX3_readOne : Hp → Nat → Int32 → Option Hp} (C : Jc X yX3_readOne cX3_readOne 2 none (n + 1 + 2) 0 0 (none, z)) (hO : (∀ (h : Hp) (a0 : Nat) (x1 : Int32) (x2 : Int32) (z : Hp), oX3_readJoined h a0 x1 x2 = some z → Mc yX3_readJoined cX3_readJoined 6 none (n + 2) 0 0 [.ref a0, .int x1, .int x2] h (none, z)) ∧ (∀ (h : Hp) (a0 : Nat) (x1 : Int32) (z : Hp), oX3_readOne h a0 x1 = some z → Mc yX3_readOne cX3_readOne 2 none (n + 2) 0 0 [.ref a0, .int x1] h (none, z))) (h : Hp) (a0 : Nat) (x1 : Int32) (hF : fX3_readOne_111 oX3_readJoined oX3_readOne h a0 x1 = some z) : J X 0 0 0 0 111 [some (.ref a0), some (.int x1)] [] h := by
  unfold fX3_readOne_111 at hF
  refine J_aload_n (pc := 111) C dX3_readOne_111 rfl ?_
  refine J_bipush (pc := 112) C dX3_readOne_112 bc_40 ?_
  refine J_bind hF (fun q114 hq hF => ?_)
  refine J_callV0_ip (pc := 114) (stk := [.int 40, .ref a0]) (st := []) C dX3_readOne_114 yw_X3_sees w_MLX3_75 in_X3_sees sl_X3_sees ⟨_, rfl, rfl⟩ (kX3_sees hq) (gO_some hq).1 rfl (by omega) rfl (Nat.le_of_ble_eq_true rfl) ?_
  refine J_if_eq (pc := 117) (tgt := 150) C dX3_readOne_117 rfl hF (fun hF => ?_) (fun hF => ?_)
  · refine J_aload_n (pc := 150) C dX3_readOne_150 rfl ?_
    refine J_iconst (pc := 151) C dX3_readOne_151 ic_1 ?_
    refine J_put (pc := 152) C dX3_readOne_152 (fp_X3_29 _) hF rfl rfl (fun h152 hF => ?_)
    exact J_vret (pc := 155) C dX3_readOne_155 hF (by decide) (by decide)
  · refine J_iload_n (pc := 120) C dX3_readOne_120 rfl ?_
    refine J_iconst (pc := 121) C dX3_readOne_121 ic_5 ?_
    refine J_icmp_ge (pc := 122) (tgt := 150) C dX3_readOne_122 rfl hF (fun hF => ?_) (fun hF => ?_)
    · refine J_aload_n (pc := 150) C dX3_readOne_150 rfl ?_
      refine J_iconst (pc := 151) C dX3_readOne_151 ic_1 ?_
      refine J_put (pc := 152) C dX3_readOne_152 (fp_X3_29 _) hF rfl rfl (fun h152 hF => ?_)
      exact J_vret (pc := 155) C dX3_readOne_155 hF (by decide) (by decide)
    · refine J_aload_n (pc := 125) C dX3_readOne_125 rfl ?_
      refine J_dup (pc := 126) C dX3_readOne_126 rfl ?_
      refine J_getI (pc := 127) C dX3_readOne_127 fg_X3_33 hF (fun v127 hF => ?_)
      refine J_iconst (pc := 130) C dX3_readOne_130 ic_1 ?_
      refine J_iadd (pc := 131) C dX3_readOne_131 ?_
      refine J_put (pc := 132) C dX3_readOne_132 (fp_X3_33 _) hF rfl rfl (fun h132 hF => ?_)
      refine J_aload_n (pc := 135) C dX3_readOne_135 rfl ?_
      refine J_iconst (pc := 136) C dX3_readOne_136 ic_0 ?_
      refine J_iload_n (pc := 137) C dX3_readOne_137 rfl ?_
      refine J_iconst (pc := 138) C dX3_readOne_138 ic_1 ?_
      refine J_iadd (pc := 139) C dX3_readOne_139 ?_
      refine J_bind hF (fun q140 hq hF => ?_)
      have hq := gO_some hq
      refine J_callV0_v (pc := 140) (stk := [.int (x1 + 1), .int 0, .ref a0]) (st := []) C dX3_readOne_140 yw_X3_readJoined w_MLX3_25 in_X3_readJoined sl_X3_readJoined ⟨_, rfl, rfl⟩ (hO.1 _ _ _ _ _ hq.2) hq.1 rfl (by omega) rfl (Nat.le_of_ble_eq_true rfl) ?_
      refine J_aload_n (pc := 143) C dX3_readOne_143 rfl ?_
      refine J_bind hF (fun q144 hq hF => ?_)
      refine J_callV0_v (pc := 144) (stk := [.ref a0]) (st := []) C dX3_readOne_144 yw_X3_close w_MLX3_78 in_X3_close sl_X3_close ⟨_, rfl, rfl⟩ (kX3_close hq) (gO_some hq).1 rfl (by omega) rfl (Nat.le_of_ble_eq_true rfl) ?_
      refine J_goto (pc := 147) (tgt := 155) C dX3_readOne_147 rfl ?_
      exact J_vret (pc := 155) C dX3_readOne_155 hF (by decide) (by decide)
def fX3_readOne_71 (oX3_readJoined : Hp → Nat → Int32 → Int32 → Option Hp) (oX3_readOne : Hp → Nat → Int32 → Option Hp) (h : Hp) (a0 : Nat) (x1 : Int32) : Option Hp :=
  (fX3_sees h a0 33).bind fun q74 =>
  if q74 = 0 then
    fX3_readOne_111 oX3_readJoined oX3_readOne h a0 x1
  else
    if (5 : Int32) ≤ x1 then
      fX3_readOne_111 oX3_readJoined oX3_readOne h a0 x1
    else
      (getI h 3 a0 5).bind fun v87 =>
      (putV h 3 a0 5 (.int (v87 + 1))).bind fun h92 =>
      (gO h92 3 a0 (oX3_readOne h92 a0 (x1 + 1))).bind fun q99 =>
      (fX3_write q99 a0 33).bind fun q105 =>
      some q105
set_option maxRecDepth 100000 in
theorem kX3_readOne_71 {X : Cx} {z : Hp} {n : Nat} {oX3_readJoined : Hp → Nat → Int32 → Int32 → Option Hp} {oX3_readOne : Hp → Nat → Int32 → Option Hp} (C : Jc X yX3_readOne cX3_readOne 2 none (n + 1 + 2) 0 0 (none, z)) (hO : (∀ (h : Hp) (a0 : Nat) (x1 : Int32) (x2 : Int32) (z : Hp), oX3_readJoined h a0 x1 x2 = some z → Mc yX3_readJoined cX3_readJoined 6 none (n + 2) 0 0 [.ref a0, .int x1, .int x2] h (none, z)) ∧ (∀ (h : Hp) (a0 : Nat) (x1 : Int32) (z : Hp), oX3_readOne h a0 x1 = some z → Mc yX3_readOne cX3_readOne 2 none (n + 2) 0 0 [.ref a0, .int x1] h (none, z))) (h : Hp) (a0 : Nat) (x1 : Int32) (hF : fX3_readOne_71 oX3_readJoined oX3_readOne h a0 x1 = some z) : J X 0 0 0 0 71 [some (.ref a0), some (.int x1)] [] h := by
  unfold fX3_readOne_71 at hF
  refine J_aload_n (pc := 71) C dX3_readOne_71 rfl ?_
  refine J_bipush (pc := 72) C dX3_readOne_72 bc_33 ?_
  refine J_bind hF (fun q74 hq hF => ?_)
  refine J_callV0_ip (pc := 74) (stk := [.int 33, .ref a0]) (st := []) C dX3_readOne_74 yw_X3_sees w_MLX3_75 in_X3_sees sl_X3_sees ⟨_, rfl, rfl⟩ (kX3_sees hq) (gO_some hq).1 rfl (by omega) rfl (Nat.le_of_ble_eq_true rfl) ?_
  refine J_if_eq (pc := 77) (tgt := 111) C dX3_readOne_77 rfl hF (fun hF => ?_) (fun hF => ?_)
  · exact kX3_readOne_111 C hO h a0 x1 hF
  · refine J_iload_n (pc := 80) C dX3_readOne_80 rfl ?_
    refine J_iconst (pc := 81) C dX3_readOne_81 ic_5 ?_
    refine J_icmp_ge (pc := 82) (tgt := 111) C dX3_readOne_82 rfl hF (fun hF => ?_) (fun hF => ?_)
    · exact kX3_readOne_111 C hO h a0 x1 hF
    · refine J_aload_n (pc := 85) C dX3_readOne_85 rfl ?_
      refine J_dup (pc := 86) C dX3_readOne_86 rfl ?_
      refine J_getI (pc := 87) C dX3_readOne_87 fg_X3_33 hF (fun v87 hF => ?_)
      refine J_iconst (pc := 90) C dX3_readOne_90 ic_1 ?_
      refine J_iadd (pc := 91) C dX3_readOne_91 ?_
      refine J_put (pc := 92) C dX3_readOne_92 (fp_X3_33 _) hF rfl rfl (fun h92 hF => ?_)
      refine J_aload_n (pc := 95) C dX3_readOne_95 rfl ?_
      refine J_iload_n (pc := 96) C dX3_readOne_96 rfl ?_
      refine J_iconst (pc := 97) C dX3_readOne_97 ic_1 ?_
      refine J_iadd (pc := 98) C dX3_readOne_98 ?_
      refine J_bind hF (fun q99 hq hF => ?_)
      have hq := gO_some hq
      refine J_callV0_v (pc := 99) (stk := [.int (x1 + 1), .ref a0]) (st := []) C dX3_readOne_99 yw_X3_readOne w_MLX3_50 in_X3_readOne sl_X3_readOne ⟨_, rfl, rfl⟩ (hO.2 _ _ _ _ hq.2) hq.1 rfl (by omega) rfl (Nat.le_of_ble_eq_true rfl) ?_
      refine J_aload_n (pc := 102) C dX3_readOne_102 rfl ?_
      refine J_bipush (pc := 103) C dX3_readOne_103 bc_33 ?_
      refine J_bind hF (fun q105 hq hF => ?_)
      refine J_callV0_v (pc := 105) (stk := [.int 33, .ref a0]) (st := []) C dX3_readOne_105 yw_X3_write w_MLX3_58 in_X3_write sl_X3_write ⟨_, rfl, rfl⟩ (kX3_write hq) (gO_some hq).1 rfl (by omega) rfl (Nat.le_of_ble_eq_true rfl) ?_
      refine J_goto (pc := 108) (tgt := 155) C dX3_readOne_108 rfl ?_
      exact J_vret (pc := 155) C dX3_readOne_155 hF (by decide) (by decide)
def bX3_readOne (oX3_readJoined : Hp → Nat → Int32 → Int32 → Option Hp) (oX3_readOne : Hp → Nat → Int32 → Option Hp) (h : Hp) (a0 : Nat) (x1 : Int32) : Option Hp :=
  (fX3_seesDigit h a0).bind fun q1 =>
  if q1 = 0 then
    (getI h 3 a0 5).bind fun v15 =>
    (getI h 3 a0 1).bind fun v19 =>
    if v19 ≤ v15 then
      fX3_readOne_71 oX3_readJoined oX3_readOne h a0 x1
    else
      (getR h 3 a0 0).bind fun r27 =>
      (getI h 3 a0 5).bind fun v31 =>
      (rdI h r27 v31).bind fun v34 =>
      (fX3_nameOf h a0 v34).bind fun q35 =>
      if q35 < 0 then
        fX3_readOne_71 oX3_readJoined oX3_readOne h a0 x1
      else
        (getR h 3 a0 0).bind fun r44 =>
        (getI h 3 a0 5).bind fun v48 =>
        (rdI h r44 v48).bind fun v51 =>
        (fX3_nameOf h a0 v51).bind fun q52 =>
        (fX3_write h a0 q52).bind fun q55 =>
        (getI q55 3 a0 5).bind fun v60 =>
        (putV q55 3 a0 5 (.int (v60 + 1))).bind fun h65 =>
        some h65
  else
    (fX3_readNumber h a0).bind fun q8 =>
    some q8
set_option maxRecDepth 100000 in
theorem bkX3_readOne {n : Nat} {oX3_readJoined : Hp → Nat → Int32 → Int32 → Option Hp} {oX3_readOne : Hp → Nat → Int32 → Option Hp} (hO : (∀ (h : Hp) (a0 : Nat) (x1 : Int32) (x2 : Int32) (z : Hp), oX3_readJoined h a0 x1 x2 = some z → Mc yX3_readJoined cX3_readJoined 6 none (n + 2) 0 0 [.ref a0, .int x1, .int x2] h (none, z)) ∧ (∀ (h : Hp) (a0 : Nat) (x1 : Int32) (z : Hp), oX3_readOne h a0 x1 = some z → Mc yX3_readOne cX3_readOne 2 none (n + 2) 0 0 [.ref a0, .int x1] h (none, z))) {h : Hp} {a0 : Nat} {x1 : Int32} {z : Hp} (hF : bX3_readOne oX3_readJoined oX3_readOne h a0 x1 = some z) : Mc yX3_readOne cX3_readOne 2 none (n + 1 + 2) 0 0 [.ref a0, .int x1] h (none, z) := by
  unfold bX3_readOne at hF
  refine Mc_of [some (.ref a0), some (.int x1)] plX3 rfl rfl (Nat.le_of_ble_eq_true rfl) (fun X C => ?_)
  refine J_aload_n (pc := 0) C dX3_readOne_0 rfl ?_
  refine J_bind hF (fun q1 hq hF => ?_)
  refine J_callV0_ip (pc := 1) (stk := [.ref a0]) (st := []) C dX3_readOne_1 yw_X3_seesDigit w_MLX3_65 in_X3_seesDigit sl_X3_seesDigit ⟨_, rfl, rfl⟩ (kX3_seesDigit hq) (gO_some hq).1 rfl (by omega) rfl (Nat.le_of_ble_eq_true rfl) ?_
  refine J_if_eq (pc := 4) (tgt := 14) C dX3_readOne_4 rfl hF (fun hF => ?_) (fun hF => ?_)
  · refine J_aload_n (pc := 14) C dX3_readOne_14 rfl ?_
    refine J_getI (pc := 15) C dX3_readOne_15 fg_X3_33 hF (fun v15 hF => ?_)
    refine J_aload_n (pc := 18) C dX3_readOne_18 rfl ?_
    refine J_getI (pc := 19) C dX3_readOne_19 fg_X3_15 hF (fun v19 hF => ?_)
    refine J_icmp_ge (pc := 22) (tgt := 71) C dX3_readOne_22 rfl hF (fun hF => ?_) (fun hF => ?_)
    · exact kX3_readOne_71 C hO h a0 x1 hF
    · refine J_aload_n (pc := 25) C dX3_readOne_25 rfl ?_
      refine J_aload_n (pc := 26) C dX3_readOne_26 rfl ?_
      refine J_getR (pc := 27) C dX3_readOne_27 fg_X3_9 hF (fun r27 hF => ?_)
      refine J_aload_n (pc := 30) C dX3_readOne_30 rfl ?_
      refine J_getI (pc := 31) C dX3_readOne_31 fg_X3_33 hF (fun v31 hF => ?_)
      refine J_iald (pc := 34) C dX3_readOne_34 hF (fun v34 hF => ?_)
      refine J_bind hF (fun q35 hq hF => ?_)
      refine J_callV0_ip (pc := 35) (stk := [.int v34, .ref a0]) (st := []) C dX3_readOne_35 yw_X3_nameOf w_MLX3_72 in_X3_nameOf sl_X3_nameOf ⟨_, rfl, rfl⟩ (kX3_nameOf hq) (gO_some hq).1 rfl (by omega) rfl (Nat.le_of_ble_eq_true rfl) ?_
      refine J_if_lt (pc := 38) (tgt := 71) C dX3_readOne_38 rfl hF (fun hF => ?_) (fun hF => ?_)
      · exact kX3_readOne_71 C hO h a0 x1 hF
      · refine J_aload_n (pc := 41) C dX3_readOne_41 rfl ?_
        refine J_aload_n (pc := 42) C dX3_readOne_42 rfl ?_
        refine J_aload_n (pc := 43) C dX3_readOne_43 rfl ?_
        refine J_getR (pc := 44) C dX3_readOne_44 fg_X3_9 hF (fun r44 hF => ?_)
        refine J_aload_n (pc := 47) C dX3_readOne_47 rfl ?_
        refine J_getI (pc := 48) C dX3_readOne_48 fg_X3_33 hF (fun v48 hF => ?_)
        refine J_iald (pc := 51) C dX3_readOne_51 hF (fun v51 hF => ?_)
        refine J_bind hF (fun q52 hq hF => ?_)
        refine J_callV0_ip (pc := 52) (stk := [.int v51, .ref a0, .ref a0]) (st := [.ref a0]) C dX3_readOne_52 yw_X3_nameOf w_MLX3_72 in_X3_nameOf sl_X3_nameOf ⟨_, rfl, rfl⟩ (kX3_nameOf hq) (gO_some hq).1 rfl (by omega) rfl (Nat.le_of_ble_eq_true rfl) ?_
        refine J_bind hF (fun q55 hq hF => ?_)
        refine J_callV0_v (pc := 55) (stk := [.int q52, .ref a0]) (st := []) C dX3_readOne_55 yw_X3_write w_MLX3_58 in_X3_write sl_X3_write ⟨_, rfl, rfl⟩ (kX3_write hq) (gO_some hq).1 rfl (by omega) rfl (Nat.le_of_ble_eq_true rfl) ?_
        refine J_aload_n (pc := 58) C dX3_readOne_58 rfl ?_
        refine J_dup (pc := 59) C dX3_readOne_59 rfl ?_
        refine J_getI (pc := 60) C dX3_readOne_60 fg_X3_33 hF (fun v60 hF => ?_)
        refine J_iconst (pc := 63) C dX3_readOne_63 ic_1 ?_
        refine J_iadd (pc := 64) C dX3_readOne_64 ?_
        refine J_put (pc := 65) C dX3_readOne_65 (fp_X3_33 _) hF rfl rfl (fun h65 hF => ?_)
        refine J_goto (pc := 68) (tgt := 155) C dX3_readOne_68 rfl ?_
        exact J_vret (pc := 155) C dX3_readOne_155 hF (by decide) (by decide)
  · refine J_aload_n (pc := 7) C dX3_readOne_7 rfl ?_
    refine J_bind hF (fun q8 hq hF => ?_)
    refine J_callV0_v (pc := 8) (stk := [.ref a0]) (st := []) C dX3_readOne_8 yw_X3_readNumber w_MLX3_69 in_X3_readNumber sl_X3_readNumber ⟨_, rfl, rfl⟩ (kX3_readNumber hq) (gO_some hq).1 rfl (by omega) rfl (Nat.le_of_ble_eq_true rfl) ?_
    refine J_goto (pc := 11) (tgt := 155) C dX3_readOne_11 rfl ?_
    exact J_vret (pc := 155) C dX3_readOne_155 hF (by decide) (by decide)
def gX3_readJoined : Nat → Nat → Hp → Nat → Int32 → Int32 → Option Hp
  | 0, _, _, _, _, _ => none
  | n + 1, i, h, a0, y0, y1 =>
    if i = 0 then bX3_readJoined (fun h a0 x1 x2 => gX3_readJoined n 0 h a0 x1 x2) (fun h a0 x1 => gX3_readJoined n 1 h a0 x1 0) h a0 y0 y1 else
    bX3_readOne (fun h a0 x1 x2 => gX3_readJoined n 0 h a0 x1 x2) (fun h a0 x1 => gX3_readJoined n 1 h a0 x1 0) h a0 y0
theorem gkX3_readJoined : ∀ n : Nat, (∀ (h : Hp) (a0 : Nat) (x1 : Int32) (x2 : Int32) (z : Hp), gX3_readJoined n 0 h a0 x1 x2 = some z → Mc yX3_readJoined cX3_readJoined 6 none (n + 2) 0 0 [.ref a0, .int x1, .int x2] h (none, z)) ∧ (∀ (h : Hp) (a0 : Nat) (x1 : Int32) (z : Hp), gX3_readJoined n 1 h a0 x1 0 = some z → Mc yX3_readOne cX3_readOne 2 none (n + 2) 0 0 [.ref a0, .int x1] h (none, z)) := by
  intro n
  induction n with
  | zero => exact ⟨fun _ _ _ _ _ hF => (by cases hF), fun _ _ _ _ hF => (by cases hF)⟩
  | succ n ih => exact ⟨fun _ _ _ _ _ hF => bkX3_readJoined (n := n) ih hF, fun _ _ _ _ hF => bkX3_readOne (n := n) ih hF⟩
def fX3_readJoined (h : Hp) (a0 : Nat) (x1 : Int32) (x2 : Int32) : Option Hp := gO h 3 a0 (gX3_readJoined 64 0 h a0 x1 x2)
theorem kX3_readJoined {h : Hp} {a0 : Nat} {x1 : Int32} {x2 : Int32} {z : Hp} (hF : fX3_readJoined h a0 x1 x2 = some z) : Mc yX3_readJoined cX3_readJoined 6 none 66 0 0 [.ref a0, .int x1, .int x2] h (none, z) := (gkX3_readJoined 64).1 h a0 x1 x2 _ (gO_some hF).2
def fX3_readOne (h : Hp) (a0 : Nat) (x1 : Int32) : Option Hp := gO h 3 a0 (gX3_readJoined 64 1 h a0 x1 0)
theorem kX3_readOne {h : Hp} {a0 : Nat} {x1 : Int32} {z : Hp} (hF : fX3_readOne h a0 x1 = some z) : Mc yX3_readOne cX3_readOne 2 none 66 0 0 [.ref a0, .int x1] h (none, z) := (gkX3_readJoined 64).2 h a0 x1 _ (gO_some hF).2
def fX3_readsAll (h : Hp) (a0 : Nat) : Option (Int32 × Hp) := gO h 3 a0 (
  (fX3_readJoined h a0 0 0).bind fun q3 =>
  (getI q3 3 a0 6).bind fun v7 =>
  if v7 = 0 then
    (getI q3 3 a0 5).bind fun v14 =>
    (getI q3 3 a0 1).bind fun v18 =>
    if v14 = v18 then
      some (1, q3)
    else
      some (0, q3)
  else
    some (0, q3))
set_option maxRecDepth 100000 in
theorem kX3_readsAll {h : Hp} {a0 : Nat} {z : (Int32 × Hp)} (hF : fX3_readsAll h a0 = some z) : Mc yX3_readsAll cX3_readsAll 1 (some .boolean) 67 0 0 [.ref a0] h (some (.int z.1), z.2) := by
  have hF := (gO_some hF).2
  refine Mc_of [some (.ref a0)] plX3 rfl rfl (Nat.le_of_ble_eq_true rfl) (fun X C => ?_)
  refine J_aload_n (pc := 0) C dX3_readsAll_0 rfl ?_
  refine J_iconst (pc := 1) C dX3_readsAll_1 ic_0 ?_
  refine J_iconst (pc := 2) C dX3_readsAll_2 ic_0 ?_
  refine J_bind hF (fun q3 hq hF => ?_)
  refine J_callV0_v (pc := 3) (stk := [.int 0, .int 0, .ref a0]) (st := []) C dX3_readsAll_3 yw_X3_readJoined w_MLX3_25 in_X3_readJoined sl_X3_readJoined ⟨_, rfl, rfl⟩ (kX3_readJoined hq) (gO_some hq).1 rfl (by decide) rfl (Nat.le_of_ble_eq_true rfl) ?_
  refine J_aload_n (pc := 6) C dX3_readsAll_6 rfl ?_
  refine J_getI (pc := 7) C dX3_readsAll_7 fg_X3_29 hF (fun v7 hF => ?_)
  refine J_if_ne (pc := 10) (tgt := 28) C dX3_readsAll_10 rfl hF (fun hF => ?_) (fun hF => ?_)
  · refine J_aload_n (pc := 13) C dX3_readsAll_13 rfl ?_
    refine J_getI (pc := 14) C dX3_readsAll_14 fg_X3_33 hF (fun v14 hF => ?_)
    refine J_aload_n (pc := 17) C dX3_readsAll_17 rfl ?_
    refine J_getI (pc := 18) C dX3_readsAll_18 fg_X3_15 hF (fun v18 hF => ?_)
    refine J_icmp_ne (pc := 21) (tgt := 28) C dX3_readsAll_21 rfl hF (fun hF => ?_) (fun hF => ?_)
    · refine J_iconst (pc := 24) C dX3_readsAll_24 ic_1 ?_
      refine J_goto (pc := 25) (tgt := 29) C dX3_readsAll_25 rfl ?_
      exact J_zret (pc := 29) C dX3_readsAll_29 rfl hF (by decide) (by decide)
    · refine J_iconst (pc := 28) C dX3_readsAll_28 ic_0 ?_
      exact J_zret (pc := 29) C dX3_readsAll_29 rfl hF (by decide) (by decide)
  · refine J_iconst (pc := 28) C dX3_readsAll_28 ic_0 ?_
    exact J_zret (pc := 29) C dX3_readsAll_29 rfl hF (by decide) (by decide)
def fX4_isMissing (h : Hp) (a0 : Nat) (x1 : Int32) : Option Int32 := gO h 4 a0 (
  (getR h 4 a0 0).bind fun r1 =>
  (rdI h r1 x1).bind fun v5 =>
  if v5 = 0 then
    some 1
  else
    some 0)
set_option maxRecDepth 100000 in
theorem kX4_isMissing {h : Hp} {a0 : Nat} {x1 : Int32} {z : Int32} (hF : fX4_isMissing h a0 x1 = some z) : Mc yX4_isMissing cX4_isMissing 2 (some .boolean) 0 0 0 [.ref a0, .int x1] h (some (.int z), h) := by
  have hF := (gO_some hF).2
  refine Mc_of [some (.ref a0), some (.int x1)] plX4 rfl rfl (Nat.le_of_ble_eq_true rfl) (fun X C => ?_)
  refine J_aload_n (pc := 0) C dX4_isMissing_0 rfl ?_
  refine J_getR (pc := 1) C dX4_isMissing_1 fg_X4_9 hF (fun r1 hF => ?_)
  refine J_iload_n (pc := 4) C dX4_isMissing_4 rfl ?_
  refine J_iald (pc := 5) C dX4_isMissing_5 hF (fun v5 hF => ?_)
  refine J_if_ne (pc := 6) (tgt := 13) C dX4_isMissing_6 rfl hF (fun hF => ?_) (fun hF => ?_)
  · refine J_iconst (pc := 9) C dX4_isMissing_9 ic_1 ?_
    refine J_goto (pc := 10) (tgt := 14) C dX4_isMissing_10 rfl ?_
    exact J_zretP (pc := 14) C dX4_isMissing_14 rfl hF (by decide) (by decide)
  · refine J_iconst (pc := 13) C dX4_isMissing_13 ic_0 ?_
    exact J_zretP (pc := 14) C dX4_isMissing_14 rfl hF (by decide) (by decide)
def fX4_isOne (h : Hp) (a0 : Nat) (x1 : Int32) : Option Int32 := gO h 4 a0 (
  if x1 < 0 then
    some 0
  else
    if (4 : Int32) ≤ x1 then
      some 0
    else
      some 1)
set_option maxRecDepth 100000 in
theorem kX4_isOne {h : Hp} {a0 : Nat} {x1 : Int32} {z : Int32} (hF : fX4_isOne h a0 x1 = some z) : Mc yX4_isOne cX4_isOne 2 (some .boolean) 0 0 0 [.ref a0, .int x1] h (some (.int z), h) := by
  have hF := (gO_some hF).2
  refine Mc_of [some (.ref a0), some (.int x1)] plX4 rfl rfl (Nat.le_of_ble_eq_true rfl) (fun X C => ?_)
  refine J_iload_n (pc := 0) C dX4_isOne_0 rfl ?_
  refine J_if_lt (pc := 1) (tgt := 13) C dX4_isOne_1 rfl hF (fun hF => ?_) (fun hF => ?_)
  · refine J_iconst (pc := 13) C dX4_isOne_13 ic_0 ?_
    exact J_zretP (pc := 14) C dX4_isOne_14 rfl hF (by decide) (by decide)
  · refine J_iload_n (pc := 4) C dX4_isOne_4 rfl ?_
    refine J_iconst (pc := 5) C dX4_isOne_5 ic_4 ?_
    refine J_icmp_ge (pc := 6) (tgt := 13) C dX4_isOne_6 rfl hF (fun hF => ?_) (fun hF => ?_)
    · refine J_iconst (pc := 13) C dX4_isOne_13 ic_0 ?_
      exact J_zretP (pc := 14) C dX4_isOne_14 rfl hF (by decide) (by decide)
    · refine J_iconst (pc := 9) C dX4_isOne_9 ic_1 ?_
      refine J_goto (pc := 10) (tgt := 14) C dX4_isOne_10 rfl ?_
      exact J_zretP (pc := 14) C dX4_isOne_14 rfl hF (by decide) (by decide)
def fX4_isWidth (h : Hp) (a0 : Nat) (x1 : Int32) : Option Int32 := gO h 4 a0 (
  if x1 = 0 then
    some 1
  else
    if x1 = 8 then
      some 1
    else
      if x1 = 16 then
        some 1
      else
        if x1 = 32 then
          some 1
        else
          some 0)
set_option maxRecDepth 100000 in
theorem kX4_isWidth {h : Hp} {a0 : Nat} {x1 : Int32} {z : Int32} (hF : fX4_isWidth h a0 x1 = some z) : Mc yX4_isWidth cX4_isWidth 2 (some .boolean) 0 0 0 [.ref a0, .int x1] h (some (.int z), h) := by
  have hF := (gO_some hF).2
  refine Mc_of [some (.ref a0), some (.int x1)] plX4 rfl rfl (Nat.le_of_ble_eq_true rfl) (fun X C => ?_)
  refine J_iload_n (pc := 0) C dX4_isWidth_0 rfl ?_
  refine J_if_eq (pc := 1) (tgt := 22) C dX4_isWidth_1 rfl hF (fun hF => ?_) (fun hF => ?_)
  · refine J_iconst (pc := 22) C dX4_isWidth_22 ic_1 ?_
    refine J_goto (pc := 23) (tgt := 27) C dX4_isWidth_23 rfl ?_
    exact J_zretP (pc := 27) C dX4_isWidth_27 rfl hF (by decide) (by decide)
  · refine J_iload_n (pc := 4) C dX4_isWidth_4 rfl ?_
    refine J_bipush (pc := 5) C dX4_isWidth_5 bc_8 ?_
    refine J_icmp_eq (pc := 7) (tgt := 22) C dX4_isWidth_7 rfl hF (fun hF => ?_) (fun hF => ?_)
    · refine J_iconst (pc := 22) C dX4_isWidth_22 ic_1 ?_
      refine J_goto (pc := 23) (tgt := 27) C dX4_isWidth_23 rfl ?_
      exact J_zretP (pc := 27) C dX4_isWidth_27 rfl hF (by decide) (by decide)
    · refine J_iload_n (pc := 10) C dX4_isWidth_10 rfl ?_
      refine J_bipush (pc := 11) C dX4_isWidth_11 bc_16 ?_
      refine J_icmp_eq (pc := 13) (tgt := 22) C dX4_isWidth_13 rfl hF (fun hF => ?_) (fun hF => ?_)
      · refine J_iconst (pc := 22) C dX4_isWidth_22 ic_1 ?_
        refine J_goto (pc := 23) (tgt := 27) C dX4_isWidth_23 rfl ?_
        exact J_zretP (pc := 27) C dX4_isWidth_27 rfl hF (by decide) (by decide)
      · refine J_iload_n (pc := 16) C dX4_isWidth_16 rfl ?_
        refine J_bipush (pc := 17) C dX4_isWidth_17 bc_32 ?_
        refine J_icmp_ne (pc := 19) (tgt := 26) C dX4_isWidth_19 rfl hF (fun hF => ?_) (fun hF => ?_)
        · refine J_iconst (pc := 22) C dX4_isWidth_22 ic_1 ?_
          refine J_goto (pc := 23) (tgt := 27) C dX4_isWidth_23 rfl ?_
          exact J_zretP (pc := 27) C dX4_isWidth_27 rfl hF (by decide) (by decide)
        · refine J_iconst (pc := 26) C dX4_isWidth_26 ic_0 ?_
          exact J_zretP (pc := 27) C dX4_isWidth_27 rfl hF (by decide) (by decide)
def fX4_layOut (h : Hp) (a0 : Nat) (x1 : Int32) (x2 : Int32) (x3 : Int32) : Option Hp := gO h 4 a0 (
  (getR h 4 a0 0).bind fun r1 =>
  (wrI h r1 x1 x2).bind fun h6 =>
  (getR h6 4 a0 1).bind fun r8 =>
  (wrI h6 r8 x1 x3).bind fun h13 =>
  (getR h13 4 a0 2).bind fun r15 =>
  (rdR h13 r15 x1).bind fun r19 =>
  (fJ7_fill_53178 h13 r19 0).bind fun q21 =>
  some q21)
set_option maxRecDepth 100000 in
theorem kX4_layOut {h : Hp} {a0 : Nat} {x1 : Int32} {x2 : Int32} {x3 : Int32} {z : Hp} (hF : fX4_layOut h a0 x1 x2 x3 = some z) : Mc yX4_layOut cX4_layOut 4 none 1 0 0 [.ref a0, .int x1, .int x2, .int x3] h (none, z) := by
  have hF := (gO_some hF).2
  refine Mc_of [some (.ref a0), some (.int x1), some (.int x2), some (.int x3)] plX4 rfl rfl (Nat.le_of_ble_eq_true rfl) (fun X C => ?_)
  refine J_aload_n (pc := 0) C dX4_layOut_0 rfl ?_
  refine J_getR (pc := 1) C dX4_layOut_1 fg_X4_9 hF (fun r1 hF => ?_)
  refine J_iload_n (pc := 4) C dX4_layOut_4 rfl ?_
  refine J_iload_n (pc := 5) C dX4_layOut_5 rfl ?_
  refine J_iast (pc := 6) C dX4_layOut_6 hF (fun h6 hF => ?_)
  refine J_aload_n (pc := 7) C dX4_layOut_7 rfl ?_
  refine J_getR (pc := 8) C dX4_layOut_8 fg_X4_13 hF (fun r8 hF => ?_)
  refine J_iload_n (pc := 11) C dX4_layOut_11 rfl ?_
  refine J_iload_n (pc := 12) C dX4_layOut_12 rfl ?_
  refine J_iast (pc := 13) C dX4_layOut_13 hF (fun h13 hF => ?_)
  refine J_aload_n (pc := 14) C dX4_layOut_14 rfl ?_
  refine J_getR (pc := 15) C dX4_layOut_15 fg_X4_18 hF (fun r15 hF => ?_)
  refine J_iload_n (pc := 18) C dX4_layOut_18 rfl ?_
  refine J_aald (pc := 19) C dX4_layOut_19 hF (fun r19 hF => ?_)
  refine J_iconst (pc := 20) C dX4_layOut_20 ic_0 ?_
  refine J_bind hF (fun q21 hq hF => ?_)
  refine J_callS0_v (pc := 21) (stk := [.int 0, .ref r19]) (st := []) C dX4_layOut_21 yw_J7_fill_53178 w_MLX4_21 st_J7_fill_53178 (kJ7_fill_53178 hq) rfl (by decide) rfl (Nat.le_of_ble_eq_true rfl) ?_
  exact J_vret (pc := 24) C dX4_layOut_24 hF (by decide) (by decide)
def fX4_stand (h : Hp) (a0 : Nat) (x1 : Int32) (x2 : Int32) (x3 : Int32) : Option Int32 := gO h 4 a0 (
  if x3 < 0 then
    some 0
  else
    if x2 < 0 then
      some 0
    else
      (getR h 4 a0 1).bind fun r10 =>
      (rdI h r10 x1).bind fun v14 =>
      if v14 < x3 then
        some 0
      else
        (getR h 4 a0 1).bind fun r20 =>
        (rdI h r20 x1).bind fun v24 =>
        if (v24 - x3) < x2 then
          some 0
        else
          some 1)
set_option maxRecDepth 100000 in
theorem kX4_stand {h : Hp} {a0 : Nat} {x1 : Int32} {x2 : Int32} {x3 : Int32} {z : Int32} (hF : fX4_stand h a0 x1 x2 x3 = some z) : Mc yX4_stand cX4_stand 4 (some .boolean) 0 0 0 [.ref a0, .int x1, .int x2, .int x3] h (some (.int z), h) := by
  have hF := (gO_some hF).2
  refine Mc_of [some (.ref a0), some (.int x1), some (.int x2), some (.int x3)] plX4 rfl rfl (Nat.le_of_ble_eq_true rfl) (fun X C => ?_)
  refine J_iload_n (pc := 0) C dX4_stand_0 rfl ?_
  refine J_if_lt (pc := 1) (tgt := 34) C dX4_stand_1 rfl hF (fun hF => ?_) (fun hF => ?_)
  · refine J_iconst (pc := 34) C dX4_stand_34 ic_0 ?_
    exact J_zretP (pc := 35) C dX4_stand_35 rfl hF (by decide) (by decide)
  · refine J_iload_n (pc := 4) C dX4_stand_4 rfl ?_
    refine J_if_lt (pc := 5) (tgt := 34) C dX4_stand_5 rfl hF (fun hF => ?_) (fun hF => ?_)
    · refine J_iconst (pc := 34) C dX4_stand_34 ic_0 ?_
      exact J_zretP (pc := 35) C dX4_stand_35 rfl hF (by decide) (by decide)
    · refine J_iload_n (pc := 8) C dX4_stand_8 rfl ?_
      refine J_aload_n (pc := 9) C dX4_stand_9 rfl ?_
      refine J_getR (pc := 10) C dX4_stand_10 fg_X4_13 hF (fun r10 hF => ?_)
      refine J_iload_n (pc := 13) C dX4_stand_13 rfl ?_
      refine J_iald (pc := 14) C dX4_stand_14 hF (fun v14 hF => ?_)
      refine J_icmp_gt (pc := 15) (tgt := 34) C dX4_stand_15 rfl hF (fun hF => ?_) (fun hF => ?_)
      · refine J_iconst (pc := 34) C dX4_stand_34 ic_0 ?_
        exact J_zretP (pc := 35) C dX4_stand_35 rfl hF (by decide) (by decide)
      · refine J_iload_n (pc := 18) C dX4_stand_18 rfl ?_
        refine J_aload_n (pc := 19) C dX4_stand_19 rfl ?_
        refine J_getR (pc := 20) C dX4_stand_20 fg_X4_13 hF (fun r20 hF => ?_)
        refine J_iload_n (pc := 23) C dX4_stand_23 rfl ?_
        refine J_iald (pc := 24) C dX4_stand_24 hF (fun v24 hF => ?_)
        refine J_iload_n (pc := 25) C dX4_stand_25 rfl ?_
        refine J_isub (pc := 26) C dX4_stand_26 ?_
        refine J_icmp_gt (pc := 27) (tgt := 34) C dX4_stand_27 rfl hF (fun hF => ?_) (fun hF => ?_)
        · refine J_iconst (pc := 34) C dX4_stand_34 ic_0 ?_
          exact J_zretP (pc := 35) C dX4_stand_35 rfl hF (by decide) (by decide)
        · refine J_iconst (pc := 30) C dX4_stand_30 ic_1 ?_
          refine J_goto (pc := 31) (tgt := 35) C dX4_stand_31 rfl ?_
          exact J_zretP (pc := 35) C dX4_stand_35 rfl hF (by decide) (by decide)
def fX4_write (h : Hp) (a0 : Nat) (x1 : Int32) (x2 : Int32) (x3 : Int32) : Option Hp := gO h 4 a0 (
  (getR h 4 a0 0).bind fun r1 =>
  (rdI h r1 x1).bind fun v5 =>
  if v5 = 8 then
    (getR h 4 a0 2).bind fun r33 =>
    (rdR h r33 x1).bind fun r37 =>
    (wrI h r37 x2 x3.toInt8.toInt32).bind fun h41 =>
    some h41
  else
    if v5 = 16 then
      (getR h 4 a0 2).bind fun r46 =>
      (rdR h r46 x1).bind fun r50 =>
      (wrI h r50 x2 x3.toInt16.toInt32).bind fun h54 =>
      some h54
    else
      (getR h 4 a0 2).bind fun r59 =>
      (rdR h r59 x1).bind fun r63 =>
      (wrI h r63 x2 x3).bind fun h66 =>
      some h66)
set_option maxRecDepth 100000 in
theorem kX4_write {h : Hp} {a0 : Nat} {x1 : Int32} {x2 : Int32} {x3 : Int32} {z : Hp} (hF : fX4_write h a0 x1 x2 x3 = some z) : Mc yX4_write cX4_write 4 none 0 0 0 [.ref a0, .int x1, .int x2, .int x3] h (none, z) := by
  have hF := (gO_some hF).2
  refine Mc_of [some (.ref a0), some (.int x1), some (.int x2), some (.int x3)] plX4 rfl rfl (Nat.le_of_ble_eq_true rfl) (fun X C => ?_)
  refine J_aload_n (pc := 0) C dX4_write_0 rfl ?_
  refine J_getR (pc := 1) C dX4_write_1 fg_X4_9 hF (fun r1 hF => ?_)
  refine J_iload_n (pc := 4) C dX4_write_4 rfl ?_
  refine J_iald (pc := 5) C dX4_write_5 hF (fun v5 hF => ?_)
  refine J_br hF (fun hc6_8 hF => ?_) (fun hc6_8 hF => ?_)
  · refine J_lsC (pc := 6) (tgt := 32) C 8 hc6_8 dX4_write_6 (by decide) rfl rfl ?_
    refine J_aload_n (pc := 32) C dX4_write_32 rfl ?_
    refine J_getR (pc := 33) C dX4_write_33 fg_X4_18 hF (fun r33 hF => ?_)
    refine J_iload_n (pc := 36) C dX4_write_36 rfl ?_
    refine J_aald (pc := 37) C dX4_write_37 hF (fun r37 hF => ?_)
    refine J_iload_n (pc := 38) C dX4_write_38 rfl ?_
    refine J_iload_n (pc := 39) C dX4_write_39 rfl ?_
    refine J_i2b (pc := 40) C dX4_write_40 ?_
    refine J_iast (pc := 41) C dX4_write_41 hF (fun h41 hF => ?_)
    refine J_goto (pc := 42) (tgt := 67) C dX4_write_42 rfl ?_
    exact J_vret (pc := 67) C dX4_write_67 hF (by decide) (by decide)
  · refine J_br hF (fun hc6_16 hF => ?_) (fun hc6_16 hF => ?_)
    · refine J_lsC (pc := 6) (tgt := 45) C 16 hc6_16 dX4_write_6 (by decide) rfl rfl ?_
      refine J_aload_n (pc := 45) C dX4_write_45 rfl ?_
      refine J_getR (pc := 46) C dX4_write_46 fg_X4_18 hF (fun r46 hF => ?_)
      refine J_iload_n (pc := 49) C dX4_write_49 rfl ?_
      refine J_aald (pc := 50) C dX4_write_50 hF (fun r50 hF => ?_)
      refine J_iload_n (pc := 51) C dX4_write_51 rfl ?_
      refine J_iload_n (pc := 52) C dX4_write_52 rfl ?_
      refine J_i2s (pc := 53) C dX4_write_53 ?_
      refine J_iast (pc := 54) C dX4_write_54 hF (fun h54 hF => ?_)
      refine J_goto (pc := 55) (tgt := 67) C dX4_write_55 rfl ?_
      exact J_vret (pc := 67) C dX4_write_67 hF (by decide) (by decide)
    · refine J_ls (pc := 6) (tgt := 58) C dX4_write_6 (by decide) (show Op.lookupswitch.offset [(8, 26), (16, 39)] 52 v5.toInt = 52 from by rw [lv_osw hc6_8 (a := 8) rfl, lv_osw hc6_16 (a := 16) rfl]; rfl) rfl ?_
      refine J_aload_n (pc := 58) C dX4_write_58 rfl ?_
      refine J_getR (pc := 59) C dX4_write_59 fg_X4_18 hF (fun r59 hF => ?_)
      refine J_iload_n (pc := 62) C dX4_write_62 rfl ?_
      refine J_aald (pc := 63) C dX4_write_63 hF (fun r63 hF => ?_)
      refine J_iload_n (pc := 64) C dX4_write_64 rfl ?_
      refine J_iload_n (pc := 65) C dX4_write_65 rfl ?_
      refine J_iast (pc := 66) C dX4_write_66 hF (fun h66 hF => ?_)
      exact J_vret (pc := 67) C dX4_write_67 hF (by decide) (by decide)
def fX5_begin (h : Hp) (a0 : Nat) (x1 : Int32) : Option Hp := gO h 5 a0 (
  (getI h 5 a0 1).bind fun v1 =>
  if (30 : Int32) ≤ v1 then
    some h
  else
    (getR h 5 a0 0).bind fun r10 =>
    (getI h 5 a0 1).bind fun v14 =>
    (wrI h r10 v14 x1).bind fun h18 =>
    (getI h18 5 a0 1).bind fun v21 =>
    (putV h18 5 a0 1 (.int (v21 + 1))).bind fun h26 =>
    some h26)
set_option maxRecDepth 100000 in
theorem kX5_begin {h : Hp} {a0 : Nat} {x1 : Int32} {z : Hp} (hF : fX5_begin h a0 x1 = some z) : Mc yX5_begin cX5_begin 2 none 0 0 0 [.ref a0, .int x1] h (none, z) := by
  have hF := (gO_some hF).2
  refine Mc_of [some (.ref a0), some (.int x1)] plX5 rfl rfl (Nat.le_of_ble_eq_true rfl) (fun X C => ?_)
  refine J_aload_n (pc := 0) C dX5_begin_0 rfl ?_
  refine J_getI (pc := 1) C dX5_begin_1 fg_X5_25 hF (fun v1 hF => ?_)
  refine J_bipush (pc := 4) C dX5_begin_4 bc_30 ?_
  refine J_icmp_ge (pc := 6) (tgt := 29) C dX5_begin_6 rfl hF (fun hF => ?_) (fun hF => ?_)
  · exact J_vret (pc := 29) C dX5_begin_29 hF (by decide) (by decide)
  · refine J_aload_n (pc := 9) C dX5_begin_9 rfl ?_
    refine J_getR (pc := 10) C dX5_begin_10 fg_X5_11 hF (fun r10 hF => ?_)
    refine J_aload_n (pc := 13) C dX5_begin_13 rfl ?_
    refine J_getI (pc := 14) C dX5_begin_14 fg_X5_25 hF (fun v14 hF => ?_)
    refine J_iload_n (pc := 17) C dX5_begin_17 rfl ?_
    refine J_iast (pc := 18) C dX5_begin_18 hF (fun h18 hF => ?_)
    refine J_aload_n (pc := 19) C dX5_begin_19 rfl ?_
    refine J_dup (pc := 20) C dX5_begin_20 rfl ?_
    refine J_getI (pc := 21) C dX5_begin_21 fg_X5_25 hF (fun v21 hF => ?_)
    refine J_iconst (pc := 24) C dX5_begin_24 ic_1 ?_
    refine J_iadd (pc := 25) C dX5_begin_25 ?_
    refine J_put (pc := 26) C dX5_begin_26 (fp_X5_25 _) hF rfl rfl (fun h26 hF => ?_)
    exact J_vret (pc := 29) C dX5_begin_29 hF (by decide) (by decide)
def fX5_bodyFrom_4 (h : Hp) : Nat → Int32 → Int32 → Int32 → Option Int32
  | 0, _, _, _ => none
  | n4 + 1, x1, x2, x3 =>
    if (7 : Int32) ≤ x3 then
      some 0
    else
      if x2 < 0 then
        some 0
      else
        (rdT 28 tabB ((x2 * 4) + x1)).bind fun v22 =>
        if v22 = 0 then
          (rdT 7 tabA x2).bind fun v37 =>
          fX5_bodyFrom_4 h n4 x1 v37 (x3 + 1)
        else
          some v22
set_option maxRecDepth 100000 in
theorem kX5_bodyFrom_4 {X : Cx} {z : Int32} {h : Hp} (C : Jc X yX5_bodyFrom cX5_bodyFrom 5 (some .int) 0 0 0 (some (.int z), h)) : ∀ (n4 : Nat) (x1 : Int32) (x2 : Int32) (x3 : Int32), fX5_bodyFrom_4 h n4 x1 x2 x3 = some z → J X 0 0 0 0 4 [none, some (.int x1), some (.int x2), some (.int x3), none] [] h := by
  intro n4
  induction n4 with
  | zero => intro x1 x2 x3 hF; cases hF
  | succ n4 ih =>
    intro x1 x2 x3 hF
    rw [fX5_bodyFrom_4] at hF
    refine J_iload_n (pc := 4) C dX5_bodyFrom_4 rfl ?_
    refine J_bipush (pc := 5) C dX5_bodyFrom_5 bc_7 ?_
    refine J_icmp_ge (pc := 7) (tgt := 45) C dX5_bodyFrom_7 rfl hF (fun hF => ?_) (fun hF => ?_)
    · refine J_iconst (pc := 45) C dX5_bodyFrom_45 ic_0 ?_
      exact J_iretP (pc := 46) C dX5_bodyFrom_46 hF (by decide) (by decide)
    · refine J_iload_n (pc := 10) C dX5_bodyFrom_10 rfl ?_
      refine J_if_lt (pc := 11) (tgt := 45) C dX5_bodyFrom_11 rfl hF (fun hF => ?_) (fun hF => ?_)
      · refine J_iconst (pc := 45) C dX5_bodyFrom_45 ic_0 ?_
        exact J_iretP (pc := 46) C dX5_bodyFrom_46 hF (by decide) (by decide)
      · refine J_getsB (pc := 14) C dX5_bodyFrom_14 w_FLX5_51 ?_
        refine J_iload_n (pc := 17) C dX5_bodyFrom_17 rfl ?_
        refine J_iconst (pc := 18) C dX5_bodyFrom_18 ic_4 ?_
        refine J_imul (pc := 19) C dX5_bodyFrom_19 ?_
        refine J_iload_n (pc := 20) C dX5_bodyFrom_20 rfl ?_
        refine J_iadd (pc := 21) C dX5_bodyFrom_21 ?_
        refine J_tiB (pc := 22) C dX5_bodyFrom_22 hF (fun v22 hF => ?_)
        refine J_istore (pc := 23) (lv' := [none, some (.int x1), some (.int x2), some (.int x3), some (.int v22)]) C dX5_bodyFrom_23 rfl ?_
        refine J_iload (pc := 25) C dX5_bodyFrom_25 rfl ?_
        refine J_if_eq (pc := 27) (tgt := 33) C dX5_bodyFrom_27 rfl hF (fun hF => ?_) (fun hF => ?_)
        · refine J_getsAN (pc := 33) C dX5_bodyFrom_33 rfl ?_
          refine J_iload_n (pc := 36) C dX5_bodyFrom_36 rfl ?_
          refine J_tiA (pc := 37) C dX5_bodyFrom_37 hF (fun v37 hF => ?_)
          refine J_istore_n (pc := 38) (lv' := [none, some (.int x1), some (.int v37), some (.int x3), some (.int v22)]) C dX5_bodyFrom_38 rfl ?_
          refine J_iinc (pc := 39) (lv' := [none, some (.int x1), some (.int v37), some (.int (x3 + 1)), some (.int v22)]) C dX5_bodyFrom_39 rfl ic_1 rfl ?_
          refine J_goto (pc := 42) (tgt := 4) C dX5_bodyFrom_42 rfl ?_
          refine J_msk (m := [false, true, true, true, false]) rfl ?_
          exact ih x1 v37 (x3 + 1) hF
        · refine J_iload (pc := 30) C dX5_bodyFrom_30 rfl ?_
          exact J_iretP (pc := 32) C dX5_bodyFrom_32 hF (by decide) (by decide)
def fX5_bodyFrom (h : Hp) (x0 : Int32) (x1 : Int32) : Option Int32 :=
  fX5_bodyFrom_4 h 1000 x1 x0 0
set_option maxRecDepth 100000 in
theorem kX5_bodyFrom {h : Hp} {x0 : Int32} {x1 : Int32} {z : Int32} (hF : fX5_bodyFrom h x0 x1 = some z) : Mc yX5_bodyFrom cX5_bodyFrom 5 (some .int) 0 0 0 [.int x0, .int x1] h (some (.int z), h) := by
  unfold fX5_bodyFrom at hF
  refine Mc_of [some (.int x0), some (.int x1), none, none, none] plX5 rfl rfl (Nat.le_of_ble_eq_true rfl) (fun X C => ?_)
  refine J_iload_n (pc := 0) C dX5_bodyFrom_0 rfl ?_
  refine J_istore_n (pc := 1) (lv' := [some (.int x0), some (.int x1), some (.int x0), none, none]) C dX5_bodyFrom_1 rfl ?_
  refine J_iconst (pc := 2) C dX5_bodyFrom_2 ic_0 ?_
  refine J_istore_n (pc := 3) (lv' := [some (.int x0), some (.int x1), some (.int x0), some (.int 0), none]) C dX5_bodyFrom_3 rfl ?_
  refine J_msk (m := [false, true, true, true, false]) rfl ?_
  exact kX5_bodyFrom_4 C 1000 x1 x0 0 hF
def fX5_init (h : Hp) (a0 : Nat) : Option Hp :=
  (newA 30 h 30).bind fun q7 =>
  (putV q7.2 5 a0 0 (.ref q7.1)).bind fun h9 =>
  some h9
set_option maxRecDepth 100000 in
theorem kX5_init {h : Hp} {a0 : Nat} {z : Hp} (hF : fX5_init h a0 = some z) : Mc yX5_init cX5_init 1 none 1 1 30 [.ref a0] h (none, z) := by
  unfold fX5_init at hF
  refine Mc_of [some (.ref a0)] plX5 rfl rfl (Nat.le_of_ble_eq_true rfl) (fun X C => ?_)
  refine J_aload_n (pc := 0) C dX5_init_0 rfl ?_
  refine J_objInit (pc := 1) C dX5_init_1 w_MLX5_3 (by decide) (Nat.le_of_ble_eq_true rfl) ?_
  refine J_aload_n (pc := 4) C dX5_init_4 rfl ?_
  refine J_bipush (pc := 5) C dX5_init_5 bc_30 ?_
  refine J_newarr (pc := 7) C dX5_init_7 (cap := 30) w_AC (by decide) (by decide) (by decide) hF (fun q7 hF => ?_)
  refine J_put (pc := 9) C dX5_init_9 fi_X5_11 hF rfl rfl (fun h9 hF => ?_)
  exact J_vret (pc := 12) C dX5_init_12 hF (by decide) (by decide)
def fX5_part (h : Hp) (a0 : Nat) (x1 : Int32) : Option (Int32 × Hp) := gO h 5 a0 (
  (getI h 5 a0 4).bind fun v1 =>
  (getI h 5 a0 5).bind fun v5 =>
  if (v1 - v5) = 0 then
    (putV h 5 a0 2 (.int 1)).bind fun h16 =>
    some (0, h16)
  else
    (dvz x1 (v1 - v5)).bind fun v23 =>
    some (v23, h))
set_option maxRecDepth 100000 in
theorem kX5_part {h : Hp} {a0 : Nat} {x1 : Int32} {z : (Int32 × Hp)} (hF : fX5_part h a0 x1 = some z) : Mc yX5_part cX5_part 3 (some .int) 0 0 0 [.ref a0, .int x1] h (some (.int z.1), z.2) := by
  have hF := (gO_some hF).2
  refine Mc_of [some (.ref a0), some (.int x1), none] plX5 rfl rfl (Nat.le_of_ble_eq_true rfl) (fun X C => ?_)
  refine J_aload_n (pc := 0) C dX5_part_0 rfl ?_
  refine J_getI (pc := 1) C dX5_part_1 fg_X5_19 hF (fun v1 hF => ?_)
  refine J_aload_n (pc := 4) C dX5_part_4 rfl ?_
  refine J_getI (pc := 5) C dX5_part_5 fg_X5_22 hF (fun v5 hF => ?_)
  refine J_isub (pc := 8) C dX5_part_8 ?_
  refine J_istore_n (pc := 9) (lv' := [some (.ref a0), some (.int x1), some (.int (v1 - v5))]) C dX5_part_9 rfl ?_
  refine J_iload_n (pc := 10) C dX5_part_10 rfl ?_
  refine J_if_ne (pc := 11) (tgt := 21) C dX5_part_11 rfl hF (fun hF => ?_) (fun hF => ?_)
  · refine J_aload_n (pc := 14) C dX5_part_14 rfl ?_
    refine J_iconst (pc := 15) C dX5_part_15 ic_1 ?_
    refine J_put (pc := 16) C dX5_part_16 (fp_X5_28 _) hF rfl rfl (fun h16 hF => ?_)
    refine J_iconst (pc := 19) C dX5_part_19 ic_0 ?_
    exact J_iret (pc := 20) C dX5_part_20 hF (by decide) (by decide)
  · refine J_iload_n (pc := 21) C dX5_part_21 rfl ?_
    refine J_iload_n (pc := 22) C dX5_part_22 rfl ?_
    refine J_idiv (pc := 23) C dX5_part_23 hF (fun v23 hF => ?_)
    exact J_iret (pc := 24) C dX5_part_24 hF (by decide) (by decide)
def bX5_say (oX5_say : Hp → Nat → Int32 → Int32 → Int32 → Int32 → Option (Int32 × Hp)) (h : Hp) (a0 : Nat) (x1 : Int32) (x2 : Int32) (x3 : Int32) (x4 : Int32) : Option (Int32 × Hp) :=
  (fX5_bodyFrom h x1 x2).bind fun q2 =>
  if q2 = 0 then
    some (0, h)
  else
    if x4 < 30 then
      (fX5_begin h a0 q2).bind fun q24 =>
      (dvz q2 10).bind fun v34 =>
      (rdT 7 tabA (v34 - 1)).bind fun v37 =>
      if q2 = 10 then
        (getI q24 5 a0 5).bind fun v166 =>
        some (x3 + v166, q24)
      else
        if q2 = 11 then
          (getI q24 5 a0 3).bind fun v173 =>
          (oX5_say q24 a0 v173 0 x3 (x4 + 1)).bind fun q180 =>
          some (q180.1 * 2, q180.2)
        else
          if q2 = 12 then
            (getI q24 5 a0 3).bind fun v188 =>
            (oX5_say q24 a0 v188 1 x3 (x4 + 1)).bind fun q195 =>
            (getI q195.2 5 a0 4).bind fun v199 =>
            some (q195.1 - v199, q195.2)
          else
            if q2 = 13 then
              (fX5_part q24 a0 x3).bind fun q206 =>
              some (q206.1, q206.2)
            else
              if q2 = 20 then
                (oX5_say q24 a0 v37 0 x3 (x4 + 1)).bind fun q217 =>
                some (q217.1 - 5, q217.2)
              else
                if q2 = 21 then
                  (oX5_say q24 a0 v37 3 x3 (x4 + 1)).bind fun q230 =>
                  (getI q230.2 5 a0 2).bind fun v236 =>
                  if v236 = 0 then
                    (getI q230.2 5 a0 3).bind fun v250 =>
                    (oX5_say q230.2 a0 v250 1 1 (x4 + 1)).bind fun q257 =>
                    some (q230.1 + q257.1, q257.2)
                  else
                    some (0, q230.2)
                else
                  if q2 = 30 then
                    (oX5_say q24 a0 v37 1 x3 (x4 + 1)).bind fun q269 =>
                    some (-q269.1, q269.2)
                  else
                    if q2 = 40 then
                      (dvz x3 2).bind fun v280 =>
                      (oX5_say q24 a0 v37 2 v280 (x4 + 1)).bind fun q283 =>
                      some (q283.1, q283.2)
                    else
                      if q2 = 50 then
                        (oX5_say q24 a0 v37 0 x3 (x4 + 1)).bind fun q294 =>
                        some (q294.1 * 3, q294.2)
                      else
                        if q2 = 51 then
                          (oX5_say q24 a0 v37 2 x3 (x4 + 1)).bind fun q307 =>
                          (getI q307.2 5 a0 5).bind fun v311 =>
                          some (q307.1 ^^^ v311, q307.2)
                        else
                          if q2 = 60 then
                            (oX5_say q24 a0 v37 1 (x3 + 1) (x4 + 1)).bind fun q325 =>
                            some (q325.1, q325.2)
                          else
                            if q2 = 70 then
                              some (3, q24)
                            else
                              if q2 = 71 then
                                (oX5_say q24 a0 v37 1 x3 (x4 + 1)).bind fun q338 =>
                                (getI q338.2 5 a0 4).bind fun v342 =>
                                some (q338.1 + v342, q338.2)
                              else
                                some (0, q24)
    else
      some (0, h)
set_option maxRecDepth 100000 in
theorem bkX5_say {n : Nat} {oX5_say : Hp → Nat → Int32 → Int32 → Int32 → Int32 → Option (Int32 × Hp)} (hO : (∀ (h : Hp) (a0 : Nat) (x1 : Int32) (x2 : Int32) (x3 : Int32) (x4 : Int32) (z : (Int32 × Hp)), oX5_say h a0 x1 x2 x3 x4 = some z → Mc yX5_say cX5_say 9 (some .int) (n + 1) 0 0 [.ref a0, .int x1, .int x2, .int x3, .int x4] h (some (.int z.1), z.2))) {h : Hp} {a0 : Nat} {x1 : Int32} {x2 : Int32} {x3 : Int32} {x4 : Int32} {z : (Int32 × Hp)} (hF : bX5_say oX5_say h a0 x1 x2 x3 x4 = some z) : Mc yX5_say cX5_say 9 (some .int) (n + 1 + 1) 0 0 [.ref a0, .int x1, .int x2, .int x3, .int x4] h (some (.int z.1), z.2) := by
  unfold bX5_say at hF
  refine Mc_of [some (.ref a0), some (.int x1), some (.int x2), some (.int x3), some (.int x4), none, none, none, none] plX5 rfl rfl (Nat.le_of_ble_eq_true rfl) (fun X C => ?_)
  refine J_iload_n (pc := 0) C dX5_say_0 rfl ?_
  refine J_iload_n (pc := 1) C dX5_say_1 rfl ?_
  refine J_bind hF (fun q2 hq hF => ?_)
  refine J_callS0_ip (pc := 2) (stk := [.int x2, .int x1]) (st := []) C dX5_say_2 yw_X5_bodyFrom w_MLX5_36 st_X5_bodyFrom (kX5_bodyFrom hq) rfl (by omega) rfl (Nat.le_of_ble_eq_true rfl) ?_
  refine J_istore (pc := 5) (lv' := [some (.ref a0), some (.int x1), some (.int x2), some (.int x3), some (.int x4), some (.int q2), none, none, none]) C dX5_say_5 rfl ?_
  refine J_iload (pc := 7) C dX5_say_7 rfl ?_
  refine J_if_eq (pc := 9) (tgt := 19) C dX5_say_9 rfl hF (fun hF => ?_) (fun hF => ?_)
  · refine J_iconst (pc := 19) C dX5_say_19 ic_0 ?_
    exact J_iret (pc := 20) C dX5_say_20 hF (by decide) (by decide)
  · refine J_iload (pc := 12) C dX5_say_12 rfl ?_
    refine J_bipush (pc := 14) C dX5_say_14 bc_30 ?_
    refine J_icmp_lt (pc := 16) (tgt := 21) C dX5_say_16 rfl hF (fun hF => ?_) (fun hF => ?_)
    · refine J_aload_n (pc := 21) C dX5_say_21 rfl ?_
      refine J_iload (pc := 22) C dX5_say_22 rfl ?_
      refine J_bind hF (fun q24 hq hF => ?_)
      refine J_callV0_v (pc := 24) (stk := [.int q2, .ref a0]) (st := []) C dX5_say_24 yw_X5_begin w_MLX5_40 in_X5_begin sl_X5_begin ⟨_, rfl, rfl⟩ (kX5_begin hq) (gO_some hq).1 rfl (by omega) rfl (Nat.le_of_ble_eq_true rfl) ?_
      refine J_getsAN (pc := 27) C dX5_say_27 rfl ?_
      refine J_iload (pc := 30) C dX5_say_30 rfl ?_
      refine J_bipush (pc := 32) C dX5_say_32 bc_10 ?_
      refine J_idiv (pc := 34) C dX5_say_34 hF (fun v34 hF => ?_)
      refine J_iconst (pc := 35) C dX5_say_35 ic_1 ?_
      refine J_isub (pc := 36) C dX5_say_36 ?_
      refine J_tiA (pc := 37) C dX5_say_37 hF (fun v37 hF => ?_)
      refine J_istore (pc := 38) (lv' := [some (.ref a0), some (.int x1), some (.int x2), some (.int x3), some (.int x4), some (.int q2), some (.int v37), none, none]) C dX5_say_38 rfl ?_
      refine J_iload (pc := 40) C dX5_say_40 rfl ?_
      refine J_iconst (pc := 42) C dX5_say_42 ic_1 ?_
      refine J_iadd (pc := 43) C dX5_say_43 ?_
      refine J_istore (pc := 44) (lv' := [some (.ref a0), some (.int x1), some (.int x2), some (.int x3), some (.int x4), some (.int q2), some (.int v37), some (.int (x4 + 1)), none]) C dX5_say_44 rfl ?_
      refine J_iload (pc := 46) C dX5_say_46 rfl ?_
      refine J_br hF (fun hc48_10 hF => ?_) (fun hc48_10 hF => ?_)
      · refine J_lsC (pc := 48) (tgt := 164) C 10 hc48_10 dX5_say_48 (by decide) rfl rfl ?_
        refine J_iload_n (pc := 164) C dX5_say_164 rfl ?_
        refine J_aload_n (pc := 165) C dX5_say_165 rfl ?_
        refine J_getI (pc := 166) C dX5_say_166 fg_X5_22 hF (fun v166 hF => ?_)
        refine J_iadd (pc := 169) C dX5_say_169 ?_
        exact J_iret (pc := 170) C dX5_say_170 hF (by decide) (by decide)
      · refine J_br hF (fun hc48_11 hF => ?_) (fun hc48_11 hF => ?_)
        · refine J_lsC (pc := 48) (tgt := 171) C 11 hc48_11 dX5_say_48 (by decide) rfl rfl ?_
          refine J_aload_n (pc := 171) C dX5_say_171 rfl ?_
          refine J_aload_n (pc := 172) C dX5_say_172 rfl ?_
          refine J_getI (pc := 173) C dX5_say_173 fg_X5_15 hF (fun v173 hF => ?_)
          refine J_iconst (pc := 176) C dX5_say_176 ic_0 ?_
          refine J_iload_n (pc := 177) C dX5_say_177 rfl ?_
          refine J_iload (pc := 178) C dX5_say_178 rfl ?_
          refine J_bind hF (fun q180 hq hF => ?_)
          refine J_callS0_i (pc := 180) (stk := [.int (x4 + 1), .int x3, .int 0, .int v173, .ref a0]) (st := []) C dX5_say_180 yw_X5_say w_MLX5_32 st_X5_say (hO _ _ _ _ _ _ _ hq) rfl (by omega) rfl (Nat.le_of_ble_eq_true rfl) ?_
          refine J_iconst (pc := 183) C dX5_say_183 ic_2 ?_
          refine J_imul (pc := 184) C dX5_say_184 ?_
          exact J_iret (pc := 185) C dX5_say_185 hF (by decide) (by decide)
        · refine J_br hF (fun hc48_12 hF => ?_) (fun hc48_12 hF => ?_)
          · refine J_lsC (pc := 48) (tgt := 186) C 12 hc48_12 dX5_say_48 (by decide) rfl rfl ?_
            refine J_aload_n (pc := 186) C dX5_say_186 rfl ?_
            refine J_aload_n (pc := 187) C dX5_say_187 rfl ?_
            refine J_getI (pc := 188) C dX5_say_188 fg_X5_15 hF (fun v188 hF => ?_)
            refine J_iconst (pc := 191) C dX5_say_191 ic_1 ?_
            refine J_iload_n (pc := 192) C dX5_say_192 rfl ?_
            refine J_iload (pc := 193) C dX5_say_193 rfl ?_
            refine J_bind hF (fun q195 hq hF => ?_)
            refine J_callS0_i (pc := 195) (stk := [.int (x4 + 1), .int x3, .int 1, .int v188, .ref a0]) (st := []) C dX5_say_195 yw_X5_say w_MLX5_32 st_X5_say (hO _ _ _ _ _ _ _ hq) rfl (by omega) rfl (Nat.le_of_ble_eq_true rfl) ?_
            refine J_aload_n (pc := 198) C dX5_say_198 rfl ?_
            refine J_getI (pc := 199) C dX5_say_199 fg_X5_19 hF (fun v199 hF => ?_)
            refine J_isub (pc := 202) C dX5_say_202 ?_
            exact J_iret (pc := 203) C dX5_say_203 hF (by decide) (by decide)
          · refine J_br hF (fun hc48_13 hF => ?_) (fun hc48_13 hF => ?_)
            · refine J_lsC (pc := 48) (tgt := 204) C 13 hc48_13 dX5_say_48 (by decide) rfl rfl ?_
              refine J_aload_n (pc := 204) C dX5_say_204 rfl ?_
              refine J_iload_n (pc := 205) C dX5_say_205 rfl ?_
              refine J_bind hF (fun q206 hq hF => ?_)
              refine J_callV0_i (pc := 206) (stk := [.int x3, .ref a0]) (st := []) C dX5_say_206 yw_X5_part w_MLX5_47 in_X5_part sl_X5_part ⟨_, rfl, rfl⟩ (kX5_part hq) (gO_some hq).1 rfl (by omega) rfl (Nat.le_of_ble_eq_true rfl) ?_
              exact J_iret (pc := 209) C dX5_say_209 hF (by decide) (by decide)
            · refine J_br hF (fun hc48_20 hF => ?_) (fun hc48_20 hF => ?_)
              · refine J_lsC (pc := 48) (tgt := 210) C 20 hc48_20 dX5_say_48 (by decide) rfl rfl ?_
                refine J_aload_n (pc := 210) C dX5_say_210 rfl ?_
                refine J_iload (pc := 211) C dX5_say_211 rfl ?_
                refine J_iconst (pc := 213) C dX5_say_213 ic_0 ?_
                refine J_iload_n (pc := 214) C dX5_say_214 rfl ?_
                refine J_iload (pc := 215) C dX5_say_215 rfl ?_
                refine J_bind hF (fun q217 hq hF => ?_)
                refine J_callS0_i (pc := 217) (stk := [.int (x4 + 1), .int x3, .int 0, .int v37, .ref a0]) (st := []) C dX5_say_217 yw_X5_say w_MLX5_32 st_X5_say (hO _ _ _ _ _ _ _ hq) rfl (by omega) rfl (Nat.le_of_ble_eq_true rfl) ?_
                refine J_iconst (pc := 220) C dX5_say_220 ic_5 ?_
                refine J_isub (pc := 221) C dX5_say_221 ?_
                exact J_iret (pc := 222) C dX5_say_222 hF (by decide) (by decide)
              · refine J_br hF (fun hc48_21 hF => ?_) (fun hc48_21 hF => ?_)
                · refine J_lsC (pc := 48) (tgt := 223) C 21 hc48_21 dX5_say_48 (by decide) rfl rfl ?_
                  refine J_aload_n (pc := 223) C dX5_say_223 rfl ?_
                  refine J_iload (pc := 224) C dX5_say_224 rfl ?_
                  refine J_iconst (pc := 226) C dX5_say_226 ic_3 ?_
                  refine J_iload_n (pc := 227) C dX5_say_227 rfl ?_
                  refine J_iload (pc := 228) C dX5_say_228 rfl ?_
                  refine J_bind hF (fun q230 hq hF => ?_)
                  refine J_callS0_i (pc := 230) (stk := [.int (x4 + 1), .int x3, .int 3, .int v37, .ref a0]) (st := []) C dX5_say_230 yw_X5_say w_MLX5_32 st_X5_say (hO _ _ _ _ _ _ _ hq) rfl (by omega) rfl (Nat.le_of_ble_eq_true rfl) ?_
                  refine J_istore (pc := 233) (lv' := [some (.ref a0), some (.int x1), some (.int x2), some (.int x3), some (.int x4), some (.int q2), some (.int v37), some (.int (x4 + 1)), some (.int q230.1)]) C dX5_say_233 rfl ?_
                  refine J_aload_n (pc := 235) C dX5_say_235 rfl ?_
                  refine J_getI (pc := 236) C dX5_say_236 fg_X5_28 hF (fun v236 hF => ?_)
                  refine J_if_eq (pc := 239) (tgt := 246) C dX5_say_239 rfl hF (fun hF => ?_) (fun hF => ?_)
                  · refine J_iload (pc := 246) C dX5_say_246 rfl ?_
                    refine J_aload_n (pc := 248) C dX5_say_248 rfl ?_
                    refine J_aload_n (pc := 249) C dX5_say_249 rfl ?_
                    refine J_getI (pc := 250) C dX5_say_250 fg_X5_15 hF (fun v250 hF => ?_)
                    refine J_iconst (pc := 253) C dX5_say_253 ic_1 ?_
                    refine J_iconst (pc := 254) C dX5_say_254 ic_1 ?_
                    refine J_iload (pc := 255) C dX5_say_255 rfl ?_
                    refine J_bind hF (fun q257 hq hF => ?_)
                    refine J_callS0_i (pc := 257) (stk := [.int (x4 + 1), .int 1, .int 1, .int v250, .ref a0, .int q230.1]) (st := [.int q230.1]) C dX5_say_257 yw_X5_say w_MLX5_32 st_X5_say (hO _ _ _ _ _ _ _ hq) rfl (by omega) rfl (Nat.le_of_ble_eq_true rfl) ?_
                    refine J_iadd (pc := 260) C dX5_say_260 ?_
                    exact J_iret (pc := 261) C dX5_say_261 hF (by decide) (by decide)
                  · refine J_iconst (pc := 242) C dX5_say_242 ic_0 ?_
                    refine J_goto (pc := 243) (tgt := 261) C dX5_say_243 rfl ?_
                    exact J_iret (pc := 261) C dX5_say_261 hF (by decide) (by decide)
                · refine J_br hF (fun hc48_30 hF => ?_) (fun hc48_30 hF => ?_)
                  · refine J_lsC (pc := 48) (tgt := 262) C 30 hc48_30 dX5_say_48 (by decide) rfl rfl ?_
                    refine J_aload_n (pc := 262) C dX5_say_262 rfl ?_
                    refine J_iload (pc := 263) C dX5_say_263 rfl ?_
                    refine J_iconst (pc := 265) C dX5_say_265 ic_1 ?_
                    refine J_iload_n (pc := 266) C dX5_say_266 rfl ?_
                    refine J_iload (pc := 267) C dX5_say_267 rfl ?_
                    refine J_bind hF (fun q269 hq hF => ?_)
                    refine J_callS0_i (pc := 269) (stk := [.int (x4 + 1), .int x3, .int 1, .int v37, .ref a0]) (st := []) C dX5_say_269 yw_X5_say w_MLX5_32 st_X5_say (hO _ _ _ _ _ _ _ hq) rfl (by omega) rfl (Nat.le_of_ble_eq_true rfl) ?_
                    refine J_ineg (pc := 272) C dX5_say_272 ?_
                    exact J_iret (pc := 273) C dX5_say_273 hF (by decide) (by decide)
                  · refine J_br hF (fun hc48_40 hF => ?_) (fun hc48_40 hF => ?_)
                    · refine J_lsC (pc := 48) (tgt := 274) C 40 hc48_40 dX5_say_48 (by decide) rfl rfl ?_
                      refine J_aload_n (pc := 274) C dX5_say_274 rfl ?_
                      refine J_iload (pc := 275) C dX5_say_275 rfl ?_
                      refine J_iconst (pc := 277) C dX5_say_277 ic_2 ?_
                      refine J_iload_n (pc := 278) C dX5_say_278 rfl ?_
                      refine J_iconst (pc := 279) C dX5_say_279 ic_2 ?_
                      refine J_idiv (pc := 280) C dX5_say_280 hF (fun v280 hF => ?_)
                      refine J_iload (pc := 281) C dX5_say_281 rfl ?_
                      refine J_bind hF (fun q283 hq hF => ?_)
                      refine J_callS0_i (pc := 283) (stk := [.int (x4 + 1), .int v280, .int 2, .int v37, .ref a0]) (st := []) C dX5_say_283 yw_X5_say w_MLX5_32 st_X5_say (hO _ _ _ _ _ _ _ hq) rfl (by omega) rfl (Nat.le_of_ble_eq_true rfl) ?_
                      exact J_iret (pc := 286) C dX5_say_286 hF (by decide) (by decide)
                    · refine J_br hF (fun hc48_50 hF => ?_) (fun hc48_50 hF => ?_)
                      · refine J_lsC (pc := 48) (tgt := 287) C 50 hc48_50 dX5_say_48 (by decide) rfl rfl ?_
                        refine J_aload_n (pc := 287) C dX5_say_287 rfl ?_
                        refine J_iload (pc := 288) C dX5_say_288 rfl ?_
                        refine J_iconst (pc := 290) C dX5_say_290 ic_0 ?_
                        refine J_iload_n (pc := 291) C dX5_say_291 rfl ?_
                        refine J_iload (pc := 292) C dX5_say_292 rfl ?_
                        refine J_bind hF (fun q294 hq hF => ?_)
                        refine J_callS0_i (pc := 294) (stk := [.int (x4 + 1), .int x3, .int 0, .int v37, .ref a0]) (st := []) C dX5_say_294 yw_X5_say w_MLX5_32 st_X5_say (hO _ _ _ _ _ _ _ hq) rfl (by omega) rfl (Nat.le_of_ble_eq_true rfl) ?_
                        refine J_iconst (pc := 297) C dX5_say_297 ic_3 ?_
                        refine J_imul (pc := 298) C dX5_say_298 ?_
                        exact J_iret (pc := 299) C dX5_say_299 hF (by decide) (by decide)
                      · refine J_br hF (fun hc48_51 hF => ?_) (fun hc48_51 hF => ?_)
                        · refine J_lsC (pc := 48) (tgt := 300) C 51 hc48_51 dX5_say_48 (by decide) rfl rfl ?_
                          refine J_aload_n (pc := 300) C dX5_say_300 rfl ?_
                          refine J_iload (pc := 301) C dX5_say_301 rfl ?_
                          refine J_iconst (pc := 303) C dX5_say_303 ic_2 ?_
                          refine J_iload_n (pc := 304) C dX5_say_304 rfl ?_
                          refine J_iload (pc := 305) C dX5_say_305 rfl ?_
                          refine J_bind hF (fun q307 hq hF => ?_)
                          refine J_callS0_i (pc := 307) (stk := [.int (x4 + 1), .int x3, .int 2, .int v37, .ref a0]) (st := []) C dX5_say_307 yw_X5_say w_MLX5_32 st_X5_say (hO _ _ _ _ _ _ _ hq) rfl (by omega) rfl (Nat.le_of_ble_eq_true rfl) ?_
                          refine J_aload_n (pc := 310) C dX5_say_310 rfl ?_
                          refine J_getI (pc := 311) C dX5_say_311 fg_X5_22 hF (fun v311 hF => ?_)
                          refine J_ixor (pc := 314) C dX5_say_314 ?_
                          exact J_iret (pc := 315) C dX5_say_315 hF (by decide) (by decide)
                        · refine J_br hF (fun hc48_60 hF => ?_) (fun hc48_60 hF => ?_)
                          · refine J_lsC (pc := 48) (tgt := 316) C 60 hc48_60 dX5_say_48 (by decide) rfl rfl ?_
                            refine J_aload_n (pc := 316) C dX5_say_316 rfl ?_
                            refine J_iload (pc := 317) C dX5_say_317 rfl ?_
                            refine J_iconst (pc := 319) C dX5_say_319 ic_1 ?_
                            refine J_iload_n (pc := 320) C dX5_say_320 rfl ?_
                            refine J_iconst (pc := 321) C dX5_say_321 ic_1 ?_
                            refine J_iadd (pc := 322) C dX5_say_322 ?_
                            refine J_iload (pc := 323) C dX5_say_323 rfl ?_
                            refine J_bind hF (fun q325 hq hF => ?_)
                            refine J_callS0_i (pc := 325) (stk := [.int (x4 + 1), .int (x3 + 1), .int 1, .int v37, .ref a0]) (st := []) C dX5_say_325 yw_X5_say w_MLX5_32 st_X5_say (hO _ _ _ _ _ _ _ hq) rfl (by omega) rfl (Nat.le_of_ble_eq_true rfl) ?_
                            exact J_iret (pc := 328) C dX5_say_328 hF (by decide) (by decide)
                          · refine J_br hF (fun hc48_70 hF => ?_) (fun hc48_70 hF => ?_)
                            · refine J_lsC (pc := 48) (tgt := 329) C 70 hc48_70 dX5_say_48 (by decide) rfl rfl ?_
                              refine J_iconst (pc := 329) C dX5_say_329 ic_3 ?_
                              exact J_iret (pc := 330) C dX5_say_330 hF (by decide) (by decide)
                            · refine J_br hF (fun hc48_71 hF => ?_) (fun hc48_71 hF => ?_)
                              · refine J_lsC (pc := 48) (tgt := 331) C 71 hc48_71 dX5_say_48 (by decide) rfl rfl ?_
                                refine J_aload_n (pc := 331) C dX5_say_331 rfl ?_
                                refine J_iload (pc := 332) C dX5_say_332 rfl ?_
                                refine J_iconst (pc := 334) C dX5_say_334 ic_1 ?_
                                refine J_iload_n (pc := 335) C dX5_say_335 rfl ?_
                                refine J_iload (pc := 336) C dX5_say_336 rfl ?_
                                refine J_bind hF (fun q338 hq hF => ?_)
                                refine J_callS0_i (pc := 338) (stk := [.int (x4 + 1), .int x3, .int 1, .int v37, .ref a0]) (st := []) C dX5_say_338 yw_X5_say w_MLX5_32 st_X5_say (hO _ _ _ _ _ _ _ hq) rfl (by omega) rfl (Nat.le_of_ble_eq_true rfl) ?_
                                refine J_aload_n (pc := 341) C dX5_say_341 rfl ?_
                                refine J_getI (pc := 342) C dX5_say_342 fg_X5_19 hF (fun v342 hF => ?_)
                                refine J_iadd (pc := 345) C dX5_say_345 ?_
                                exact J_iret (pc := 346) C dX5_say_346 hF (by decide) (by decide)
                              · refine J_ls (pc := 48) (tgt := 347) C dX5_say_48 (by decide) (show Op.lookupswitch.offset [(10, 116), (11, 123), (12, 138), (13, 156), (20, 162), (21, 175), (30, 214), (40, 226), (50, 239), (51, 252), (60, 268), (70, 281), (71, 283)] 299 q2.toInt = 299 from by rw [lv_osw hc48_10 (a := 10) rfl, lv_osw hc48_11 (a := 11) rfl, lv_osw hc48_12 (a := 12) rfl, lv_osw hc48_13 (a := 13) rfl, lv_osw hc48_20 (a := 20) rfl, lv_osw hc48_21 (a := 21) rfl, lv_osw hc48_30 (a := 30) rfl, lv_osw hc48_40 (a := 40) rfl, lv_osw hc48_50 (a := 50) rfl, lv_osw hc48_51 (a := 51) rfl, lv_osw hc48_60 (a := 60) rfl, lv_osw hc48_70 (a := 70) rfl, lv_osw hc48_71 (a := 71) rfl]; rfl) rfl ?_
                                refine J_iconst (pc := 347) C dX5_say_347 ic_0 ?_
                                exact J_iret (pc := 348) C dX5_say_348 hF (by decide) (by decide)
    · refine J_iconst (pc := 19) C dX5_say_19 ic_0 ?_
      exact J_iret (pc := 20) C dX5_say_20 hF (by decide) (by decide)
def gX5_say : Nat → Hp → Nat → Int32 → Int32 → Int32 → Int32 → Option (Int32 × Hp)
  | 0, _, _, _, _, _, _ => none
  | n + 1, h, a0, x1, x2, x3, x4 => bX5_say (gX5_say n) h a0 x1 x2 x3 x4
theorem gkX5_say : ∀ n : Nat, (∀ (h : Hp) (a0 : Nat) (x1 : Int32) (x2 : Int32) (x3 : Int32) (x4 : Int32) (z : (Int32 × Hp)), gX5_say n h a0 x1 x2 x3 x4 = some z → Mc yX5_say cX5_say 9 (some .int) (n + 1) 0 0 [.ref a0, .int x1, .int x2, .int x3, .int x4] h (some (.int z.1), z.2)) := by
  intro n
  induction n with
  | zero => intro h a0 x1 x2 x3 x4 z hF; cases hF
  | succ n ih => intro h a0 x1 x2 x3 x4 z hF; exact bkX5_say (n := n) ih hF
def fX5_say (h : Hp) (a0 : Nat) (x1 : Int32) (x2 : Int32) (x3 : Int32) (x4 : Int32) : Option (Int32 × Hp) := gX5_say 40 h a0 x1 x2 x3 x4
theorem kX5_say {h : Hp} {a0 : Nat} {x1 : Int32} {x2 : Int32} {x3 : Int32} {x4 : Int32} {z : (Int32 × Hp)} (hF : fX5_say h a0 x1 x2 x3 x4 = some z) : Mc yX5_say cX5_say 9 (some .int) 41 0 0 [.ref a0, .int x1, .int x2, .int x3, .int x4] h (some (.int z.1), z.2) := (gkX5_say 40) h a0 x1 x2 x3 x4 _ hF
def fX5_speak (h : Hp) (a0 : Nat) (x1 : Int32) (x2 : Int32) (x3 : Int32) (x4 : Int32) (x5 : Int32) : Option (Int32 × Hp) := gO h 5 a0 (
  (putV h 5 a0 3 (.int x1)).bind fun h2 =>
  (putV h2 5 a0 4 (.int x2)).bind fun h7 =>
  (putV h7 5 a0 5 (.int x3)).bind fun h12 =>
  (putV h12 5 a0 1 (.int 0)).bind fun h17 =>
  (putV h17 5 a0 2 (.int 0)).bind fun h22 =>
  (getI h22 5 a0 3).bind fun v27 =>
  (fX5_say h22 a0 v27 x4 x5 0).bind fun q35 =>
  some (q35.1, q35.2))
set_option maxRecDepth 100000 in
theorem kX5_speak {h : Hp} {a0 : Nat} {x1 : Int32} {x2 : Int32} {x3 : Int32} {x4 : Int32} {x5 : Int32} {z : (Int32 × Hp)} (hF : fX5_speak h a0 x1 x2 x3 x4 x5 = some z) : Mc yX5_speak cX5_speak 6 (some .int) 42 0 0 [.ref a0, .int x1, .int x2, .int x3, .int x4, .int x5] h (some (.int z.1), z.2) := by
  have hF := (gO_some hF).2
  refine Mc_of [some (.ref a0), some (.int x1), some (.int x2), some (.int x3), some (.int x4), some (.int x5)] plX5 rfl rfl (Nat.le_of_ble_eq_true rfl) (fun X C => ?_)
  refine J_aload_n (pc := 0) C dX5_speak_0 rfl ?_
  refine J_iload_n (pc := 1) C dX5_speak_1 rfl ?_
  refine J_put (pc := 2) C dX5_speak_2 (fp_X5_15 _) hF rfl rfl (fun h2 hF => ?_)
  refine J_aload_n (pc := 5) C dX5_speak_5 rfl ?_
  refine J_iload_n (pc := 6) C dX5_speak_6 rfl ?_
  refine J_put (pc := 7) C dX5_speak_7 (fp_X5_19 _) hF rfl rfl (fun h7 hF => ?_)
  refine J_aload_n (pc := 10) C dX5_speak_10 rfl ?_
  refine J_iload_n (pc := 11) C dX5_speak_11 rfl ?_
  refine J_put (pc := 12) C dX5_speak_12 (fp_X5_22 _) hF rfl rfl (fun h12 hF => ?_)
  refine J_aload_n (pc := 15) C dX5_speak_15 rfl ?_
  refine J_iconst (pc := 16) C dX5_speak_16 ic_0 ?_
  refine J_put (pc := 17) C dX5_speak_17 (fp_X5_25 _) hF rfl rfl (fun h17 hF => ?_)
  refine J_aload_n (pc := 20) C dX5_speak_20 rfl ?_
  refine J_iconst (pc := 21) C dX5_speak_21 ic_0 ?_
  refine J_put (pc := 22) C dX5_speak_22 (fp_X5_28 _) hF rfl rfl (fun h22 hF => ?_)
  refine J_aload_n (pc := 25) C dX5_speak_25 rfl ?_
  refine J_aload_n (pc := 26) C dX5_speak_26 rfl ?_
  refine J_getI (pc := 27) C dX5_speak_27 fg_X5_15 hF (fun v27 hF => ?_)
  refine J_iload (pc := 30) C dX5_speak_30 rfl ?_
  refine J_iload (pc := 32) C dX5_speak_32 rfl ?_
  refine J_iconst (pc := 34) C dX5_speak_34 ic_0 ?_
  refine J_bind hF (fun q35 hq hF => ?_)
  refine J_callS0_i (pc := 35) (stk := [.int 0, .int x5, .int x4, .int v27, .ref a0]) (st := []) C dX5_speak_35 yw_X5_say w_MLX5_32 st_X5_say (kX5_say hq) rfl (by decide) rfl (Nat.le_of_ble_eq_true rfl) ?_
  exact J_iret (pc := 38) C dX5_speak_38 hF (by decide) (by decide)
def fX6_behindOne (h : Hp) (a0 : Nat) (a1 : Nat) (x2 : Int32) (x3 : Int32) : Option (Nat × Hp) := gO h 6 a0 (
  (getR h 6 a0 0).bind fun r1 =>
  (rdR h r1 0).bind fun r5 =>
  (fX7_copyFrom h r5 a1).bind fun q7 =>
  (getR q7 6 a0 0).bind fun r11 =>
  (rdR q7 r11 0).bind fun r15 =>
  (fX7_carry q7 r15 x2 x3).bind fun q18 =>
  (getR q18.2 6 a0 0).bind fun r23 =>
  (rdR q18.2 r23 0).bind fun r27 =>
  some (r27, q18.2))
set_option maxRecDepth 100000 in
theorem kX6_behindOne {h : Hp} {a0 : Nat} {a1 : Nat} {x2 : Int32} {x3 : Int32} {z : (Nat × Hp)} (hF : fX6_behindOne h a0 a1 x2 x3 = some z) : Mc yX6_behindOne cX6_behindOne 4 (some (.object "FourthFace$World")) 5 0 0 [.ref a0, .ref a1, .int x2, .int x3] h (some (.ref z.1), z.2) := by
  have hF := (gO_some hF).2
  refine Mc_of [some (.ref a0), some (.ref a1), some (.int x2), some (.int x3)] plX6 rfl rfl (Nat.le_of_ble_eq_true rfl) (fun X C => ?_)
  refine J_aload_n (pc := 0) C dX6_behindOne_0 rfl ?_
  refine J_getR (pc := 1) C dX6_behindOne_1 fg_X6_13 hF (fun r1 hF => ?_)
  refine J_iconst (pc := 4) C dX6_behindOne_4 ic_0 ?_
  refine J_aald (pc := 5) C dX6_behindOne_5 hF (fun r5 hF => ?_)
  refine J_aload_n (pc := 6) C dX6_behindOne_6 rfl ?_
  refine J_bind hF (fun q7 hq hF => ?_)
  refine J_callV0_v (pc := 7) (stk := [.ref a1, .ref r5]) (st := []) C dX6_behindOne_7 yw_X7_copyFrom w_MLX6_27 in_X7_copyFrom sl_X7_copyFrom ⟨_, rfl, rfl⟩ (kX7_copyFrom hq) (gO_some hq).1 rfl (by decide) rfl (Nat.le_of_ble_eq_true rfl) ?_
  refine J_aload_n (pc := 10) C dX6_behindOne_10 rfl ?_
  refine J_getR (pc := 11) C dX6_behindOne_11 fg_X6_13 hF (fun r11 hF => ?_)
  refine J_iconst (pc := 14) C dX6_behindOne_14 ic_0 ?_
  refine J_aald (pc := 15) C dX6_behindOne_15 hF (fun r15 hF => ?_)
  refine J_iload_n (pc := 16) C dX6_behindOne_16 rfl ?_
  refine J_iload_n (pc := 17) C dX6_behindOne_17 rfl ?_
  refine J_bind hF (fun q18 hq hF => ?_)
  refine J_callV0_i (pc := 18) (stk := [.int x3, .int x2, .ref r15]) (st := []) C dX6_behindOne_18 yw_X7_carry w_MLX6_31 in_X7_carry sl_X7_carry ⟨_, rfl, rfl⟩ (kX7_carry hq) (gO_some hq).1 rfl (by decide) rfl (Nat.le_of_ble_eq_true rfl) ?_
  refine J_pop (pc := 21) C dX6_behindOne_21 rfl ?_
  refine J_aload_n (pc := 22) C dX6_behindOne_22 rfl ?_
  refine J_getR (pc := 23) C dX6_behindOne_23 fg_X6_13 hF (fun r23 hF => ?_)
  refine J_iconst (pc := 26) C dX6_behindOne_26 ic_0 ?_
  refine J_aald (pc := 27) C dX6_behindOne_27 hF (fun r27 hF => ?_)
  exact J_aret (pc := 28) C dX6_behindOne_28 (Or.inl ⟨_, rfl⟩) hF (by decide) (by decide)
def fX6_hire_63 (oX6_hire : Hp → Nat → Int32 → Int32 → Int32 → Option Hp) : Nat → Hp → Nat → Int32 → Int32 → Int32 → Nat → Nat → Int32 → Option Hp
  | 0, _, _, _, _, _, _, _, _ => none
  | n63 + 1, h, a0, x1, x2, x3, a4, a5, x6 =>
    (getI h 7 a4 1).bind fun v67 =>
    if v67 ≤ x6 then
      some h
    else
      if x6 = x1 then
        fX6_hire_63 oX6_hire n63 h a0 x1 x2 x3 a4 a5 (x6 + 1)
      else
        (fX7_meet h a4 x2 x6).bind fun q84 =>
        if q84 = 0 then
          fX6_hire_63 oX6_hire n63 h a0 x1 x2 x3 a4 a5 (x6 + 1)
        else
          (fX7_copyFrom h a5 a4).bind fun q94 =>
          (fX7_carry q94 a5 x2 x6).bind fun q102 =>
          (oX6_hire q102.2 a0 x1 x2 (x3 + 1)).bind fun q112 =>
          fX6_hire_63 oX6_hire n63 q112 a0 x1 x2 x3 a4 a5 (x6 + 1)
set_option maxRecDepth 100000 in
theorem kX6_hire_63 {X : Cx} {z : Hp} {n : Nat} {oX6_hire : Hp → Nat → Int32 → Int32 → Int32 → Option Hp} (C : Jc X yX6_hire cX6_hire 7 none (n + 1 + 5) 0 0 (none, z)) (hO : (∀ (h : Hp) (a0 : Nat) (x1 : Int32) (x2 : Int32) (x3 : Int32) (z : Hp), oX6_hire h a0 x1 x2 x3 = some z → Mc yX6_hire cX6_hire 7 none (n + 5) 0 0 [.ref a0, .int x1, .int x2, .int x3] h (none, z))) : ∀ (n63 : Nat) (h : Hp) (a0 : Nat) (x1 : Int32) (x2 : Int32) (x3 : Int32) (a4 : Nat) (a5 : Nat) (x6 : Int32), fX6_hire_63 oX6_hire n63 h a0 x1 x2 x3 a4 a5 x6 = some z → J X 0 0 0 0 63 [some (.ref a0), some (.int x1), some (.int x2), some (.int x3), some (.ref a4), some (.ref a5), some (.int x6)] [] h := by
  intro n63
  induction n63 with
  | zero => intro h a0 x1 x2 x3 a4 a5 x6 hF; cases hF
  | succ n63 ih =>
    intro h a0 x1 x2 x3 a4 a5 x6 hF
    rw [fX6_hire_63] at hF
    refine J_iload (pc := 63) C dX6_hire_63 rfl ?_
    refine J_aload (pc := 65) C dX6_hire_65 rfl ?_
    refine J_getI (pc := 67) C dX6_hire_67 fg_X6_50 hF (fun v67 hF => ?_)
    refine J_icmp_ge (pc := 70) (tgt := 121) C dX6_hire_70 rfl hF (fun hF => ?_) (fun hF => ?_)
    · exact J_vret (pc := 121) C dX6_hire_121 hF (by decide) (by decide)
    · refine J_iload (pc := 73) C dX6_hire_73 rfl ?_
      refine J_iload_n (pc := 75) C dX6_hire_75 rfl ?_
      refine J_icmp_eq (pc := 76) (tgt := 115) C dX6_hire_76 rfl hF (fun hF => ?_) (fun hF => ?_)
      · refine J_iinc (pc := 115) (lv' := [some (.ref a0), some (.int x1), some (.int x2), some (.int x3), some (.ref a4), some (.ref a5), some (.int (x6 + 1))]) C dX6_hire_115 rfl ic_1 rfl ?_
        refine J_goto (pc := 118) (tgt := 63) C dX6_hire_118 rfl ?_
        exact ih h a0 x1 x2 x3 a4 a5 (x6 + 1) hF
      · refine J_aload (pc := 79) C dX6_hire_79 rfl ?_
        refine J_iload_n (pc := 81) C dX6_hire_81 rfl ?_
        refine J_iload (pc := 82) C dX6_hire_82 rfl ?_
        refine J_bind hF (fun q84 hq hF => ?_)
        refine J_callV0_ip (pc := 84) (stk := [.int x6, .int x2, .ref a4]) (st := []) C dX6_hire_84 yw_X7_meet w_MLX6_43 in_X7_meet sl_X7_meet ⟨_, rfl, rfl⟩ (kX7_meet hq) (gO_some hq).1 rfl (by omega) rfl (Nat.le_of_ble_eq_true rfl) ?_
        refine J_if_eq (pc := 87) (tgt := 115) C dX6_hire_87 rfl hF (fun hF => ?_) (fun hF => ?_)
        · refine J_iinc (pc := 115) (lv' := [some (.ref a0), some (.int x1), some (.int x2), some (.int x3), some (.ref a4), some (.ref a5), some (.int (x6 + 1))]) C dX6_hire_115 rfl ic_1 rfl ?_
          refine J_goto (pc := 118) (tgt := 63) C dX6_hire_118 rfl ?_
          exact ih h a0 x1 x2 x3 a4 a5 (x6 + 1) hF
        · refine J_aload (pc := 90) C dX6_hire_90 rfl ?_
          refine J_aload (pc := 92) C dX6_hire_92 rfl ?_
          refine J_bind hF (fun q94 hq hF => ?_)
          refine J_callV0_v (pc := 94) (stk := [.ref a4, .ref a5]) (st := []) C dX6_hire_94 yw_X7_copyFrom w_MLX6_27 in_X7_copyFrom sl_X7_copyFrom ⟨_, rfl, rfl⟩ (kX7_copyFrom hq) (gO_some hq).1 rfl (by omega) rfl (Nat.le_of_ble_eq_true rfl) ?_
          refine J_aload (pc := 97) C dX6_hire_97 rfl ?_
          refine J_iload_n (pc := 99) C dX6_hire_99 rfl ?_
          refine J_iload (pc := 100) C dX6_hire_100 rfl ?_
          refine J_bind hF (fun q102 hq hF => ?_)
          refine J_callV0_i (pc := 102) (stk := [.int x6, .int x2, .ref a5]) (st := []) C dX6_hire_102 yw_X7_carry w_MLX6_31 in_X7_carry sl_X7_carry ⟨_, rfl, rfl⟩ (kX7_carry hq) (gO_some hq).1 rfl (by omega) rfl (Nat.le_of_ble_eq_true rfl) ?_
          refine J_pop (pc := 105) C dX6_hire_105 rfl ?_
          refine J_aload_n (pc := 106) C dX6_hire_106 rfl ?_
          refine J_iload_n (pc := 107) C dX6_hire_107 rfl ?_
          refine J_iload_n (pc := 108) C dX6_hire_108 rfl ?_
          refine J_iload_n (pc := 109) C dX6_hire_109 rfl ?_
          refine J_iconst (pc := 110) C dX6_hire_110 ic_1 ?_
          refine J_iadd (pc := 111) C dX6_hire_111 ?_
          refine J_bind hF (fun q112 hq hF => ?_)
          refine J_callS0_v (pc := 112) (stk := [.int (x3 + 1), .int x2, .int x1, .ref a0]) (st := []) C dX6_hire_112 yw_X6_hire w_MLX6_39 st_X6_hire (hO _ _ _ _ _ _ hq) rfl (by omega) rfl (Nat.le_of_ble_eq_true rfl) ?_
          refine J_iinc (pc := 115) (lv' := [some (.ref a0), some (.int x1), some (.int x2), some (.int x3), some (.ref a4), some (.ref a5), some (.int (x6 + 1))]) C dX6_hire_115 rfl ic_1 rfl ?_
          refine J_goto (pc := 118) (tgt := 63) C dX6_hire_118 rfl ?_
          exact ih q112 a0 x1 x2 x3 a4 a5 (x6 + 1) hF
def fX6_hire_34 (oX6_hire : Hp → Nat → Int32 → Int32 → Int32 → Option Hp) (h : Hp) (a0 : Nat) (x1 : Int32) (x2 : Int32) (x3 : Int32) (a4 : Nat) : Option Hp :=
  (getI h 6 a0 1).bind fun v38 =>
  if v38 ≤ (x3 + 1) then
    some h
  else
    if x3 < 4 then
      (getR h 6 a0 0).bind fun r51 =>
      (rdR h r51 (x3 + 1)).bind fun r57 =>
      fX6_hire_63 oX6_hire 1000 h a0 x1 x2 x3 a4 r57 0
    else
      some h
set_option maxRecDepth 100000 in
theorem kX6_hire_34 {X : Cx} {z : Hp} {n : Nat} {oX6_hire : Hp → Nat → Int32 → Int32 → Int32 → Option Hp} (C : Jc X yX6_hire cX6_hire 7 none (n + 1 + 5) 0 0 (none, z)) (hO : (∀ (h : Hp) (a0 : Nat) (x1 : Int32) (x2 : Int32) (x3 : Int32) (z : Hp), oX6_hire h a0 x1 x2 x3 = some z → Mc yX6_hire cX6_hire 7 none (n + 5) 0 0 [.ref a0, .int x1, .int x2, .int x3] h (none, z))) (h : Hp) (a0 : Nat) (x1 : Int32) (x2 : Int32) (x3 : Int32) (a4 : Nat) (hF : fX6_hire_34 oX6_hire h a0 x1 x2 x3 a4 = some z) : J X 0 0 0 0 34 [some (.ref a0), some (.int x1), some (.int x2), some (.int x3), some (.ref a4), none, none] [] h := by
  unfold fX6_hire_34 at hF
  refine J_iload_n (pc := 34) C dX6_hire_34 rfl ?_
  refine J_iconst (pc := 35) C dX6_hire_35 ic_1 ?_
  refine J_iadd (pc := 36) C dX6_hire_36 ?_
  refine J_aload_n (pc := 37) C dX6_hire_37 rfl ?_
  refine J_getI (pc := 38) C dX6_hire_38 fg_X6_35 hF (fun v38 hF => ?_)
  refine J_icmp_ge (pc := 41) (tgt := 49) C dX6_hire_41 rfl hF (fun hF => ?_) (fun hF => ?_)
  · exact J_vret (pc := 49) C dX6_hire_49 hF (by decide) (by decide)
  · refine J_iload_n (pc := 44) C dX6_hire_44 rfl ?_
    refine J_iconst (pc := 45) C dX6_hire_45 ic_4 ?_
    refine J_icmp_lt (pc := 46) (tgt := 50) C dX6_hire_46 rfl hF (fun hF => ?_) (fun hF => ?_)
    · refine J_aload_n (pc := 50) C dX6_hire_50 rfl ?_
      refine J_getR (pc := 51) C dX6_hire_51 fg_X6_13 hF (fun r51 hF => ?_)
      refine J_iload_n (pc := 54) C dX6_hire_54 rfl ?_
      refine J_iconst (pc := 55) C dX6_hire_55 ic_1 ?_
      refine J_iadd (pc := 56) C dX6_hire_56 ?_
      refine J_aald (pc := 57) C dX6_hire_57 hF (fun r57 hF => ?_)
      refine J_astore (pc := 58) (lv' := [some (.ref a0), some (.int x1), some (.int x2), some (.int x3), some (.ref a4), some (.ref r57), none]) C dX6_hire_58 rfl ?_
      refine J_iconst (pc := 60) C dX6_hire_60 ic_0 ?_
      refine J_istore (pc := 61) (lv' := [some (.ref a0), some (.int x1), some (.int x2), some (.int x3), some (.ref a4), some (.ref r57), some (.int 0)]) C dX6_hire_61 rfl ?_
      exact kX6_hire_63 C hO 1000 h a0 x1 x2 x3 a4 r57 0 hF
    · exact J_vret (pc := 49) C dX6_hire_49 hF (by decide) (by decide)
def bX6_hire (oX6_hire : Hp → Nat → Int32 → Int32 → Int32 → Option Hp) (h : Hp) (a0 : Nat) (x1 : Int32) (x2 : Int32) (x3 : Int32) : Option Hp :=
  (getR h 6 a0 0).bind fun r1 =>
  (rdR h r1 x3).bind fun r5 =>
  (fX7_meet h r5 x2 x1).bind fun q12 =>
  if q12 = 0 then
    fX6_hire_34 oX6_hire h a0 x1 x2 x3 r5
  else
    (fX7_knows h r5 x2 x1).bind fun q22 =>
    if q22 = 0 then
      (putV h 6 a0 1 (.int x3)).bind fun h30 =>
      some h30
    else
      fX6_hire_34 oX6_hire h a0 x1 x2 x3 r5
set_option maxRecDepth 100000 in
theorem bkX6_hire {n : Nat} {oX6_hire : Hp → Nat → Int32 → Int32 → Int32 → Option Hp} (hO : (∀ (h : Hp) (a0 : Nat) (x1 : Int32) (x2 : Int32) (x3 : Int32) (z : Hp), oX6_hire h a0 x1 x2 x3 = some z → Mc yX6_hire cX6_hire 7 none (n + 5) 0 0 [.ref a0, .int x1, .int x2, .int x3] h (none, z))) {h : Hp} {a0 : Nat} {x1 : Int32} {x2 : Int32} {x3 : Int32} {z : Hp} (hF : bX6_hire oX6_hire h a0 x1 x2 x3 = some z) : Mc yX6_hire cX6_hire 7 none (n + 1 + 5) 0 0 [.ref a0, .int x1, .int x2, .int x3] h (none, z) := by
  unfold bX6_hire at hF
  refine Mc_of [some (.ref a0), some (.int x1), some (.int x2), some (.int x3), none, none, none] plX6 rfl rfl (Nat.le_of_ble_eq_true rfl) (fun X C => ?_)
  refine J_aload_n (pc := 0) C dX6_hire_0 rfl ?_
  refine J_getR (pc := 1) C dX6_hire_1 fg_X6_13 hF (fun r1 hF => ?_)
  refine J_iload_n (pc := 4) C dX6_hire_4 rfl ?_
  refine J_aald (pc := 5) C dX6_hire_5 hF (fun r5 hF => ?_)
  refine J_astore (pc := 6) (lv' := [some (.ref a0), some (.int x1), some (.int x2), some (.int x3), some (.ref r5), none, none]) C dX6_hire_6 rfl ?_
  refine J_aload (pc := 8) C dX6_hire_8 rfl ?_
  refine J_iload_n (pc := 10) C dX6_hire_10 rfl ?_
  refine J_iload_n (pc := 11) C dX6_hire_11 rfl ?_
  refine J_bind hF (fun q12 hq hF => ?_)
  refine J_callV0_ip (pc := 12) (stk := [.int x1, .int x2, .ref r5]) (st := []) C dX6_hire_12 yw_X7_meet w_MLX6_43 in_X7_meet sl_X7_meet ⟨_, rfl, rfl⟩ (kX7_meet hq) (gO_some hq).1 rfl (by omega) rfl (Nat.le_of_ble_eq_true rfl) ?_
  refine J_if_eq (pc := 15) (tgt := 34) C dX6_hire_15 rfl hF (fun hF => ?_) (fun hF => ?_)
  · exact kX6_hire_34 C hO h a0 x1 x2 x3 r5 hF
  · refine J_aload (pc := 18) C dX6_hire_18 rfl ?_
    refine J_iload_n (pc := 20) C dX6_hire_20 rfl ?_
    refine J_iload_n (pc := 21) C dX6_hire_21 rfl ?_
    refine J_bind hF (fun q22 hq hF => ?_)
    refine J_callV0_ip (pc := 22) (stk := [.int x1, .int x2, .ref r5]) (st := []) C dX6_hire_22 yw_X7_knows w_MLX6_47 in_X7_knows sl_X7_knows ⟨_, rfl, rfl⟩ (kX7_knows hq) (gO_some hq).1 rfl (by omega) rfl (Nat.le_of_ble_eq_true rfl) ?_
    refine J_if_ne (pc := 25) (tgt := 34) C dX6_hire_25 rfl hF (fun hF => ?_) (fun hF => ?_)
    · refine J_aload_n (pc := 28) C dX6_hire_28 rfl ?_
      refine J_iload_n (pc := 29) C dX6_hire_29 rfl ?_
      refine J_put (pc := 30) C dX6_hire_30 (fp_X6_35 _) hF rfl rfl (fun h30 hF => ?_)
      exact J_vret (pc := 33) C dX6_hire_33 hF (by decide) (by decide)
    · exact kX6_hire_34 C hO h a0 x1 x2 x3 r5 hF
def gX6_hire : Nat → Hp → Nat → Int32 → Int32 → Int32 → Option Hp
  | 0, _, _, _, _, _ => none
  | n + 1, h, a0, x1, x2, x3 => bX6_hire (gX6_hire n) h a0 x1 x2 x3
theorem gkX6_hire : ∀ n : Nat, (∀ (h : Hp) (a0 : Nat) (x1 : Int32) (x2 : Int32) (x3 : Int32) (z : Hp), gX6_hire n h a0 x1 x2 x3 = some z → Mc yX6_hire cX6_hire 7 none (n + 5) 0 0 [.ref a0, .int x1, .int x2, .int x3] h (none, z)) := by
  intro n
  induction n with
  | zero => intro h a0 x1 x2 x3 z hF; cases hF
  | succ n ih => intro h a0 x1 x2 x3 z hF; exact bkX6_hire (n := n) ih hF
def fX6_hire (h : Hp) (a0 : Nat) (x1 : Int32) (x2 : Int32) (x3 : Int32) : Option Hp := gX6_hire 8 h a0 x1 x2 x3
theorem kX6_hire {h : Hp} {a0 : Nat} {x1 : Int32} {x2 : Int32} {x3 : Int32} {z : Hp} (hF : fX6_hire h a0 x1 x2 x3 = some z) : Mc yX6_hire cX6_hire 7 none 13 0 0 [.ref a0, .int x1, .int x2, .int x3] h (none, z) := (gkX6_hire 8) h a0 x1 x2 x3 _ hF
def fX6_fewestHired (h : Hp) (a0 : Nat) (a1 : Nat) (x2 : Int32) (x3 : Int32) (x4 : Int32) : Option (Int32 × Hp) := gO h 6 a0 (
  (getR h 6 a0 0).bind fun r1 =>
  (rdR h r1 0).bind fun r5 =>
  (fX7_copyFrom h r5 a1).bind fun q7 =>
  (putV q7 6 a0 1 (.int (x4 + 1))).bind fun h15 =>
  (fX6_hire h15 a0 x2 x3 0).bind fun q22 =>
  (getI q22 6 a0 1).bind fun v26 =>
  some (v26, q22))
set_option maxRecDepth 100000 in
theorem kX6_fewestHired {h : Hp} {a0 : Nat} {a1 : Nat} {x2 : Int32} {x3 : Int32} {x4 : Int32} {z : (Int32 × Hp)} (hF : fX6_fewestHired h a0 a1 x2 x3 x4 = some z) : Mc yX6_fewestHired cX6_fewestHired 5 (some .int) 14 0 0 [.ref a0, .ref a1, .int x2, .int x3, .int x4] h (some (.int z.1), z.2) := by
  have hF := (gO_some hF).2
  refine Mc_of [some (.ref a0), some (.ref a1), some (.int x2), some (.int x3), some (.int x4)] plX6 rfl rfl (Nat.le_of_ble_eq_true rfl) (fun X C => ?_)
  refine J_aload_n (pc := 0) C dX6_fewestHired_0 rfl ?_
  refine J_getR (pc := 1) C dX6_fewestHired_1 fg_X6_13 hF (fun r1 hF => ?_)
  refine J_iconst (pc := 4) C dX6_fewestHired_4 ic_0 ?_
  refine J_aald (pc := 5) C dX6_fewestHired_5 hF (fun r5 hF => ?_)
  refine J_aload_n (pc := 6) C dX6_fewestHired_6 rfl ?_
  refine J_bind hF (fun q7 hq hF => ?_)
  refine J_callV0_v (pc := 7) (stk := [.ref a1, .ref r5]) (st := []) C dX6_fewestHired_7 yw_X7_copyFrom w_MLX6_27 in_X7_copyFrom sl_X7_copyFrom ⟨_, rfl, rfl⟩ (kX7_copyFrom hq) (gO_some hq).1 rfl (by decide) rfl (Nat.le_of_ble_eq_true rfl) ?_
  refine J_aload_n (pc := 10) C dX6_fewestHired_10 rfl ?_
  refine J_iload (pc := 11) C dX6_fewestHired_11 rfl ?_
  refine J_iconst (pc := 13) C dX6_fewestHired_13 ic_1 ?_
  refine J_iadd (pc := 14) C dX6_fewestHired_14 ?_
  refine J_put (pc := 15) C dX6_fewestHired_15 (fp_X6_35 _) hF rfl rfl (fun h15 hF => ?_)
  refine J_aload_n (pc := 18) C dX6_fewestHired_18 rfl ?_
  refine J_iload_n (pc := 19) C dX6_fewestHired_19 rfl ?_
  refine J_iload_n (pc := 20) C dX6_fewestHired_20 rfl ?_
  refine J_iconst (pc := 21) C dX6_fewestHired_21 ic_0 ?_
  refine J_bind hF (fun q22 hq hF => ?_)
  refine J_callS0_v (pc := 22) (stk := [.int 0, .int x3, .int x2, .ref a0]) (st := []) C dX6_fewestHired_22 yw_X6_hire w_MLX6_39 st_X6_hire (kX6_hire hq) rfl (by decide) rfl (Nat.le_of_ble_eq_true rfl) ?_
  refine J_aload_n (pc := 25) C dX6_fewestHired_25 rfl ?_
  refine J_getI (pc := 26) C dX6_fewestHired_26 fg_X6_35 hF (fun v26 hF => ?_)
  exact J_iret (pc := 29) C dX6_fewestHired_29 hF (by decide) (by decide)
def fX7_face (h : Hp) (a0 : Nat) (x1 : Int32) (x2 : Int32) : Option Int32 := gO h 7 a0 (
  (getR h 7 a0 9).bind fun r2 =>
  (rdI h r2 x1).bind fun v6 =>
  if v6 ≤ x2 then
    some ((-1))
  else
    (getR h 7 a0 10).bind fun r11 =>
    (rdI h r11 ((x1 * 8) + x2)).bind fun v20 =>
    some v20)
set_option maxRecDepth 100000 in
theorem kX7_face {h : Hp} {a0 : Nat} {x1 : Int32} {x2 : Int32} {z : Int32} (hF : fX7_face h a0 x1 x2 = some z) : Mc yX7_face cX7_face 3 (some .int) 0 0 0 [.ref a0, .int x1, .int x2] h (some (.int z), h) := by
  have hF := (gO_some hF).2
  refine Mc_of [some (.ref a0), some (.int x1), some (.int x2)] plX7 rfl rfl (Nat.le_of_ble_eq_true rfl) (fun X C => ?_)
  refine J_iload_n (pc := 0) C dX7_face_0 rfl ?_
  refine J_aload_n (pc := 1) C dX7_face_1 rfl ?_
  refine J_getR (pc := 2) C dX7_face_2 fg_X7_30 hF (fun r2 hF => ?_)
  refine J_iload_n (pc := 5) C dX7_face_5 rfl ?_
  refine J_iald (pc := 6) C dX7_face_6 hF (fun v6 hF => ?_)
  refine J_icmp_ge (pc := 7) (tgt := 24) C dX7_face_7 rfl hF (fun hF => ?_) (fun hF => ?_)
  · refine J_iconst (pc := 24) C dX7_face_24 ic_m1 ?_
    exact J_iretP (pc := 25) C dX7_face_25 hF (by decide) (by decide)
  · refine J_aload_n (pc := 10) C dX7_face_10 rfl ?_
    refine J_getR (pc := 11) C dX7_face_11 fg_X7_33 hF (fun r11 hF => ?_)
    refine J_iload_n (pc := 14) C dX7_face_14 rfl ?_
    refine J_bipush (pc := 15) C dX7_face_15 bc_8 ?_
    refine J_imul (pc := 17) C dX7_face_17 ?_
    refine J_iload_n (pc := 18) C dX7_face_18 rfl ?_
    refine J_iadd (pc := 19) C dX7_face_19 ?_
    refine J_iald (pc := 20) C dX7_face_20 hF (fun v20 hF => ?_)
    refine J_goto (pc := 21) (tgt := 25) C dX7_face_21 rfl ?_
    exact J_iretP (pc := 25) C dX7_face_25 hF (by decide) (by decide)
def fX7_isMindLike_19 (h : Hp) : Nat → Nat → Int32 → Nat → Int32 → Option Int32
  | 0, _, _, _, _ => none
  | n19 + 1, a0, x1, a2, x3 =>
    (getR h 7 a0 9).bind fun r21 =>
    (rdI h r21 x1).bind fun v25 =>
    if v25 ≤ x3 then
      some 1
    else
      (fX7_face h a0 x1 x3).bind fun q32 =>
      (fX7_face h a2 x1 x3).bind fun q38 =>
      if q32 = q38 then
        fX7_isMindLike_19 h n19 a0 x1 a2 (x3 + 1)
      else
        some 0
set_option maxRecDepth 100000 in
theorem kX7_isMindLike_19 {X : Cx} {z : Int32} {h : Hp} (C : Jc X yX7_isMindLike cX7_isMindLike 4 (some .boolean) 1 0 0 (some (.int z), h)) : ∀ (n19 : Nat) (a0 : Nat) (x1 : Int32) (a2 : Nat) (x3 : Int32), fX7_isMindLike_19 h n19 a0 x1 a2 x3 = some z → J X 0 0 0 0 19 [some (.ref a0), some (.int x1), some (.ref a2), some (.int x3)] [] h := by
  intro n19
  induction n19 with
  | zero => intro a0 x1 a2 x3 hF; cases hF
  | succ n19 ih =>
    intro a0 x1 a2 x3 hF
    rw [fX7_isMindLike_19] at hF
    refine J_iload_n (pc := 19) C dX7_isMindLike_19 rfl ?_
    refine J_aload_n (pc := 20) C dX7_isMindLike_20 rfl ?_
    refine J_getR (pc := 21) C dX7_isMindLike_21 fg_X7_30 hF (fun r21 hF => ?_)
    refine J_iload_n (pc := 24) C dX7_isMindLike_24 rfl ?_
    refine J_iald (pc := 25) C dX7_isMindLike_25 hF (fun v25 hF => ?_)
    refine J_icmp_ge (pc := 26) (tgt := 52) C dX7_isMindLike_26 rfl hF (fun hF => ?_) (fun hF => ?_)
    · refine J_iconst (pc := 52) C dX7_isMindLike_52 ic_1 ?_
      exact J_zretP (pc := 53) C dX7_isMindLike_53 rfl hF (by decide) (by decide)
    · refine J_aload_n (pc := 29) C dX7_isMindLike_29 rfl ?_
      refine J_iload_n (pc := 30) C dX7_isMindLike_30 rfl ?_
      refine J_iload_n (pc := 31) C dX7_isMindLike_31 rfl ?_
      refine J_bind hF (fun q32 hq hF => ?_)
      refine J_callV0_ip (pc := 32) (stk := [.int x3, .int x1, .ref a0]) (st := []) C dX7_isMindLike_32 yw_X7_face w_MLX7_116 in_X7_face sl_X7_face ⟨_, rfl, rfl⟩ (kX7_face hq) (gO_some hq).1 rfl (by decide) rfl (Nat.le_of_ble_eq_true rfl) ?_
      refine J_aload_n (pc := 35) C dX7_isMindLike_35 rfl ?_
      refine J_iload_n (pc := 36) C dX7_isMindLike_36 rfl ?_
      refine J_iload_n (pc := 37) C dX7_isMindLike_37 rfl ?_
      refine J_bind hF (fun q38 hq hF => ?_)
      refine J_callV0_ip (pc := 38) (stk := [.int x3, .int x1, .ref a2, .int q32]) (st := [.int q32]) C dX7_isMindLike_38 yw_X7_face w_MLX7_116 in_X7_face sl_X7_face ⟨_, rfl, rfl⟩ (kX7_face hq) (gO_some hq).1 rfl (by decide) rfl (Nat.le_of_ble_eq_true rfl) ?_
      refine J_icmp_eq (pc := 41) (tgt := 46) C dX7_isMindLike_41 rfl hF (fun hF => ?_) (fun hF => ?_)
      · refine J_iinc (pc := 46) (lv' := [some (.ref a0), some (.int x1), some (.ref a2), some (.int (x3 + 1))]) C dX7_isMindLike_46 rfl ic_1 rfl ?_
        refine J_goto (pc := 49) (tgt := 19) C dX7_isMindLike_49 rfl ?_
        exact ih a0 x1 a2 (x3 + 1) hF
      · refine J_iconst (pc := 44) C dX7_isMindLike_44 ic_0 ?_
        exact J_zretP (pc := 45) C dX7_isMindLike_45 rfl hF (by decide) (by decide)
def fX7_isMindLike (h : Hp) (a0 : Nat) (x1 : Int32) (a2 : Nat) : Option Int32 := gO h 7 a0 (
  (getR h 7 a0 9).bind fun r1 =>
  (rdI h r1 x1).bind fun v5 =>
  (getR h 7 a2 9).bind fun r7 =>
  (rdI h r7 x1).bind fun v11 =>
  if v5 = v11 then
    fX7_isMindLike_19 h 1000 a0 x1 a2 0
  else
    some 0)
set_option maxRecDepth 100000 in
theorem kX7_isMindLike {h : Hp} {a0 : Nat} {x1 : Int32} {a2 : Nat} {z : Int32} (hF : fX7_isMindLike h a0 x1 a2 = some z) : Mc yX7_isMindLike cX7_isMindLike 4 (some .boolean) 1 0 0 [.ref a0, .int x1, .ref a2] h (some (.int z), h) := by
  have hF := (gO_some hF).2
  refine Mc_of [some (.ref a0), some (.int x1), some (.ref a2), none] plX7 rfl rfl (Nat.le_of_ble_eq_true rfl) (fun X C => ?_)
  refine J_aload_n (pc := 0) C dX7_isMindLike_0 rfl ?_
  refine J_getR (pc := 1) C dX7_isMindLike_1 fg_X7_30 hF (fun r1 hF => ?_)
  refine J_iload_n (pc := 4) C dX7_isMindLike_4 rfl ?_
  refine J_iald (pc := 5) C dX7_isMindLike_5 hF (fun v5 hF => ?_)
  refine J_aload_n (pc := 6) C dX7_isMindLike_6 rfl ?_
  refine J_getR (pc := 7) C dX7_isMindLike_7 fg_X7_30 hF (fun r7 hF => ?_)
  refine J_iload_n (pc := 10) C dX7_isMindLike_10 rfl ?_
  refine J_iald (pc := 11) C dX7_isMindLike_11 hF (fun v11 hF => ?_)
  refine J_icmp_eq (pc := 12) (tgt := 17) C dX7_isMindLike_12 rfl hF (fun hF => ?_) (fun hF => ?_)
  · refine J_iconst (pc := 17) C dX7_isMindLike_17 ic_0 ?_
    refine J_istore_n (pc := 18) (lv' := [some (.ref a0), some (.int x1), some (.ref a2), some (.int 0)]) C dX7_isMindLike_18 rfl ?_
    exact kX7_isMindLike_19 C 1000 a0 x1 a2 0 hF
  · refine J_iconst (pc := 15) C dX7_isMindLike_15 ic_0 ?_
    exact J_zretP (pc := 16) C dX7_isMindLike_16 rfl hF (by decide) (by decide)
def fX7_bitsOfUnlikeMinds_4 (h : Hp) : Nat → Nat → Nat → Int32 → Int32 → Option Int32
  | 0, _, _, _, _ => none
  | n4 + 1, a0, a1, x2, x3 =>
    (getI h 7 a0 2).bind fun v6 =>
    if v6 ≤ x3 then
      some x2
    else
      (fX7_isMindLike h a0 x3 a1).bind fun q15 =>
      if q15 = 0 then
        fX7_bitsOfUnlikeMinds_4 h n4 a0 a1 (x2 ||| ((1 : Int32) <<< (x3 &&& 31))) (x3 + 1)
      else
        fX7_bitsOfUnlikeMinds_4 h n4 a0 a1 x2 (x3 + 1)
set_option maxRecDepth 100000 in
theorem kX7_bitsOfUnlikeMinds_4 {X : Cx} {z : Int32} {h : Hp} (C : Jc X yX7_bitsOfUnlikeMinds cX7_bitsOfUnlikeMinds 4 (some .int) 2 0 0 (some (.int z), h)) : ∀ (n4 : Nat) (a0 : Nat) (a1 : Nat) (x2 : Int32) (x3 : Int32), fX7_bitsOfUnlikeMinds_4 h n4 a0 a1 x2 x3 = some z → J X 0 0 0 0 4 [some (.ref a0), some (.ref a1), some (.int x2), some (.int x3)] [] h := by
  intro n4
  induction n4 with
  | zero => intro a0 a1 x2 x3 hF; cases hF
  | succ n4 ih =>
    intro a0 a1 x2 x3 hF
    rw [fX7_bitsOfUnlikeMinds_4] at hF
    refine J_iload_n (pc := 4) C dX7_bitsOfUnlikeMinds_4 rfl ?_
    refine J_aload_n (pc := 5) C dX7_bitsOfUnlikeMinds_5 rfl ?_
    refine J_getI (pc := 6) C dX7_bitsOfUnlikeMinds_6 fg_X7_50 hF (fun v6 hF => ?_)
    refine J_icmp_ge (pc := 9) (tgt := 33) C dX7_bitsOfUnlikeMinds_9 rfl hF (fun hF => ?_) (fun hF => ?_)
    · refine J_iload_n (pc := 33) C dX7_bitsOfUnlikeMinds_33 rfl ?_
      exact J_iretP (pc := 34) C dX7_bitsOfUnlikeMinds_34 hF (by decide) (by decide)
    · refine J_aload_n (pc := 12) C dX7_bitsOfUnlikeMinds_12 rfl ?_
      refine J_iload_n (pc := 13) C dX7_bitsOfUnlikeMinds_13 rfl ?_
      refine J_aload_n (pc := 14) C dX7_bitsOfUnlikeMinds_14 rfl ?_
      refine J_bind hF (fun q15 hq hF => ?_)
      refine J_callV0_ip (pc := 15) (stk := [.ref a1, .int x3, .ref a0]) (st := []) C dX7_bitsOfUnlikeMinds_15 yw_X7_isMindLike w_MLX7_112 in_X7_isMindLike sl_X7_isMindLike ⟨_, rfl, rfl⟩ (kX7_isMindLike hq) (gO_some hq).1 rfl (by decide) rfl (Nat.le_of_ble_eq_true rfl) ?_
      refine J_if_ne (pc := 18) (tgt := 27) C dX7_bitsOfUnlikeMinds_18 rfl hF (fun hF => ?_) (fun hF => ?_)
      · refine J_iload_n (pc := 21) C dX7_bitsOfUnlikeMinds_21 rfl ?_
        refine J_iconst (pc := 22) C dX7_bitsOfUnlikeMinds_22 ic_1 ?_
        refine J_iload_n (pc := 23) C dX7_bitsOfUnlikeMinds_23 rfl ?_
        refine J_ishl (pc := 24) C dX7_bitsOfUnlikeMinds_24 ?_
        refine J_ior (pc := 25) C dX7_bitsOfUnlikeMinds_25 ?_
        refine J_istore_n (pc := 26) (lv' := [some (.ref a0), some (.ref a1), some (.int (x2 ||| ((1 : Int32) <<< (x3 &&& 31)))), some (.int x3)]) C dX7_bitsOfUnlikeMinds_26 rfl ?_
        refine J_iinc (pc := 27) (lv' := [some (.ref a0), some (.ref a1), some (.int (x2 ||| ((1 : Int32) <<< (x3 &&& 31)))), some (.int (x3 + 1))]) C dX7_bitsOfUnlikeMinds_27 rfl ic_1 rfl ?_
        refine J_goto (pc := 30) (tgt := 4) C dX7_bitsOfUnlikeMinds_30 rfl ?_
        exact ih a0 a1 (x2 ||| ((1 : Int32) <<< (x3 &&& 31))) (x3 + 1) hF
      · refine J_iinc (pc := 27) (lv' := [some (.ref a0), some (.ref a1), some (.int x2), some (.int (x3 + 1))]) C dX7_bitsOfUnlikeMinds_27 rfl ic_1 rfl ?_
        refine J_goto (pc := 30) (tgt := 4) C dX7_bitsOfUnlikeMinds_30 rfl ?_
        exact ih a0 a1 x2 (x3 + 1) hF
def fX7_bitsOfUnlikeMinds (h : Hp) (a0 : Nat) (a1 : Nat) : Option Int32 := gO h 7 a0 (
  fX7_bitsOfUnlikeMinds_4 h 1000 a0 a1 0 0)
set_option maxRecDepth 100000 in
theorem kX7_bitsOfUnlikeMinds {h : Hp} {a0 : Nat} {a1 : Nat} {z : Int32} (hF : fX7_bitsOfUnlikeMinds h a0 a1 = some z) : Mc yX7_bitsOfUnlikeMinds cX7_bitsOfUnlikeMinds 4 (some .int) 2 0 0 [.ref a0, .ref a1] h (some (.int z), h) := by
  have hF := (gO_some hF).2
  refine Mc_of [some (.ref a0), some (.ref a1), none, none] plX7 rfl rfl (Nat.le_of_ble_eq_true rfl) (fun X C => ?_)
  refine J_iconst (pc := 0) C dX7_bitsOfUnlikeMinds_0 ic_0 ?_
  refine J_istore_n (pc := 1) (lv' := [some (.ref a0), some (.ref a1), some (.int 0), none]) C dX7_bitsOfUnlikeMinds_1 rfl ?_
  refine J_iconst (pc := 2) C dX7_bitsOfUnlikeMinds_2 ic_0 ?_
  refine J_istore_n (pc := 3) (lv' := [some (.ref a0), some (.ref a1), some (.int 0), some (.int 0)]) C dX7_bitsOfUnlikeMinds_3 rfl ?_
  exact kX7_bitsOfUnlikeMinds_4 C 1000 a0 a1 0 0 hF
