def fX9_ferries_90 (oX9_ferries : Hp → Nat → Int32 → Int32 → Int32 → Int32 → Option Hp) : Nat → Hp → Nat → Int32 → Int32 → Int32 → Int32 → Int32 → Option Hp
  | 0, _, _, _, _, _, _, _ => none
  | n90 + 1, h, a0, x1, x2, x3, x4, x5 =>
    (getR h 9 a0 0).bind fun r93 =>
    (rdI h r93 1).bind fun v97 =>
    if v97 ≤ x5 then
      some h
    else
      (fX9_areTogether h a0 x5 x1).bind fun q105 =>
      if q105 = 0 then
        fX9_ferries_90 oX9_ferries n90 h a0 x1 x2 x3 x4 (x5 + 1)
      else
        (getR h 9 a0 14).bind fun r112 =>
        (wrI h r112 x2 x5).bind fun h118 =>
        (fX9_crosses h118 a0 x5 x1).bind fun q123 =>
        (gO q123.2 9 a0 (oX9_ferries q123.2 a0 x1 (x2 + 1) x3 (x4 + q123.1))).bind fun q139 =>
        (fX9_layBack q139 a0 x2).bind fun q144 =>
        fX9_ferries_90 oX9_ferries n90 q144 a0 x1 x2 x3 x4 (x5 + 1)
set_option maxRecDepth 100000 in
theorem kX9_ferries_90 {X : Cx} {z : Hp} {n : Nat} {oX9_ferries : Hp → Nat → Int32 → Int32 → Int32 → Int32 → Option Hp} (C : Jc X yX9_ferries cX9_ferries 7 none (n + 1 + 6) 0 0 (none, z)) (hO : (∀ (h : Hp) (a0 : Nat) (x1 : Int32) (x2 : Int32) (x3 : Int32) (x4 : Int32) (z : Hp), oX9_ferries h a0 x1 x2 x3 x4 = some z → Mc yX9_ferries cX9_ferries 7 none (n + 6) 0 0 [.ref a0, .int x1, .int x2, .int x3, .int x4] h (none, z))) : ∀ (n90 : Nat) (h : Hp) (a0 : Nat) (x1 : Int32) (x2 : Int32) (x3 : Int32) (x4 : Int32) (x5 : Int32), fX9_ferries_90 oX9_ferries n90 h a0 x1 x2 x3 x4 x5 = some z → J X 0 0 0 0 90 [some (.ref a0), some (.int x1), some (.int x2), some (.int x3), some (.int x4), some (.int x5), none] [] h := by
  intro n90
  induction n90 with
  | zero => intro h a0 x1 x2 x3 x4 x5 hF; cases hF
  | succ n90 ih =>
    intro h a0 x1 x2 x3 x4 x5 hF
    rw [fX9_ferries_90] at hF
    refine J_iload (pc := 90) C dX9_ferries_90 rfl ?_
    refine J_aload_n (pc := 92) C dX9_ferries_92 rfl ?_
    refine J_getR (pc := 93) C dX9_ferries_93 fg_X9_7 hF (fun r93 hF => ?_)
    refine J_iconst (pc := 96) C dX9_ferries_96 ic_1 ?_
    refine J_iald (pc := 97) C dX9_ferries_97 hF (fun v97 hF => ?_)
    refine J_icmp_ge (pc := 98) (tgt := 153) C dX9_ferries_98 rfl hF (fun hF => ?_) (fun hF => ?_)
    · exact J_vret (pc := 153) C dX9_ferries_153 hF (by decide) (by decide)
    · refine J_aload_n (pc := 101) C dX9_ferries_101 rfl ?_
      refine J_iload (pc := 102) C dX9_ferries_102 rfl ?_
      refine J_iload_n (pc := 104) C dX9_ferries_104 rfl ?_
      refine J_bind hF (fun q105 hq hF => ?_)
      refine J_callV0_ip (pc := 105) (stk := [.int x1, .int x5, .ref a0]) (st := []) C dX9_ferries_105 yw_X9_areTogether w_MLX9_181 in_X9_areTogether sl_X9_areTogether ⟨_, rfl, rfl⟩ (kX9_areTogether hq) (gO_some hq).1 rfl (by omega) rfl (Nat.le_of_ble_eq_true rfl) ?_
      refine J_if_eq (pc := 108) (tgt := 147) C dX9_ferries_108 rfl hF (fun hF => ?_) (fun hF => ?_)
      · refine J_iinc (pc := 147) (lv' := [some (.ref a0), some (.int x1), some (.int x2), some (.int x3), some (.int x4), some (.int (x5 + 1)), none]) C dX9_ferries_147 rfl ic_1 rfl ?_
        refine J_goto (pc := 150) (tgt := 90) C dX9_ferries_150 rfl ?_
        exact ih h a0 x1 x2 x3 x4 (x5 + 1) hF
      · refine J_aload_n (pc := 111) C dX9_ferries_111 rfl ?_
        refine J_getR (pc := 112) C dX9_ferries_112 fg_X9_37 hF (fun r112 hF => ?_)
        refine J_iload_n (pc := 115) C dX9_ferries_115 rfl ?_
        refine J_iload (pc := 116) C dX9_ferries_116 rfl ?_
        refine J_iast (pc := 118) C dX9_ferries_118 hF (fun h118 hF => ?_)
        refine J_aload_n (pc := 119) C dX9_ferries_119 rfl ?_
        refine J_iload (pc := 120) C dX9_ferries_120 rfl ?_
        refine J_iload_n (pc := 122) C dX9_ferries_122 rfl ?_
        refine J_bind hF (fun q123 hq hF => ?_)
        refine J_callV0_i (pc := 123) (stk := [.int x1, .int x5, .ref a0]) (st := []) C dX9_ferries_123 yw_X9_crosses w_MLX9_187 in_X9_crosses sl_X9_crosses ⟨_, rfl, rfl⟩ (kX9_crosses hq) (gO_some hq).1 rfl (by omega) rfl (Nat.le_of_ble_eq_true rfl) ?_
        refine J_istore (pc := 126) (lv' := [some (.ref a0), some (.int x1), some (.int x2), some (.int x3), some (.int x4), some (.int x5), some (.int q123.1)]) C dX9_ferries_126 rfl ?_
        refine J_aload_n (pc := 128) C dX9_ferries_128 rfl ?_
        refine J_iload_n (pc := 129) C dX9_ferries_129 rfl ?_
        refine J_iload_n (pc := 130) C dX9_ferries_130 rfl ?_
        refine J_iconst (pc := 131) C dX9_ferries_131 ic_1 ?_
        refine J_iadd (pc := 132) C dX9_ferries_132 ?_
        refine J_iload_n (pc := 133) C dX9_ferries_133 rfl ?_
        refine J_iload (pc := 134) C dX9_ferries_134 rfl ?_
        refine J_iload (pc := 136) C dX9_ferries_136 rfl ?_
        refine J_iadd (pc := 138) C dX9_ferries_138 ?_
        refine J_bind hF (fun q139 hq hF => ?_)
        have hq := gO_some hq
        refine J_callV0_v (pc := 139) (stk := [.int (x4 + q123.1), .int x3, .int (x2 + 1), .int x1, .ref a0]) (st := []) C dX9_ferries_139 yw_X9_ferries w_MLX9_223 in_X9_ferries sl_X9_ferries ⟨_, rfl, rfl⟩ (hO _ _ _ _ _ _ _ hq.2) hq.1 rfl (by omega) rfl (Nat.le_of_ble_eq_true rfl) ?_
        refine J_aload_n (pc := 142) C dX9_ferries_142 rfl ?_
        refine J_iload_n (pc := 143) C dX9_ferries_143 rfl ?_
        refine J_bind hF (fun q144 hq hF => ?_)
        refine J_callV0_v (pc := 144) (stk := [.int x2, .ref a0]) (st := []) C dX9_ferries_144 yw_X9_layBack w_MLX9_213 in_X9_layBack sl_X9_layBack ⟨_, rfl, rfl⟩ (kX9_layBack hq) (gO_some hq).1 rfl (by omega) rfl (Nat.le_of_ble_eq_true rfl) ?_
        refine J_iinc (pc := 147) (lv' := [some (.ref a0), some (.int x1), some (.int x2), some (.int x3), some (.int x4), some (.int (x5 + 1)), some (.int q123.1)]) C dX9_ferries_147 rfl ic_1 rfl ?_
        refine J_goto (pc := 150) (tgt := 90) C dX9_ferries_150 rfl ?_
        refine J_msk (m := [true, true, true, true, true, true, false]) rfl ?_
        exact ih q144 a0 x1 x2 x3 x4 (x5 + 1) hF
def fX9_ferries_51 (oX9_ferries : Hp → Nat → Int32 → Int32 → Int32 → Int32 → Option Hp) (h : Hp) (a0 : Nat) (x4 : Int32) : Option Hp :=
  (getI h 9 a0 16).bind fun v53 =>
  if v53 = ((-1)) then
    (putV h 9 a0 16 (.int x4)).bind fun h78 =>
    some h78
  else
    (getI h 9 a0 16).bind fun v63 =>
    if v63 ≤ x4 then
      (getI h 9 a0 16).bind fun v75 =>
      (putV h 9 a0 16 (.int v75)).bind fun h78 =>
      some h78
    else
      (putV h 9 a0 16 (.int x4)).bind fun h78 =>
      some h78
set_option maxRecDepth 100000 in
theorem kX9_ferries_51 {X : Cx} {z : Hp} {n : Nat} {oX9_ferries : Hp → Nat → Int32 → Int32 → Int32 → Int32 → Option Hp} (C : Jc X yX9_ferries cX9_ferries 7 none (n + 1 + 6) 0 0 (none, z)) (hO : (∀ (h : Hp) (a0 : Nat) (x1 : Int32) (x2 : Int32) (x3 : Int32) (x4 : Int32) (z : Hp), oX9_ferries h a0 x1 x2 x3 x4 = some z → Mc yX9_ferries cX9_ferries 7 none (n + 6) 0 0 [.ref a0, .int x1, .int x2, .int x3, .int x4] h (none, z))) (h : Hp) (a0 : Nat) (x4 : Int32) (hF : fX9_ferries_51 oX9_ferries h a0 x4 = some z) : J X 0 0 0 0 51 [some (.ref a0), none, none, none, some (.int x4), none, none] [] h := by
  unfold fX9_ferries_51 at hF
  refine J_aload_n (pc := 51) C dX9_ferries_51 rfl ?_
  refine J_aload_n (pc := 52) C dX9_ferries_52 rfl ?_
  refine J_getI (pc := 53) C dX9_ferries_53 fg_X9_220 hF (fun v53 hF => ?_)
  refine J_iconst (pc := 56) C dX9_ferries_56 ic_m1 ?_
  refine J_icmp_eq (pc := 57) (tgt := 69) C dX9_ferries_57 rfl hF (fun hF => ?_) (fun hF => ?_)
  · refine J_iload (pc := 69) C dX9_ferries_69 rfl ?_
    refine J_goto (pc := 71) (tgt := 78) C dX9_ferries_71 rfl ?_
    refine J_put (pc := 78) C dX9_ferries_78 (fp_X9_220 _) hF rfl rfl (fun h78 hF => ?_)
    exact J_vret (pc := 81) C dX9_ferries_81 hF (by decide) (by decide)
  · refine J_iload (pc := 60) C dX9_ferries_60 rfl ?_
    refine J_aload_n (pc := 62) C dX9_ferries_62 rfl ?_
    refine J_getI (pc := 63) C dX9_ferries_63 fg_X9_220 hF (fun v63 hF => ?_)
    refine J_icmp_ge (pc := 66) (tgt := 74) C dX9_ferries_66 rfl hF (fun hF => ?_) (fun hF => ?_)
    · refine J_aload_n (pc := 74) C dX9_ferries_74 rfl ?_
      refine J_getI (pc := 75) C dX9_ferries_75 fg_X9_220 hF (fun v75 hF => ?_)
      refine J_put (pc := 78) C dX9_ferries_78 (fp_X9_220 _) hF rfl rfl (fun h78 hF => ?_)
      exact J_vret (pc := 81) C dX9_ferries_81 hF (by decide) (by decide)
    · refine J_iload (pc := 69) C dX9_ferries_69 rfl ?_
      refine J_goto (pc := 71) (tgt := 78) C dX9_ferries_71 rfl ?_
      refine J_put (pc := 78) C dX9_ferries_78 (fp_X9_220 _) hF rfl rfl (fun h78 hF => ?_)
      exact J_vret (pc := 81) C dX9_ferries_81 hF (by decide) (by decide)
def fX9_ferries_31 (oX9_ferries : Hp → Nat → Int32 → Int32 → Int32 → Int32 → Option Hp) (k8 : Hp → Nat → Int32 → Int32 → Int32 → Option Hp) (h : Hp) (a0 : Nat) (x3 : Int32) (x4 : Int32) (x5 : Int32) : Option Hp :=
  (getR h 9 a0 15).bind fun r32 =>
  (getR h 9 a0 14).bind fun r38 =>
  (rdI h r38 x5).bind fun v43 =>
  (wrI h r32 x5 v43).bind fun h44 =>
  k8 h44 a0 x3 x4 (x5 + 1)
set_option maxRecDepth 100000 in
theorem kX9_ferries_31 {X : Cx} {z : Hp} {n : Nat} {oX9_ferries : Hp → Nat → Int32 → Int32 → Int32 → Int32 → Option Hp} (C : Jc X yX9_ferries cX9_ferries 7 none (n + 1 + 6) 0 0 (none, z)) (hO : (∀ (h : Hp) (a0 : Nat) (x1 : Int32) (x2 : Int32) (x3 : Int32) (x4 : Int32) (z : Hp), oX9_ferries h a0 x1 x2 x3 x4 = some z → Mc yX9_ferries cX9_ferries 7 none (n + 6) 0 0 [.ref a0, .int x1, .int x2, .int x3, .int x4] h (none, z))) {k8 : Hp → Nat → Int32 → Int32 → Int32 → Option Hp} (hk8 : ∀ (h : Hp) (a0 : Nat) (x3 : Int32) (x4 : Int32) (x5 : Int32), k8 h a0 x3 x4 x5 = some z → J X 0 0 0 0 8 [some (.ref a0), none, none, some (.int x3), some (.int x4), some (.int x5), none] [] h) (h : Hp) (a0 : Nat) (x3 : Int32) (x4 : Int32) (x5 : Int32) (hF : fX9_ferries_31 oX9_ferries k8 h a0 x3 x4 x5 = some z) : J X 0 0 0 0 31 [some (.ref a0), none, none, some (.int x3), some (.int x4), some (.int x5), none] [] h := by
  unfold fX9_ferries_31 at hF
  refine J_aload_n (pc := 31) C dX9_ferries_31 rfl ?_
  refine J_getR (pc := 32) C dX9_ferries_32 fg_X9_40 hF (fun r32 hF => ?_)
  refine J_iload (pc := 35) C dX9_ferries_35 rfl ?_
  refine J_aload_n (pc := 37) C dX9_ferries_37 rfl ?_
  refine J_getR (pc := 38) C dX9_ferries_38 fg_X9_37 hF (fun r38 hF => ?_)
  refine J_iload (pc := 41) C dX9_ferries_41 rfl ?_
  refine J_iald (pc := 43) C dX9_ferries_43 hF (fun v43 hF => ?_)
  refine J_iast (pc := 44) C dX9_ferries_44 hF (fun h44 hF => ?_)
  refine J_iinc (pc := 45) (lv' := [some (.ref a0), none, none, some (.int x3), some (.int x4), some (.int (x5 + 1)), none]) C dX9_ferries_45 rfl ic_1 rfl ?_
  refine J_goto (pc := 48) (tgt := 8) C dX9_ferries_48 rfl ?_
  exact hk8 h44 a0 x3 x4 (x5 + 1) hF
def fX9_ferries_8 (oX9_ferries : Hp → Nat → Int32 → Int32 → Int32 → Int32 → Option Hp) : Nat → Hp → Nat → Int32 → Int32 → Int32 → Option Hp
  | 0, _, _, _, _, _ => none
  | n8 + 1, h, a0, x3, x4, x5 =>
    if x3 ≤ x5 then
      fX9_ferries_51 oX9_ferries h a0 x4
    else
      (getI h 9 a0 16).bind fun v15 =>
      if v15 = ((-1)) then
        fX9_ferries_31 oX9_ferries (fX9_ferries_8 oX9_ferries n8) h a0 x3 x4 x5
      else
        (getI h 9 a0 16).bind fun v25 =>
        if v25 ≤ x4 then
          fX9_ferries_51 oX9_ferries h a0 x4
        else
          fX9_ferries_31 oX9_ferries (fX9_ferries_8 oX9_ferries n8) h a0 x3 x4 x5
set_option maxRecDepth 100000 in
theorem kX9_ferries_8 {X : Cx} {z : Hp} {n : Nat} {oX9_ferries : Hp → Nat → Int32 → Int32 → Int32 → Int32 → Option Hp} (C : Jc X yX9_ferries cX9_ferries 7 none (n + 1 + 6) 0 0 (none, z)) (hO : (∀ (h : Hp) (a0 : Nat) (x1 : Int32) (x2 : Int32) (x3 : Int32) (x4 : Int32) (z : Hp), oX9_ferries h a0 x1 x2 x3 x4 = some z → Mc yX9_ferries cX9_ferries 7 none (n + 6) 0 0 [.ref a0, .int x1, .int x2, .int x3, .int x4] h (none, z))) : ∀ (n8 : Nat) (h : Hp) (a0 : Nat) (x3 : Int32) (x4 : Int32) (x5 : Int32), fX9_ferries_8 oX9_ferries n8 h a0 x3 x4 x5 = some z → J X 0 0 0 0 8 [some (.ref a0), none, none, some (.int x3), some (.int x4), some (.int x5), none] [] h := by
  intro n8
  induction n8 with
  | zero => intro h a0 x3 x4 x5 hF; cases hF
  | succ n8 ih =>
    intro h a0 x3 x4 x5 hF
    rw [fX9_ferries_8] at hF
    refine J_iload (pc := 8) C dX9_ferries_8 rfl ?_
    refine J_iload_n (pc := 10) C dX9_ferries_10 rfl ?_
    refine J_icmp_ge (pc := 11) (tgt := 51) C dX9_ferries_11 rfl hF (fun hF => ?_) (fun hF => ?_)
    · refine J_msk (m := [true, false, false, false, true, false, false]) rfl ?_
      exact kX9_ferries_51 C hO h a0 x4 hF
    · refine J_aload_n (pc := 14) C dX9_ferries_14 rfl ?_
      refine J_getI (pc := 15) C dX9_ferries_15 fg_X9_220 hF (fun v15 hF => ?_)
      refine J_iconst (pc := 18) C dX9_ferries_18 ic_m1 ?_
      refine J_icmp_eq (pc := 19) (tgt := 31) C dX9_ferries_19 rfl hF (fun hF => ?_) (fun hF => ?_)
      · exact kX9_ferries_31 C hO ih h a0 x3 x4 x5 hF
      · refine J_iload (pc := 22) C dX9_ferries_22 rfl ?_
        refine J_aload_n (pc := 24) C dX9_ferries_24 rfl ?_
        refine J_getI (pc := 25) C dX9_ferries_25 fg_X9_220 hF (fun v25 hF => ?_)
        refine J_icmp_ge (pc := 28) (tgt := 51) C dX9_ferries_28 rfl hF (fun hF => ?_) (fun hF => ?_)
        · refine J_msk (m := [true, false, false, false, true, false, false]) rfl ?_
          exact kX9_ferries_51 C hO h a0 x4 hF
        · exact kX9_ferries_31 C hO ih h a0 x3 x4 x5 hF
def bX9_ferries (oX9_ferries : Hp → Nat → Int32 → Int32 → Int32 → Int32 → Option Hp) (h : Hp) (a0 : Nat) (x1 : Int32) (x2 : Int32) (x3 : Int32) (x4 : Int32) : Option Hp :=
  if x2 = x3 then
    fX9_ferries_8 oX9_ferries 1000 h a0 x3 x4 0
  else
    (fX9_layDown h a0 x2).bind fun q84 =>
    fX9_ferries_90 oX9_ferries 1000 q84 a0 x1 x2 x3 x4 0
set_option maxRecDepth 100000 in
theorem bkX9_ferries {n : Nat} {oX9_ferries : Hp → Nat → Int32 → Int32 → Int32 → Int32 → Option Hp} (hO : (∀ (h : Hp) (a0 : Nat) (x1 : Int32) (x2 : Int32) (x3 : Int32) (x4 : Int32) (z : Hp), oX9_ferries h a0 x1 x2 x3 x4 = some z → Mc yX9_ferries cX9_ferries 7 none (n + 6) 0 0 [.ref a0, .int x1, .int x2, .int x3, .int x4] h (none, z))) {h : Hp} {a0 : Nat} {x1 : Int32} {x2 : Int32} {x3 : Int32} {x4 : Int32} {z : Hp} (hF : bX9_ferries oX9_ferries h a0 x1 x2 x3 x4 = some z) : Mc yX9_ferries cX9_ferries 7 none (n + 1 + 6) 0 0 [.ref a0, .int x1, .int x2, .int x3, .int x4] h (none, z) := by
  unfold bX9_ferries at hF
  refine Mc_of [some (.ref a0), some (.int x1), some (.int x2), some (.int x3), some (.int x4), none, none] plX9 rfl rfl (Nat.le_of_ble_eq_true rfl) (fun X C => ?_)
  refine J_iload_n (pc := 0) C dX9_ferries_0 rfl ?_
  refine J_iload_n (pc := 1) C dX9_ferries_1 rfl ?_
  refine J_icmp_ne (pc := 2) (tgt := 82) C dX9_ferries_2 rfl hF (fun hF => ?_) (fun hF => ?_)
  · refine J_iconst (pc := 5) C dX9_ferries_5 ic_0 ?_
    refine J_istore (pc := 6) (lv' := [some (.ref a0), some (.int x1), some (.int x2), some (.int x3), some (.int x4), some (.int 0), none]) C dX9_ferries_6 rfl ?_
    refine J_msk (m := [true, false, false, true, true, true, false]) rfl ?_
    exact kX9_ferries_8 C hO 1000 h a0 x3 x4 0 hF
  · refine J_aload_n (pc := 82) C dX9_ferries_82 rfl ?_
    refine J_iload_n (pc := 83) C dX9_ferries_83 rfl ?_
    refine J_bind hF (fun q84 hq hF => ?_)
    refine J_callV0_v (pc := 84) (stk := [.int x2, .ref a0]) (st := []) C dX9_ferries_84 yw_X9_layDown w_MLX9_210 in_X9_layDown sl_X9_layDown ⟨_, rfl, rfl⟩ (kX9_layDown hq) (gO_some hq).1 rfl (by omega) rfl (Nat.le_of_ble_eq_true rfl) ?_
    refine J_iconst (pc := 87) C dX9_ferries_87 ic_0 ?_
    refine J_istore (pc := 88) (lv' := [some (.ref a0), some (.int x1), some (.int x2), some (.int x3), some (.int x4), some (.int 0), none]) C dX9_ferries_88 rfl ?_
    exact kX9_ferries_90 C hO 1000 q84 a0 x1 x2 x3 x4 0 hF
def gX9_ferries : Nat → Hp → Nat → Int32 → Int32 → Int32 → Int32 → Option Hp
  | 0, _, _, _, _, _, _ => none
  | n + 1, h, a0, x1, x2, x3, x4 => bX9_ferries (gX9_ferries n) h a0 x1 x2 x3 x4
theorem gkX9_ferries : ∀ n : Nat, (∀ (h : Hp) (a0 : Nat) (x1 : Int32) (x2 : Int32) (x3 : Int32) (x4 : Int32) (z : Hp), gX9_ferries n h a0 x1 x2 x3 x4 = some z → Mc yX9_ferries cX9_ferries 7 none (n + 6) 0 0 [.ref a0, .int x1, .int x2, .int x3, .int x4] h (none, z)) := by
  intro n
  induction n with
  | zero => intro h a0 x1 x2 x3 x4 z hF; cases hF
  | succ n ih => intro h a0 x1 x2 x3 x4 z hF; exact bkX9_ferries (n := n) ih hF
def fX9_ferries (h : Hp) (a0 : Nat) (x1 : Int32) (x2 : Int32) (x3 : Int32) (x4 : Int32) : Option Hp := gO h 9 a0 (gX9_ferries 10 h a0 x1 x2 x3 x4)
theorem kX9_ferries {h : Hp} {a0 : Nat} {x1 : Int32} {x2 : Int32} {x3 : Int32} {x4 : Int32} {z : Hp} (hF : fX9_ferries h a0 x1 x2 x3 x4 = some z) : Mc yX9_ferries cX9_ferries 7 none 16 0 0 [.ref a0, .int x1, .int x2, .int x3, .int x4] h (none, z) := (gkX9_ferries 10) h a0 x1 x2 x3 x4 _ (gO_some hF).2
def fX9_fits_71 (oX9_fits : Hp → Nat → Int32 → Int32 → Int32 → Option Hp) (k57 : Hp → Nat → Int32 → Int32 → Int32 → Int32 → Option Hp) : Nat → Hp → Nat → Int32 → Int32 → Int32 → Int32 → Int32 → Option Hp
  | 0, _, _, _, _, _, _, _ => none
  | n71 + 1, h, a0, x1, x2, x3, x4, x5 =>
    (getR h 9 a0 0).bind fun r74 =>
    (rdI h r74 0).bind fun v78 =>
    if v78 ≤ x5 then
      k57 h a0 x1 x2 x3 (x4 + 1)
    else
      (fX9_areTogether h a0 x4 x5).bind fun q87 =>
      if q87 = 0 then
        fX9_fits_71 oX9_fits k57 n71 h a0 x1 x2 x3 x4 (x5 + 1)
      else
        (fX9_crosses h a0 x4 x5).bind fun q98 =>
        (gO q98.2 9 a0 (oX9_fits q98.2 a0 (x1 - 1) (x2 + 1) (x3 ||| ((1 : Int32) <<< (x5 &&& 31))))).bind fun q116 =>
        (fX9_layBack q116 a0 x2).bind fun q121 =>
        fX9_fits_71 oX9_fits k57 n71 q121 a0 x1 x2 x3 x4 (x5 + 1)
set_option maxRecDepth 100000 in
theorem kX9_fits_71 {X : Cx} {z : Hp} {n : Nat} {oX9_fits : Hp → Nat → Int32 → Int32 → Int32 → Option Hp} (C : Jc X yX9_fits cX9_fits 7 none (n + 1 + 6) 0 0 (none, z)) (hO : (∀ (h : Hp) (a0 : Nat) (x1 : Int32) (x2 : Int32) (x3 : Int32) (z : Hp), oX9_fits h a0 x1 x2 x3 = some z → Mc yX9_fits cX9_fits 7 none (n + 6) 0 0 [.ref a0, .int x1, .int x2, .int x3] h (none, z))) {k57 : Hp → Nat → Int32 → Int32 → Int32 → Int32 → Option Hp} (hk57 : ∀ (h : Hp) (a0 : Nat) (x1 : Int32) (x2 : Int32) (x3 : Int32) (x4 : Int32), k57 h a0 x1 x2 x3 x4 = some z → J X 0 0 0 0 57 [some (.ref a0), some (.int x1), some (.int x2), some (.int x3), some (.int x4), none, none] [] h) : ∀ (n71 : Nat) (h : Hp) (a0 : Nat) (x1 : Int32) (x2 : Int32) (x3 : Int32) (x4 : Int32) (x5 : Int32), fX9_fits_71 oX9_fits k57 n71 h a0 x1 x2 x3 x4 x5 = some z → J X 0 0 0 0 71 [some (.ref a0), some (.int x1), some (.int x2), some (.int x3), some (.int x4), some (.int x5), none] [] h := by
  intro n71
  induction n71 with
  | zero => intro h a0 x1 x2 x3 x4 x5 hF; cases hF
  | succ n71 ih =>
    intro h a0 x1 x2 x3 x4 x5 hF
    rw [fX9_fits_71] at hF
    refine J_iload (pc := 71) C dX9_fits_71 rfl ?_
    refine J_aload_n (pc := 73) C dX9_fits_73 rfl ?_
    refine J_getR (pc := 74) C dX9_fits_74 fg_X9_7 hF (fun r74 hF => ?_)
    refine J_iconst (pc := 77) C dX9_fits_77 ic_0 ?_
    refine J_iald (pc := 78) C dX9_fits_78 hF (fun v78 hF => ?_)
    refine J_icmp_ge (pc := 79) (tgt := 130) C dX9_fits_79 rfl hF (fun hF => ?_) (fun hF => ?_)
    · refine J_iinc (pc := 130) (lv' := [some (.ref a0), some (.int x1), some (.int x2), some (.int x3), some (.int (x4 + 1)), some (.int x5), none]) C dX9_fits_130 rfl ic_1 rfl ?_
      refine J_goto (pc := 133) (tgt := 57) C dX9_fits_133 rfl ?_
      refine J_msk (m := [true, true, true, true, true, false, false]) rfl ?_
      exact hk57 h a0 x1 x2 x3 (x4 + 1) hF
    · refine J_aload_n (pc := 82) C dX9_fits_82 rfl ?_
      refine J_iload (pc := 83) C dX9_fits_83 rfl ?_
      refine J_iload (pc := 85) C dX9_fits_85 rfl ?_
      refine J_bind hF (fun q87 hq hF => ?_)
      refine J_callV0_ip (pc := 87) (stk := [.int x5, .int x4, .ref a0]) (st := []) C dX9_fits_87 yw_X9_areTogether w_MLX9_181 in_X9_areTogether sl_X9_areTogether ⟨_, rfl, rfl⟩ (kX9_areTogether hq) (gO_some hq).1 rfl (by omega) rfl (Nat.le_of_ble_eq_true rfl) ?_
      refine J_if_eq (pc := 90) (tgt := 124) C dX9_fits_90 rfl hF (fun hF => ?_) (fun hF => ?_)
      · refine J_iinc (pc := 124) (lv' := [some (.ref a0), some (.int x1), some (.int x2), some (.int x3), some (.int x4), some (.int (x5 + 1)), none]) C dX9_fits_124 rfl ic_1 rfl ?_
        refine J_goto (pc := 127) (tgt := 71) C dX9_fits_127 rfl ?_
        exact ih h a0 x1 x2 x3 x4 (x5 + 1) hF
      · refine J_aload_n (pc := 93) C dX9_fits_93 rfl ?_
        refine J_iload (pc := 94) C dX9_fits_94 rfl ?_
        refine J_iload (pc := 96) C dX9_fits_96 rfl ?_
        refine J_bind hF (fun q98 hq hF => ?_)
        refine J_callV0_i (pc := 98) (stk := [.int x5, .int x4, .ref a0]) (st := []) C dX9_fits_98 yw_X9_crosses w_MLX9_187 in_X9_crosses sl_X9_crosses ⟨_, rfl, rfl⟩ (kX9_crosses hq) (gO_some hq).1 rfl (by omega) rfl (Nat.le_of_ble_eq_true rfl) ?_
        refine J_istore (pc := 101) (lv' := [some (.ref a0), some (.int x1), some (.int x2), some (.int x3), some (.int x4), some (.int x5), some (.int q98.1)]) C dX9_fits_101 rfl ?_
        refine J_aload_n (pc := 103) C dX9_fits_103 rfl ?_
        refine J_iload_n (pc := 104) C dX9_fits_104 rfl ?_
        refine J_iconst (pc := 105) C dX9_fits_105 ic_1 ?_
        refine J_isub (pc := 106) C dX9_fits_106 ?_
        refine J_iload_n (pc := 107) C dX9_fits_107 rfl ?_
        refine J_iconst (pc := 108) C dX9_fits_108 ic_1 ?_
        refine J_iadd (pc := 109) C dX9_fits_109 ?_
        refine J_iload_n (pc := 110) C dX9_fits_110 rfl ?_
        refine J_iconst (pc := 111) C dX9_fits_111 ic_1 ?_
        refine J_iload (pc := 112) C dX9_fits_112 rfl ?_
        refine J_ishl (pc := 114) C dX9_fits_114 ?_
        refine J_ior (pc := 115) C dX9_fits_115 ?_
        refine J_bind hF (fun q116 hq hF => ?_)
        have hq := gO_some hq
        refine J_callV0_v (pc := 116) (stk := [.int (x3 ||| ((1 : Int32) <<< (x5 &&& 31))), .int (x2 + 1), .int (x1 - 1), .ref a0]) (st := []) C dX9_fits_116 yw_X9_fits w_MLX9_236 in_X9_fits sl_X9_fits ⟨_, rfl, rfl⟩ (hO _ _ _ _ _ _ hq.2) hq.1 rfl (by omega) rfl (Nat.le_of_ble_eq_true rfl) ?_
        refine J_aload_n (pc := 119) C dX9_fits_119 rfl ?_
        refine J_iload_n (pc := 120) C dX9_fits_120 rfl ?_
        refine J_bind hF (fun q121 hq hF => ?_)
        refine J_callV0_v (pc := 121) (stk := [.int x2, .ref a0]) (st := []) C dX9_fits_121 yw_X9_layBack w_MLX9_213 in_X9_layBack sl_X9_layBack ⟨_, rfl, rfl⟩ (kX9_layBack hq) (gO_some hq).1 rfl (by omega) rfl (Nat.le_of_ble_eq_true rfl) ?_
        refine J_iinc (pc := 124) (lv' := [some (.ref a0), some (.int x1), some (.int x2), some (.int x3), some (.int x4), some (.int (x5 + 1)), some (.int q98.1)]) C dX9_fits_124 rfl ic_1 rfl ?_
        refine J_goto (pc := 127) (tgt := 71) C dX9_fits_127 rfl ?_
        refine J_msk (m := [true, true, true, true, true, true, false]) rfl ?_
        exact ih q121 a0 x1 x2 x3 x4 (x5 + 1) hF
def fX9_fits_57 (oX9_fits : Hp → Nat → Int32 → Int32 → Int32 → Option Hp) : Nat → Hp → Nat → Int32 → Int32 → Int32 → Int32 → Option Hp
  | 0, _, _, _, _, _, _ => none
  | n57 + 1, h, a0, x1, x2, x3, x4 =>
    (getR h 9 a0 0).bind fun r60 =>
    (rdI h r60 1).bind fun v64 =>
    if v64 ≤ x4 then
      some h
    else
      fX9_fits_71 oX9_fits (fX9_fits_57 oX9_fits n57) 1000 h a0 x1 x2 x3 x4 0
set_option maxRecDepth 100000 in
theorem kX9_fits_57 {X : Cx} {z : Hp} {n : Nat} {oX9_fits : Hp → Nat → Int32 → Int32 → Int32 → Option Hp} (C : Jc X yX9_fits cX9_fits 7 none (n + 1 + 6) 0 0 (none, z)) (hO : (∀ (h : Hp) (a0 : Nat) (x1 : Int32) (x2 : Int32) (x3 : Int32) (z : Hp), oX9_fits h a0 x1 x2 x3 = some z → Mc yX9_fits cX9_fits 7 none (n + 6) 0 0 [.ref a0, .int x1, .int x2, .int x3] h (none, z))) : ∀ (n57 : Nat) (h : Hp) (a0 : Nat) (x1 : Int32) (x2 : Int32) (x3 : Int32) (x4 : Int32), fX9_fits_57 oX9_fits n57 h a0 x1 x2 x3 x4 = some z → J X 0 0 0 0 57 [some (.ref a0), some (.int x1), some (.int x2), some (.int x3), some (.int x4), none, none] [] h := by
  intro n57
  induction n57 with
  | zero => intro h a0 x1 x2 x3 x4 hF; cases hF
  | succ n57 ih =>
    intro h a0 x1 x2 x3 x4 hF
    rw [fX9_fits_57] at hF
    refine J_iload (pc := 57) C dX9_fits_57 rfl ?_
    refine J_aload_n (pc := 59) C dX9_fits_59 rfl ?_
    refine J_getR (pc := 60) C dX9_fits_60 fg_X9_7 hF (fun r60 hF => ?_)
    refine J_iconst (pc := 63) C dX9_fits_63 ic_1 ?_
    refine J_iald (pc := 64) C dX9_fits_64 hF (fun v64 hF => ?_)
    refine J_icmp_ge (pc := 65) (tgt := 136) C dX9_fits_65 rfl hF (fun hF => ?_) (fun hF => ?_)
    · exact J_vret (pc := 136) C dX9_fits_136 hF (by decide) (by decide)
    · refine J_iconst (pc := 68) C dX9_fits_68 ic_0 ?_
      refine J_istore (pc := 69) (lv' := [some (.ref a0), some (.int x1), some (.int x2), some (.int x3), some (.int x4), some (.int 0), none]) C dX9_fits_69 rfl ?_
      exact kX9_fits_71 C hO ih 1000 h a0 x1 x2 x3 x4 0 hF
def fX9_fits_25 (oX9_fits : Hp → Nat → Int32 → Int32 → Int32 → Option Hp) (h : Hp) (a0 : Nat) (x3 : Int32) (x4 : Int32) (b0 : Nat) (y1 : Int32) (y2 : Int32) : Option Hp :=
  (putV h 9 b0 17 (.int (y1 + y2))).bind fun h26 =>
  (getI h26 9 a0 18).bind fun v31 =>
  if x4 = 0 then
    (putV h26 9 a0 18 (.int (v31 ||| 0))).bind fun h45 =>
    some h45
  else
    (putV h26 9 a0 18 (.int (v31 ||| x3))).bind fun h45 =>
    some h45
set_option maxRecDepth 100000 in
theorem kX9_fits_25 {X : Cx} {z : Hp} {n : Nat} {oX9_fits : Hp → Nat → Int32 → Int32 → Int32 → Option Hp} (C : Jc X yX9_fits cX9_fits 7 none (n + 1 + 6) 0 0 (none, z)) (hO : (∀ (h : Hp) (a0 : Nat) (x1 : Int32) (x2 : Int32) (x3 : Int32) (z : Hp), oX9_fits h a0 x1 x2 x3 = some z → Mc yX9_fits cX9_fits 7 none (n + 6) 0 0 [.ref a0, .int x1, .int x2, .int x3] h (none, z))) (h : Hp) (a0 : Nat) (x3 : Int32) (x4 : Int32) (b0 : Nat) (y1 : Int32) (y2 : Int32) (hF : fX9_fits_25 oX9_fits h a0 x3 x4 b0 y1 y2 = some z) : J X 0 0 0 0 25 [some (.ref a0), none, none, some (.int x3), some (.int x4), none, none] [.int y2, .int y1, .ref b0] h := by
  unfold fX9_fits_25 at hF
  refine J_iadd (pc := 25) C dX9_fits_25 ?_
  refine J_put (pc := 26) C dX9_fits_26 (fp_X9_230 _) hF rfl rfl (fun h26 hF => ?_)
  refine J_aload_n (pc := 29) C dX9_fits_29 rfl ?_
  refine J_dup (pc := 30) C dX9_fits_30 rfl ?_
  refine J_getI (pc := 31) C dX9_fits_31 fg_X9_233 hF (fun v31 hF => ?_)
  refine J_iload (pc := 34) C dX9_fits_34 rfl ?_
  refine J_if_eq (pc := 36) (tgt := 43) C dX9_fits_36 rfl hF (fun hF => ?_) (fun hF => ?_)
  · refine J_iconst (pc := 43) C dX9_fits_43 ic_0 ?_
    refine J_ior (pc := 44) C dX9_fits_44 ?_
    refine J_put (pc := 45) C dX9_fits_45 (fp_X9_233 _) hF rfl rfl (fun h45 hF => ?_)
    exact J_vret (pc := 48) C dX9_fits_48 hF (by decide) (by decide)
  · refine J_iload_n (pc := 39) C dX9_fits_39 rfl ?_
    refine J_goto (pc := 40) (tgt := 44) C dX9_fits_40 rfl ?_
    refine J_ior (pc := 44) C dX9_fits_44 ?_
    refine J_put (pc := 45) C dX9_fits_45 (fp_X9_233 _) hF rfl rfl (fun h45 hF => ?_)
    exact J_vret (pc := 48) C dX9_fits_48 hF (by decide) (by decide)
def bX9_fits (oX9_fits : Hp → Nat → Int32 → Int32 → Int32 → Option Hp) (h : Hp) (a0 : Nat) (x1 : Int32) (x2 : Int32) (x3 : Int32) : Option Hp :=
  if x1 = 0 then
    (fX9_areAsPut h a0).bind fun q5 =>
    (getI h 9 a0 17).bind fun v12 =>
    if q5 = 0 then
      fX9_fits_25 oX9_fits h a0 x3 q5 a0 v12 0
    else
      fX9_fits_25 oX9_fits h a0 x3 q5 a0 v12 1
  else
    (fX9_layDown h a0 x2).bind fun q51 =>
    fX9_fits_57 oX9_fits 1000 q51 a0 x1 x2 x3 0
set_option maxRecDepth 100000 in
theorem bkX9_fits {n : Nat} {oX9_fits : Hp → Nat → Int32 → Int32 → Int32 → Option Hp} (hO : (∀ (h : Hp) (a0 : Nat) (x1 : Int32) (x2 : Int32) (x3 : Int32) (z : Hp), oX9_fits h a0 x1 x2 x3 = some z → Mc yX9_fits cX9_fits 7 none (n + 6) 0 0 [.ref a0, .int x1, .int x2, .int x3] h (none, z))) {h : Hp} {a0 : Nat} {x1 : Int32} {x2 : Int32} {x3 : Int32} {z : Hp} (hF : bX9_fits oX9_fits h a0 x1 x2 x3 = some z) : Mc yX9_fits cX9_fits 7 none (n + 1 + 6) 0 0 [.ref a0, .int x1, .int x2, .int x3] h (none, z) := by
  unfold bX9_fits at hF
  refine Mc_of [some (.ref a0), some (.int x1), some (.int x2), some (.int x3), none, none, none] plX9 rfl rfl (Nat.le_of_ble_eq_true rfl) (fun X C => ?_)
  refine J_iload_n (pc := 0) C dX9_fits_0 rfl ?_
  refine J_if_ne (pc := 1) (tgt := 49) C dX9_fits_1 rfl hF (fun hF => ?_) (fun hF => ?_)
  · refine J_aload_n (pc := 4) C dX9_fits_4 rfl ?_
    refine J_bind hF (fun q5 hq hF => ?_)
    refine J_callV0_ip (pc := 5) (stk := [.ref a0]) (st := []) C dX9_fits_5 yw_X9_areAsPut w_MLX9_227 in_X9_areAsPut sl_X9_areAsPut ⟨_, rfl, rfl⟩ (kX9_areAsPut hq) (gO_some hq).1 rfl (by omega) rfl (Nat.le_of_ble_eq_true rfl) ?_
    refine J_istore (pc := 8) (lv' := [some (.ref a0), some (.int x1), some (.int x2), some (.int x3), some (.int q5), none, none]) C dX9_fits_8 rfl ?_
    refine J_aload_n (pc := 10) C dX9_fits_10 rfl ?_
    refine J_dup (pc := 11) C dX9_fits_11 rfl ?_
    refine J_getI (pc := 12) C dX9_fits_12 fg_X9_230 hF (fun v12 hF => ?_)
    refine J_iload (pc := 15) C dX9_fits_15 rfl ?_
    refine J_if_eq (pc := 17) (tgt := 24) C dX9_fits_17 rfl hF (fun hF => ?_) (fun hF => ?_)
    · refine J_iconst (pc := 24) C dX9_fits_24 ic_0 ?_
      refine J_msk (m := [true, false, false, true, true, false, false]) rfl ?_
      exact kX9_fits_25 C hO h a0 x3 q5 a0 v12 0 hF
    · refine J_iconst (pc := 20) C dX9_fits_20 ic_1 ?_
      refine J_goto (pc := 21) (tgt := 25) C dX9_fits_21 rfl ?_
      refine J_msk (m := [true, false, false, true, true, false, false]) rfl ?_
      exact kX9_fits_25 C hO h a0 x3 q5 a0 v12 1 hF
  · refine J_aload_n (pc := 49) C dX9_fits_49 rfl ?_
    refine J_iload_n (pc := 50) C dX9_fits_50 rfl ?_
    refine J_bind hF (fun q51 hq hF => ?_)
    refine J_callV0_v (pc := 51) (stk := [.int x2, .ref a0]) (st := []) C dX9_fits_51 yw_X9_layDown w_MLX9_210 in_X9_layDown sl_X9_layDown ⟨_, rfl, rfl⟩ (kX9_layDown hq) (gO_some hq).1 rfl (by omega) rfl (Nat.le_of_ble_eq_true rfl) ?_
    refine J_iconst (pc := 54) C dX9_fits_54 ic_0 ?_
    refine J_istore (pc := 55) (lv' := [some (.ref a0), some (.int x1), some (.int x2), some (.int x3), some (.int 0), none, none]) C dX9_fits_55 rfl ?_
    exact kX9_fits_57 C hO 1000 q51 a0 x1 x2 x3 0 hF
def gX9_fits : Nat → Hp → Nat → Int32 → Int32 → Int32 → Option Hp
  | 0, _, _, _, _, _ => none
  | n + 1, h, a0, x1, x2, x3 => bX9_fits (gX9_fits n) h a0 x1 x2 x3
theorem gkX9_fits : ∀ n : Nat, (∀ (h : Hp) (a0 : Nat) (x1 : Int32) (x2 : Int32) (x3 : Int32) (z : Hp), gX9_fits n h a0 x1 x2 x3 = some z → Mc yX9_fits cX9_fits 7 none (n + 6) 0 0 [.ref a0, .int x1, .int x2, .int x3] h (none, z)) := by
  intro n
  induction n with
  | zero => intro h a0 x1 x2 x3 z hF; cases hF
  | succ n ih => intro h a0 x1 x2 x3 z hF; exact bkX9_fits (n := n) ih hF
def fX9_fits (h : Hp) (a0 : Nat) (x1 : Int32) (x2 : Int32) (x3 : Int32) : Option Hp := gO h 9 a0 (gX9_fits 8 h a0 x1 x2 x3)
theorem kX9_fits {h : Hp} {a0 : Nat} {x1 : Int32} {x2 : Int32} {x3 : Int32} {z : Hp} (hF : fX9_fits h a0 x1 x2 x3 = some z) : Mc yX9_fits cX9_fits 7 none 14 0 0 [.ref a0, .int x1, .int x2, .int x3] h (none, z) := (gkX9_fits 8) h a0 x1 x2 x3 _ (gO_some hF).2
def fX9_forget (h : Hp) (a0 : Nat) (x1 : Int32) : Option (Int32 × Hp) := gO h 9 a0 (
  (fX9_isMan h a0 x1).bind fun q2 =>
  if q2 = 0 then
    (fX9_error h a0 1).bind fun q10 =>
    some (q10.1, q10.2)
  else
    (fX9_its h a0 x1 4).bind fun q17 =>
    (fX9_lays1 h a0 x1 4 0).bind fun q25 =>
    some (q17, q25))
set_option maxRecDepth 100000 in
theorem kX9_forget {h : Hp} {a0 : Nat} {x1 : Int32} {z : (Int32 × Hp)} (hF : fX9_forget h a0 x1 = some z) : Mc yX9_forget cX9_forget 3 (some .int) 2 0 0 [.ref a0, .int x1] h (some (.int z.1), z.2) := by
  have hF := (gO_some hF).2
  refine Mc_of [some (.ref a0), some (.int x1), none] plX9 rfl rfl (Nat.le_of_ble_eq_true rfl) (fun X C => ?_)
  refine J_aload_n (pc := 0) C dX9_forget_0 rfl ?_
  refine J_iload_n (pc := 1) C dX9_forget_1 rfl ?_
  refine J_bind hF (fun q2 hq hF => ?_)
  refine J_callV0_ip (pc := 2) (stk := [.int x1, .ref a0]) (st := []) C dX9_forget_2 yw_X9_isMan w_MLX9_168 in_X9_isMan sl_X9_isMan ⟨_, rfl, rfl⟩ (kX9_isMan hq) (gO_some hq).1 rfl (by decide) rfl (Nat.le_of_ble_eq_true rfl) ?_
  refine J_if_ne (pc := 5) (tgt := 14) C dX9_forget_5 rfl hF (fun hF => ?_) (fun hF => ?_)
  · refine J_aload_n (pc := 8) C dX9_forget_8 rfl ?_
    refine J_iconst (pc := 9) C dX9_forget_9 ic_1 ?_
    refine J_bind hF (fun q10 hq hF => ?_)
    refine J_callV0_i (pc := 10) (stk := [.int 1, .ref a0]) (st := []) C dX9_forget_10 yw_X9_error w_MLX9_63 in_X9_error sl_X9_error ⟨_, rfl, rfl⟩ (kX9_error hq) (gO_some hq).1 rfl (by decide) rfl (Nat.le_of_ble_eq_true rfl) ?_
    exact J_iret (pc := 13) C dX9_forget_13 hF (by decide) (by decide)
  · refine J_aload_n (pc := 14) C dX9_forget_14 rfl ?_
    refine J_iload_n (pc := 15) C dX9_forget_15 rfl ?_
    refine J_iconst (pc := 16) C dX9_forget_16 ic_4 ?_
    refine J_bind hF (fun q17 hq hF => ?_)
    refine J_callV0_ip (pc := 17) (stk := [.int 4, .int x1, .ref a0]) (st := []) C dX9_forget_17 yw_X9_its w_MLX9_123 in_X9_its sl_X9_its ⟨_, rfl, rfl⟩ (kX9_its hq) (gO_some hq).1 rfl (by decide) rfl (Nat.le_of_ble_eq_true rfl) ?_
    refine J_istore_n (pc := 20) (lv' := [some (.ref a0), some (.int x1), some (.int q17)]) C dX9_forget_20 rfl ?_
    refine J_aload_n (pc := 21) C dX9_forget_21 rfl ?_
    refine J_iload_n (pc := 22) C dX9_forget_22 rfl ?_
    refine J_iconst (pc := 23) C dX9_forget_23 ic_4 ?_
    refine J_iconst (pc := 24) C dX9_forget_24 ic_0 ?_
    refine J_bind hF (fun q25 hq hF => ?_)
    refine J_callV0_v (pc := 25) (stk := [.int 0, .int 4, .int x1, .ref a0]) (st := []) C dX9_forget_25 yw_X9_lays1 w_MLX9_142 in_X9_lays1 sl_X9_lays1 ⟨_, rfl, rfl⟩ (kX9_lays1 hq) (gO_some hq).1 rfl (by decide) rfl (Nat.le_of_ble_eq_true rfl) ?_
    refine J_iload_n (pc := 28) C dX9_forget_28 rfl ?_
    exact J_iret (pc := 29) C dX9_forget_29 hF (by decide) (by decide)
def fX9_hearsay_55 : Nat → Hp → Nat → Int32 → Int32 → Int32 → Option (Int32 × Hp)
  | 0, _, _, _, _, _ => none
  | n55 + 1, h, a0, x2, x4, x5 =>
    (getR h 9 a0 0).bind fun r58 =>
    (rdI h r58 1).bind fun v62 =>
    if v62 ≤ x5 then
      (fX9_layBack h a0 0).bind fun q97 =>
      some (x4, q97)
    else
      (fX9_knows h a0 x5 x2).bind fun q72 =>
      if q72 = 0 then
        fX9_hearsay_55 n55 h a0 x2 (x4 ||| 0) (x5 + 1)
      else
        fX9_hearsay_55 n55 h a0 x2 (x4 ||| ((1 : Int32) <<< (x5 &&& 31))) (x5 + 1)
set_option maxRecDepth 100000 in
theorem kX9_hearsay_55 {X : Cx} {z : (Int32 × Hp)} (C : Jc X yX9_hearsay cX9_hearsay 6 (some .int) 6 0 0 (some (.int z.1), z.2)) : ∀ (n55 : Nat) (h : Hp) (a0 : Nat) (x2 : Int32) (x4 : Int32) (x5 : Int32), fX9_hearsay_55 n55 h a0 x2 x4 x5 = some z → J X 0 0 0 0 55 [some (.ref a0), none, some (.int x2), none, some (.int x4), some (.int x5)] [] h := by
  intro n55
  induction n55 with
  | zero => intro h a0 x2 x4 x5 hF; cases hF
  | succ n55 ih =>
    intro h a0 x2 x4 x5 hF
    rw [fX9_hearsay_55] at hF
    refine J_iload (pc := 55) C dX9_hearsay_55 rfl ?_
    refine J_aload_n (pc := 57) C dX9_hearsay_57 rfl ?_
    refine J_getR (pc := 58) C dX9_hearsay_58 fg_X9_7 hF (fun r58 hF => ?_)
    refine J_iconst (pc := 61) C dX9_hearsay_61 ic_1 ?_
    refine J_iald (pc := 62) C dX9_hearsay_62 hF (fun v62 hF => ?_)
    refine J_icmp_ge (pc := 63) (tgt := 95) C dX9_hearsay_63 rfl hF (fun hF => ?_) (fun hF => ?_)
    · refine J_aload_n (pc := 95) C dX9_hearsay_95 rfl ?_
      refine J_iconst (pc := 96) C dX9_hearsay_96 ic_0 ?_
      refine J_bind hF (fun q97 hq hF => ?_)
      refine J_callV0_v (pc := 97) (stk := [.int 0, .ref a0]) (st := []) C dX9_hearsay_97 yw_X9_layBack w_MLX9_213 in_X9_layBack sl_X9_layBack ⟨_, rfl, rfl⟩ (kX9_layBack hq) (gO_some hq).1 rfl (by decide) rfl (Nat.le_of_ble_eq_true rfl) ?_
      refine J_iload (pc := 100) C dX9_hearsay_100 rfl ?_
      exact J_iret (pc := 102) C dX9_hearsay_102 hF (by decide) (by decide)
    · refine J_iload (pc := 66) C dX9_hearsay_66 rfl ?_
      refine J_aload_n (pc := 68) C dX9_hearsay_68 rfl ?_
      refine J_iload (pc := 69) C dX9_hearsay_69 rfl ?_
      refine J_iload_n (pc := 71) C dX9_hearsay_71 rfl ?_
      refine J_bind hF (fun q72 hq hF => ?_)
      refine J_callV0_ip (pc := 72) (stk := [.int x2, .int x5, .ref a0, .int x4]) (st := [.int x4]) C dX9_hearsay_72 yw_X9_knows w_MLX9_152 in_X9_knows sl_X9_knows ⟨_, rfl, rfl⟩ (kX9_knows hq) (gO_some hq).1 rfl (by decide) rfl (Nat.le_of_ble_eq_true rfl) ?_
      refine J_if_eq (pc := 75) (tgt := 85) C dX9_hearsay_75 rfl hF (fun hF => ?_) (fun hF => ?_)
      · refine J_iconst (pc := 85) C dX9_hearsay_85 ic_0 ?_
        refine J_ior (pc := 86) C dX9_hearsay_86 ?_
        refine J_istore (pc := 87) (lv' := [some (.ref a0), none, some (.int x2), none, some (.int (x4 ||| 0)), some (.int x5)]) C dX9_hearsay_87 rfl ?_
        refine J_iinc (pc := 89) (lv' := [some (.ref a0), none, some (.int x2), none, some (.int (x4 ||| 0)), some (.int (x5 + 1))]) C dX9_hearsay_89 rfl ic_1 rfl ?_
        refine J_goto (pc := 92) (tgt := 55) C dX9_hearsay_92 rfl ?_
        exact ih h a0 x2 (x4 ||| 0) (x5 + 1) hF
      · refine J_iconst (pc := 78) C dX9_hearsay_78 ic_1 ?_
        refine J_iload (pc := 79) C dX9_hearsay_79 rfl ?_
        refine J_ishl (pc := 81) C dX9_hearsay_81 ?_
        refine J_goto (pc := 82) (tgt := 86) C dX9_hearsay_82 rfl ?_
        refine J_ior (pc := 86) C dX9_hearsay_86 ?_
        refine J_istore (pc := 87) (lv' := [some (.ref a0), none, some (.int x2), none, some (.int (x4 ||| ((1 : Int32) <<< (x5 &&& 31)))), some (.int x5)]) C dX9_hearsay_87 rfl ?_
        refine J_iinc (pc := 89) (lv' := [some (.ref a0), none, some (.int x2), none, some (.int (x4 ||| ((1 : Int32) <<< (x5 &&& 31)))), some (.int (x5 + 1))]) C dX9_hearsay_89 rfl ic_1 rfl ?_
        refine J_goto (pc := 92) (tgt := 55) C dX9_hearsay_92 rfl ?_
        exact ih h a0 x2 (x4 ||| ((1 : Int32) <<< (x5 &&& 31))) (x5 + 1) hF
def fX9_hearsay (h : Hp) (a0 : Nat) (x1 : Int32) (x2 : Int32) : Option (Int32 × Hp) := gO h 9 a0 (
  (fX9_isMan h a0 x1).bind fun q2 =>
  if q2 = 0 then
    (fX9_error h a0 1).bind fun q18 =>
    some (q18.1, q18.2)
  else
    (fX9_isPerson h a0 x2).bind fun q10 =>
    if q10 = 0 then
      (fX9_error h a0 1).bind fun q18 =>
      some (q18.1, q18.2)
    else
      (fX9_areTogether h a0 x1 x2).bind fun q25 =>
      if q25 = 0 then
        (fX9_error h a0 3).bind fun q33 =>
        some (q33.1, q33.2)
      else
        (fX9_layDown h a0 0).bind fun q39 =>
        (fX9_crosses q39 a0 x1 x2).bind fun q45 =>
        fX9_hearsay_55 1000 q45.2 a0 x2 0 0)
set_option maxRecDepth 100000 in
theorem kX9_hearsay {h : Hp} {a0 : Nat} {x1 : Int32} {x2 : Int32} {z : (Int32 × Hp)} (hF : fX9_hearsay h a0 x1 x2 = some z) : Mc yX9_hearsay cX9_hearsay 6 (some .int) 6 0 0 [.ref a0, .int x1, .int x2] h (some (.int z.1), z.2) := by
  have hF := (gO_some hF).2
  refine Mc_of [some (.ref a0), some (.int x1), some (.int x2), none, none, none] plX9 rfl rfl (Nat.le_of_ble_eq_true rfl) (fun X C => ?_)
  refine J_aload_n (pc := 0) C dX9_hearsay_0 rfl ?_
  refine J_iload_n (pc := 1) C dX9_hearsay_1 rfl ?_
  refine J_bind hF (fun q2 hq hF => ?_)
  refine J_callV0_ip (pc := 2) (stk := [.int x1, .ref a0]) (st := []) C dX9_hearsay_2 yw_X9_isMan w_MLX9_168 in_X9_isMan sl_X9_isMan ⟨_, rfl, rfl⟩ (kX9_isMan hq) (gO_some hq).1 rfl (by decide) rfl (Nat.le_of_ble_eq_true rfl) ?_
  refine J_if_eq (pc := 5) (tgt := 16) C dX9_hearsay_5 rfl hF (fun hF => ?_) (fun hF => ?_)
  · refine J_aload_n (pc := 16) C dX9_hearsay_16 rfl ?_
    refine J_iconst (pc := 17) C dX9_hearsay_17 ic_1 ?_
    refine J_bind hF (fun q18 hq hF => ?_)
    refine J_callV0_i (pc := 18) (stk := [.int 1, .ref a0]) (st := []) C dX9_hearsay_18 yw_X9_error w_MLX9_63 in_X9_error sl_X9_error ⟨_, rfl, rfl⟩ (kX9_error hq) (gO_some hq).1 rfl (by decide) rfl (Nat.le_of_ble_eq_true rfl) ?_
    exact J_iret (pc := 21) C dX9_hearsay_21 hF (by decide) (by decide)
  · refine J_aload_n (pc := 8) C dX9_hearsay_8 rfl ?_
    refine J_iload_n (pc := 9) C dX9_hearsay_9 rfl ?_
    refine J_bind hF (fun q10 hq hF => ?_)
    refine J_callV0_ip (pc := 10) (stk := [.int x2, .ref a0]) (st := []) C dX9_hearsay_10 yw_X9_isPerson w_MLX9_156 in_X9_isPerson sl_X9_isPerson ⟨_, rfl, rfl⟩ (kX9_isPerson hq) (gO_some hq).1 rfl (by decide) rfl (Nat.le_of_ble_eq_true rfl) ?_
    refine J_if_ne (pc := 13) (tgt := 22) C dX9_hearsay_13 rfl hF (fun hF => ?_) (fun hF => ?_)
    · refine J_aload_n (pc := 16) C dX9_hearsay_16 rfl ?_
      refine J_iconst (pc := 17) C dX9_hearsay_17 ic_1 ?_
      refine J_bind hF (fun q18 hq hF => ?_)
      refine J_callV0_i (pc := 18) (stk := [.int 1, .ref a0]) (st := []) C dX9_hearsay_18 yw_X9_error w_MLX9_63 in_X9_error sl_X9_error ⟨_, rfl, rfl⟩ (kX9_error hq) (gO_some hq).1 rfl (by decide) rfl (Nat.le_of_ble_eq_true rfl) ?_
      exact J_iret (pc := 21) C dX9_hearsay_21 hF (by decide) (by decide)
    · refine J_aload_n (pc := 22) C dX9_hearsay_22 rfl ?_
      refine J_iload_n (pc := 23) C dX9_hearsay_23 rfl ?_
      refine J_iload_n (pc := 24) C dX9_hearsay_24 rfl ?_
      refine J_bind hF (fun q25 hq hF => ?_)
      refine J_callV0_ip (pc := 25) (stk := [.int x2, .int x1, .ref a0]) (st := []) C dX9_hearsay_25 yw_X9_areTogether w_MLX9_181 in_X9_areTogether sl_X9_areTogether ⟨_, rfl, rfl⟩ (kX9_areTogether hq) (gO_some hq).1 rfl (by decide) rfl (Nat.le_of_ble_eq_true rfl) ?_
      refine J_if_ne (pc := 28) (tgt := 37) C dX9_hearsay_28 rfl hF (fun hF => ?_) (fun hF => ?_)
      · refine J_aload_n (pc := 31) C dX9_hearsay_31 rfl ?_
        refine J_iconst (pc := 32) C dX9_hearsay_32 ic_3 ?_
        refine J_bind hF (fun q33 hq hF => ?_)
        refine J_callV0_i (pc := 33) (stk := [.int 3, .ref a0]) (st := []) C dX9_hearsay_33 yw_X9_error w_MLX9_63 in_X9_error sl_X9_error ⟨_, rfl, rfl⟩ (kX9_error hq) (gO_some hq).1 rfl (by decide) rfl (Nat.le_of_ble_eq_true rfl) ?_
        exact J_iret (pc := 36) C dX9_hearsay_36 hF (by decide) (by decide)
      · refine J_aload_n (pc := 37) C dX9_hearsay_37 rfl ?_
        refine J_iconst (pc := 38) C dX9_hearsay_38 ic_0 ?_
        refine J_bind hF (fun q39 hq hF => ?_)
        refine J_callV0_v (pc := 39) (stk := [.int 0, .ref a0]) (st := []) C dX9_hearsay_39 yw_X9_layDown w_MLX9_210 in_X9_layDown sl_X9_layDown ⟨_, rfl, rfl⟩ (kX9_layDown hq) (gO_some hq).1 rfl (by decide) rfl (Nat.le_of_ble_eq_true rfl) ?_
        refine J_aload_n (pc := 42) C dX9_hearsay_42 rfl ?_
        refine J_iload_n (pc := 43) C dX9_hearsay_43 rfl ?_
        refine J_iload_n (pc := 44) C dX9_hearsay_44 rfl ?_
        refine J_bind hF (fun q45 hq hF => ?_)
        refine J_callV0_i (pc := 45) (stk := [.int x2, .int x1, .ref a0]) (st := []) C dX9_hearsay_45 yw_X9_crosses w_MLX9_187 in_X9_crosses sl_X9_crosses ⟨_, rfl, rfl⟩ (kX9_crosses hq) (gO_some hq).1 rfl (by decide) rfl (Nat.le_of_ble_eq_true rfl) ?_
        refine J_istore_n (pc := 48) (lv' := [some (.ref a0), some (.int x1), some (.int x2), some (.int q45.1), none, none]) C dX9_hearsay_48 rfl ?_
        refine J_iconst (pc := 49) C dX9_hearsay_49 ic_0 ?_
        refine J_istore (pc := 50) (lv' := [some (.ref a0), some (.int x1), some (.int x2), some (.int q45.1), some (.int 0), none]) C dX9_hearsay_50 rfl ?_
        refine J_iconst (pc := 52) C dX9_hearsay_52 ic_0 ?_
        refine J_istore (pc := 53) (lv' := [some (.ref a0), some (.int x1), some (.int x2), some (.int q45.1), some (.int 0), some (.int 0)]) C dX9_hearsay_53 rfl ?_
        refine J_msk (m := [true, false, true, false, true, true]) rfl ?_
        exact kX9_hearsay_55 C 1000 q45.2 a0 x2 0 0 hF
def fX9_image (h : Hp) (a0 : Nat) : Option (Int32 × Hp) := gO h 9 a0 (
  (getR h 9 a0 0).bind fun r1 =>
  (getR h 9 a0 1).bind fun r5 =>
  (fX9_carry h r1 r5).bind fun q8 =>
  (getI q8 9 a0 4).bind fun v13 =>
  (putV q8 9 a0 4 (.int (v13 + 1))).bind fun h18 =>
  (getI h18 9 a0 4).bind fun v22 =>
  some (v22, h18))
set_option maxRecDepth 100000 in
theorem kX9_image {h : Hp} {a0 : Nat} {z : (Int32 × Hp)} (hF : fX9_image h a0 = some z) : Mc yX9_image cX9_image 1 (some .int) 1 0 0 [.ref a0] h (some (.int z.1), z.2) := by
  have hF := (gO_some hF).2
  refine Mc_of [some (.ref a0)] plX9 rfl rfl (Nat.le_of_ble_eq_true rfl) (fun X C => ?_)
  refine J_aload_n (pc := 0) C dX9_image_0 rfl ?_
  refine J_getR (pc := 1) C dX9_image_1 fg_X9_7 hF (fun r1 hF => ?_)
  refine J_aload_n (pc := 4) C dX9_image_4 rfl ?_
  refine J_getR (pc := 5) C dX9_image_5 fg_X9_13 hF (fun r5 hF => ?_)
  refine J_bind hF (fun q8 hq hF => ?_)
  refine J_callS0_v (pc := 8) (stk := [.ref r5, .ref r1]) (st := []) C dX9_image_8 yw_X9_carry w_MLX9_242 st_X9_carry (kX9_carry hq) rfl (by decide) rfl (Nat.le_of_ble_eq_true rfl) ?_
  refine J_aload_n (pc := 11) C dX9_image_11 rfl ?_
  refine J_dup (pc := 12) C dX9_image_12 rfl ?_
  refine J_getI (pc := 13) C dX9_image_13 fg_X9_239 hF (fun v13 hF => ?_)
  refine J_iconst (pc := 16) C dX9_image_16 ic_1 ?_
  refine J_iadd (pc := 17) C dX9_image_17 ?_
  refine J_put (pc := 18) C dX9_image_18 (fp_X9_239 _) hF rfl rfl (fun h18 hF => ?_)
  refine J_aload_n (pc := 21) C dX9_image_21 rfl ?_
  refine J_getI (pc := 22) C dX9_image_22 fg_X9_239 hF (fun v22 hF => ?_)
  exact J_iret (pc := 25) C dX9_image_25 hF (by decide) (by decide)
def fX9_init (h : Hp) (a0 : Nat) : Option Hp :=
  (newA 458 h 458).bind fun q8 =>
  (putV q8.2 9 a0 0 (.ref q8.1)).bind fun h10 =>
  (newA 458 h10 458).bind fun q17 =>
  (putV q17.2 9 a0 1 (.ref q17.1)).bind fun h19 =>
  (newA 458 h19 458).bind fun q26 =>
  (putV q26.2 9 a0 2 (.ref q26.1)).bind fun h28 =>
  (newA 992 h28 992).bind fun q35 =>
  (putV q35.2 9 a0 3 (.ref q35.1)).bind fun h37 =>
  (newA 7 h37 7).bind fun q43 =>
  (putV q43.2 9 a0 5 (.ref q43.1)).bind fun h45 =>
  (newA 124 h45 124).bind fun q51 =>
  (putV q51.2 9 a0 10 (.ref q51.1)).bind fun h53 =>
  (newA 128 h53 128).bind fun q60 =>
  (putV q60.2 9 a0 11 (.ref q60.1)).bind fun h62 =>
  (newA 64 h62 64).bind fun q68 =>
  (putV q68.2 9 a0 12 (.ref q68.1)).bind fun h70 =>
  (newA 8 h70 8).bind fun q76 =>
  (putV q76.2 9 a0 13 (.ref q76.1)).bind fun h78 =>
  (newA 6 h78 6).bind fun q84 =>
  (putV q84.2 9 a0 14 (.ref q84.1)).bind fun h86 =>
  (newA 6 h86 6).bind fun q92 =>
  (putV q92.2 9 a0 15 (.ref q92.1)).bind fun h94 =>
  (newA 30 h94 30).bind fun q100 =>
  (putV q100.2 9 a0 19 (.ref q100.1)).bind fun h102 =>
  (newA 4 h102 4).bind fun q107 =>
  (putV q107.2 9 a0 23 (.ref q107.1)).bind fun h109 =>
  (newA 4 h109 4).bind fun q114 =>
  (putV q114.2 9 a0 24 (.ref q114.1)).bind fun h116 =>
  (newA 96 h116 96).bind fun q122 =>
  (putV q122.2 9 a0 25 (.ref q122.1)).bind fun h124 =>
  (newA 24 h124 24).bind fun q130 =>
  (putV q130.2 9 a0 26 (.ref q130.1)).bind fun h132 =>
  (getR h132 9 a0 0).bind fun r136 =>
  (wrI h132 r136 7 1).bind fun h142 =>
  some h142
set_option maxRecDepth 100000 in
theorem kX9_init {h : Hp} {a0 : Nat} {z : Hp} (hF : fX9_init h a0 = some z) : Mc yX9_init cX9_init 1 none 1 16 2867 [.ref a0] h (none, z) := by
  unfold fX9_init at hF
  refine Mc_of [some (.ref a0)] plX9 rfl rfl (Nat.le_of_ble_eq_true rfl) (fun X C => ?_)
  refine J_aload_n (pc := 0) C dX9_init_0 rfl ?_
  refine J_objInit (pc := 1) C dX9_init_1 w_MLX9_1 (by decide) (Nat.le_of_ble_eq_true rfl) ?_
  refine J_aload_n (pc := 4) C dX9_init_4 rfl ?_
  refine J_sipush (pc := 5) C dX9_init_5 sc_458 ?_
  refine J_newarr (pc := 8) C dX9_init_8 (cap := 458) w_AC (by decide) (by decide) (by decide) hF (fun q8 hF => ?_)
  refine J_put (pc := 10) C dX9_init_10 fi_X9_7 hF rfl rfl (fun h10 hF => ?_)
  refine J_aload_n (pc := 13) C dX9_init_13 rfl ?_
  refine J_sipush (pc := 14) C dX9_init_14 sc_458 ?_
  refine J_newarr (pc := 17) C dX9_init_17 (cap := 458) w_AC (by decide) (by decide) (by decide) hF (fun q17 hF => ?_)
  refine J_put (pc := 19) C dX9_init_19 fi_X9_13 hF rfl rfl (fun h19 hF => ?_)
  refine J_aload_n (pc := 22) C dX9_init_22 rfl ?_
  refine J_sipush (pc := 23) C dX9_init_23 sc_458 ?_
  refine J_newarr (pc := 26) C dX9_init_26 (cap := 458) w_AC (by decide) (by decide) (by decide) hF (fun q26 hF => ?_)
  refine J_put (pc := 28) C dX9_init_28 fi_X9_16 hF rfl rfl (fun h28 hF => ?_)
  refine J_aload_n (pc := 31) C dX9_init_31 rfl ?_
  refine J_sipush (pc := 32) C dX9_init_32 sc_992 ?_
  refine J_newarr (pc := 35) C dX9_init_35 (cap := 992) w_AC (by decide) (by decide) (by decide) hF (fun q35 hF => ?_)
  refine J_put (pc := 37) C dX9_init_37 fi_X9_19 hF rfl rfl (fun h37 hF => ?_)
  refine J_aload_n (pc := 40) C dX9_init_40 rfl ?_
  refine J_bipush (pc := 41) C dX9_init_41 bc_7 ?_
  refine J_newarr (pc := 43) C dX9_init_43 (cap := 7) w_AC (by decide) (by decide) (by decide) hF (fun q43 hF => ?_)
  refine J_put (pc := 45) C dX9_init_45 fi_X9_22 hF rfl rfl (fun h45 hF => ?_)
  refine J_aload_n (pc := 48) C dX9_init_48 rfl ?_
  refine J_bipush (pc := 49) C dX9_init_49 bc_124 ?_
  refine J_newarr (pc := 51) C dX9_init_51 (cap := 124) w_AC (by decide) (by decide) (by decide) hF (fun q51 hF => ?_)
  refine J_put (pc := 53) C dX9_init_53 fi_X9_25 hF rfl rfl (fun h53 hF => ?_)
  refine J_aload_n (pc := 56) C dX9_init_56 rfl ?_
  refine J_sipush (pc := 57) C dX9_init_57 sc_128 ?_
  refine J_newarr (pc := 60) C dX9_init_60 (cap := 128) w_AC (by decide) (by decide) (by decide) hF (fun q60 hF => ?_)
  refine J_put (pc := 62) C dX9_init_62 fi_X9_28 hF rfl rfl (fun h62 hF => ?_)
  refine J_aload_n (pc := 65) C dX9_init_65 rfl ?_
  refine J_bipush (pc := 66) C dX9_init_66 bc_64 ?_
  refine J_newarr (pc := 68) C dX9_init_68 (cap := 64) w_AC (by decide) (by decide) (by decide) hF (fun q68 hF => ?_)
  refine J_put (pc := 70) C dX9_init_70 fi_X9_31 hF rfl rfl (fun h70 hF => ?_)
  refine J_aload_n (pc := 73) C dX9_init_73 rfl ?_
  refine J_bipush (pc := 74) C dX9_init_74 bc_8 ?_
  refine J_newarr (pc := 76) C dX9_init_76 (cap := 8) w_AC (by decide) (by decide) (by decide) hF (fun q76 hF => ?_)
  refine J_put (pc := 78) C dX9_init_78 fi_X9_34 hF rfl rfl (fun h78 hF => ?_)
  refine J_aload_n (pc := 81) C dX9_init_81 rfl ?_
  refine J_bipush (pc := 82) C dX9_init_82 bc_6 ?_
  refine J_newarr (pc := 84) C dX9_init_84 (cap := 6) w_AC (by decide) (by decide) (by decide) hF (fun q84 hF => ?_)
  refine J_put (pc := 86) C dX9_init_86 fi_X9_37 hF rfl rfl (fun h86 hF => ?_)
  refine J_aload_n (pc := 89) C dX9_init_89 rfl ?_
  refine J_bipush (pc := 90) C dX9_init_90 bc_6 ?_
  refine J_newarr (pc := 92) C dX9_init_92 (cap := 6) w_AC (by decide) (by decide) (by decide) hF (fun q92 hF => ?_)
  refine J_put (pc := 94) C dX9_init_94 fi_X9_40 hF rfl rfl (fun h94 hF => ?_)
  refine J_aload_n (pc := 97) C dX9_init_97 rfl ?_
  refine J_bipush (pc := 98) C dX9_init_98 bc_30 ?_
  refine J_newarr (pc := 100) C dX9_init_100 (cap := 30) w_AC (by decide) (by decide) (by decide) hF (fun q100 hF => ?_)
  refine J_put (pc := 102) C dX9_init_102 fi_X9_43 hF rfl rfl (fun h102 hF => ?_)
  refine J_aload_n (pc := 105) C dX9_init_105 rfl ?_
  refine J_iconst (pc := 106) C dX9_init_106 ic_4 ?_
  refine J_newarr (pc := 107) C dX9_init_107 (cap := 4) w_AC (by decide) (by decide) (by decide) hF (fun q107 hF => ?_)
  refine J_put (pc := 109) C dX9_init_109 fi_X9_46 hF rfl rfl (fun h109 hF => ?_)
  refine J_aload_n (pc := 112) C dX9_init_112 rfl ?_
  refine J_iconst (pc := 113) C dX9_init_113 ic_4 ?_
  refine J_newarr (pc := 114) C dX9_init_114 (cap := 4) w_AC (by decide) (by decide) (by decide) hF (fun q114 hF => ?_)
  refine J_put (pc := 116) C dX9_init_116 fi_X9_49 hF rfl rfl (fun h116 hF => ?_)
  refine J_aload_n (pc := 119) C dX9_init_119 rfl ?_
  refine J_bipush (pc := 120) C dX9_init_120 bc_96 ?_
  refine J_newarr (pc := 122) C dX9_init_122 (cap := 96) w_AC (by decide) (by decide) (by decide) hF (fun q122 hF => ?_)
  refine J_put (pc := 124) C dX9_init_124 fi_X9_52 hF rfl rfl (fun h124 hF => ?_)
  refine J_aload_n (pc := 127) C dX9_init_127 rfl ?_
  refine J_bipush (pc := 128) C dX9_init_128 bc_24 ?_
  refine J_newarr (pc := 130) C dX9_init_130 (cap := 24) w_AC (by decide) (by decide) (by decide) hF (fun q130 hF => ?_)
  refine J_put (pc := 132) C dX9_init_132 fi_X9_55 hF rfl rfl (fun h132 hF => ?_)
  refine J_aload_n (pc := 135) C dX9_init_135 rfl ?_
  refine J_getR (pc := 136) C dX9_init_136 fg_X9_7 hF (fun r136 hF => ?_)
  refine J_bipush (pc := 139) C dX9_init_139 bc_7 ?_
  refine J_iconst (pc := 141) C dX9_init_141 ic_1 ?_
  refine J_iast (pc := 142) C dX9_init_142 hF (fun h142 hF => ?_)
  exact J_vret (pc := 143) C dX9_init_143 hF (by decide) (by decide)
def fX9_judge_83 (h : Hp) (a0 : Nat) (x1 : Int32) (x2 : Int32) (x4 : Int32) : Option (Int32 × Hp) :=
  (getR h 9 a0 24).bind fun r86 =>
  (rdI h r86 x1).bind fun v90 =>
  if x4 = v90 then
    (fX9_its h a0 x2 4).bind fun q99 =>
    if x4 = q99 then
      some ((-1), h)
    else
      some (x4, h)
  else
    some (x4, h)
set_option maxRecDepth 100000 in
theorem kX9_judge_83 {X : Cx} {z : (Int32 × Hp)} (C : Jc X yX9_judge cX9_judge 5 (some .int) 3 0 0 (some (.int z.1), z.2)) (h : Hp) (a0 : Nat) (x1 : Int32) (x2 : Int32) (x4 : Int32) (hF : fX9_judge_83 h a0 x1 x2 x4 = some z) : J X 0 0 0 0 83 [some (.ref a0), some (.int x1), some (.int x2), none, some (.int x4)] [] h := by
  unfold fX9_judge_83 at hF
  refine J_iload (pc := 83) C dX9_judge_83 rfl ?_
  refine J_aload_n (pc := 85) C dX9_judge_85 rfl ?_
  refine J_getR (pc := 86) C dX9_judge_86 fg_X9_49 hF (fun r86 hF => ?_)
  refine J_iload_n (pc := 89) C dX9_judge_89 rfl ?_
  refine J_iald (pc := 90) C dX9_judge_90 hF (fun v90 hF => ?_)
  refine J_icmp_ne (pc := 91) (tgt := 109) C dX9_judge_91 rfl hF (fun hF => ?_) (fun hF => ?_)
  · refine J_iload (pc := 94) C dX9_judge_94 rfl ?_
    refine J_aload_n (pc := 96) C dX9_judge_96 rfl ?_
    refine J_iload_n (pc := 97) C dX9_judge_97 rfl ?_
    refine J_iconst (pc := 98) C dX9_judge_98 ic_4 ?_
    refine J_bind hF (fun q99 hq hF => ?_)
    refine J_callV0_ip (pc := 99) (stk := [.int 4, .int x2, .ref a0, .int x4]) (st := [.int x4]) C dX9_judge_99 yw_X9_its w_MLX9_123 in_X9_its sl_X9_its ⟨_, rfl, rfl⟩ (kX9_its hq) (gO_some hq).1 rfl (by decide) rfl (Nat.le_of_ble_eq_true rfl) ?_
    refine J_icmp_ne (pc := 102) (tgt := 109) C dX9_judge_102 rfl hF (fun hF => ?_) (fun hF => ?_)
    · refine J_iconst (pc := 105) C dX9_judge_105 ic_m1 ?_
      refine J_goto (pc := 106) (tgt := 111) C dX9_judge_106 rfl ?_
      exact J_iret (pc := 111) C dX9_judge_111 hF (by decide) (by decide)
    · refine J_iload (pc := 109) C dX9_judge_109 rfl ?_
      exact J_iret (pc := 111) C dX9_judge_111 hF (by decide) (by decide)
  · refine J_iload (pc := 109) C dX9_judge_109 rfl ?_
    exact J_iret (pc := 111) C dX9_judge_111 hF (by decide) (by decide)
def fX9_judge_31 : Nat → Hp → Nat → Int32 → Int32 → Int32 → Option (Int32 × Hp)
  | 0, _, _, _, _, _ => none
  | n31 + 1, h, a0, x1, x2, x4 =>
    (getR h 9 a0 24).bind fun r34 =>
    (rdI h r34 x1).bind fun v38 =>
    if v38 ≤ x4 then
      fX9_judge_83 h a0 x1 x2 x4
    else
      (fX9_its h a0 x2 4).bind fun q47 =>
      if q47 ≤ x4 then
        fX9_judge_83 h a0 x1 x2 x4
      else
        (getR h 9 a0 25).bind fun r54 =>
        (rdI h r54 ((24 * x1) + x4)).bind fun v64 =>
        (fX9_its h a0 x2 (5 + x4)).bind fun q71 =>
        if v64 = q71 then
          fX9_judge_31 n31 h a0 x1 x2 (x4 + 1)
        else
          fX9_judge_83 h a0 x1 x2 x4
set_option maxRecDepth 100000 in
theorem kX9_judge_31 {X : Cx} {z : (Int32 × Hp)} (C : Jc X yX9_judge cX9_judge 5 (some .int) 3 0 0 (some (.int z.1), z.2)) : ∀ (n31 : Nat) (h : Hp) (a0 : Nat) (x1 : Int32) (x2 : Int32) (x4 : Int32), fX9_judge_31 n31 h a0 x1 x2 x4 = some z → J X 0 0 0 0 31 [some (.ref a0), some (.int x1), some (.int x2), none, some (.int x4)] [] h := by
  intro n31
  induction n31 with
  | zero => intro h a0 x1 x2 x4 hF; cases hF
  | succ n31 ih =>
    intro h a0 x1 x2 x4 hF
    rw [fX9_judge_31] at hF
    refine J_iload (pc := 31) C dX9_judge_31 rfl ?_
    refine J_aload_n (pc := 33) C dX9_judge_33 rfl ?_
    refine J_getR (pc := 34) C dX9_judge_34 fg_X9_49 hF (fun r34 hF => ?_)
    refine J_iload_n (pc := 37) C dX9_judge_37 rfl ?_
    refine J_iald (pc := 38) C dX9_judge_38 hF (fun v38 hF => ?_)
    refine J_icmp_ge (pc := 39) (tgt := 83) C dX9_judge_39 rfl hF (fun hF => ?_) (fun hF => ?_)
    · exact kX9_judge_83 C h a0 x1 x2 x4 hF
    · refine J_iload (pc := 42) C dX9_judge_42 rfl ?_
      refine J_aload_n (pc := 44) C dX9_judge_44 rfl ?_
      refine J_iload_n (pc := 45) C dX9_judge_45 rfl ?_
      refine J_iconst (pc := 46) C dX9_judge_46 ic_4 ?_
      refine J_bind hF (fun q47 hq hF => ?_)
      refine J_callV0_ip (pc := 47) (stk := [.int 4, .int x2, .ref a0, .int x4]) (st := [.int x4]) C dX9_judge_47 yw_X9_its w_MLX9_123 in_X9_its sl_X9_its ⟨_, rfl, rfl⟩ (kX9_its hq) (gO_some hq).1 rfl (by decide) rfl (Nat.le_of_ble_eq_true rfl) ?_
      refine J_icmp_ge (pc := 50) (tgt := 83) C dX9_judge_50 rfl hF (fun hF => ?_) (fun hF => ?_)
      · exact kX9_judge_83 C h a0 x1 x2 x4 hF
      · refine J_aload_n (pc := 53) C dX9_judge_53 rfl ?_
        refine J_getR (pc := 54) C dX9_judge_54 fg_X9_52 hF (fun r54 hF => ?_)
        refine J_bipush (pc := 57) C dX9_judge_57 bc_24 ?_
        refine J_iload_n (pc := 59) C dX9_judge_59 rfl ?_
        refine J_imul (pc := 60) C dX9_judge_60 ?_
        refine J_iload (pc := 61) C dX9_judge_61 rfl ?_
        refine J_iadd (pc := 63) C dX9_judge_63 ?_
        refine J_iald (pc := 64) C dX9_judge_64 hF (fun v64 hF => ?_)
        refine J_aload_n (pc := 65) C dX9_judge_65 rfl ?_
        refine J_iload_n (pc := 66) C dX9_judge_66 rfl ?_
        refine J_iconst (pc := 67) C dX9_judge_67 ic_5 ?_
        refine J_iload (pc := 68) C dX9_judge_68 rfl ?_
        refine J_iadd (pc := 70) C dX9_judge_70 ?_
        refine J_bind hF (fun q71 hq hF => ?_)
        refine J_callV0_ip (pc := 71) (stk := [.int (5 + x4), .int x2, .ref a0, .int v64]) (st := [.int v64]) C dX9_judge_71 yw_X9_its w_MLX9_123 in_X9_its sl_X9_its ⟨_, rfl, rfl⟩ (kX9_its hq) (gO_some hq).1 rfl (by decide) rfl (Nat.le_of_ble_eq_true rfl) ?_
        refine J_icmp_ne (pc := 74) (tgt := 83) C dX9_judge_74 rfl hF (fun hF => ?_) (fun hF => ?_)
        · refine J_iinc (pc := 77) (lv' := [some (.ref a0), some (.int x1), some (.int x2), none, some (.int (x4 + 1))]) C dX9_judge_77 rfl ic_1 rfl ?_
          refine J_goto (pc := 80) (tgt := 31) C dX9_judge_80 rfl ?_
          exact ih h a0 x1 x2 (x4 + 1) hF
        · exact kX9_judge_83 C h a0 x1 x2 x4 hF
def fX9_judge_17 (h : Hp) (a0 : Nat) (x1 : Int32) (x2 : Int32) (y0 : Int32) : Option (Int32 × Hp) :=
  if y0 ≤ 0 then
    fX9_judge_31 1000 h a0 x1 x2 0
  else
    (fX9_error h a0 y0).bind fun q24 =>
    some (q24.1, q24.2)
set_option maxRecDepth 100000 in
theorem kX9_judge_17 {X : Cx} {z : (Int32 × Hp)} (C : Jc X yX9_judge cX9_judge 5 (some .int) 3 0 0 (some (.int z.1), z.2)) (h : Hp) (a0 : Nat) (x1 : Int32) (x2 : Int32) (y0 : Int32) (hF : fX9_judge_17 h a0 x1 x2 y0 = some z) : J X 0 0 0 0 17 [some (.ref a0), some (.int x1), some (.int x2), none, none] [.int y0] h := by
  unfold fX9_judge_17 at hF
  refine J_istore_n (pc := 17) (lv' := [some (.ref a0), some (.int x1), some (.int x2), some (.int y0), none]) C dX9_judge_17 rfl ?_
  refine J_iload_n (pc := 18) C dX9_judge_18 rfl ?_
  refine J_if_le (pc := 19) (tgt := 28) C dX9_judge_19 rfl hF (fun hF => ?_) (fun hF => ?_)
  · refine J_iconst (pc := 28) C dX9_judge_28 ic_0 ?_
    refine J_istore (pc := 29) (lv' := [some (.ref a0), some (.int x1), some (.int x2), some (.int y0), some (.int 0)]) C dX9_judge_29 rfl ?_
    refine J_msk (m := [true, true, true, false, true]) rfl ?_
    exact kX9_judge_31 C 1000 h a0 x1 x2 0 hF
  · refine J_aload_n (pc := 22) C dX9_judge_22 rfl ?_
    refine J_iload_n (pc := 23) C dX9_judge_23 rfl ?_
    refine J_bind hF (fun q24 hq hF => ?_)
    refine J_callV0_i (pc := 24) (stk := [.int y0, .ref a0]) (st := []) C dX9_judge_24 yw_X9_error w_MLX9_63 in_X9_error sl_X9_error ⟨_, rfl, rfl⟩ (kX9_error hq) (gO_some hq).1 rfl (by decide) rfl (Nat.le_of_ble_eq_true rfl) ?_
    exact J_iret (pc := 27) C dX9_judge_27 hF (by decide) (by decide)
def fX9_judge (h : Hp) (a0 : Nat) (x1 : Int32) (x2 : Int32) : Option (Int32 × Hp) := gO h 9 a0 (
  (fX9_isMan h a0 x2).bind fun q2 =>
  if q2 = 0 then
    fX9_judge_17 h a0 x1 x2 1
  else
    (fX9_lacks h a0 x1).bind fun q10 =>
    fX9_judge_17 h a0 x1 x2 q10)
set_option maxRecDepth 100000 in
theorem kX9_judge {h : Hp} {a0 : Nat} {x1 : Int32} {x2 : Int32} {z : (Int32 × Hp)} (hF : fX9_judge h a0 x1 x2 = some z) : Mc yX9_judge cX9_judge 5 (some .int) 3 0 0 [.ref a0, .int x1, .int x2] h (some (.int z.1), z.2) := by
  have hF := (gO_some hF).2
  refine Mc_of [some (.ref a0), some (.int x1), some (.int x2), none, none] plX9 rfl rfl (Nat.le_of_ble_eq_true rfl) (fun X C => ?_)
  refine J_aload_n (pc := 0) C dX9_judge_0 rfl ?_
  refine J_iload_n (pc := 1) C dX9_judge_1 rfl ?_
  refine J_bind hF (fun q2 hq hF => ?_)
  refine J_callV0_ip (pc := 2) (stk := [.int x2, .ref a0]) (st := []) C dX9_judge_2 yw_X9_isMan w_MLX9_168 in_X9_isMan sl_X9_isMan ⟨_, rfl, rfl⟩ (kX9_isMan hq) (gO_some hq).1 rfl (by decide) rfl (Nat.le_of_ble_eq_true rfl) ?_
  refine J_if_eq (pc := 5) (tgt := 16) C dX9_judge_5 rfl hF (fun hF => ?_) (fun hF => ?_)
  · refine J_iconst (pc := 16) C dX9_judge_16 ic_1 ?_
    exact kX9_judge_17 C h a0 x1 x2 1 hF
  · refine J_aload_n (pc := 8) C dX9_judge_8 rfl ?_
    refine J_iload_n (pc := 9) C dX9_judge_9 rfl ?_
    refine J_bind hF (fun q10 hq hF => ?_)
    refine J_callV0_ip (pc := 10) (stk := [.int x1, .ref a0]) (st := []) C dX9_judge_10 yw_X9_lacks w_MLX9_283 in_X9_lacks sl_X9_lacks ⟨_, rfl, rfl⟩ (kX9_lacks hq) (gO_some hq).1 rfl (by decide) rfl (Nat.le_of_ble_eq_true rfl) ?_
    refine J_goto (pc := 13) (tgt := 17) C dX9_judge_13 rfl ?_
    exact kX9_judge_17 C h a0 x1 x2 q10 hF
def fX9_knownBy_4 (h : Hp) : Nat → Nat → Int32 → Int32 → Int32 → Option Int32
  | 0, _, _, _, _ => none
  | n4 + 1, a0, x1, x2, x3 =>
    (getR h 9 a0 0).bind fun r6 =>
    (rdI h r6 1).bind fun v10 =>
    if v10 ≤ x3 then
      some x2
    else
      (fX9_knows h a0 x3 x1).bind fun q18 =>
      if q18 = 0 then
        fX9_knownBy_4 h n4 a0 x1 (x2 + 0) (x3 + 1)
      else
        fX9_knownBy_4 h n4 a0 x1 (x2 + 1) (x3 + 1)
set_option maxRecDepth 100000 in
theorem kX9_knownBy_4 {X : Cx} {z : Int32} {h : Hp} (C : Jc X yX9_knownBy cX9_knownBy 4 (some .int) 3 0 0 (some (.int z), h)) : ∀ (n4 : Nat) (a0 : Nat) (x1 : Int32) (x2 : Int32) (x3 : Int32), fX9_knownBy_4 h n4 a0 x1 x2 x3 = some z → J X 0 0 0 0 4 [some (.ref a0), some (.int x1), some (.int x2), some (.int x3)] [] h := by
  intro n4
  induction n4 with
  | zero => intro a0 x1 x2 x3 hF; cases hF
  | succ n4 ih =>
    intro a0 x1 x2 x3 hF
    rw [fX9_knownBy_4] at hF
    refine J_iload_n (pc := 4) C dX9_knownBy_4 rfl ?_
    refine J_aload_n (pc := 5) C dX9_knownBy_5 rfl ?_
    refine J_getR (pc := 6) C dX9_knownBy_6 fg_X9_7 hF (fun r6 hF => ?_)
    refine J_iconst (pc := 9) C dX9_knownBy_9 ic_1 ?_
    refine J_iald (pc := 10) C dX9_knownBy_10 hF (fun v10 hF => ?_)
    refine J_icmp_ge (pc := 11) (tgt := 37) C dX9_knownBy_11 rfl hF (fun hF => ?_) (fun hF => ?_)
    · refine J_iload_n (pc := 37) C dX9_knownBy_37 rfl ?_
      exact J_iretP (pc := 38) C dX9_knownBy_38 hF (by decide) (by decide)
    · refine J_iload_n (pc := 14) C dX9_knownBy_14 rfl ?_
      refine J_aload_n (pc := 15) C dX9_knownBy_15 rfl ?_
      refine J_iload_n (pc := 16) C dX9_knownBy_16 rfl ?_
      refine J_iload_n (pc := 17) C dX9_knownBy_17 rfl ?_
      refine J_bind hF (fun q18 hq hF => ?_)
      refine J_callV0_ip (pc := 18) (stk := [.int x1, .int x3, .ref a0, .int x2]) (st := [.int x2]) C dX9_knownBy_18 yw_X9_knows w_MLX9_152 in_X9_knows sl_X9_knows ⟨_, rfl, rfl⟩ (kX9_knows hq) (gO_some hq).1 rfl (by decide) rfl (Nat.le_of_ble_eq_true rfl) ?_
      refine J_if_eq (pc := 21) (tgt := 28) C dX9_knownBy_21 rfl hF (fun hF => ?_) (fun hF => ?_)
      · refine J_iconst (pc := 28) C dX9_knownBy_28 ic_0 ?_
        refine J_iadd (pc := 29) C dX9_knownBy_29 ?_
        refine J_istore_n (pc := 30) (lv' := [some (.ref a0), some (.int x1), some (.int (x2 + 0)), some (.int x3)]) C dX9_knownBy_30 rfl ?_
        refine J_iinc (pc := 31) (lv' := [some (.ref a0), some (.int x1), some (.int (x2 + 0)), some (.int (x3 + 1))]) C dX9_knownBy_31 rfl ic_1 rfl ?_
        refine J_goto (pc := 34) (tgt := 4) C dX9_knownBy_34 rfl ?_
        exact ih a0 x1 (x2 + 0) (x3 + 1) hF
      · refine J_iconst (pc := 24) C dX9_knownBy_24 ic_1 ?_
        refine J_goto (pc := 25) (tgt := 29) C dX9_knownBy_25 rfl ?_
        refine J_iadd (pc := 29) C dX9_knownBy_29 ?_
        refine J_istore_n (pc := 30) (lv' := [some (.ref a0), some (.int x1), some (.int (x2 + 1)), some (.int x3)]) C dX9_knownBy_30 rfl ?_
        refine J_iinc (pc := 31) (lv' := [some (.ref a0), some (.int x1), some (.int (x2 + 1)), some (.int (x3 + 1))]) C dX9_knownBy_31 rfl ic_1 rfl ?_
        refine J_goto (pc := 34) (tgt := 4) C dX9_knownBy_34 rfl ?_
        exact ih a0 x1 (x2 + 1) (x3 + 1) hF
def fX9_knownBy (h : Hp) (a0 : Nat) (x1 : Int32) : Option Int32 := gO h 9 a0 (
  fX9_knownBy_4 h 1000 a0 x1 0 0)
set_option maxRecDepth 100000 in
theorem kX9_knownBy {h : Hp} {a0 : Nat} {x1 : Int32} {z : Int32} (hF : fX9_knownBy h a0 x1 = some z) : Mc yX9_knownBy cX9_knownBy 4 (some .int) 3 0 0 [.ref a0, .int x1] h (some (.int z), h) := by
  have hF := (gO_some hF).2
  refine Mc_of [some (.ref a0), some (.int x1), none, none] plX9 rfl rfl (Nat.le_of_ble_eq_true rfl) (fun X C => ?_)
  refine J_iconst (pc := 0) C dX9_knownBy_0 ic_0 ?_
  refine J_istore_n (pc := 1) (lv' := [some (.ref a0), some (.int x1), some (.int 0), none]) C dX9_knownBy_1 rfl ?_
  refine J_iconst (pc := 2) C dX9_knownBy_2 ic_0 ?_
  refine J_istore_n (pc := 3) (lv' := [some (.ref a0), some (.int x1), some (.int 0), some (.int 0)]) C dX9_knownBy_3 rfl ?_
  exact kX9_knownBy_4 C 1000 a0 x1 0 0 hF
def fX9_loses (h : Hp) (a0 : Nat) (x1 : Int32) (x2 : Int32) : Option (Int32 × Hp) := gO h 9 a0 (
  (fX9_isMan h a0 x1).bind fun q2 =>
  if q2 = 0 then
    (fX9_error h a0 1).bind fun q18 =>
    some (q18.1, q18.2)
  else
    (fX9_isPerson h a0 x2).bind fun q10 =>
    if q10 = 0 then
      (fX9_error h a0 1).bind fun q18 =>
      some (q18.1, q18.2)
    else
      (fX9_areTogether h a0 x1 x2).bind fun q25 =>
      if q25 = 0 then
        (fX9_error h a0 3).bind fun q33 =>
        some (q33.1, q33.2)
      else
        (fX9_holding h a0).bind fun q38 =>
        (fX9_layDown q38.2 a0 0).bind fun q44 =>
        (fX9_crosses q44 a0 x1 x2).bind fun q50 =>
        (fX9_holding q50.2 a0).bind fun q56 =>
        (fX9_layBack q56.2 a0 0).bind fun q63 =>
        some (q38.1 - q56.1, q63))
set_option maxRecDepth 100000 in
theorem kX9_loses {h : Hp} {a0 : Nat} {x1 : Int32} {x2 : Int32} {z : (Int32 × Hp)} (hF : fX9_loses h a0 x1 x2 = some z) : Mc yX9_loses cX9_loses 6 (some .int) 6 0 0 [.ref a0, .int x1, .int x2] h (some (.int z.1), z.2) := by
  have hF := (gO_some hF).2
  refine Mc_of [some (.ref a0), some (.int x1), some (.int x2), none, none, none] plX9 rfl rfl (Nat.le_of_ble_eq_true rfl) (fun X C => ?_)
  refine J_aload_n (pc := 0) C dX9_loses_0 rfl ?_
  refine J_iload_n (pc := 1) C dX9_loses_1 rfl ?_
  refine J_bind hF (fun q2 hq hF => ?_)
  refine J_callV0_ip (pc := 2) (stk := [.int x1, .ref a0]) (st := []) C dX9_loses_2 yw_X9_isMan w_MLX9_168 in_X9_isMan sl_X9_isMan ⟨_, rfl, rfl⟩ (kX9_isMan hq) (gO_some hq).1 rfl (by decide) rfl (Nat.le_of_ble_eq_true rfl) ?_
  refine J_if_eq (pc := 5) (tgt := 16) C dX9_loses_5 rfl hF (fun hF => ?_) (fun hF => ?_)
  · refine J_aload_n (pc := 16) C dX9_loses_16 rfl ?_
    refine J_iconst (pc := 17) C dX9_loses_17 ic_1 ?_
    refine J_bind hF (fun q18 hq hF => ?_)
    refine J_callV0_i (pc := 18) (stk := [.int 1, .ref a0]) (st := []) C dX9_loses_18 yw_X9_error w_MLX9_63 in_X9_error sl_X9_error ⟨_, rfl, rfl⟩ (kX9_error hq) (gO_some hq).1 rfl (by decide) rfl (Nat.le_of_ble_eq_true rfl) ?_
    exact J_iret (pc := 21) C dX9_loses_21 hF (by decide) (by decide)
  · refine J_aload_n (pc := 8) C dX9_loses_8 rfl ?_
    refine J_iload_n (pc := 9) C dX9_loses_9 rfl ?_
    refine J_bind hF (fun q10 hq hF => ?_)
    refine J_callV0_ip (pc := 10) (stk := [.int x2, .ref a0]) (st := []) C dX9_loses_10 yw_X9_isPerson w_MLX9_156 in_X9_isPerson sl_X9_isPerson ⟨_, rfl, rfl⟩ (kX9_isPerson hq) (gO_some hq).1 rfl (by decide) rfl (Nat.le_of_ble_eq_true rfl) ?_
    refine J_if_ne (pc := 13) (tgt := 22) C dX9_loses_13 rfl hF (fun hF => ?_) (fun hF => ?_)
    · refine J_aload_n (pc := 16) C dX9_loses_16 rfl ?_
      refine J_iconst (pc := 17) C dX9_loses_17 ic_1 ?_
      refine J_bind hF (fun q18 hq hF => ?_)
      refine J_callV0_i (pc := 18) (stk := [.int 1, .ref a0]) (st := []) C dX9_loses_18 yw_X9_error w_MLX9_63 in_X9_error sl_X9_error ⟨_, rfl, rfl⟩ (kX9_error hq) (gO_some hq).1 rfl (by decide) rfl (Nat.le_of_ble_eq_true rfl) ?_
      exact J_iret (pc := 21) C dX9_loses_21 hF (by decide) (by decide)
    · refine J_aload_n (pc := 22) C dX9_loses_22 rfl ?_
      refine J_iload_n (pc := 23) C dX9_loses_23 rfl ?_
      refine J_iload_n (pc := 24) C dX9_loses_24 rfl ?_
      refine J_bind hF (fun q25 hq hF => ?_)
      refine J_callV0_ip (pc := 25) (stk := [.int x2, .int x1, .ref a0]) (st := []) C dX9_loses_25 yw_X9_areTogether w_MLX9_181 in_X9_areTogether sl_X9_areTogether ⟨_, rfl, rfl⟩ (kX9_areTogether hq) (gO_some hq).1 rfl (by decide) rfl (Nat.le_of_ble_eq_true rfl) ?_
      refine J_if_ne (pc := 28) (tgt := 37) C dX9_loses_28 rfl hF (fun hF => ?_) (fun hF => ?_)
      · refine J_aload_n (pc := 31) C dX9_loses_31 rfl ?_
        refine J_iconst (pc := 32) C dX9_loses_32 ic_3 ?_
        refine J_bind hF (fun q33 hq hF => ?_)
        refine J_callV0_i (pc := 33) (stk := [.int 3, .ref a0]) (st := []) C dX9_loses_33 yw_X9_error w_MLX9_63 in_X9_error sl_X9_error ⟨_, rfl, rfl⟩ (kX9_error hq) (gO_some hq).1 rfl (by decide) rfl (Nat.le_of_ble_eq_true rfl) ?_
        exact J_iret (pc := 36) C dX9_loses_36 hF (by decide) (by decide)
      · refine J_aload_n (pc := 37) C dX9_loses_37 rfl ?_
        refine J_bind hF (fun q38 hq hF => ?_)
        refine J_callV0_i (pc := 38) (stk := [.ref a0]) (st := []) C dX9_loses_38 yw_X9_holding w_MLX9_207 in_X9_holding sl_X9_holding ⟨_, rfl, rfl⟩ (kX9_holding hq) (gO_some hq).1 rfl (by decide) rfl (Nat.le_of_ble_eq_true rfl) ?_
        refine J_istore_n (pc := 41) (lv' := [some (.ref a0), some (.int x1), some (.int x2), some (.int q38.1), none, none]) C dX9_loses_41 rfl ?_
        refine J_aload_n (pc := 42) C dX9_loses_42 rfl ?_
        refine J_iconst (pc := 43) C dX9_loses_43 ic_0 ?_
        refine J_bind hF (fun q44 hq hF => ?_)
        refine J_callV0_v (pc := 44) (stk := [.int 0, .ref a0]) (st := []) C dX9_loses_44 yw_X9_layDown w_MLX9_210 in_X9_layDown sl_X9_layDown ⟨_, rfl, rfl⟩ (kX9_layDown hq) (gO_some hq).1 rfl (by decide) rfl (Nat.le_of_ble_eq_true rfl) ?_
        refine J_aload_n (pc := 47) C dX9_loses_47 rfl ?_
        refine J_iload_n (pc := 48) C dX9_loses_48 rfl ?_
        refine J_iload_n (pc := 49) C dX9_loses_49 rfl ?_
        refine J_bind hF (fun q50 hq hF => ?_)
        refine J_callV0_i (pc := 50) (stk := [.int x2, .int x1, .ref a0]) (st := []) C dX9_loses_50 yw_X9_crosses w_MLX9_187 in_X9_crosses sl_X9_crosses ⟨_, rfl, rfl⟩ (kX9_crosses hq) (gO_some hq).1 rfl (by decide) rfl (Nat.le_of_ble_eq_true rfl) ?_
        refine J_istore (pc := 53) (lv' := [some (.ref a0), some (.int x1), some (.int x2), some (.int q38.1), some (.int q50.1), none]) C dX9_loses_53 rfl ?_
        refine J_aload_n (pc := 55) C dX9_loses_55 rfl ?_
        refine J_bind hF (fun q56 hq hF => ?_)
        refine J_callV0_i (pc := 56) (stk := [.ref a0]) (st := []) C dX9_loses_56 yw_X9_holding w_MLX9_207 in_X9_holding sl_X9_holding ⟨_, rfl, rfl⟩ (kX9_holding hq) (gO_some hq).1 rfl (by decide) rfl (Nat.le_of_ble_eq_true rfl) ?_
        refine J_istore (pc := 59) (lv' := [some (.ref a0), some (.int x1), some (.int x2), some (.int q38.1), some (.int q50.1), some (.int q56.1)]) C dX9_loses_59 rfl ?_
        refine J_aload_n (pc := 61) C dX9_loses_61 rfl ?_
        refine J_iconst (pc := 62) C dX9_loses_62 ic_0 ?_
        refine J_bind hF (fun q63 hq hF => ?_)
        refine J_callV0_v (pc := 63) (stk := [.int 0, .ref a0]) (st := []) C dX9_loses_63 yw_X9_layBack w_MLX9_213 in_X9_layBack sl_X9_layBack ⟨_, rfl, rfl⟩ (kX9_layBack hq) (gO_some hq).1 rfl (by decide) rfl (Nat.le_of_ble_eq_true rfl) ?_
        refine J_iload_n (pc := 66) C dX9_loses_66 rfl ?_
        refine J_iload (pc := 67) C dX9_loses_67 rfl ?_
        refine J_isub (pc := 69) C dX9_loses_69 ?_
        exact J_iret (pc := 70) C dX9_loses_70 hF (by decide) (by decide)
def fX9_man (h : Hp) (a0 : Nat) (x1 : Int32) (x2 : Int32) : Option (Int32 × Hp) := gO h 9 a0 (
  (fX9_in x1 0 69).bind fun q4 =>
  if q4 = 0 then
    (fX9_error h a0 1).bind fun q21 =>
    some (q21.1, q21.2)
  else
    (fX9_in x2 0 1).bind fun q13 =>
    if q13 = 0 then
      (fX9_error h a0 1).bind fun q21 =>
      some (q21.1, q21.2)
    else
      (getR h 9 a0 0).bind fun r26 =>
      (rdI h r26 1).bind fun v30 =>
      if v30 = 4 then
        (fX9_error h a0 4).bind fun q37 =>
        some (q37.1, q37.2)
      else
        (getR h 9 a0 0).bind fun r42 =>
        (rdI h r42 1).bind fun v46 =>
        (dvz x1 10).bind fun v54 =>
        (fX9_lays1 h a0 v46 0 v54).bind fun q55 =>
        (rmz x1 10).bind fun v64 =>
        (fX9_lays1 q55 a0 v46 1 v64).bind fun q65 =>
        (fX9_lays1 q65 a0 v46 2 x2).bind fun q72 =>
        (fX9_lays1 q72 a0 v46 3 0).bind fun q79 =>
        (fX9_lays1 q79 a0 v46 4 0).bind fun q86 =>
        (getR q86 9 a0 0).bind fun r90 =>
        (rdI q86 r90 1).bind fun v95 =>
        (wrI q86 r90 1 (v95 + 1)).bind fun h98 =>
        some (v46, h98))
set_option maxRecDepth 100000 in
theorem kX9_man {h : Hp} {a0 : Nat} {x1 : Int32} {x2 : Int32} {z : (Int32 × Hp)} (hF : fX9_man h a0 x1 x2 = some z) : Mc yX9_man cX9_man 4 (some .int) 1 0 0 [.ref a0, .int x1, .int x2] h (some (.int z.1), z.2) := by
  have hF := (gO_some hF).2
  refine Mc_of [some (.ref a0), some (.int x1), some (.int x2), none] plX9 rfl rfl (Nat.le_of_ble_eq_true rfl) (fun X C => ?_)
  refine J_iload_n (pc := 0) C dX9_man_0 rfl ?_
  refine J_iconst (pc := 1) C dX9_man_1 ic_0 ?_
  refine J_bipush (pc := 2) C dX9_man_2 bc_69 ?_
  refine J_bind hF (fun q4 hq hF => ?_)
  refine J_callS0_ip (pc := 4) (stk := [.int 69, .int 0, .int x1]) (st := []) C dX9_man_4 yw_X9_in w_MLX9_59 st_X9_in (kX9_in hq) rfl (by decide) rfl (Nat.le_of_ble_eq_true rfl) ?_
  refine J_if_eq (pc := 7) (tgt := 19) C dX9_man_7 rfl hF (fun hF => ?_) (fun hF => ?_)
  · refine J_aload_n (pc := 19) C dX9_man_19 rfl ?_
    refine J_iconst (pc := 20) C dX9_man_20 ic_1 ?_
    refine J_bind hF (fun q21 hq hF => ?_)
    refine J_callV0_i (pc := 21) (stk := [.int 1, .ref a0]) (st := []) C dX9_man_21 yw_X9_error w_MLX9_63 in_X9_error sl_X9_error ⟨_, rfl, rfl⟩ (kX9_error hq) (gO_some hq).1 rfl (by decide) rfl (Nat.le_of_ble_eq_true rfl) ?_
    exact J_iret (pc := 24) C dX9_man_24 hF (by decide) (by decide)
  · refine J_iload_n (pc := 10) C dX9_man_10 rfl ?_
    refine J_iconst (pc := 11) C dX9_man_11 ic_0 ?_
    refine J_iconst (pc := 12) C dX9_man_12 ic_1 ?_
    refine J_bind hF (fun q13 hq hF => ?_)
    refine J_callS0_ip (pc := 13) (stk := [.int 1, .int 0, .int x2]) (st := []) C dX9_man_13 yw_X9_in w_MLX9_59 st_X9_in (kX9_in hq) rfl (by decide) rfl (Nat.le_of_ble_eq_true rfl) ?_
    refine J_if_ne (pc := 16) (tgt := 25) C dX9_man_16 rfl hF (fun hF => ?_) (fun hF => ?_)
    · refine J_aload_n (pc := 19) C dX9_man_19 rfl ?_
      refine J_iconst (pc := 20) C dX9_man_20 ic_1 ?_
      refine J_bind hF (fun q21 hq hF => ?_)
      refine J_callV0_i (pc := 21) (stk := [.int 1, .ref a0]) (st := []) C dX9_man_21 yw_X9_error w_MLX9_63 in_X9_error sl_X9_error ⟨_, rfl, rfl⟩ (kX9_error hq) (gO_some hq).1 rfl (by decide) rfl (Nat.le_of_ble_eq_true rfl) ?_
      exact J_iret (pc := 24) C dX9_man_24 hF (by decide) (by decide)
    · refine J_aload_n (pc := 25) C dX9_man_25 rfl ?_
      refine J_getR (pc := 26) C dX9_man_26 fg_X9_7 hF (fun r26 hF => ?_)
      refine J_iconst (pc := 29) C dX9_man_29 ic_1 ?_
      refine J_iald (pc := 30) C dX9_man_30 hF (fun v30 hF => ?_)
      refine J_iconst (pc := 31) C dX9_man_31 ic_4 ?_
      refine J_icmp_ne (pc := 32) (tgt := 41) C dX9_man_32 rfl hF (fun hF => ?_) (fun hF => ?_)
      · refine J_aload_n (pc := 35) C dX9_man_35 rfl ?_
        refine J_iconst (pc := 36) C dX9_man_36 ic_4 ?_
        refine J_bind hF (fun q37 hq hF => ?_)
        refine J_callV0_i (pc := 37) (stk := [.int 4, .ref a0]) (st := []) C dX9_man_37 yw_X9_error w_MLX9_63 in_X9_error sl_X9_error ⟨_, rfl, rfl⟩ (kX9_error hq) (gO_some hq).1 rfl (by decide) rfl (Nat.le_of_ble_eq_true rfl) ?_
        exact J_iret (pc := 40) C dX9_man_40 hF (by decide) (by decide)
      · refine J_aload_n (pc := 41) C dX9_man_41 rfl ?_
        refine J_getR (pc := 42) C dX9_man_42 fg_X9_7 hF (fun r42 hF => ?_)
        refine J_iconst (pc := 45) C dX9_man_45 ic_1 ?_
        refine J_iald (pc := 46) C dX9_man_46 hF (fun v46 hF => ?_)
        refine J_istore_n (pc := 47) (lv' := [some (.ref a0), some (.int x1), some (.int x2), some (.int v46)]) C dX9_man_47 rfl ?_
        refine J_aload_n (pc := 48) C dX9_man_48 rfl ?_
        refine J_iload_n (pc := 49) C dX9_man_49 rfl ?_
        refine J_iconst (pc := 50) C dX9_man_50 ic_0 ?_
        refine J_iload_n (pc := 51) C dX9_man_51 rfl ?_
        refine J_bipush (pc := 52) C dX9_man_52 bc_10 ?_
        refine J_idiv (pc := 54) C dX9_man_54 hF (fun v54 hF => ?_)
        refine J_bind hF (fun q55 hq hF => ?_)
        refine J_callV0_v (pc := 55) (stk := [.int v54, .int 0, .int v46, .ref a0]) (st := []) C dX9_man_55 yw_X9_lays1 w_MLX9_142 in_X9_lays1 sl_X9_lays1 ⟨_, rfl, rfl⟩ (kX9_lays1 hq) (gO_some hq).1 rfl (by decide) rfl (Nat.le_of_ble_eq_true rfl) ?_
        refine J_aload_n (pc := 58) C dX9_man_58 rfl ?_
        refine J_iload_n (pc := 59) C dX9_man_59 rfl ?_
        refine J_iconst (pc := 60) C dX9_man_60 ic_1 ?_
        refine J_iload_n (pc := 61) C dX9_man_61 rfl ?_
        refine J_bipush (pc := 62) C dX9_man_62 bc_10 ?_
        refine J_irem (pc := 64) C dX9_man_64 hF (fun v64 hF => ?_)
        refine J_bind hF (fun q65 hq hF => ?_)
        refine J_callV0_v (pc := 65) (stk := [.int v64, .int 1, .int v46, .ref a0]) (st := []) C dX9_man_65 yw_X9_lays1 w_MLX9_142 in_X9_lays1 sl_X9_lays1 ⟨_, rfl, rfl⟩ (kX9_lays1 hq) (gO_some hq).1 rfl (by decide) rfl (Nat.le_of_ble_eq_true rfl) ?_
        refine J_aload_n (pc := 68) C dX9_man_68 rfl ?_
        refine J_iload_n (pc := 69) C dX9_man_69 rfl ?_
        refine J_iconst (pc := 70) C dX9_man_70 ic_2 ?_
        refine J_iload_n (pc := 71) C dX9_man_71 rfl ?_
        refine J_bind hF (fun q72 hq hF => ?_)
        refine J_callV0_v (pc := 72) (stk := [.int x2, .int 2, .int v46, .ref a0]) (st := []) C dX9_man_72 yw_X9_lays1 w_MLX9_142 in_X9_lays1 sl_X9_lays1 ⟨_, rfl, rfl⟩ (kX9_lays1 hq) (gO_some hq).1 rfl (by decide) rfl (Nat.le_of_ble_eq_true rfl) ?_
        refine J_aload_n (pc := 75) C dX9_man_75 rfl ?_
        refine J_iload_n (pc := 76) C dX9_man_76 rfl ?_
        refine J_iconst (pc := 77) C dX9_man_77 ic_3 ?_
        refine J_iconst (pc := 78) C dX9_man_78 ic_0 ?_
        refine J_bind hF (fun q79 hq hF => ?_)
        refine J_callV0_v (pc := 79) (stk := [.int 0, .int 3, .int v46, .ref a0]) (st := []) C dX9_man_79 yw_X9_lays1 w_MLX9_142 in_X9_lays1 sl_X9_lays1 ⟨_, rfl, rfl⟩ (kX9_lays1 hq) (gO_some hq).1 rfl (by decide) rfl (Nat.le_of_ble_eq_true rfl) ?_
        refine J_aload_n (pc := 82) C dX9_man_82 rfl ?_
        refine J_iload_n (pc := 83) C dX9_man_83 rfl ?_
        refine J_iconst (pc := 84) C dX9_man_84 ic_4 ?_
        refine J_iconst (pc := 85) C dX9_man_85 ic_0 ?_
        refine J_bind hF (fun q86 hq hF => ?_)
        refine J_callV0_v (pc := 86) (stk := [.int 0, .int 4, .int v46, .ref a0]) (st := []) C dX9_man_86 yw_X9_lays1 w_MLX9_142 in_X9_lays1 sl_X9_lays1 ⟨_, rfl, rfl⟩ (kX9_lays1 hq) (gO_some hq).1 rfl (by decide) rfl (Nat.le_of_ble_eq_true rfl) ?_
        refine J_aload_n (pc := 89) C dX9_man_89 rfl ?_
        refine J_getR (pc := 90) C dX9_man_90 fg_X9_7 hF (fun r90 hF => ?_)
        refine J_iconst (pc := 93) C dX9_man_93 ic_1 ?_
        refine J_dup2 (pc := 94) C dX9_man_94 rfl rfl ?_
        refine J_iald (pc := 95) C dX9_man_95 hF (fun v95 hF => ?_)
        refine J_iconst (pc := 96) C dX9_man_96 ic_1 ?_
        refine J_iadd (pc := 97) C dX9_man_97 ?_
        refine J_iast (pc := 98) C dX9_man_98 hF (fun h98 hF => ?_)
        refine J_iload_n (pc := 99) C dX9_man_99 rfl ?_
        exact J_iret (pc := 100) C dX9_man_100 hF (by decide) (by decide)
def fX9_manIs (h : Hp) (a0 : Nat) (x1 : Int32) (x2 : Int32) : Option (Int32 × Hp) := gO h 9 a0 (
  (fX9_isMan h a0 x1).bind fun q2 =>
  if q2 = 0 then
    (fX9_error h a0 1).bind fun q20 =>
    some (q20.1, q20.2)
  else
    (fX9_in x2 0 14).bind fun q12 =>
    if q12 = 0 then
      (fX9_error h a0 1).bind fun q20 =>
      some (q20.1, q20.2)
    else
      if x2 ≤ 6 then
        if x2 = 4 then
          (fX9_keeps h a0 x1).bind fun q66 =>
          some (q66.1, q66.2)
        else
          if x2 = 5 then
            (fX9_fare h a0 x1).bind fun q79 =>
            some (q79.1, q79.2)
          else
            if x2 = 6 then
              (fX9_its h a0 x1 4).bind fun q94 =>
              some (q94, h)
            else
              (fX9_its h a0 x1 x2).bind fun q103 =>
              some (q103, h)
      else
        (fX9_its h a0 x1 4).bind fun q37 =>
        if q37 ≤ (x2 - 7) then
          some ((-1), h)
        else
          (fX9_its h a0 x1 ((5 + x2) - 7)).bind fun q51 =>
          some (q51, h))
set_option maxRecDepth 100000 in
theorem kX9_manIs {h : Hp} {a0 : Nat} {x1 : Int32} {x2 : Int32} {z : (Int32 × Hp)} (hF : fX9_manIs h a0 x1 x2 = some z) : Mc yX9_manIs cX9_manIs 3 (some .int) 4 0 0 [.ref a0, .int x1, .int x2] h (some (.int z.1), z.2) := by
  have hF := (gO_some hF).2
  refine Mc_of [some (.ref a0), some (.int x1), some (.int x2)] plX9 rfl rfl (Nat.le_of_ble_eq_true rfl) (fun X C => ?_)
  refine J_aload_n (pc := 0) C dX9_manIs_0 rfl ?_
  refine J_iload_n (pc := 1) C dX9_manIs_1 rfl ?_
  refine J_bind hF (fun q2 hq hF => ?_)
  refine J_callV0_ip (pc := 2) (stk := [.int x1, .ref a0]) (st := []) C dX9_manIs_2 yw_X9_isMan w_MLX9_168 in_X9_isMan sl_X9_isMan ⟨_, rfl, rfl⟩ (kX9_isMan hq) (gO_some hq).1 rfl (by decide) rfl (Nat.le_of_ble_eq_true rfl) ?_
  refine J_if_eq (pc := 5) (tgt := 18) C dX9_manIs_5 rfl hF (fun hF => ?_) (fun hF => ?_)
  · refine J_aload_n (pc := 18) C dX9_manIs_18 rfl ?_
    refine J_iconst (pc := 19) C dX9_manIs_19 ic_1 ?_
    refine J_bind hF (fun q20 hq hF => ?_)
    refine J_callV0_i (pc := 20) (stk := [.int 1, .ref a0]) (st := []) C dX9_manIs_20 yw_X9_error w_MLX9_63 in_X9_error sl_X9_error ⟨_, rfl, rfl⟩ (kX9_error hq) (gO_some hq).1 rfl (by decide) rfl (Nat.le_of_ble_eq_true rfl) ?_
    exact J_iret (pc := 23) C dX9_manIs_23 hF (by decide) (by decide)
  · refine J_iload_n (pc := 8) C dX9_manIs_8 rfl ?_
    refine J_iconst (pc := 9) C dX9_manIs_9 ic_0 ?_
    refine J_bipush (pc := 10) C dX9_manIs_10 bc_14 ?_
    refine J_bind hF (fun q12 hq hF => ?_)
    refine J_callS0_ip (pc := 12) (stk := [.int 14, .int 0, .int x2]) (st := []) C dX9_manIs_12 yw_X9_in w_MLX9_59 st_X9_in (kX9_in hq) rfl (by decide) rfl (Nat.le_of_ble_eq_true rfl) ?_
    refine J_if_ne (pc := 15) (tgt := 24) C dX9_manIs_15 rfl hF (fun hF => ?_) (fun hF => ?_)
    · refine J_aload_n (pc := 18) C dX9_manIs_18 rfl ?_
      refine J_iconst (pc := 19) C dX9_manIs_19 ic_1 ?_
      refine J_bind hF (fun q20 hq hF => ?_)
      refine J_callV0_i (pc := 20) (stk := [.int 1, .ref a0]) (st := []) C dX9_manIs_20 yw_X9_error w_MLX9_63 in_X9_error sl_X9_error ⟨_, rfl, rfl⟩ (kX9_error hq) (gO_some hq).1 rfl (by decide) rfl (Nat.le_of_ble_eq_true rfl) ?_
      exact J_iret (pc := 23) C dX9_manIs_23 hF (by decide) (by decide)
    · refine J_iload_n (pc := 24) C dX9_manIs_24 rfl ?_
      refine J_bipush (pc := 25) C dX9_manIs_25 bc_6 ?_
      refine J_icmp_le (pc := 27) (tgt := 59) C dX9_manIs_27 rfl hF (fun hF => ?_) (fun hF => ?_)
      · refine J_iload_n (pc := 59) C dX9_manIs_59 rfl ?_
        refine J_iconst (pc := 60) C dX9_manIs_60 ic_4 ?_
        refine J_icmp_ne (pc := 61) (tgt := 72) C dX9_manIs_61 rfl hF (fun hF => ?_) (fun hF => ?_)
        · refine J_aload_n (pc := 64) C dX9_manIs_64 rfl ?_
          refine J_iload_n (pc := 65) C dX9_manIs_65 rfl ?_
          refine J_bind hF (fun q66 hq hF => ?_)
          refine J_callV0_i (pc := 66) (stk := [.int x1, .ref a0]) (st := []) C dX9_manIs_66 yw_X9_keeps w_MLX9_146 in_X9_keeps sl_X9_keeps ⟨_, rfl, rfl⟩ (kX9_keeps hq) (gO_some hq).1 rfl (by decide) rfl (Nat.le_of_ble_eq_true rfl) ?_
          refine J_goto (pc := 69) (tgt := 106) C dX9_manIs_69 rfl ?_
          exact J_iret (pc := 106) C dX9_manIs_106 hF (by decide) (by decide)
        · refine J_iload_n (pc := 72) C dX9_manIs_72 rfl ?_
          refine J_iconst (pc := 73) C dX9_manIs_73 ic_5 ?_
          refine J_icmp_ne (pc := 74) (tgt := 85) C dX9_manIs_74 rfl hF (fun hF => ?_) (fun hF => ?_)
          · refine J_aload_n (pc := 77) C dX9_manIs_77 rfl ?_
            refine J_iload_n (pc := 78) C dX9_manIs_78 rfl ?_
            refine J_bind hF (fun q79 hq hF => ?_)
            refine J_callV0_i (pc := 79) (stk := [.int x1, .ref a0]) (st := []) C dX9_manIs_79 yw_X9_fare w_MLX9_171 in_X9_fare sl_X9_fare ⟨_, rfl, rfl⟩ (kX9_fare hq) (gO_some hq).1 rfl (by decide) rfl (Nat.le_of_ble_eq_true rfl) ?_
            refine J_goto (pc := 82) (tgt := 106) C dX9_manIs_82 rfl ?_
            exact J_iret (pc := 106) C dX9_manIs_106 hF (by decide) (by decide)
          · refine J_iload_n (pc := 85) C dX9_manIs_85 rfl ?_
            refine J_bipush (pc := 86) C dX9_manIs_86 bc_6 ?_
            refine J_icmp_ne (pc := 88) (tgt := 100) C dX9_manIs_88 rfl hF (fun hF => ?_) (fun hF => ?_)
            · refine J_aload_n (pc := 91) C dX9_manIs_91 rfl ?_
              refine J_iload_n (pc := 92) C dX9_manIs_92 rfl ?_
              refine J_iconst (pc := 93) C dX9_manIs_93 ic_4 ?_
              refine J_bind hF (fun q94 hq hF => ?_)
              refine J_callV0_ip (pc := 94) (stk := [.int 4, .int x1, .ref a0]) (st := []) C dX9_manIs_94 yw_X9_its w_MLX9_123 in_X9_its sl_X9_its ⟨_, rfl, rfl⟩ (kX9_its hq) (gO_some hq).1 rfl (by decide) rfl (Nat.le_of_ble_eq_true rfl) ?_
              refine J_goto (pc := 97) (tgt := 106) C dX9_manIs_97 rfl ?_
              exact J_iret (pc := 106) C dX9_manIs_106 hF (by decide) (by decide)
            · refine J_aload_n (pc := 100) C dX9_manIs_100 rfl ?_
              refine J_iload_n (pc := 101) C dX9_manIs_101 rfl ?_
              refine J_iload_n (pc := 102) C dX9_manIs_102 rfl ?_
              refine J_bind hF (fun q103 hq hF => ?_)
              refine J_callV0_ip (pc := 103) (stk := [.int x2, .int x1, .ref a0]) (st := []) C dX9_manIs_103 yw_X9_its w_MLX9_123 in_X9_its sl_X9_its ⟨_, rfl, rfl⟩ (kX9_its hq) (gO_some hq).1 rfl (by decide) rfl (Nat.le_of_ble_eq_true rfl) ?_
              exact J_iret (pc := 106) C dX9_manIs_106 hF (by decide) (by decide)
      · refine J_iload_n (pc := 30) C dX9_manIs_30 rfl ?_
        refine J_bipush (pc := 31) C dX9_manIs_31 bc_7 ?_
        refine J_isub (pc := 33) C dX9_manIs_33 ?_
        refine J_aload_n (pc := 34) C dX9_manIs_34 rfl ?_
        refine J_iload_n (pc := 35) C dX9_manIs_35 rfl ?_
        refine J_iconst (pc := 36) C dX9_manIs_36 ic_4 ?_
        refine J_bind hF (fun q37 hq hF => ?_)
        refine J_callV0_ip (pc := 37) (stk := [.int 4, .int x1, .ref a0, .int (x2 - 7)]) (st := [.int (x2 - 7)]) C dX9_manIs_37 yw_X9_its w_MLX9_123 in_X9_its sl_X9_its ⟨_, rfl, rfl⟩ (kX9_its hq) (gO_some hq).1 rfl (by decide) rfl (Nat.le_of_ble_eq_true rfl) ?_
        refine J_icmp_ge (pc := 40) (tgt := 57) C dX9_manIs_40 rfl hF (fun hF => ?_) (fun hF => ?_)
        · refine J_iconst (pc := 57) C dX9_manIs_57 ic_m1 ?_
          exact J_iret (pc := 58) C dX9_manIs_58 hF (by decide) (by decide)
        · refine J_aload_n (pc := 43) C dX9_manIs_43 rfl ?_
          refine J_iload_n (pc := 44) C dX9_manIs_44 rfl ?_
          refine J_iconst (pc := 45) C dX9_manIs_45 ic_5 ?_
          refine J_iload_n (pc := 46) C dX9_manIs_46 rfl ?_
          refine J_iadd (pc := 47) C dX9_manIs_47 ?_
          refine J_bipush (pc := 48) C dX9_manIs_48 bc_7 ?_
          refine J_isub (pc := 50) C dX9_manIs_50 ?_
          refine J_bind hF (fun q51 hq hF => ?_)
          refine J_callV0_ip (pc := 51) (stk := [.int ((5 + x2) - 7), .int x1, .ref a0]) (st := []) C dX9_manIs_51 yw_X9_its w_MLX9_123 in_X9_its sl_X9_its ⟨_, rfl, rfl⟩ (kX9_its hq) (gO_some hq).1 rfl (by decide) rfl (Nat.le_of_ble_eq_true rfl) ?_
          refine J_goto (pc := 54) (tgt := 58) C dX9_manIs_54 rfl ?_
          exact J_iret (pc := 58) C dX9_manIs_58 hF (by decide) (by decide)
def fX9_memory_30 : Nat → Hp → Nat → Int32 → Int32 → Int32 → Int32 → Int32 → Option (Int32 × Hp)
  | 0, _, _, _, _, _, _, _ => none
  | n30 + 1, h, a0, x1, x2, x3, x4, x5 =>
    (getR h 9 a0 0).bind fun r33 =>
    (rdI h r33 4).bind fun v37 =>
    if v37 ≤ x5 then
      (fX9_error h a0 2).bind fun q109 =>
      some (q109.1, q109.2)
    else
      (getR h 9 a0 0).bind fun r42 =>
      (rdI h r42 (100 + x5)).bind fun v50 =>
      (rmz v50 10).bind fun v53 =>
      (getR h 9 a0 0).bind fun r57 =>
      (rdI h r57 (100 + x5)).bind fun v65 =>
      (dvz v65 10).bind fun v68 =>
      if v68 = x1 then
        if ((x3 >>> (v53 &&& 31)) &&& 1) = 0 then
          if v53 = x2 then
            some (x4 + 1, h)
          else
            fX9_memory_30 n30 h a0 x1 x2 (x3 ||| ((1 : Int32) <<< (v53 &&& 31))) (x4 + 1) (x5 + 1)
        else
          fX9_memory_30 n30 h a0 x1 x2 x3 x4 (x5 + 1)
      else
        fX9_memory_30 n30 h a0 x1 x2 x3 x4 (x5 + 1)
set_option maxRecDepth 100000 in
theorem kX9_memory_30 {X : Cx} {z : (Int32 × Hp)} (C : Jc X yX9_memory cX9_memory 7 (some .int) 2 0 0 (some (.int z.1), z.2)) : ∀ (n30 : Nat) (h : Hp) (a0 : Nat) (x1 : Int32) (x2 : Int32) (x3 : Int32) (x4 : Int32) (x5 : Int32), fX9_memory_30 n30 h a0 x1 x2 x3 x4 x5 = some z → J X 0 0 0 0 30 [some (.ref a0), some (.int x1), some (.int x2), some (.int x3), some (.int x4), some (.int x5), none] [] h := by
  intro n30
  induction n30 with
  | zero => intro h a0 x1 x2 x3 x4 x5 hF; cases hF
  | succ n30 ih =>
    intro h a0 x1 x2 x3 x4 x5 hF
    rw [fX9_memory_30] at hF
    refine J_iload (pc := 30) C dX9_memory_30 rfl ?_
    refine J_aload_n (pc := 32) C dX9_memory_32 rfl ?_
    refine J_getR (pc := 33) C dX9_memory_33 fg_X9_7 hF (fun r33 hF => ?_)
    refine J_iconst (pc := 36) C dX9_memory_36 ic_4 ?_
    refine J_iald (pc := 37) C dX9_memory_37 hF (fun v37 hF => ?_)
    refine J_icmp_ge (pc := 38) (tgt := 107) C dX9_memory_38 rfl hF (fun hF => ?_) (fun hF => ?_)
    · refine J_aload_n (pc := 107) C dX9_memory_107 rfl ?_
      refine J_iconst (pc := 108) C dX9_memory_108 ic_2 ?_
      refine J_bind hF (fun q109 hq hF => ?_)
      refine J_callV0_i (pc := 109) (stk := [.int 2, .ref a0]) (st := []) C dX9_memory_109 yw_X9_error w_MLX9_63 in_X9_error sl_X9_error ⟨_, rfl, rfl⟩ (kX9_error hq) (gO_some hq).1 rfl (by decide) rfl (Nat.le_of_ble_eq_true rfl) ?_
      exact J_iret (pc := 112) C dX9_memory_112 hF (by decide) (by decide)
    · refine J_aload_n (pc := 41) C dX9_memory_41 rfl ?_
      refine J_getR (pc := 42) C dX9_memory_42 fg_X9_7 hF (fun r42 hF => ?_)
      refine J_bipush (pc := 45) C dX9_memory_45 bc_100 ?_
      refine J_iload (pc := 47) C dX9_memory_47 rfl ?_
      refine J_iadd (pc := 49) C dX9_memory_49 ?_
      refine J_iald (pc := 50) C dX9_memory_50 hF (fun v50 hF => ?_)
      refine J_bipush (pc := 51) C dX9_memory_51 bc_10 ?_
      refine J_irem (pc := 53) C dX9_memory_53 hF (fun v53 hF => ?_)
      refine J_istore (pc := 54) (lv' := [some (.ref a0), some (.int x1), some (.int x2), some (.int x3), some (.int x4), some (.int x5), some (.int v53)]) C dX9_memory_54 rfl ?_
      refine J_aload_n (pc := 56) C dX9_memory_56 rfl ?_
      refine J_getR (pc := 57) C dX9_memory_57 fg_X9_7 hF (fun r57 hF => ?_)
      refine J_bipush (pc := 60) C dX9_memory_60 bc_100 ?_
      refine J_iload (pc := 62) C dX9_memory_62 rfl ?_
      refine J_iadd (pc := 64) C dX9_memory_64 ?_
      refine J_iald (pc := 65) C dX9_memory_65 hF (fun v65 hF => ?_)
      refine J_bipush (pc := 66) C dX9_memory_66 bc_10 ?_
      refine J_idiv (pc := 68) C dX9_memory_68 hF (fun v68 hF => ?_)
      refine J_iload_n (pc := 69) C dX9_memory_69 rfl ?_
      refine J_icmp_ne (pc := 70) (tgt := 101) C dX9_memory_70 rfl hF (fun hF => ?_) (fun hF => ?_)
      · refine J_iload_n (pc := 73) C dX9_memory_73 rfl ?_
        refine J_iload (pc := 74) C dX9_memory_74 rfl ?_
        refine J_ishr (pc := 76) C dX9_memory_76 ?_
        refine J_iconst (pc := 77) C dX9_memory_77 ic_1 ?_
        refine J_iand (pc := 78) C dX9_memory_78 ?_
        refine J_if_ne (pc := 79) (tgt := 101) C dX9_memory_79 rfl hF (fun hF => ?_) (fun hF => ?_)
        · refine J_iload_n (pc := 82) C dX9_memory_82 rfl ?_
          refine J_iconst (pc := 83) C dX9_memory_83 ic_1 ?_
          refine J_iload (pc := 84) C dX9_memory_84 rfl ?_
          refine J_ishl (pc := 86) C dX9_memory_86 ?_
          refine J_ior (pc := 87) C dX9_memory_87 ?_
          refine J_istore_n (pc := 88) (lv' := [some (.ref a0), some (.int x1), some (.int x2), some (.int (x3 ||| ((1 : Int32) <<< (v53 &&& 31)))), some (.int x4), some (.int x5), some (.int v53)]) C dX9_memory_88 rfl ?_
          refine J_iinc (pc := 89) (lv' := [some (.ref a0), some (.int x1), some (.int x2), some (.int (x3 ||| ((1 : Int32) <<< (v53 &&& 31)))), some (.int (x4 + 1)), some (.int x5), some (.int v53)]) C dX9_memory_89 rfl ic_1 rfl ?_
          refine J_iload (pc := 92) C dX9_memory_92 rfl ?_
          refine J_iload_n (pc := 94) C dX9_memory_94 rfl ?_
          refine J_icmp_ne (pc := 95) (tgt := 101) C dX9_memory_95 rfl hF (fun hF => ?_) (fun hF => ?_)
          · refine J_iload (pc := 98) C dX9_memory_98 rfl ?_
            exact J_iret (pc := 100) C dX9_memory_100 hF (by decide) (by decide)
          · refine J_iinc (pc := 101) (lv' := [some (.ref a0), some (.int x1), some (.int x2), some (.int (x3 ||| ((1 : Int32) <<< (v53 &&& 31)))), some (.int (x4 + 1)), some (.int (x5 + 1)), some (.int v53)]) C dX9_memory_101 rfl ic_1 rfl ?_
            refine J_goto (pc := 104) (tgt := 30) C dX9_memory_104 rfl ?_
            refine J_msk (m := [true, true, true, true, true, true, false]) rfl ?_
            exact ih h a0 x1 x2 (x3 ||| ((1 : Int32) <<< (v53 &&& 31))) (x4 + 1) (x5 + 1) hF
        · refine J_iinc (pc := 101) (lv' := [some (.ref a0), some (.int x1), some (.int x2), some (.int x3), some (.int x4), some (.int (x5 + 1)), some (.int v53)]) C dX9_memory_101 rfl ic_1 rfl ?_
          refine J_goto (pc := 104) (tgt := 30) C dX9_memory_104 rfl ?_
          refine J_msk (m := [true, true, true, true, true, true, false]) rfl ?_
          exact ih h a0 x1 x2 x3 x4 (x5 + 1) hF
      · refine J_iinc (pc := 101) (lv' := [some (.ref a0), some (.int x1), some (.int x2), some (.int x3), some (.int x4), some (.int (x5 + 1)), some (.int v53)]) C dX9_memory_101 rfl ic_1 rfl ?_
        refine J_goto (pc := 104) (tgt := 30) C dX9_memory_104 rfl ?_
        refine J_msk (m := [true, true, true, true, true, true, false]) rfl ?_
        exact ih h a0 x1 x2 x3 x4 (x5 + 1) hF
def fX9_memory (h : Hp) (a0 : Nat) (x1 : Int32) (x2 : Int32) : Option (Int32 × Hp) := gO h 9 a0 (
  (fX9_isMan h a0 x1).bind fun q2 =>
  if q2 = 0 then
    (fX9_error h a0 1).bind fun q18 =>
    some (q18.1, q18.2)
  else
    (fX9_isPerson h a0 x2).bind fun q10 =>
    if q10 = 0 then
      (fX9_error h a0 1).bind fun q18 =>
      some (q18.1, q18.2)
    else
      fX9_memory_30 1000 h a0 x1 x2 0 0 0)
set_option maxRecDepth 100000 in
theorem kX9_memory {h : Hp} {a0 : Nat} {x1 : Int32} {x2 : Int32} {z : (Int32 × Hp)} (hF : fX9_memory h a0 x1 x2 = some z) : Mc yX9_memory cX9_memory 7 (some .int) 2 0 0 [.ref a0, .int x1, .int x2] h (some (.int z.1), z.2) := by
  have hF := (gO_some hF).2
  refine Mc_of [some (.ref a0), some (.int x1), some (.int x2), none, none, none, none] plX9 rfl rfl (Nat.le_of_ble_eq_true rfl) (fun X C => ?_)
  refine J_aload_n (pc := 0) C dX9_memory_0 rfl ?_
  refine J_iload_n (pc := 1) C dX9_memory_1 rfl ?_
  refine J_bind hF (fun q2 hq hF => ?_)
  refine J_callV0_ip (pc := 2) (stk := [.int x1, .ref a0]) (st := []) C dX9_memory_2 yw_X9_isMan w_MLX9_168 in_X9_isMan sl_X9_isMan ⟨_, rfl, rfl⟩ (kX9_isMan hq) (gO_some hq).1 rfl (by decide) rfl (Nat.le_of_ble_eq_true rfl) ?_
  refine J_if_eq (pc := 5) (tgt := 16) C dX9_memory_5 rfl hF (fun hF => ?_) (fun hF => ?_)
  · refine J_aload_n (pc := 16) C dX9_memory_16 rfl ?_
    refine J_iconst (pc := 17) C dX9_memory_17 ic_1 ?_
    refine J_bind hF (fun q18 hq hF => ?_)
    refine J_callV0_i (pc := 18) (stk := [.int 1, .ref a0]) (st := []) C dX9_memory_18 yw_X9_error w_MLX9_63 in_X9_error sl_X9_error ⟨_, rfl, rfl⟩ (kX9_error hq) (gO_some hq).1 rfl (by decide) rfl (Nat.le_of_ble_eq_true rfl) ?_
    exact J_iret (pc := 21) C dX9_memory_21 hF (by decide) (by decide)
  · refine J_aload_n (pc := 8) C dX9_memory_8 rfl ?_
    refine J_iload_n (pc := 9) C dX9_memory_9 rfl ?_
    refine J_bind hF (fun q10 hq hF => ?_)
    refine J_callV0_ip (pc := 10) (stk := [.int x2, .ref a0]) (st := []) C dX9_memory_10 yw_X9_isPerson w_MLX9_156 in_X9_isPerson sl_X9_isPerson ⟨_, rfl, rfl⟩ (kX9_isPerson hq) (gO_some hq).1 rfl (by decide) rfl (Nat.le_of_ble_eq_true rfl) ?_
    refine J_if_ne (pc := 13) (tgt := 22) C dX9_memory_13 rfl hF (fun hF => ?_) (fun hF => ?_)
    · refine J_aload_n (pc := 16) C dX9_memory_16 rfl ?_
      refine J_iconst (pc := 17) C dX9_memory_17 ic_1 ?_
      refine J_bind hF (fun q18 hq hF => ?_)
      refine J_callV0_i (pc := 18) (stk := [.int 1, .ref a0]) (st := []) C dX9_memory_18 yw_X9_error w_MLX9_63 in_X9_error sl_X9_error ⟨_, rfl, rfl⟩ (kX9_error hq) (gO_some hq).1 rfl (by decide) rfl (Nat.le_of_ble_eq_true rfl) ?_
      exact J_iret (pc := 21) C dX9_memory_21 hF (by decide) (by decide)
    · refine J_iconst (pc := 22) C dX9_memory_22 ic_0 ?_
      refine J_istore_n (pc := 23) (lv' := [some (.ref a0), some (.int x1), some (.int x2), some (.int 0), none, none, none]) C dX9_memory_23 rfl ?_
      refine J_iconst (pc := 24) C dX9_memory_24 ic_0 ?_
      refine J_istore (pc := 25) (lv' := [some (.ref a0), some (.int x1), some (.int x2), some (.int 0), some (.int 0), none, none]) C dX9_memory_25 rfl ?_
      refine J_iconst (pc := 27) C dX9_memory_27 ic_0 ?_
      refine J_istore (pc := 28) (lv' := [some (.ref a0), some (.int x1), some (.int x2), some (.int 0), some (.int 0), some (.int 0), none]) C dX9_memory_28 rfl ?_
      exact kX9_memory_30 C 1000 h a0 x1 x2 0 0 0 hF
