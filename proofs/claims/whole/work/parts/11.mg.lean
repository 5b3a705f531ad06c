def fX9_text_101 : Nat → Hp → Nat → Int32 → Int32 → Option (Int32 × Hp)
  | 0, _, _, _, _ => none
  | n101 + 1, h, a0, x3, x4 =>
    (getI h 9 a0 8).bind fun v105 =>
    if (2 * v105) ≤ x4 then
      some (1, h)
    else
      (getR h 9 a0 0).bind fun r113 =>
      (getR h 9 a0 10).bind fun r123 =>
      (rdI h r123 x4).bind fun v128 =>
      (wrI h r113 ((x3 + 1) + x4) v128).bind fun h129 =>
      fX9_text_101 n101 h129 a0 x3 (x4 + 1)
set_option maxRecDepth 100000 in
theorem kX9_text_101 {X : Cx} {z : (Int32 × Hp)} (C : Jc X yX9_text cX9_text 5 (some .int) 66 0 0 (some (.int z.1), z.2)) : ∀ (n101 : Nat) (h : Hp) (a0 : Nat) (x3 : Int32) (x4 : Int32), fX9_text_101 n101 h a0 x3 x4 = some z → J X 0 0 0 0 101 [some (.ref a0), none, none, some (.int x3), some (.int x4)] [] h := by
  intro n101
  induction n101 with
  | zero => intro h a0 x3 x4 hF; cases hF
  | succ n101 ih =>
    intro h a0 x3 x4 hF
    rw [fX9_text_101] at hF
    refine J_iload (pc := 101) C dX9_text_101 rfl ?_
    refine J_iconst (pc := 103) C dX9_text_103 ic_2 ?_
    refine J_aload_n (pc := 104) C dX9_text_104 rfl ?_
    refine J_getI (pc := 105) C dX9_text_105 fg_X9_76 hF (fun v105 hF => ?_)
    refine J_imul (pc := 108) C dX9_text_108 ?_
    refine J_icmp_ge (pc := 109) (tgt := 136) C dX9_text_109 rfl hF (fun hF => ?_) (fun hF => ?_)
    · refine J_iconst (pc := 136) C dX9_text_136 ic_1 ?_
      exact J_iret (pc := 137) C dX9_text_137 hF (by decide) (by decide)
    · refine J_aload_n (pc := 112) C dX9_text_112 rfl ?_
      refine J_getR (pc := 113) C dX9_text_113 fg_X9_7 hF (fun r113 hF => ?_)
      refine J_iload_n (pc := 116) C dX9_text_116 rfl ?_
      refine J_iconst (pc := 117) C dX9_text_117 ic_1 ?_
      refine J_iadd (pc := 118) C dX9_text_118 ?_
      refine J_iload (pc := 119) C dX9_text_119 rfl ?_
      refine J_iadd (pc := 121) C dX9_text_121 ?_
      refine J_aload_n (pc := 122) C dX9_text_122 rfl ?_
      refine J_getR (pc := 123) C dX9_text_123 fg_X9_25 hF (fun r123 hF => ?_)
      refine J_iload (pc := 126) C dX9_text_126 rfl ?_
      refine J_iald (pc := 128) C dX9_text_128 hF (fun v128 hF => ?_)
      refine J_iast (pc := 129) C dX9_text_129 hF (fun h129 hF => ?_)
      refine J_iinc (pc := 130) (lv' := [some (.ref a0), none, none, some (.int x3), some (.int (x4 + 1))]) C dX9_text_130 rfl ic_1 rfl ?_
      refine J_goto (pc := 133) (tgt := 101) C dX9_text_133 rfl ?_
      exact ih h129 a0 x3 (x4 + 1) hF
def fX9_text_60 (h : Hp) (a0 : Nat) (x1 : Int32) (y0 : Int32) : Option (Int32 × Hp) :=
  (getR h 9 a0 0).bind fun r62 =>
  (wrI h r62 5 0).bind fun h67 =>
  if y0 = 0 then
    (getI h67 9 a0 6).bind fun v75 =>
    some (((-10)) - v75, h67)
  else
    (getR h67 9 a0 0).bind fun r89 =>
    (getI h67 9 a0 8).bind fun v94 =>
    (wrI h67 r89 (124 + (125 * x1)) v94).bind fun h97 =>
    fX9_text_101 1000 h97 a0 (124 + (125 * x1)) 0
set_option maxRecDepth 100000 in
theorem kX9_text_60 {X : Cx} {z : (Int32 × Hp)} (C : Jc X yX9_text cX9_text 5 (some .int) 66 0 0 (some (.int z.1), z.2)) (h : Hp) (a0 : Nat) (x1 : Int32) (y0 : Int32) (hF : fX9_text_60 h a0 x1 y0 = some z) : J X 0 0 0 0 60 [some (.ref a0), some (.int x1), none, none, none] [.int y0] h := by
  unfold fX9_text_60 at hF
  refine J_istore_n (pc := 60) (lv' := [some (.ref a0), some (.int x1), some (.int y0), none, none]) C dX9_text_60 rfl ?_
  refine J_aload_n (pc := 61) C dX9_text_61 rfl ?_
  refine J_getR (pc := 62) C dX9_text_62 fg_X9_7 hF (fun r62 hF => ?_)
  refine J_iconst (pc := 65) C dX9_text_65 ic_5 ?_
  refine J_iconst (pc := 66) C dX9_text_66 ic_0 ?_
  refine J_iast (pc := 67) C dX9_text_67 hF (fun h67 hF => ?_)
  refine J_iload_n (pc := 68) C dX9_text_68 rfl ?_
  refine J_if_ne (pc := 69) (tgt := 80) C dX9_text_69 rfl hF (fun hF => ?_) (fun hF => ?_)
  · refine J_bipush (pc := 72) C dX9_text_72 bc_m10 ?_
    refine J_aload_n (pc := 74) C dX9_text_74 rfl ?_
    refine J_getI (pc := 75) C dX9_text_75 fg_X9_69 hF (fun v75 hF => ?_)
    refine J_isub (pc := 78) C dX9_text_78 ?_
    exact J_iret (pc := 79) C dX9_text_79 hF (by decide) (by decide)
  · refine J_bipush (pc := 80) C dX9_text_80 bc_124 ?_
    refine J_bipush (pc := 82) C dX9_text_82 bc_125 ?_
    refine J_iload_n (pc := 84) C dX9_text_84 rfl ?_
    refine J_imul (pc := 85) C dX9_text_85 ?_
    refine J_iadd (pc := 86) C dX9_text_86 ?_
    refine J_istore_n (pc := 87) (lv' := [some (.ref a0), some (.int x1), some (.int y0), some (.int (124 + (125 * x1))), none]) C dX9_text_87 rfl ?_
    refine J_aload_n (pc := 88) C dX9_text_88 rfl ?_
    refine J_getR (pc := 89) C dX9_text_89 fg_X9_7 hF (fun r89 hF => ?_)
    refine J_iload_n (pc := 92) C dX9_text_92 rfl ?_
    refine J_aload_n (pc := 93) C dX9_text_93 rfl ?_
    refine J_getI (pc := 94) C dX9_text_94 fg_X9_76 hF (fun v94 hF => ?_)
    refine J_iast (pc := 97) C dX9_text_97 hF (fun h97 hF => ?_)
    refine J_iconst (pc := 98) C dX9_text_98 ic_0 ?_
    refine J_istore (pc := 99) (lv' := [some (.ref a0), some (.int x1), some (.int y0), some (.int (124 + (125 * x1))), some (.int 0)]) C dX9_text_99 rfl ?_
    refine J_msk (m := [true, false, false, true, true]) rfl ?_
    exact kX9_text_101 C 1000 h97 a0 (124 + (125 * x1)) 0 hF
def fX9_text_59 (h : Hp) (a0 : Nat) (x1 : Int32) : Option (Int32 × Hp) :=
  fX9_text_60 h a0 x1 0
set_option maxRecDepth 100000 in
theorem kX9_text_59 {X : Cx} {z : (Int32 × Hp)} (C : Jc X yX9_text cX9_text 5 (some .int) 66 0 0 (some (.int z.1), z.2)) (h : Hp) (a0 : Nat) (x1 : Int32) (hF : fX9_text_59 h a0 x1 = some z) : J X 0 0 0 0 59 [some (.ref a0), some (.int x1), none, none, none] [] h := by
  unfold fX9_text_59 at hF
  refine J_iconst (pc := 59) C dX9_text_59 ic_0 ?_
  exact kX9_text_60 C h a0 x1 0 hF
def fX9_text (h : Hp) (a0 : Nat) (x1 : Int32) : Option (Int32 × Hp) := gO h 9 a0 (
  (fX9_in x1 0 1).bind fun q3 =>
  if q3 = 0 then
    (fX9_error h a0 1).bind fun q11 =>
    some (q11.1, q11.2)
  else
    (putV h 9 a0 9 (.int x1)).bind fun h17 =>
    (putV h17 9 a0 6 (.int 0)).bind fun h22 =>
    (putV h22 9 a0 7 (.int 0)).bind fun h27 =>
    (putV h27 9 a0 8 (.int 0)).bind fun h32 =>
    (fX9_whole h32 a0).bind fun q36 =>
    if q36.1 = 0 then
      fX9_text_59 q36.2 a0 x1
    else
      (getI q36.2 9 a0 6).bind fun v43 =>
      (getR q36.2 9 a0 0).bind fun r47 =>
      (rdI q36.2 r47 5).bind fun v51 =>
      if v43 = v51 then
        fX9_text_60 q36.2 a0 x1 1
      else
        fX9_text_59 q36.2 a0 x1)
set_option maxRecDepth 100000 in
theorem kX9_text {h : Hp} {a0 : Nat} {x1 : Int32} {z : (Int32 × Hp)} (hF : fX9_text h a0 x1 = some z) : Mc yX9_text cX9_text 5 (some .int) 66 0 0 [.ref a0, .int x1] h (some (.int z.1), z.2) := by
  have hF := (gO_some hF).2
  refine Mc_of [some (.ref a0), some (.int x1), none, none, none] plX9 rfl rfl (Nat.le_of_ble_eq_true rfl) (fun X C => ?_)
  refine J_iload_n (pc := 0) C dX9_text_0 rfl ?_
  refine J_iconst (pc := 1) C dX9_text_1 ic_0 ?_
  refine J_iconst (pc := 2) C dX9_text_2 ic_1 ?_
  refine J_bind hF (fun q3 hq hF => ?_)
  refine J_callS0_ip (pc := 3) (stk := [.int 1, .int 0, .int x1]) (st := []) C dX9_text_3 yw_X9_in w_MLX9_59 st_X9_in (kX9_in hq) rfl (by decide) rfl (Nat.le_of_ble_eq_true rfl) ?_
  refine J_if_ne (pc := 6) (tgt := 15) C dX9_text_6 rfl hF (fun hF => ?_) (fun hF => ?_)
  · refine J_aload_n (pc := 9) C dX9_text_9 rfl ?_
    refine J_iconst (pc := 10) C dX9_text_10 ic_1 ?_
    refine J_bind hF (fun q11 hq hF => ?_)
    refine J_callV0_i (pc := 11) (stk := [.int 1, .ref a0]) (st := []) C dX9_text_11 yw_X9_error w_MLX9_63 in_X9_error sl_X9_error ⟨_, rfl, rfl⟩ (kX9_error hq) (gO_some hq).1 rfl (by decide) rfl (Nat.le_of_ble_eq_true rfl) ?_
    exact J_iret (pc := 14) C dX9_text_14 hF (by decide) (by decide)
  · refine J_aload_n (pc := 15) C dX9_text_15 rfl ?_
    refine J_iload_n (pc := 16) C dX9_text_16 rfl ?_
    refine J_put (pc := 17) C dX9_text_17 (fp_X9_73 _) hF rfl rfl (fun h17 hF => ?_)
    refine J_aload_n (pc := 20) C dX9_text_20 rfl ?_
    refine J_iconst (pc := 21) C dX9_text_21 ic_0 ?_
    refine J_put (pc := 22) C dX9_text_22 (fp_X9_69 _) hF rfl rfl (fun h22 hF => ?_)
    refine J_aload_n (pc := 25) C dX9_text_25 rfl ?_
    refine J_iconst (pc := 26) C dX9_text_26 ic_0 ?_
    refine J_put (pc := 27) C dX9_text_27 (fp_X9_103 _) hF rfl rfl (fun h27 hF => ?_)
    refine J_aload_n (pc := 30) C dX9_text_30 rfl ?_
    refine J_iconst (pc := 31) C dX9_text_31 ic_0 ?_
    refine J_put (pc := 32) C dX9_text_32 (fp_X9_76 _) hF rfl rfl (fun h32 hF => ?_)
    refine J_aload_n (pc := 35) C dX9_text_35 rfl ?_
    refine J_bind hF (fun q36 hq hF => ?_)
    refine J_callV0_i (pc := 36) (stk := [.ref a0]) (st := []) C dX9_text_36 yw_X9_whole w_MLX9_113 in_X9_whole sl_X9_whole ⟨_, rfl, rfl⟩ (kX9_whole hq) (gO_some hq).1 rfl (by decide) rfl (Nat.le_of_ble_eq_true rfl) ?_
    refine J_if_eq (pc := 39) (tgt := 59) C dX9_text_39 rfl hF (fun hF => ?_) (fun hF => ?_)
    · exact kX9_text_59 C q36.2 a0 x1 hF
    · refine J_aload_n (pc := 42) C dX9_text_42 rfl ?_
      refine J_getI (pc := 43) C dX9_text_43 fg_X9_69 hF (fun v43 hF => ?_)
      refine J_aload_n (pc := 46) C dX9_text_46 rfl ?_
      refine J_getR (pc := 47) C dX9_text_47 fg_X9_7 hF (fun r47 hF => ?_)
      refine J_iconst (pc := 50) C dX9_text_50 ic_5 ?_
      refine J_iald (pc := 51) C dX9_text_51 hF (fun v51 hF => ?_)
      refine J_icmp_ne (pc := 52) (tgt := 59) C dX9_text_52 rfl hF (fun hF => ?_) (fun hF => ?_)
      · refine J_iconst (pc := 55) C dX9_text_55 ic_1 ?_
        refine J_goto (pc := 56) (tgt := 60) C dX9_text_56 rfl ?_
        exact kX9_text_60 C q36.2 a0 x1 1 hF
      · exact kX9_text_59 C q36.2 a0 x1 hF
def fX9_told (h : Hp) (a0 : Nat) (x1 : Int32) : Option (Int32 × Hp) := gO h 9 a0 (
  (fX9_in x1 1 6).bind fun q4 =>
  if q4 = 0 then
    (fX9_error h a0 1).bind fun q21 =>
    some (q21.1, q21.2)
  else
    (getR h 9 a0 5).bind fun r11 =>
    (rdI h r11 x1).bind fun v15 =>
    some (v15, h))
set_option maxRecDepth 100000 in
theorem kX9_told {h : Hp} {a0 : Nat} {x1 : Int32} {z : (Int32 × Hp)} (hF : fX9_told h a0 x1 = some z) : Mc yX9_told cX9_told 2 (some .int) 1 0 0 [.ref a0, .int x1] h (some (.int z.1), z.2) := by
  have hF := (gO_some hF).2
  refine Mc_of [some (.ref a0), some (.int x1)] plX9 rfl rfl (Nat.le_of_ble_eq_true rfl) (fun X C => ?_)
  refine J_iload_n (pc := 0) C dX9_told_0 rfl ?_
  refine J_iconst (pc := 1) C dX9_told_1 ic_1 ?_
  refine J_bipush (pc := 2) C dX9_told_2 bc_6 ?_
  refine J_bind hF (fun q4 hq hF => ?_)
  refine J_callS0_ip (pc := 4) (stk := [.int 6, .int 1, .int x1]) (st := []) C dX9_told_4 yw_X9_in w_MLX9_59 st_X9_in (kX9_in hq) rfl (by decide) rfl (Nat.le_of_ble_eq_true rfl) ?_
  refine J_if_eq (pc := 7) (tgt := 19) C dX9_told_7 rfl hF (fun hF => ?_) (fun hF => ?_)
  · refine J_aload_n (pc := 19) C dX9_told_19 rfl ?_
    refine J_iconst (pc := 20) C dX9_told_20 ic_1 ?_
    refine J_bind hF (fun q21 hq hF => ?_)
    refine J_callV0_i (pc := 21) (stk := [.int 1, .ref a0]) (st := []) C dX9_told_21 yw_X9_error w_MLX9_63 in_X9_error sl_X9_error ⟨_, rfl, rfl⟩ (kX9_error hq) (gO_some hq).1 rfl (by decide) rfl (Nat.le_of_ble_eq_true rfl) ?_
    exact J_iret (pc := 24) C dX9_told_24 hF (by decide) (by decide)
  · refine J_aload_n (pc := 10) C dX9_told_10 rfl ?_
    refine J_getR (pc := 11) C dX9_told_11 fg_X9_22 hF (fun r11 hF => ?_)
    refine J_iload_n (pc := 14) C dX9_told_14 rfl ?_
    refine J_iald (pc := 15) C dX9_told_15 hF (fun v15 hF => ?_)
    refine J_goto (pc := 16) (tgt := 24) C dX9_told_16 rfl ?_
    exact J_iret (pc := 24) C dX9_told_24 hF (by decide) (by decide)
def fX9_untell_28 (h : Hp) (a0 : Nat) (x1 : Int32) (y0 : Int32) : Option (Int32 × Hp) :=
  (getR h 9 a0 0).bind fun r30 =>
  (wrI h r30 (124 + (125 * x1)) 0).bind fun h41 =>
  some (y0, h41)
set_option maxRecDepth 100000 in
theorem kX9_untell_28 {X : Cx} {z : (Int32 × Hp)} (C : Jc X yX9_untell cX9_untell 3 (some .int) 1 0 0 (some (.int z.1), z.2)) (h : Hp) (a0 : Nat) (x1 : Int32) (y0 : Int32) (hF : fX9_untell_28 h a0 x1 y0 = some z) : J X 0 0 0 0 28 [some (.ref a0), some (.int x1), none] [.int y0] h := by
  unfold fX9_untell_28 at hF
  refine J_istore_n (pc := 28) (lv' := [some (.ref a0), some (.int x1), some (.int y0)]) C dX9_untell_28 rfl ?_
  refine J_aload_n (pc := 29) C dX9_untell_29 rfl ?_
  refine J_getR (pc := 30) C dX9_untell_30 fg_X9_7 hF (fun r30 hF => ?_)
  refine J_bipush (pc := 33) C dX9_untell_33 bc_124 ?_
  refine J_bipush (pc := 35) C dX9_untell_35 bc_125 ?_
  refine J_iload_n (pc := 37) C dX9_untell_37 rfl ?_
  refine J_imul (pc := 38) C dX9_untell_38 ?_
  refine J_iadd (pc := 39) C dX9_untell_39 ?_
  refine J_iconst (pc := 40) C dX9_untell_40 ic_0 ?_
  refine J_iast (pc := 41) C dX9_untell_41 hF (fun h41 hF => ?_)
  refine J_iload_n (pc := 42) C dX9_untell_42 rfl ?_
  exact J_iret (pc := 43) C dX9_untell_43 hF (by decide) (by decide)
def fX9_untell (h : Hp) (a0 : Nat) (x1 : Int32) : Option (Int32 × Hp) := gO h 9 a0 (
  (fX9_in x1 0 1).bind fun q3 =>
  if q3 = 0 then
    (fX9_error h a0 1).bind fun q11 =>
    some (q11.1, q11.2)
  else
    (fX9_hasText h a0 x1).bind fun q17 =>
    if q17 = 0 then
      fX9_untell_28 h a0 x1 0
    else
      fX9_untell_28 h a0 x1 1)
set_option maxRecDepth 100000 in
theorem kX9_untell {h : Hp} {a0 : Nat} {x1 : Int32} {z : (Int32 × Hp)} (hF : fX9_untell h a0 x1 = some z) : Mc yX9_untell cX9_untell 3 (some .int) 1 0 0 [.ref a0, .int x1] h (some (.int z.1), z.2) := by
  have hF := (gO_some hF).2
  refine Mc_of [some (.ref a0), some (.int x1), none] plX9 rfl rfl (Nat.le_of_ble_eq_true rfl) (fun X C => ?_)
  refine J_iload_n (pc := 0) C dX9_untell_0 rfl ?_
  refine J_iconst (pc := 1) C dX9_untell_1 ic_0 ?_
  refine J_iconst (pc := 2) C dX9_untell_2 ic_1 ?_
  refine J_bind hF (fun q3 hq hF => ?_)
  refine J_callS0_ip (pc := 3) (stk := [.int 1, .int 0, .int x1]) (st := []) C dX9_untell_3 yw_X9_in w_MLX9_59 st_X9_in (kX9_in hq) rfl (by decide) rfl (Nat.le_of_ble_eq_true rfl) ?_
  refine J_if_ne (pc := 6) (tgt := 15) C dX9_untell_6 rfl hF (fun hF => ?_) (fun hF => ?_)
  · refine J_aload_n (pc := 9) C dX9_untell_9 rfl ?_
    refine J_iconst (pc := 10) C dX9_untell_10 ic_1 ?_
    refine J_bind hF (fun q11 hq hF => ?_)
    refine J_callV0_i (pc := 11) (stk := [.int 1, .ref a0]) (st := []) C dX9_untell_11 yw_X9_error w_MLX9_63 in_X9_error sl_X9_error ⟨_, rfl, rfl⟩ (kX9_error hq) (gO_some hq).1 rfl (by decide) rfl (Nat.le_of_ble_eq_true rfl) ?_
    exact J_iret (pc := 14) C dX9_untell_14 hF (by decide) (by decide)
  · refine J_aload_n (pc := 15) C dX9_untell_15 rfl ?_
    refine J_iload_n (pc := 16) C dX9_untell_16 rfl ?_
    refine J_bind hF (fun q17 hq hF => ?_)
    refine J_callV0_ip (pc := 17) (stk := [.int x1, .ref a0]) (st := []) C dX9_untell_17 yw_X9_hasText w_MLX9_116 in_X9_hasText sl_X9_hasText ⟨_, rfl, rfl⟩ (kX9_hasText hq) (gO_some hq).1 rfl (by decide) rfl (Nat.le_of_ble_eq_true rfl) ?_
    refine J_if_eq (pc := 20) (tgt := 27) C dX9_untell_20 rfl hF (fun hF => ?_) (fun hF => ?_)
    · refine J_iconst (pc := 27) C dX9_untell_27 ic_0 ?_
      exact kX9_untell_28 C h a0 x1 0 hF
    · refine J_iconst (pc := 23) C dX9_untell_23 ic_1 ?_
      refine J_goto (pc := 24) (tgt := 28) C dX9_untell_24 rfl ?_
      exact kX9_untell_28 C h a0 x1 1 hF
def fX9_voice_95 (h : Hp) (a0 : Nat) (y0 : Int32) : Option (Int32 × Hp) :=
  (getI h 9 a0 22).bind fun v98 =>
  if v98 = 0 then
    some (y0, h)
  else
    (fX9_error h a0 6).bind fun q107 =>
    some (q107.1, q107.2)
set_option maxRecDepth 100000 in
theorem kX9_voice_95 {X : Cx} {z : (Int32 × Hp)} (C : Jc X yX9_voice cX9_voice 6 (some .int) 60 0 0 (some (.int z.1), z.2)) (h : Hp) (a0 : Nat) (y0 : Int32) (hF : fX9_voice_95 h a0 y0 = some z) : J X 0 0 0 0 95 [some (.ref a0), none, none, none, none, none] [.int y0] h := by
  unfold fX9_voice_95 at hF
  refine J_istore (pc := 95) (lv' := [some (.ref a0), none, none, none, none, some (.int y0)]) C dX9_voice_95 rfl ?_
  refine J_aload_n (pc := 97) C dX9_voice_97 rfl ?_
  refine J_getI (pc := 98) C dX9_voice_98 fg_X9_273 hF (fun v98 hF => ?_)
  refine J_if_eq (pc := 101) (tgt := 113) C dX9_voice_101 rfl hF (fun hF => ?_) (fun hF => ?_)
  · refine J_iload (pc := 113) C dX9_voice_113 rfl ?_
    exact J_iret (pc := 115) C dX9_voice_115 hF (by decide) (by decide)
  · refine J_aload_n (pc := 104) C dX9_voice_104 rfl ?_
    refine J_bipush (pc := 105) C dX9_voice_105 bc_6 ?_
    refine J_bind hF (fun q107 hq hF => ?_)
    refine J_callV0_i (pc := 107) (stk := [.int 6, .ref a0]) (st := []) C dX9_voice_107 yw_X9_error w_MLX9_63 in_X9_error sl_X9_error ⟨_, rfl, rfl⟩ (kX9_error hq) (gO_some hq).1 rfl (by decide) rfl (Nat.le_of_ble_eq_true rfl) ?_
    refine J_goto (pc := 110) (tgt := 115) C dX9_voice_110 rfl ?_
    exact J_iret (pc := 115) C dX9_voice_115 hF (by decide) (by decide)
def fX9_voice (h : Hp) (a0 : Nat) (x1 : Int32) (x2 : Int32) (x3 : Int32) : Option (Int32 × Hp) := gO h 9 a0 (
  (fX9_isMan h a0 x1).bind fun q2 =>
  if q2 = 0 then
    (fX9_error h a0 1).bind fun q19 =>
    some (q19.1, q19.2)
  else
    (fX9_in x2 0 3).bind fun q11 =>
    if q11 = 0 then
      (fX9_error h a0 1).bind fun q19 =>
      some (q19.1, q19.2)
    else
      (putV h 9 a0 20 (.int 0)).bind fun h25 =>
      (putV h25 9 a0 21 (.int x1)).bind fun h30 =>
      (putV h30 9 a0 22 (.int 0)).bind fun h35 =>
      (fX9_kindNow h35 a0).bind fun q39 =>
      if x2 = 0 then
        (fX9_rowsAs h35 a0 q39 x3).bind fun q52 =>
        fX9_voice_95 q52.2 a0 q52.1
      else
        if x2 = 1 then
          (fX9_keepsAs h35 a0 q39 x3).bind fun q67 =>
          fX9_voice_95 q67.2 a0 q67.1
        else
          if x2 = 2 then
            (fX9_asksAs h35 a0 q39 x3).bind fun q82 =>
            fX9_voice_95 q82.2 a0 q82.1
          else
            (fX9_partsAs h35 a0 q39 x3).bind fun q92 =>
            fX9_voice_95 q92.2 a0 q92.1)
set_option maxRecDepth 100000 in
theorem kX9_voice {h : Hp} {a0 : Nat} {x1 : Int32} {x2 : Int32} {x3 : Int32} {z : (Int32 × Hp)} (hF : fX9_voice h a0 x1 x2 x3 = some z) : Mc yX9_voice cX9_voice 6 (some .int) 60 0 0 [.ref a0, .int x1, .int x2, .int x3] h (some (.int z.1), z.2) := by
  have hF := (gO_some hF).2
  refine Mc_of [some (.ref a0), some (.int x1), some (.int x2), some (.int x3), none, none] plX9 rfl rfl (Nat.le_of_ble_eq_true rfl) (fun X C => ?_)
  refine J_aload_n (pc := 0) C dX9_voice_0 rfl ?_
  refine J_iload_n (pc := 1) C dX9_voice_1 rfl ?_
  refine J_bind hF (fun q2 hq hF => ?_)
  refine J_callV0_ip (pc := 2) (stk := [.int x1, .ref a0]) (st := []) C dX9_voice_2 yw_X9_isMan w_MLX9_168 in_X9_isMan sl_X9_isMan ⟨_, rfl, rfl⟩ (kX9_isMan hq) (gO_some hq).1 rfl (by decide) rfl (Nat.le_of_ble_eq_true rfl) ?_
  refine J_if_eq (pc := 5) (tgt := 17) C dX9_voice_5 rfl hF (fun hF => ?_) (fun hF => ?_)
  · refine J_aload_n (pc := 17) C dX9_voice_17 rfl ?_
    refine J_iconst (pc := 18) C dX9_voice_18 ic_1 ?_
    refine J_bind hF (fun q19 hq hF => ?_)
    refine J_callV0_i (pc := 19) (stk := [.int 1, .ref a0]) (st := []) C dX9_voice_19 yw_X9_error w_MLX9_63 in_X9_error sl_X9_error ⟨_, rfl, rfl⟩ (kX9_error hq) (gO_some hq).1 rfl (by decide) rfl (Nat.le_of_ble_eq_true rfl) ?_
    exact J_iret (pc := 22) C dX9_voice_22 hF (by decide) (by decide)
  · refine J_iload_n (pc := 8) C dX9_voice_8 rfl ?_
    refine J_iconst (pc := 9) C dX9_voice_9 ic_0 ?_
    refine J_iconst (pc := 10) C dX9_voice_10 ic_3 ?_
    refine J_bind hF (fun q11 hq hF => ?_)
    refine J_callS0_ip (pc := 11) (stk := [.int 3, .int 0, .int x2]) (st := []) C dX9_voice_11 yw_X9_in w_MLX9_59 st_X9_in (kX9_in hq) rfl (by decide) rfl (Nat.le_of_ble_eq_true rfl) ?_
    refine J_if_ne (pc := 14) (tgt := 23) C dX9_voice_14 rfl hF (fun hF => ?_) (fun hF => ?_)
    · refine J_aload_n (pc := 17) C dX9_voice_17 rfl ?_
      refine J_iconst (pc := 18) C dX9_voice_18 ic_1 ?_
      refine J_bind hF (fun q19 hq hF => ?_)
      refine J_callV0_i (pc := 19) (stk := [.int 1, .ref a0]) (st := []) C dX9_voice_19 yw_X9_error w_MLX9_63 in_X9_error sl_X9_error ⟨_, rfl, rfl⟩ (kX9_error hq) (gO_some hq).1 rfl (by decide) rfl (Nat.le_of_ble_eq_true rfl) ?_
      exact J_iret (pc := 22) C dX9_voice_22 hF (by decide) (by decide)
    · refine J_aload_n (pc := 23) C dX9_voice_23 rfl ?_
      refine J_iconst (pc := 24) C dX9_voice_24 ic_0 ?_
      refine J_put (pc := 25) C dX9_voice_25 (fp_X9_246 _) hF rfl rfl (fun h25 hF => ?_)
      refine J_aload_n (pc := 28) C dX9_voice_28 rfl ?_
      refine J_iload_n (pc := 29) C dX9_voice_29 rfl ?_
      refine J_put (pc := 30) C dX9_voice_30 (fp_X9_249 _) hF rfl rfl (fun h30 hF => ?_)
      refine J_aload_n (pc := 33) C dX9_voice_33 rfl ?_
      refine J_iconst (pc := 34) C dX9_voice_34 ic_0 ?_
      refine J_put (pc := 35) C dX9_voice_35 (fp_X9_273 _) hF rfl rfl (fun h35 hF => ?_)
      refine J_aload_n (pc := 38) C dX9_voice_38 rfl ?_
      refine J_bind hF (fun q39 hq hF => ?_)
      refine J_callV0_ip (pc := 39) (stk := [.ref a0]) (st := []) C dX9_voice_39 yw_X9_kindNow w_MLX9_261 in_X9_kindNow sl_X9_kindNow ⟨_, rfl, rfl⟩ (kX9_kindNow hq) (gO_some hq).1 rfl (by decide) rfl (Nat.le_of_ble_eq_true rfl) ?_
      refine J_istore (pc := 42) (lv' := [some (.ref a0), some (.int x1), some (.int x2), some (.int x3), some (.int q39), none]) C dX9_voice_42 rfl ?_
      refine J_iload_n (pc := 44) C dX9_voice_44 rfl ?_
      refine J_if_ne (pc := 45) (tgt := 58) C dX9_voice_45 rfl hF (fun hF => ?_) (fun hF => ?_)
      · refine J_aload_n (pc := 48) C dX9_voice_48 rfl ?_
        refine J_iload (pc := 49) C dX9_voice_49 rfl ?_
        refine J_iload_n (pc := 51) C dX9_voice_51 rfl ?_
        refine J_bind hF (fun q52 hq hF => ?_)
        refine J_callV0_i (pc := 52) (stk := [.int x3, .int q39, .ref a0]) (st := []) C dX9_voice_52 yw_X9_rowsAs w_MLX9_258 in_X9_rowsAs sl_X9_rowsAs ⟨_, rfl, rfl⟩ (kX9_rowsAs hq) (gO_some hq).1 rfl (by decide) rfl (Nat.le_of_ble_eq_true rfl) ?_
        refine J_goto (pc := 55) (tgt := 95) C dX9_voice_55 rfl ?_
        refine J_msk (m := [true, false, false, false, false, false]) rfl ?_
        exact kX9_voice_95 C q52.2 a0 q52.1 hF
      · refine J_iload_n (pc := 58) C dX9_voice_58 rfl ?_
        refine J_iconst (pc := 59) C dX9_voice_59 ic_1 ?_
        refine J_icmp_ne (pc := 60) (tgt := 73) C dX9_voice_60 rfl hF (fun hF => ?_) (fun hF => ?_)
        · refine J_aload_n (pc := 63) C dX9_voice_63 rfl ?_
          refine J_iload (pc := 64) C dX9_voice_64 rfl ?_
          refine J_iload_n (pc := 66) C dX9_voice_66 rfl ?_
          refine J_bind hF (fun q67 hq hF => ?_)
          refine J_callV0_i (pc := 67) (stk := [.int x3, .int q39, .ref a0]) (st := []) C dX9_voice_67 yw_X9_keepsAs w_MLX9_264 in_X9_keepsAs sl_X9_keepsAs ⟨_, rfl, rfl⟩ (kX9_keepsAs hq) (gO_some hq).1 rfl (by decide) rfl (Nat.le_of_ble_eq_true rfl) ?_
          refine J_goto (pc := 70) (tgt := 95) C dX9_voice_70 rfl ?_
          refine J_msk (m := [true, false, false, false, false, false]) rfl ?_
          exact kX9_voice_95 C q67.2 a0 q67.1 hF
        · refine J_iload_n (pc := 73) C dX9_voice_73 rfl ?_
          refine J_iconst (pc := 74) C dX9_voice_74 ic_2 ?_
          refine J_icmp_ne (pc := 75) (tgt := 88) C dX9_voice_75 rfl hF (fun hF => ?_) (fun hF => ?_)
          · refine J_aload_n (pc := 78) C dX9_voice_78 rfl ?_
            refine J_iload (pc := 79) C dX9_voice_79 rfl ?_
            refine J_iload_n (pc := 81) C dX9_voice_81 rfl ?_
            refine J_bind hF (fun q82 hq hF => ?_)
            refine J_callV0_i (pc := 82) (stk := [.int x3, .int q39, .ref a0]) (st := []) C dX9_voice_82 yw_X9_asksAs w_MLX9_270 in_X9_asksAs sl_X9_asksAs ⟨_, rfl, rfl⟩ (kX9_asksAs hq) (gO_some hq).1 rfl (by decide) rfl (Nat.le_of_ble_eq_true rfl) ?_
            refine J_goto (pc := 85) (tgt := 95) C dX9_voice_85 rfl ?_
            refine J_msk (m := [true, false, false, false, false, false]) rfl ?_
            exact kX9_voice_95 C q82.2 a0 q82.1 hF
          · refine J_aload_n (pc := 88) C dX9_voice_88 rfl ?_
            refine J_iload (pc := 89) C dX9_voice_89 rfl ?_
            refine J_iload_n (pc := 91) C dX9_voice_91 rfl ?_
            refine J_bind hF (fun q92 hq hF => ?_)
            refine J_callV0_i (pc := 92) (stk := [.int x3, .int q39, .ref a0]) (st := []) C dX9_voice_92 yw_X9_partsAs w_MLX9_277 in_X9_partsAs sl_X9_partsAs ⟨_, rfl, rfl⟩ (kX9_partsAs hq) (gO_some hq).1 rfl (by decide) rfl (Nat.le_of_ble_eq_true rfl) ?_
            refine J_msk (m := [true, false, false, false, false, false]) rfl ?_
            exact kX9_voice_95 C q92.2 a0 q92.1 hF
def fX9_way (h : Hp) (a0 : Nat) (x1 : Int32) (x2 : Int32) (x3 : Int32) : Option (Int32 × Hp) := gO h 9 a0 (
  (fX9_isPerson h a0 x1).bind fun q2 =>
  if q2 = 0 then
    (fX9_error h a0 1).bind fun q31 =>
    some (q31.1, q31.2)
  else
    (fX9_in x2 0 6).bind fun q12 =>
    if q12 = 0 then
      (fX9_error h a0 1).bind fun q31 =>
      some (q31.1, q31.2)
    else
      (fX9_in x3 ((-1)) (x2 - 1)).bind fun q23 =>
      if q23 = 0 then
        (fX9_error h a0 1).bind fun q31 =>
        some (q31.1, q31.2)
      else
        (putV h 9 a0 16 (.int ((-1)))).bind fun h37 =>
        (fX9_of h37 a0 x1 1).bind fun q43 =>
        (getR h37 9 a0 0).bind fun r49 =>
        (wrI h37 r49 ((8 + (2 * x1)) + 1) 9999).bind fun h63 =>
        (fX9_ferries h63 a0 x1 0 x2 0).bind fun q69 =>
        (getR q69 9 a0 0).bind fun r73 =>
        (wrI q69 r73 ((8 + (2 * x1)) + 1) q43).bind fun h86 =>
        (getI h86 9 a0 16).bind fun v88 =>
        if v88 = ((-1)) then
          (fX9_error h86 a0 2).bind fun q97 =>
          some (q97.1, q97.2)
        else
          if x3 = ((-1)) then
            (getI h86 9 a0 16).bind fun v109 =>
            some (v109, h86)
          else
            (getR h86 9 a0 15).bind fun r116 =>
            (rdI h86 r116 x3).bind fun v120 =>
            some (v120, h86))
set_option maxRecDepth 100000 in
theorem kX9_way {h : Hp} {a0 : Nat} {x1 : Int32} {x2 : Int32} {x3 : Int32} {z : (Int32 × Hp)} (hF : fX9_way h a0 x1 x2 x3 = some z) : Mc yX9_way cX9_way 5 (some .int) 17 0 0 [.ref a0, .int x1, .int x2, .int x3] h (some (.int z.1), z.2) := by
  have hF := (gO_some hF).2
  refine Mc_of [some (.ref a0), some (.int x1), some (.int x2), some (.int x3), none] plX9 rfl rfl (Nat.le_of_ble_eq_true rfl) (fun X C => ?_)
  refine J_aload_n (pc := 0) C dX9_way_0 rfl ?_
  refine J_iload_n (pc := 1) C dX9_way_1 rfl ?_
  refine J_bind hF (fun q2 hq hF => ?_)
  refine J_callV0_ip (pc := 2) (stk := [.int x1, .ref a0]) (st := []) C dX9_way_2 yw_X9_isPerson w_MLX9_156 in_X9_isPerson sl_X9_isPerson ⟨_, rfl, rfl⟩ (kX9_isPerson hq) (gO_some hq).1 rfl (by decide) rfl (Nat.le_of_ble_eq_true rfl) ?_
  refine J_if_eq (pc := 5) (tgt := 29) C dX9_way_5 rfl hF (fun hF => ?_) (fun hF => ?_)
  · refine J_aload_n (pc := 29) C dX9_way_29 rfl ?_
    refine J_iconst (pc := 30) C dX9_way_30 ic_1 ?_
    refine J_bind hF (fun q31 hq hF => ?_)
    refine J_callV0_i (pc := 31) (stk := [.int 1, .ref a0]) (st := []) C dX9_way_31 yw_X9_error w_MLX9_63 in_X9_error sl_X9_error ⟨_, rfl, rfl⟩ (kX9_error hq) (gO_some hq).1 rfl (by decide) rfl (Nat.le_of_ble_eq_true rfl) ?_
    exact J_iret (pc := 34) C dX9_way_34 hF (by decide) (by decide)
  · refine J_iload_n (pc := 8) C dX9_way_8 rfl ?_
    refine J_iconst (pc := 9) C dX9_way_9 ic_0 ?_
    refine J_bipush (pc := 10) C dX9_way_10 bc_6 ?_
    refine J_bind hF (fun q12 hq hF => ?_)
    refine J_callS0_ip (pc := 12) (stk := [.int 6, .int 0, .int x2]) (st := []) C dX9_way_12 yw_X9_in w_MLX9_59 st_X9_in (kX9_in hq) rfl (by decide) rfl (Nat.le_of_ble_eq_true rfl) ?_
    refine J_if_eq (pc := 15) (tgt := 29) C dX9_way_15 rfl hF (fun hF => ?_) (fun hF => ?_)
    · refine J_aload_n (pc := 29) C dX9_way_29 rfl ?_
      refine J_iconst (pc := 30) C dX9_way_30 ic_1 ?_
      refine J_bind hF (fun q31 hq hF => ?_)
      refine J_callV0_i (pc := 31) (stk := [.int 1, .ref a0]) (st := []) C dX9_way_31 yw_X9_error w_MLX9_63 in_X9_error sl_X9_error ⟨_, rfl, rfl⟩ (kX9_error hq) (gO_some hq).1 rfl (by decide) rfl (Nat.le_of_ble_eq_true rfl) ?_
      exact J_iret (pc := 34) C dX9_way_34 hF (by decide) (by decide)
    · refine J_iload_n (pc := 18) C dX9_way_18 rfl ?_
      refine J_iconst (pc := 19) C dX9_way_19 ic_m1 ?_
      refine J_iload_n (pc := 20) C dX9_way_20 rfl ?_
      refine J_iconst (pc := 21) C dX9_way_21 ic_1 ?_
      refine J_isub (pc := 22) C dX9_way_22 ?_
      refine J_bind hF (fun q23 hq hF => ?_)
      refine J_callS0_ip (pc := 23) (stk := [.int (x2 - 1), .int ((-1)), .int x3]) (st := []) C dX9_way_23 yw_X9_in w_MLX9_59 st_X9_in (kX9_in hq) rfl (by decide) rfl (Nat.le_of_ble_eq_true rfl) ?_
      refine J_if_ne (pc := 26) (tgt := 35) C dX9_way_26 rfl hF (fun hF => ?_) (fun hF => ?_)
      · refine J_aload_n (pc := 29) C dX9_way_29 rfl ?_
        refine J_iconst (pc := 30) C dX9_way_30 ic_1 ?_
        refine J_bind hF (fun q31 hq hF => ?_)
        refine J_callV0_i (pc := 31) (stk := [.int 1, .ref a0]) (st := []) C dX9_way_31 yw_X9_error w_MLX9_63 in_X9_error sl_X9_error ⟨_, rfl, rfl⟩ (kX9_error hq) (gO_some hq).1 rfl (by decide) rfl (Nat.le_of_ble_eq_true rfl) ?_
        exact J_iret (pc := 34) C dX9_way_34 hF (by decide) (by decide)
      · refine J_aload_n (pc := 35) C dX9_way_35 rfl ?_
        refine J_iconst (pc := 36) C dX9_way_36 ic_m1 ?_
        refine J_put (pc := 37) C dX9_way_37 (fp_X9_220 _) hF rfl rfl (fun h37 hF => ?_)
        refine J_aload_n (pc := 40) C dX9_way_40 rfl ?_
        refine J_iload_n (pc := 41) C dX9_way_41 rfl ?_
        refine J_iconst (pc := 42) C dX9_way_42 ic_1 ?_
        refine J_bind hF (fun q43 hq hF => ?_)
        refine J_callV0_ip (pc := 43) (stk := [.int 1, .int x1, .ref a0]) (st := []) C dX9_way_43 yw_X9_of w_MLX9_162 in_X9_of sl_X9_of ⟨_, rfl, rfl⟩ (kX9_of hq) (gO_some hq).1 rfl (by decide) rfl (Nat.le_of_ble_eq_true rfl) ?_
        refine J_istore (pc := 46) (lv' := [some (.ref a0), some (.int x1), some (.int x2), some (.int x3), some (.int q43)]) C dX9_way_46 rfl ?_
        refine J_aload_n (pc := 48) C dX9_way_48 rfl ?_
        refine J_getR (pc := 49) C dX9_way_49 fg_X9_7 hF (fun r49 hF => ?_)
        refine J_bipush (pc := 52) C dX9_way_52 bc_8 ?_
        refine J_iconst (pc := 54) C dX9_way_54 ic_2 ?_
        refine J_iload_n (pc := 55) C dX9_way_55 rfl ?_
        refine J_imul (pc := 56) C dX9_way_56 ?_
        refine J_iadd (pc := 57) C dX9_way_57 ?_
        refine J_iconst (pc := 58) C dX9_way_58 ic_1 ?_
        refine J_iadd (pc := 59) C dX9_way_59 ?_
        refine J_sipush (pc := 60) C dX9_way_60 sc_9999 ?_
        refine J_iast (pc := 63) C dX9_way_63 hF (fun h63 hF => ?_)
        refine J_aload_n (pc := 64) C dX9_way_64 rfl ?_
        refine J_iload_n (pc := 65) C dX9_way_65 rfl ?_
        refine J_iconst (pc := 66) C dX9_way_66 ic_0 ?_
        refine J_iload_n (pc := 67) C dX9_way_67 rfl ?_
        refine J_iconst (pc := 68) C dX9_way_68 ic_0 ?_
        refine J_bind hF (fun q69 hq hF => ?_)
        refine J_callV0_v (pc := 69) (stk := [.int 0, .int x2, .int 0, .int x1, .ref a0]) (st := []) C dX9_way_69 yw_X9_ferries w_MLX9_223 in_X9_ferries sl_X9_ferries ⟨_, rfl, rfl⟩ (kX9_ferries hq) (gO_some hq).1 rfl (by decide) rfl (Nat.le_of_ble_eq_true rfl) ?_
        refine J_aload_n (pc := 72) C dX9_way_72 rfl ?_
        refine J_getR (pc := 73) C dX9_way_73 fg_X9_7 hF (fun r73 hF => ?_)
        refine J_bipush (pc := 76) C dX9_way_76 bc_8 ?_
        refine J_iconst (pc := 78) C dX9_way_78 ic_2 ?_
        refine J_iload_n (pc := 79) C dX9_way_79 rfl ?_
        refine J_imul (pc := 80) C dX9_way_80 ?_
        refine J_iadd (pc := 81) C dX9_way_81 ?_
        refine J_iconst (pc := 82) C dX9_way_82 ic_1 ?_
        refine J_iadd (pc := 83) C dX9_way_83 ?_
        refine J_iload (pc := 84) C dX9_way_84 rfl ?_
        refine J_iast (pc := 86) C dX9_way_86 hF (fun h86 hF => ?_)
        refine J_aload_n (pc := 87) C dX9_way_87 rfl ?_
        refine J_getI (pc := 88) C dX9_way_88 fg_X9_220 hF (fun v88 hF => ?_)
        refine J_iconst (pc := 91) C dX9_way_91 ic_m1 ?_
        refine J_icmp_ne (pc := 92) (tgt := 103) C dX9_way_92 rfl hF (fun hF => ?_) (fun hF => ?_)
        · refine J_aload_n (pc := 95) C dX9_way_95 rfl ?_
          refine J_iconst (pc := 96) C dX9_way_96 ic_2 ?_
          refine J_bind hF (fun q97 hq hF => ?_)
          refine J_callV0_i (pc := 97) (stk := [.int 2, .ref a0]) (st := []) C dX9_way_97 yw_X9_error w_MLX9_63 in_X9_error sl_X9_error ⟨_, rfl, rfl⟩ (kX9_error hq) (gO_some hq).1 rfl (by decide) rfl (Nat.le_of_ble_eq_true rfl) ?_
          refine J_goto (pc := 100) (tgt := 121) C dX9_way_100 rfl ?_
          exact J_iret (pc := 121) C dX9_way_121 hF (by decide) (by decide)
        · refine J_iload_n (pc := 103) C dX9_way_103 rfl ?_
          refine J_iconst (pc := 104) C dX9_way_104 ic_m1 ?_
          refine J_icmp_ne (pc := 105) (tgt := 115) C dX9_way_105 rfl hF (fun hF => ?_) (fun hF => ?_)
          · refine J_aload_n (pc := 108) C dX9_way_108 rfl ?_
            refine J_getI (pc := 109) C dX9_way_109 fg_X9_220 hF (fun v109 hF => ?_)
            refine J_goto (pc := 112) (tgt := 121) C dX9_way_112 rfl ?_
            exact J_iret (pc := 121) C dX9_way_121 hF (by decide) (by decide)
          · refine J_aload_n (pc := 115) C dX9_way_115 rfl ?_
            refine J_getR (pc := 116) C dX9_way_116 fg_X9_40 hF (fun r116 hF => ?_)
            refine J_iload_n (pc := 119) C dX9_way_119 rfl ?_
            refine J_iald (pc := 120) C dX9_way_120 hF (fun v120 hF => ?_)
            exact J_iret (pc := 121) C dX9_way_121 hF (by decide) (by decide)
