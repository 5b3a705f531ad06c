def fX9_move_152 : Nat → Hp → Nat → Int32 → Int32 → Int32 → Int32 → Option (Int32 × Hp)
  | 0, _, _, _, _, _, _ => none
  | n152 + 1, h, a0, x3, x4, x5, x6 =>
    if x5 ≤ x6 then
      some (x5, h)
    else
      (getR h 9 a0 25).bind fun r160 =>
      (getR h 9 a0 26).bind fun r174 =>
      (rdI h r174 x6).bind fun v179 =>
      (wrI h r160 (((24 * x3) + x4) + x6) v179).bind fun h180 =>
      fX9_move_152 n152 h180 a0 x3 x4 x5 (x6 + 1)
set_option maxRecDepth 100000 in
theorem kX9_move_152 {X : Cx} {z : (Int32 × Hp)} (C : Jc X yX9_move cX9_move 7 (some .int) 2 0 0 (some (.int z.1), z.2)) : ∀ (n152 : Nat) (h : Hp) (a0 : Nat) (x3 : Int32) (x4 : Int32) (x5 : Int32) (x6 : Int32), fX9_move_152 n152 h a0 x3 x4 x5 x6 = some z → J X 0 0 0 0 152 [some (.ref a0), none, none, some (.int x3), some (.int x4), some (.int x5), some (.int x6)] [] h := by
  intro n152
  induction n152 with
  | zero => intro h a0 x3 x4 x5 x6 hF; cases hF
  | succ n152 ih =>
    intro h a0 x3 x4 x5 x6 hF
    rw [fX9_move_152] at hF
    refine J_iload (pc := 152) C dX9_move_152 rfl ?_
    refine J_iload (pc := 154) C dX9_move_154 rfl ?_
    refine J_icmp_ge (pc := 156) (tgt := 187) C dX9_move_156 rfl hF (fun hF => ?_) (fun hF => ?_)
    · refine J_iload (pc := 187) C dX9_move_187 rfl ?_
      exact J_iret (pc := 189) C dX9_move_189 hF (by decide) (by decide)
    · refine J_aload_n (pc := 159) C dX9_move_159 rfl ?_
      refine J_getR (pc := 160) C dX9_move_160 fg_X9_52 hF (fun r160 hF => ?_)
      refine J_bipush (pc := 163) C dX9_move_163 bc_24 ?_
      refine J_iload_n (pc := 165) C dX9_move_165 rfl ?_
      refine J_imul (pc := 166) C dX9_move_166 ?_
      refine J_iload (pc := 167) C dX9_move_167 rfl ?_
      refine J_iadd (pc := 169) C dX9_move_169 ?_
      refine J_iload (pc := 170) C dX9_move_170 rfl ?_
      refine J_iadd (pc := 172) C dX9_move_172 ?_
      refine J_aload_n (pc := 173) C dX9_move_173 rfl ?_
      refine J_getR (pc := 174) C dX9_move_174 fg_X9_55 hF (fun r174 hF => ?_)
      refine J_iload (pc := 177) C dX9_move_177 rfl ?_
      refine J_iald (pc := 179) C dX9_move_179 hF (fun v179 hF => ?_)
      refine J_iast (pc := 180) C dX9_move_180 hF (fun h180 hF => ?_)
      refine J_iinc (pc := 181) (lv' := [some (.ref a0), none, none, some (.int x3), some (.int x4), some (.int x5), some (.int (x6 + 1))]) C dX9_move_181 rfl ic_1 rfl ?_
      refine J_goto (pc := 184) (tgt := 152) C dX9_move_184 rfl ?_
      exact ih h180 a0 x3 x4 x5 (x6 + 1) hF
def fX9_move_115 : Nat → Hp → Nat → Int32 → Int32 → Int32 → Int32 → Int32 → Int32 → Option (Int32 × Hp)
  | 0, _, _, _, _, _, _, _, _ => none
  | n115 + 1, h, a0, x1, x2, x3, x4, x5, x6 =>
    if x5 ≤ x6 then
      fX9_move_152 1000 h a0 x3 x4 x5 0
    else
      (getR h 9 a0 26).bind fun r123 =>
      (getR h 9 a0 25).bind fun r129 =>
      (rdI h r129 (((24 * x1) + x2) + x6)).bind fun v141 =>
      (wrI h r123 x6 v141).bind fun h142 =>
      fX9_move_115 n115 h142 a0 x1 x2 x3 x4 x5 (x6 + 1)
set_option maxRecDepth 100000 in
theorem kX9_move_115 {X : Cx} {z : (Int32 × Hp)} (C : Jc X yX9_move cX9_move 7 (some .int) 2 0 0 (some (.int z.1), z.2)) : ∀ (n115 : Nat) (h : Hp) (a0 : Nat) (x1 : Int32) (x2 : Int32) (x3 : Int32) (x4 : Int32) (x5 : Int32) (x6 : Int32), fX9_move_115 n115 h a0 x1 x2 x3 x4 x5 x6 = some z → J X 0 0 0 0 115 [some (.ref a0), some (.int x1), some (.int x2), some (.int x3), some (.int x4), some (.int x5), some (.int x6)] [] h := by
  intro n115
  induction n115 with
  | zero => intro h a0 x1 x2 x3 x4 x5 x6 hF; cases hF
  | succ n115 ih =>
    intro h a0 x1 x2 x3 x4 x5 x6 hF
    rw [fX9_move_115] at hF
    refine J_iload (pc := 115) C dX9_move_115 rfl ?_
    refine J_iload (pc := 117) C dX9_move_117 rfl ?_
    refine J_icmp_ge (pc := 119) (tgt := 149) C dX9_move_119 rfl hF (fun hF => ?_) (fun hF => ?_)
    · refine J_iconst (pc := 149) C dX9_move_149 ic_0 ?_
      refine J_istore (pc := 150) (lv' := [some (.ref a0), some (.int x1), some (.int x2), some (.int x3), some (.int x4), some (.int x5), some (.int 0)]) C dX9_move_150 rfl ?_
      refine J_msk (m := [true, false, false, true, true, true, true]) rfl ?_
      exact kX9_move_152 C 1000 h a0 x3 x4 x5 0 hF
    · refine J_aload_n (pc := 122) C dX9_move_122 rfl ?_
      refine J_getR (pc := 123) C dX9_move_123 fg_X9_55 hF (fun r123 hF => ?_)
      refine J_iload (pc := 126) C dX9_move_126 rfl ?_
      refine J_aload_n (pc := 128) C dX9_move_128 rfl ?_
      refine J_getR (pc := 129) C dX9_move_129 fg_X9_52 hF (fun r129 hF => ?_)
      refine J_bipush (pc := 132) C dX9_move_132 bc_24 ?_
      refine J_iload_n (pc := 134) C dX9_move_134 rfl ?_
      refine J_imul (pc := 135) C dX9_move_135 ?_
      refine J_iload_n (pc := 136) C dX9_move_136 rfl ?_
      refine J_iadd (pc := 137) C dX9_move_137 ?_
      refine J_iload (pc := 138) C dX9_move_138 rfl ?_
      refine J_iadd (pc := 140) C dX9_move_140 ?_
      refine J_iald (pc := 141) C dX9_move_141 hF (fun v141 hF => ?_)
      refine J_iast (pc := 142) C dX9_move_142 hF (fun h142 hF => ?_)
      refine J_iinc (pc := 143) (lv' := [some (.ref a0), some (.int x1), some (.int x2), some (.int x3), some (.int x4), some (.int x5), some (.int (x6 + 1))]) C dX9_move_143 rfl ic_1 rfl ?_
      refine J_goto (pc := 146) (tgt := 115) C dX9_move_146 rfl ?_
      exact ih h142 a0 x1 x2 x3 x4 x5 (x6 + 1) hF
def fX9_move (h : Hp) (a0 : Nat) (x1 : Int32) (x2 : Int32) (x3 : Int32) (x4 : Int32) (x5 : Int32) : Option (Int32 × Hp) := gO h 9 a0 (
  (fX9_isSheet x1).bind fun q1 =>
  if q1 = 0 then
    (fX9_error h a0 1).bind fun q16 =>
    some (q16.1, q16.2)
  else
    (fX9_isSheet x3).bind fun q8 =>
    if q8 = 0 then
      (fX9_error h a0 1).bind fun q16 =>
      some (q16.1, q16.2)
    else
      (getR h 9 a0 23).bind fun r21 =>
      (rdI h r21 x1).bind fun v25 =>
      if v25 = 0 then
        (fX9_error h a0 2).bind fun q40 =>
        some (q40.1, q40.2)
      else
        (getR h 9 a0 23).bind fun r30 =>
        (rdI h r30 x3).bind fun v34 =>
        if v34 = 0 then
          (fX9_error h a0 2).bind fun q40 =>
          some (q40.1, q40.2)
        else
          (getR h 9 a0 23).bind fun r45 =>
          (rdI h r45 x1).bind fun v49 =>
          (getR h 9 a0 23).bind fun r51 =>
          (rdI h r51 x3).bind fun v55 =>
          if v49 = v55 then
            if x5 < 0 then
              (fX9_error h a0 1).bind fun q108 =>
              some (q108.1, q108.2)
            else
              if x2 < 0 then
                (fX9_error h a0 1).bind fun q108 =>
                some (q108.1, q108.2)
              else
                if x4 < 0 then
                  (fX9_error h a0 1).bind fun q108 =>
                  some (q108.1, q108.2)
                else
                  (getR h 9 a0 24).bind fun r81 =>
                  (rdI h r81 x1).bind fun v85 =>
                  if (v85 - x5) < x2 then
                    (fX9_error h a0 1).bind fun q108 =>
                    some (q108.1, q108.2)
                  else
                    (getR h 9 a0 24).bind fun r95 =>
                    (rdI h r95 x3).bind fun v99 =>
                    if x4 ≤ (v99 - x5) then
                      fX9_move_115 1000 h a0 x1 x2 x3 x4 x5 0
                    else
                      (fX9_error h a0 1).bind fun q108 =>
                      some (q108.1, q108.2)
          else
            (fX9_error h a0 5).bind fun q61 =>
            some (q61.1, q61.2))
set_option maxRecDepth 100000 in
theorem kX9_move {h : Hp} {a0 : Nat} {x1 : Int32} {x2 : Int32} {x3 : Int32} {x4 : Int32} {x5 : Int32} {z : (Int32 × Hp)} (hF : fX9_move h a0 x1 x2 x3 x4 x5 = some z) : Mc yX9_move cX9_move 7 (some .int) 2 0 0 [.ref a0, .int x1, .int x2, .int x3, .int x4, .int x5] h (some (.int z.1), z.2) := by
  have hF := (gO_some hF).2
  refine Mc_of [some (.ref a0), some (.int x1), some (.int x2), some (.int x3), some (.int x4), some (.int x5), none] plX9 rfl rfl (Nat.le_of_ble_eq_true rfl) (fun X C => ?_)
  refine J_iload_n (pc := 0) C dX9_move_0 rfl ?_
  refine J_bind hF (fun q1 hq hF => ?_)
  refine J_callS0_ip (pc := 1) (stk := [.int x1]) (st := []) C dX9_move_1 yw_X9_isSheet w_MLX9_280 st_X9_isSheet (kX9_isSheet hq) rfl (by decide) rfl (Nat.le_of_ble_eq_true rfl) ?_
  refine J_if_eq (pc := 4) (tgt := 14) C dX9_move_4 rfl hF (fun hF => ?_) (fun hF => ?_)
  · refine J_aload_n (pc := 14) C dX9_move_14 rfl ?_
    refine J_iconst (pc := 15) C dX9_move_15 ic_1 ?_
    refine J_bind hF (fun q16 hq hF => ?_)
    refine J_callV0_i (pc := 16) (stk := [.int 1, .ref a0]) (st := []) C dX9_move_16 yw_X9_error w_MLX9_63 in_X9_error sl_X9_error ⟨_, rfl, rfl⟩ (kX9_error hq) (gO_some hq).1 rfl (by decide) rfl (Nat.le_of_ble_eq_true rfl) ?_
    exact J_iret (pc := 19) C dX9_move_19 hF (by decide) (by decide)
  · refine J_iload_n (pc := 7) C dX9_move_7 rfl ?_
    refine J_bind hF (fun q8 hq hF => ?_)
    refine J_callS0_ip (pc := 8) (stk := [.int x3]) (st := []) C dX9_move_8 yw_X9_isSheet w_MLX9_280 st_X9_isSheet (kX9_isSheet hq) rfl (by decide) rfl (Nat.le_of_ble_eq_true rfl) ?_
    refine J_if_ne (pc := 11) (tgt := 20) C dX9_move_11 rfl hF (fun hF => ?_) (fun hF => ?_)
    · refine J_aload_n (pc := 14) C dX9_move_14 rfl ?_
      refine J_iconst (pc := 15) C dX9_move_15 ic_1 ?_
      refine J_bind hF (fun q16 hq hF => ?_)
      refine J_callV0_i (pc := 16) (stk := [.int 1, .ref a0]) (st := []) C dX9_move_16 yw_X9_error w_MLX9_63 in_X9_error sl_X9_error ⟨_, rfl, rfl⟩ (kX9_error hq) (gO_some hq).1 rfl (by decide) rfl (Nat.le_of_ble_eq_true rfl) ?_
      exact J_iret (pc := 19) C dX9_move_19 hF (by decide) (by decide)
    · refine J_aload_n (pc := 20) C dX9_move_20 rfl ?_
      refine J_getR (pc := 21) C dX9_move_21 fg_X9_46 hF (fun r21 hF => ?_)
      refine J_iload_n (pc := 24) C dX9_move_24 rfl ?_
      refine J_iald (pc := 25) C dX9_move_25 hF (fun v25 hF => ?_)
      refine J_if_eq (pc := 26) (tgt := 38) C dX9_move_26 rfl hF (fun hF => ?_) (fun hF => ?_)
      · refine J_aload_n (pc := 38) C dX9_move_38 rfl ?_
        refine J_iconst (pc := 39) C dX9_move_39 ic_2 ?_
        refine J_bind hF (fun q40 hq hF => ?_)
        refine J_callV0_i (pc := 40) (stk := [.int 2, .ref a0]) (st := []) C dX9_move_40 yw_X9_error w_MLX9_63 in_X9_error sl_X9_error ⟨_, rfl, rfl⟩ (kX9_error hq) (gO_some hq).1 rfl (by decide) rfl (Nat.le_of_ble_eq_true rfl) ?_
        exact J_iret (pc := 43) C dX9_move_43 hF (by decide) (by decide)
      · refine J_aload_n (pc := 29) C dX9_move_29 rfl ?_
        refine J_getR (pc := 30) C dX9_move_30 fg_X9_46 hF (fun r30 hF => ?_)
        refine J_iload_n (pc := 33) C dX9_move_33 rfl ?_
        refine J_iald (pc := 34) C dX9_move_34 hF (fun v34 hF => ?_)
        refine J_if_ne (pc := 35) (tgt := 44) C dX9_move_35 rfl hF (fun hF => ?_) (fun hF => ?_)
        · refine J_aload_n (pc := 38) C dX9_move_38 rfl ?_
          refine J_iconst (pc := 39) C dX9_move_39 ic_2 ?_
          refine J_bind hF (fun q40 hq hF => ?_)
          refine J_callV0_i (pc := 40) (stk := [.int 2, .ref a0]) (st := []) C dX9_move_40 yw_X9_error w_MLX9_63 in_X9_error sl_X9_error ⟨_, rfl, rfl⟩ (kX9_error hq) (gO_some hq).1 rfl (by decide) rfl (Nat.le_of_ble_eq_true rfl) ?_
          exact J_iret (pc := 43) C dX9_move_43 hF (by decide) (by decide)
        · refine J_aload_n (pc := 44) C dX9_move_44 rfl ?_
          refine J_getR (pc := 45) C dX9_move_45 fg_X9_46 hF (fun r45 hF => ?_)
          refine J_iload_n (pc := 48) C dX9_move_48 rfl ?_
          refine J_iald (pc := 49) C dX9_move_49 hF (fun v49 hF => ?_)
          refine J_aload_n (pc := 50) C dX9_move_50 rfl ?_
          refine J_getR (pc := 51) C dX9_move_51 fg_X9_46 hF (fun r51 hF => ?_)
          refine J_iload_n (pc := 54) C dX9_move_54 rfl ?_
          refine J_iald (pc := 55) C dX9_move_55 hF (fun v55 hF => ?_)
          refine J_icmp_eq (pc := 56) (tgt := 65) C dX9_move_56 rfl hF (fun hF => ?_) (fun hF => ?_)
          · refine J_iload (pc := 65) C dX9_move_65 rfl ?_
            refine J_if_lt (pc := 67) (tgt := 106) C dX9_move_67 rfl hF (fun hF => ?_) (fun hF => ?_)
            · refine J_aload_n (pc := 106) C dX9_move_106 rfl ?_
              refine J_iconst (pc := 107) C dX9_move_107 ic_1 ?_
              refine J_bind hF (fun q108 hq hF => ?_)
              refine J_callV0_i (pc := 108) (stk := [.int 1, .ref a0]) (st := []) C dX9_move_108 yw_X9_error w_MLX9_63 in_X9_error sl_X9_error ⟨_, rfl, rfl⟩ (kX9_error hq) (gO_some hq).1 rfl (by decide) rfl (Nat.le_of_ble_eq_true rfl) ?_
              exact J_iret (pc := 111) C dX9_move_111 hF (by decide) (by decide)
            · refine J_iload_n (pc := 70) C dX9_move_70 rfl ?_
              refine J_if_lt (pc := 71) (tgt := 106) C dX9_move_71 rfl hF (fun hF => ?_) (fun hF => ?_)
              · refine J_aload_n (pc := 106) C dX9_move_106 rfl ?_
                refine J_iconst (pc := 107) C dX9_move_107 ic_1 ?_
                refine J_bind hF (fun q108 hq hF => ?_)
                refine J_callV0_i (pc := 108) (stk := [.int 1, .ref a0]) (st := []) C dX9_move_108 yw_X9_error w_MLX9_63 in_X9_error sl_X9_error ⟨_, rfl, rfl⟩ (kX9_error hq) (gO_some hq).1 rfl (by decide) rfl (Nat.le_of_ble_eq_true rfl) ?_
                exact J_iret (pc := 111) C dX9_move_111 hF (by decide) (by decide)
              · refine J_iload (pc := 74) C dX9_move_74 rfl ?_
                refine J_if_lt (pc := 76) (tgt := 106) C dX9_move_76 rfl hF (fun hF => ?_) (fun hF => ?_)
                · refine J_aload_n (pc := 106) C dX9_move_106 rfl ?_
                  refine J_iconst (pc := 107) C dX9_move_107 ic_1 ?_
                  refine J_bind hF (fun q108 hq hF => ?_)
                  refine J_callV0_i (pc := 108) (stk := [.int 1, .ref a0]) (st := []) C dX9_move_108 yw_X9_error w_MLX9_63 in_X9_error sl_X9_error ⟨_, rfl, rfl⟩ (kX9_error hq) (gO_some hq).1 rfl (by decide) rfl (Nat.le_of_ble_eq_true rfl) ?_
                  exact J_iret (pc := 111) C dX9_move_111 hF (by decide) (by decide)
                · refine J_iload_n (pc := 79) C dX9_move_79 rfl ?_
                  refine J_aload_n (pc := 80) C dX9_move_80 rfl ?_
                  refine J_getR (pc := 81) C dX9_move_81 fg_X9_49 hF (fun r81 hF => ?_)
                  refine J_iload_n (pc := 84) C dX9_move_84 rfl ?_
                  refine J_iald (pc := 85) C dX9_move_85 hF (fun v85 hF => ?_)
                  refine J_iload (pc := 86) C dX9_move_86 rfl ?_
                  refine J_isub (pc := 88) C dX9_move_88 ?_
                  refine J_icmp_gt (pc := 89) (tgt := 106) C dX9_move_89 rfl hF (fun hF => ?_) (fun hF => ?_)
                  · refine J_aload_n (pc := 106) C dX9_move_106 rfl ?_
                    refine J_iconst (pc := 107) C dX9_move_107 ic_1 ?_
                    refine J_bind hF (fun q108 hq hF => ?_)
                    refine J_callV0_i (pc := 108) (stk := [.int 1, .ref a0]) (st := []) C dX9_move_108 yw_X9_error w_MLX9_63 in_X9_error sl_X9_error ⟨_, rfl, rfl⟩ (kX9_error hq) (gO_some hq).1 rfl (by decide) rfl (Nat.le_of_ble_eq_true rfl) ?_
                    exact J_iret (pc := 111) C dX9_move_111 hF (by decide) (by decide)
                  · refine J_iload (pc := 92) C dX9_move_92 rfl ?_
                    refine J_aload_n (pc := 94) C dX9_move_94 rfl ?_
                    refine J_getR (pc := 95) C dX9_move_95 fg_X9_49 hF (fun r95 hF => ?_)
                    refine J_iload_n (pc := 98) C dX9_move_98 rfl ?_
                    refine J_iald (pc := 99) C dX9_move_99 hF (fun v99 hF => ?_)
                    refine J_iload (pc := 100) C dX9_move_100 rfl ?_
                    refine J_isub (pc := 102) C dX9_move_102 ?_
                    refine J_icmp_le (pc := 103) (tgt := 112) C dX9_move_103 rfl hF (fun hF => ?_) (fun hF => ?_)
                    · refine J_iconst (pc := 112) C dX9_move_112 ic_0 ?_
                      refine J_istore (pc := 113) (lv' := [some (.ref a0), some (.int x1), some (.int x2), some (.int x3), some (.int x4), some (.int x5), some (.int 0)]) C dX9_move_113 rfl ?_
                      exact kX9_move_115 C 1000 h a0 x1 x2 x3 x4 x5 0 hF
                    · refine J_aload_n (pc := 106) C dX9_move_106 rfl ?_
                      refine J_iconst (pc := 107) C dX9_move_107 ic_1 ?_
                      refine J_bind hF (fun q108 hq hF => ?_)
                      refine J_callV0_i (pc := 108) (stk := [.int 1, .ref a0]) (st := []) C dX9_move_108 yw_X9_error w_MLX9_63 in_X9_error sl_X9_error ⟨_, rfl, rfl⟩ (kX9_error hq) (gO_some hq).1 rfl (by decide) rfl (Nat.le_of_ble_eq_true rfl) ?_
                      exact J_iret (pc := 111) C dX9_move_111 hF (by decide) (by decide)
          · refine J_aload_n (pc := 59) C dX9_move_59 rfl ?_
            refine J_iconst (pc := 60) C dX9_move_60 ic_5 ?_
            refine J_bind hF (fun q61 hq hF => ?_)
            refine J_callV0_i (pc := 61) (stk := [.int 5, .ref a0]) (st := []) C dX9_move_61 yw_X9_error w_MLX9_63 in_X9_error sl_X9_error ⟨_, rfl, rfl⟩ (kX9_error hq) (gO_some hq).1 rfl (by decide) rfl (Nat.le_of_ble_eq_true rfl) ?_
            exact J_iret (pc := 64) C dX9_move_64 hF (by decide) (by decide)
def fX9_partsAs_54 (oX9_partsAs : Hp → Nat → Int32 → Int32 → Option (Int32 × Hp)) (h : Hp) (x2 : Int32) (x3 : Int32) (b0 : Nat) (y1 : Int32) : Option (Int32 × Hp) :=
  (bz y1).bind fun b54 => (putV h 9 b0 22 (.int b54)).bind fun h54 =>
  if x3 = 0 then
    some (0, h54)
  else
    if x3 = ((-1)) then
      some (-x2, h54)
    else
      (dvz x2 x3).bind fun v77 =>
      some (v77, h54)
set_option maxRecDepth 100000 in
theorem kX9_partsAs_54 {X : Cx} {z : (Int32 × Hp)} {n : Nat} {oX9_partsAs : Hp → Nat → Int32 → Int32 → Option (Int32 × Hp)} (C : Jc X yX9_partsAs cX9_partsAs 5 (some .int) (n + 1 + 27) 0 0 (some (.int z.1), z.2)) (hO : (∀ (h : Hp) (a0 : Nat) (x1 : Int32) (x2 : Int32) (z : (Int32 × Hp)), oX9_partsAs h a0 x1 x2 = some z → Mc yX9_partsAs cX9_partsAs 5 (some .int) (n + 27) 0 0 [.ref a0, .int x1, .int x2] h (some (.int z.1), z.2))) (h : Hp) (x2 : Int32) (x3 : Int32) (b0 : Nat) (y1 : Int32) (hF : fX9_partsAs_54 oX9_partsAs h x2 x3 b0 y1 = some z) : J X 0 0 0 0 54 [none, none, some (.int x2), some (.int x3), none] [.int y1, .ref b0] h := by
  unfold fX9_partsAs_54 at hF
  refine J_putB (pc := 54) C dX9_partsAs_54 (fp_X9_273 _) hF (fun h54 hF => ?_)
  refine J_iload_n (pc := 57) C dX9_partsAs_57 rfl ?_
  refine J_if_ne (pc := 58) (tgt := 65) C dX9_partsAs_58 rfl hF (fun hF => ?_) (fun hF => ?_)
  · refine J_iconst (pc := 61) C dX9_partsAs_61 ic_0 ?_
    refine J_goto (pc := 62) (tgt := 78) C dX9_partsAs_62 rfl ?_
    exact J_iret (pc := 78) C dX9_partsAs_78 hF (by decide) (by decide)
  · refine J_iload_n (pc := 65) C dX9_partsAs_65 rfl ?_
    refine J_iconst (pc := 66) C dX9_partsAs_66 ic_m1 ?_
    refine J_icmp_ne (pc := 67) (tgt := 75) C dX9_partsAs_67 rfl hF (fun hF => ?_) (fun hF => ?_)
    · refine J_iload_n (pc := 70) C dX9_partsAs_70 rfl ?_
      refine J_ineg (pc := 71) C dX9_partsAs_71 ?_
      refine J_goto (pc := 72) (tgt := 78) C dX9_partsAs_72 rfl ?_
      exact J_iret (pc := 78) C dX9_partsAs_78 hF (by decide) (by decide)
    · refine J_iload_n (pc := 75) C dX9_partsAs_75 rfl ?_
      refine J_iload_n (pc := 76) C dX9_partsAs_76 rfl ?_
      refine J_idiv (pc := 77) C dX9_partsAs_77 hF (fun v77 hF => ?_)
      exact J_iret (pc := 78) C dX9_partsAs_78 hF (by decide) (by decide)
def bX9_partsAs (oX9_partsAs : Hp → Nat → Int32 → Int32 → Option (Int32 × Hp)) (h : Hp) (a0 : Nat) (x1 : Int32) (x2 : Int32) : Option (Int32 × Hp) :=
  if x1 = 0 then
    (fX9_begins h a0 13).bind fun q31 =>
    (fX9_mNow q31 a0).bind fun q35 =>
    (getI q31 9 a0 21).bind fun v39 =>
    if (q35 - v39) = 0 then
      fX9_partsAs_54 oX9_partsAs q31 x2 (q35 - v39) a0 1
    else
      fX9_partsAs_54 oX9_partsAs q31 x2 (q35 - v39) a0 0
  else
    if x1 = 1 then
      (fX9_begins h a0 21).bind fun q82 =>
      (fX9_above 1).bind fun q87 =>
      (gO q82 9 a0 (oX9_partsAs q82 a0 q87 x2)).bind fun q91 =>
      (getI q91.2 9 a0 22).bind fun v97 =>
      if v97 = 0 then
        (fX9_kindNow q91.2 a0).bind fun q111 =>
        (fX9_keepsAs q91.2 a0 q111 1).bind fun q115 =>
        some (q91.1 + q115.1, q115.2)
      else
        some (0, q91.2)
    else
      (fX9_above x1).bind fun q122 =>
      (gO h 9 a0 (oX9_partsAs h a0 q122 x2)).bind fun q126 =>
      some (q126.1, q126.2)
set_option maxRecDepth 100000 in
theorem bkX9_partsAs {n : Nat} {oX9_partsAs : Hp → Nat → Int32 → Int32 → Option (Int32 × Hp)} (hO : (∀ (h : Hp) (a0 : Nat) (x1 : Int32) (x2 : Int32) (z : (Int32 × Hp)), oX9_partsAs h a0 x1 x2 = some z → Mc yX9_partsAs cX9_partsAs 5 (some .int) (n + 27) 0 0 [.ref a0, .int x1, .int x2] h (some (.int z.1), z.2))) {h : Hp} {a0 : Nat} {x1 : Int32} {x2 : Int32} {z : (Int32 × Hp)} (hF : bX9_partsAs oX9_partsAs h a0 x1 x2 = some z) : Mc yX9_partsAs cX9_partsAs 5 (some .int) (n + 1 + 27) 0 0 [.ref a0, .int x1, .int x2] h (some (.int z.1), z.2) := by
  unfold bX9_partsAs at hF
  refine Mc_of [some (.ref a0), some (.int x1), some (.int x2), none, none] plX9 rfl rfl (Nat.le_of_ble_eq_true rfl) (fun X C => ?_)
  refine J_iload_n (pc := 0) C dX9_partsAs_0 rfl ?_
  refine J_br hF (fun hc1_0 hF => ?_) (fun hc1_0 hF => ?_)
  · refine J_lsC (pc := 1) (tgt := 28) C 0 hc1_0 dX9_partsAs_1 (by decide) rfl rfl ?_
    refine J_aload_n (pc := 28) C dX9_partsAs_28 rfl ?_
    refine J_bipush (pc := 29) C dX9_partsAs_29 bc_13 ?_
    refine J_bind hF (fun q31 hq hF => ?_)
    refine J_callV0_v (pc := 31) (stk := [.int 13, .ref a0]) (st := []) C dX9_partsAs_31 yw_X9_begins w_MLX9_252 in_X9_begins sl_X9_begins ⟨_, rfl, rfl⟩ (kX9_begins hq) (gO_some hq).1 rfl (by omega) rfl (Nat.le_of_ble_eq_true rfl) ?_
    refine J_aload_n (pc := 34) C dX9_partsAs_34 rfl ?_
    refine J_bind hF (fun q35 hq hF => ?_)
    refine J_callV0_ip (pc := 35) (stk := [.ref a0]) (st := []) C dX9_partsAs_35 yw_X9_mNow w_MLX9_267 in_X9_mNow sl_X9_mNow ⟨_, rfl, rfl⟩ (kX9_mNow hq) (gO_some hq).1 rfl (by omega) rfl (Nat.le_of_ble_eq_true rfl) ?_
    refine J_aload_n (pc := 38) C dX9_partsAs_38 rfl ?_
    refine J_getI (pc := 39) C dX9_partsAs_39 fg_X9_249 hF (fun v39 hF => ?_)
    refine J_isub (pc := 42) C dX9_partsAs_42 ?_
    refine J_istore_n (pc := 43) (lv' := [some (.ref a0), some (.int x1), some (.int x2), some (.int (q35 - v39)), none]) C dX9_partsAs_43 rfl ?_
    refine J_aload_n (pc := 44) C dX9_partsAs_44 rfl ?_
    refine J_iload_n (pc := 45) C dX9_partsAs_45 rfl ?_
    refine J_if_ne (pc := 46) (tgt := 53) C dX9_partsAs_46 rfl hF (fun hF => ?_) (fun hF => ?_)
    · refine J_iconst (pc := 49) C dX9_partsAs_49 ic_1 ?_
      refine J_goto (pc := 50) (tgt := 54) C dX9_partsAs_50 rfl ?_
      refine J_msk (m := [false, false, true, true, false]) rfl ?_
      exact kX9_partsAs_54 C hO q31 x2 (q35 - v39) a0 1 hF
    · refine J_iconst (pc := 53) C dX9_partsAs_53 ic_0 ?_
      refine J_msk (m := [false, false, true, true, false]) rfl ?_
      exact kX9_partsAs_54 C hO q31 x2 (q35 - v39) a0 0 hF
  · refine J_br hF (fun hc1_1 hF => ?_) (fun hc1_1 hF => ?_)
    · refine J_lsC (pc := 1) (tgt := 79) C 1 hc1_1 dX9_partsAs_1 (by decide) rfl rfl ?_
      refine J_aload_n (pc := 79) C dX9_partsAs_79 rfl ?_
      refine J_bipush (pc := 80) C dX9_partsAs_80 bc_21 ?_
      refine J_bind hF (fun q82 hq hF => ?_)
      refine J_callV0_v (pc := 82) (stk := [.int 21, .ref a0]) (st := []) C dX9_partsAs_82 yw_X9_begins w_MLX9_252 in_X9_begins sl_X9_begins ⟨_, rfl, rfl⟩ (kX9_begins hq) (gO_some hq).1 rfl (by omega) rfl (Nat.le_of_ble_eq_true rfl) ?_
      refine J_aload_n (pc := 85) C dX9_partsAs_85 rfl ?_
      refine J_iconst (pc := 86) C dX9_partsAs_86 ic_1 ?_
      refine J_bind hF (fun q87 hq hF => ?_)
      refine J_callS0_ip (pc := 87) (stk := [.int 1, .ref a0]) (st := [.ref a0]) C dX9_partsAs_87 yw_X9_above w_MLX9_255 st_X9_above (kX9_above hq) rfl (by omega) rfl (Nat.le_of_ble_eq_true rfl) ?_
      refine J_iload_n (pc := 90) C dX9_partsAs_90 rfl ?_
      refine J_bind hF (fun q91 hq hF => ?_)
      have hq := gO_some hq
      refine J_callV0_i (pc := 91) (stk := [.int x2, .int q87, .ref a0]) (st := []) C dX9_partsAs_91 yw_X9_partsAs w_MLX9_277 in_X9_partsAs sl_X9_partsAs ⟨_, rfl, rfl⟩ (hO _ _ _ _ _ hq.2) hq.1 rfl (by omega) rfl (Nat.le_of_ble_eq_true rfl) ?_
      refine J_istore (pc := 94) (lv' := [some (.ref a0), some (.int x1), some (.int x2), none, some (.int q91.1)]) C dX9_partsAs_94 rfl ?_
      refine J_aload_n (pc := 96) C dX9_partsAs_96 rfl ?_
      refine J_getI (pc := 97) C dX9_partsAs_97 fg_X9_273 hF (fun v97 hF => ?_)
      refine J_if_eq (pc := 100) (tgt := 107) C dX9_partsAs_100 rfl hF (fun hF => ?_) (fun hF => ?_)
      · refine J_iload (pc := 107) C dX9_partsAs_107 rfl ?_
        refine J_aload_n (pc := 109) C dX9_partsAs_109 rfl ?_
        refine J_aload_n (pc := 110) C dX9_partsAs_110 rfl ?_
        refine J_bind hF (fun q111 hq hF => ?_)
        refine J_callV0_ip (pc := 111) (stk := [.ref a0, .ref a0, .int q91.1]) (st := [.ref a0, .int q91.1]) C dX9_partsAs_111 yw_X9_kindNow w_MLX9_261 in_X9_kindNow sl_X9_kindNow ⟨_, rfl, rfl⟩ (kX9_kindNow hq) (gO_some hq).1 rfl (by omega) rfl (Nat.le_of_ble_eq_true rfl) ?_
        refine J_iconst (pc := 114) C dX9_partsAs_114 ic_1 ?_
        refine J_bind hF (fun q115 hq hF => ?_)
        refine J_callV0_i (pc := 115) (stk := [.int 1, .int q111, .ref a0, .int q91.1]) (st := [.int q91.1]) C dX9_partsAs_115 yw_X9_keepsAs w_MLX9_264 in_X9_keepsAs sl_X9_keepsAs ⟨_, rfl, rfl⟩ (kX9_keepsAs hq) (gO_some hq).1 rfl (by omega) rfl (Nat.le_of_ble_eq_true rfl) ?_
        refine J_iadd (pc := 118) C dX9_partsAs_118 ?_
        exact J_iret (pc := 119) C dX9_partsAs_119 hF (by decide) (by decide)
      · refine J_iconst (pc := 103) C dX9_partsAs_103 ic_0 ?_
        refine J_goto (pc := 104) (tgt := 119) C dX9_partsAs_104 rfl ?_
        exact J_iret (pc := 119) C dX9_partsAs_119 hF (by decide) (by decide)
    · refine J_ls (pc := 1) (tgt := 120) C dX9_partsAs_1 (by decide) (show Op.lookupswitch.offset [(0, 27), (1, 78)] 119 x1.toInt = 119 from by rw [lv_osw hc1_0 (a := 0) rfl, lv_osw hc1_1 (a := 1) rfl]; rfl) rfl ?_
      refine J_aload_n (pc := 120) C dX9_partsAs_120 rfl ?_
      refine J_iload_n (pc := 121) C dX9_partsAs_121 rfl ?_
      refine J_bind hF (fun q122 hq hF => ?_)
      refine J_callS0_ip (pc := 122) (stk := [.int x1, .ref a0]) (st := [.ref a0]) C dX9_partsAs_122 yw_X9_above w_MLX9_255 st_X9_above (kX9_above hq) rfl (by omega) rfl (Nat.le_of_ble_eq_true rfl) ?_
      refine J_iload_n (pc := 125) C dX9_partsAs_125 rfl ?_
      refine J_bind hF (fun q126 hq hF => ?_)
      have hq := gO_some hq
      refine J_callV0_i (pc := 126) (stk := [.int x2, .int q122, .ref a0]) (st := []) C dX9_partsAs_126 yw_X9_partsAs w_MLX9_277 in_X9_partsAs sl_X9_partsAs ⟨_, rfl, rfl⟩ (hO _ _ _ _ _ hq.2) hq.1 rfl (by omega) rfl (Nat.le_of_ble_eq_true rfl) ?_
      exact J_iret (pc := 129) C dX9_partsAs_129 hF (by decide) (by decide)
def gX9_partsAs : Nat → Hp → Nat → Int32 → Int32 → Option (Int32 × Hp)
  | 0, _, _, _, _ => none
  | n + 1, h, a0, x1, x2 => bX9_partsAs (gX9_partsAs n) h a0 x1 x2
theorem gkX9_partsAs : ∀ n : Nat, (∀ (h : Hp) (a0 : Nat) (x1 : Int32) (x2 : Int32) (z : (Int32 × Hp)), gX9_partsAs n h a0 x1 x2 = some z → Mc yX9_partsAs cX9_partsAs 5 (some .int) (n + 27) 0 0 [.ref a0, .int x1, .int x2] h (some (.int z.1), z.2)) := by
  intro n
  induction n with
  | zero => intro h a0 x1 x2 z hF; cases hF
  | succ n ih => intro h a0 x1 x2 z hF; exact bkX9_partsAs (n := n) ih hF
def fX9_partsAs (h : Hp) (a0 : Nat) (x1 : Int32) (x2 : Int32) : Option (Int32 × Hp) := gO h 9 a0 (gX9_partsAs 32 h a0 x1 x2)
theorem kX9_partsAs {h : Hp} {a0 : Nat} {x1 : Int32} {x2 : Int32} {z : (Int32 × Hp)} (hF : fX9_partsAs h a0 x1 x2 = some z) : Mc yX9_partsAs cX9_partsAs 5 (some .int) 59 0 0 [.ref a0, .int x1, .int x2] h (some (.int z.1), z.2) := (gkX9_partsAs 32) h a0 x1 x2 _ (gO_some hF).2
def fX9_pay_184 : Nat → Hp → Nat → Int32 → Int32 → Option (Int32 × Hp)
  | 0, _, _, _, _ => none
  | n184 + 1, h, a0, x4, x5 =>
    (getR h 9 a0 0).bind fun r188 =>
    (rdI h r188 3).bind fun v192 =>
    if (3 * v192) ≤ x5 then
      some (x4, h)
    else
      (getR h 9 a0 0).bind fun r198 =>
      (getR h 9 a0 0).bind fun r207 =>
      (rdI h r207 ((76 + x5) + 3)).bind fun v217 =>
      (wrI h r198 (76 + x5) v217).bind fun h218 =>
      fX9_pay_184 n184 h218 a0 x4 (x5 + 1)
set_option maxRecDepth 100000 in
theorem kX9_pay_184 {X : Cx} {z : (Int32 × Hp)} (C : Jc X yX9_pay cX9_pay 6 (some .int) 2 0 0 (some (.int z.1), z.2)) : ∀ (n184 : Nat) (h : Hp) (a0 : Nat) (x4 : Int32) (x5 : Int32), fX9_pay_184 n184 h a0 x4 x5 = some z → J X 0 0 0 0 184 [some (.ref a0), none, none, none, some (.int x4), some (.int x5)] [] h := by
  intro n184
  induction n184 with
  | zero => intro h a0 x4 x5 hF; cases hF
  | succ n184 ih =>
    intro h a0 x4 x5 hF
    rw [fX9_pay_184] at hF
    refine J_iload (pc := 184) C dX9_pay_184 rfl ?_
    refine J_iconst (pc := 186) C dX9_pay_186 ic_3 ?_
    refine J_aload_n (pc := 187) C dX9_pay_187 rfl ?_
    refine J_getR (pc := 188) C dX9_pay_188 fg_X9_7 hF (fun r188 hF => ?_)
    refine J_iconst (pc := 191) C dX9_pay_191 ic_3 ?_
    refine J_iald (pc := 192) C dX9_pay_192 hF (fun v192 hF => ?_)
    refine J_imul (pc := 193) C dX9_pay_193 ?_
    refine J_icmp_ge (pc := 194) (tgt := 225) C dX9_pay_194 rfl hF (fun hF => ?_) (fun hF => ?_)
    · refine J_iload (pc := 225) C dX9_pay_225 rfl ?_
      exact J_iret (pc := 227) C dX9_pay_227 hF (by decide) (by decide)
    · refine J_aload_n (pc := 197) C dX9_pay_197 rfl ?_
      refine J_getR (pc := 198) C dX9_pay_198 fg_X9_7 hF (fun r198 hF => ?_)
      refine J_bipush (pc := 201) C dX9_pay_201 bc_76 ?_
      refine J_iload (pc := 203) C dX9_pay_203 rfl ?_
      refine J_iadd (pc := 205) C dX9_pay_205 ?_
      refine J_aload_n (pc := 206) C dX9_pay_206 rfl ?_
      refine J_getR (pc := 207) C dX9_pay_207 fg_X9_7 hF (fun r207 hF => ?_)
      refine J_bipush (pc := 210) C dX9_pay_210 bc_76 ?_
      refine J_iload (pc := 212) C dX9_pay_212 rfl ?_
      refine J_iadd (pc := 214) C dX9_pay_214 ?_
      refine J_iconst (pc := 215) C dX9_pay_215 ic_3 ?_
      refine J_iadd (pc := 216) C dX9_pay_216 ?_
      refine J_iald (pc := 217) C dX9_pay_217 hF (fun v217 hF => ?_)
      refine J_iast (pc := 218) C dX9_pay_218 hF (fun h218 hF => ?_)
      refine J_iinc (pc := 219) (lv' := [some (.ref a0), none, none, none, some (.int x4), some (.int (x5 + 1))]) C dX9_pay_219 rfl ic_1 rfl ?_
      refine J_goto (pc := 222) (tgt := 184) C dX9_pay_222 rfl ?_
      exact ih h218 a0 x4 (x5 + 1) hF
def fX9_pay_93 (h : Hp) (a0 : Nat) (x1 : Int32) (x2 : Int32) (x3 : Int32) (y0 : Int32) : Option (Int32 × Hp) :=
  (getR h 9 a0 0).bind fun r96 =>
  (rdI h r96 ((8 + (2 * x2)) + 1)).bind fun v108 =>
  (wrI h r96 ((8 + (2 * x2)) + 1) (v108 - y0)).bind fun h112 =>
  (getR h112 9 a0 0).bind fun r114 =>
  (fX9_of h112 a0 x3 1).bind fun q128 =>
  (fX9_held (q128 + y0) 0 9999).bind fun q138 =>
  (wrI h112 r114 ((8 + (2 * x3)) + 1) q138).bind fun h141 =>
  (getR h141 9 a0 0).bind fun r143 =>
  (rdI h141 r143 ((76 + (3 * x1)) + 2)).bind fun v155 =>
  (wrI h141 r143 ((76 + (3 * x1)) + 2) (v155 - y0)).bind fun h159 =>
  (fX9_owed h159 a0 x1 2).bind fun q163 =>
  if q163 = 0 then
    (getR h159 9 a0 0).bind fun r170 =>
    (rdI h159 r170 3).bind fun v175 =>
    (wrI h159 r170 3 (v175 - 1)).bind fun h178 =>
    fX9_pay_184 1000 h178 a0 y0 (3 * x1)
  else
    some (y0, h159)
set_option maxRecDepth 100000 in
theorem kX9_pay_93 {X : Cx} {z : (Int32 × Hp)} (C : Jc X yX9_pay cX9_pay 6 (some .int) 2 0 0 (some (.int z.1), z.2)) (h : Hp) (a0 : Nat) (x1 : Int32) (x2 : Int32) (x3 : Int32) (y0 : Int32) (hF : fX9_pay_93 h a0 x1 x2 x3 y0 = some z) : J X 0 0 0 0 93 [some (.ref a0), some (.int x1), some (.int x2), some (.int x3), none, none] [.int y0] h := by
  unfold fX9_pay_93 at hF
  refine J_istore (pc := 93) (lv' := [some (.ref a0), some (.int x1), some (.int x2), some (.int x3), some (.int y0), none]) C dX9_pay_93 rfl ?_
  refine J_aload_n (pc := 95) C dX9_pay_95 rfl ?_
  refine J_getR (pc := 96) C dX9_pay_96 fg_X9_7 hF (fun r96 hF => ?_)
  refine J_bipush (pc := 99) C dX9_pay_99 bc_8 ?_
  refine J_iconst (pc := 101) C dX9_pay_101 ic_2 ?_
  refine J_iload_n (pc := 102) C dX9_pay_102 rfl ?_
  refine J_imul (pc := 103) C dX9_pay_103 ?_
  refine J_iadd (pc := 104) C dX9_pay_104 ?_
  refine J_iconst (pc := 105) C dX9_pay_105 ic_1 ?_
  refine J_iadd (pc := 106) C dX9_pay_106 ?_
  refine J_dup2 (pc := 107) C dX9_pay_107 rfl rfl ?_
  refine J_iald (pc := 108) C dX9_pay_108 hF (fun v108 hF => ?_)
  refine J_iload (pc := 109) C dX9_pay_109 rfl ?_
  refine J_isub (pc := 111) C dX9_pay_111 ?_
  refine J_iast (pc := 112) C dX9_pay_112 hF (fun h112 hF => ?_)
  refine J_aload_n (pc := 113) C dX9_pay_113 rfl ?_
  refine J_getR (pc := 114) C dX9_pay_114 fg_X9_7 hF (fun r114 hF => ?_)
  refine J_bipush (pc := 117) C dX9_pay_117 bc_8 ?_
  refine J_iconst (pc := 119) C dX9_pay_119 ic_2 ?_
  refine J_iload_n (pc := 120) C dX9_pay_120 rfl ?_
  refine J_imul (pc := 121) C dX9_pay_121 ?_
  refine J_iadd (pc := 122) C dX9_pay_122 ?_
  refine J_iconst (pc := 123) C dX9_pay_123 ic_1 ?_
  refine J_iadd (pc := 124) C dX9_pay_124 ?_
  refine J_aload_n (pc := 125) C dX9_pay_125 rfl ?_
  refine J_iload_n (pc := 126) C dX9_pay_126 rfl ?_
  refine J_iconst (pc := 127) C dX9_pay_127 ic_1 ?_
  refine J_bind hF (fun q128 hq hF => ?_)
  refine J_callV0_ip (pc := 128) (stk := [.int 1, .int x3, .ref a0, .int ((8 + (2 * x3)) + 1), .ref r114]) (st := [.int ((8 + (2 * x3)) + 1), .ref r114]) C dX9_pay_128 yw_X9_of w_MLX9_162 in_X9_of sl_X9_of ⟨_, rfl, rfl⟩ (kX9_of hq) (gO_some hq).1 rfl (by decide) rfl (Nat.le_of_ble_eq_true rfl) ?_
  refine J_iload (pc := 131) C dX9_pay_131 rfl ?_
  refine J_iadd (pc := 133) C dX9_pay_133 ?_
  refine J_iconst (pc := 134) C dX9_pay_134 ic_0 ?_
  refine J_sipush (pc := 135) C dX9_pay_135 sc_9999 ?_
  refine J_bind hF (fun q138 hq hF => ?_)
  refine J_callS0_ip (pc := 138) (stk := [.int 9999, .int 0, .int (q128 + y0), .int ((8 + (2 * x3)) + 1), .ref r114]) (st := [.int ((8 + (2 * x3)) + 1), .ref r114]) C dX9_pay_138 yw_X9_held w_MLX9_133 st_X9_held (kX9_held hq) rfl (by decide) rfl (Nat.le_of_ble_eq_true rfl) ?_
  refine J_iast (pc := 141) C dX9_pay_141 hF (fun h141 hF => ?_)
  refine J_aload_n (pc := 142) C dX9_pay_142 rfl ?_
  refine J_getR (pc := 143) C dX9_pay_143 fg_X9_7 hF (fun r143 hF => ?_)
  refine J_bipush (pc := 146) C dX9_pay_146 bc_76 ?_
  refine J_iconst (pc := 148) C dX9_pay_148 ic_3 ?_
  refine J_iload_n (pc := 149) C dX9_pay_149 rfl ?_
  refine J_imul (pc := 150) C dX9_pay_150 ?_
  refine J_iadd (pc := 151) C dX9_pay_151 ?_
  refine J_iconst (pc := 152) C dX9_pay_152 ic_2 ?_
  refine J_iadd (pc := 153) C dX9_pay_153 ?_
  refine J_dup2 (pc := 154) C dX9_pay_154 rfl rfl ?_
  refine J_iald (pc := 155) C dX9_pay_155 hF (fun v155 hF => ?_)
  refine J_iload (pc := 156) C dX9_pay_156 rfl ?_
  refine J_isub (pc := 158) C dX9_pay_158 ?_
  refine J_iast (pc := 159) C dX9_pay_159 hF (fun h159 hF => ?_)
  refine J_aload_n (pc := 160) C dX9_pay_160 rfl ?_
  refine J_iload_n (pc := 161) C dX9_pay_161 rfl ?_
  refine J_iconst (pc := 162) C dX9_pay_162 ic_2 ?_
  refine J_bind hF (fun q163 hq hF => ?_)
  refine J_callV0_ip (pc := 163) (stk := [.int 2, .int x1, .ref a0]) (st := []) C dX9_pay_163 yw_X9_owed w_MLX9_201 in_X9_owed sl_X9_owed ⟨_, rfl, rfl⟩ (kX9_owed hq) (gO_some hq).1 rfl (by decide) rfl (Nat.le_of_ble_eq_true rfl) ?_
  refine J_if_ne (pc := 166) (tgt := 225) C dX9_pay_166 rfl hF (fun hF => ?_) (fun hF => ?_)
  · refine J_aload_n (pc := 169) C dX9_pay_169 rfl ?_
    refine J_getR (pc := 170) C dX9_pay_170 fg_X9_7 hF (fun r170 hF => ?_)
    refine J_iconst (pc := 173) C dX9_pay_173 ic_3 ?_
    refine J_dup2 (pc := 174) C dX9_pay_174 rfl rfl ?_
    refine J_iald (pc := 175) C dX9_pay_175 hF (fun v175 hF => ?_)
    refine J_iconst (pc := 176) C dX9_pay_176 ic_1 ?_
    refine J_isub (pc := 177) C dX9_pay_177 ?_
    refine J_iast (pc := 178) C dX9_pay_178 hF (fun h178 hF => ?_)
    refine J_iconst (pc := 179) C dX9_pay_179 ic_3 ?_
    refine J_iload_n (pc := 180) C dX9_pay_180 rfl ?_
    refine J_imul (pc := 181) C dX9_pay_181 ?_
    refine J_istore (pc := 182) (lv' := [some (.ref a0), some (.int x1), some (.int x2), some (.int x3), some (.int y0), some (.int (3 * x1))]) C dX9_pay_182 rfl ?_
    refine J_msk (m := [true, false, false, false, true, true]) rfl ?_
    exact kX9_pay_184 C 1000 h178 a0 y0 (3 * x1) hF
  · refine J_iload (pc := 225) C dX9_pay_225 rfl ?_
    exact J_iret (pc := 227) C dX9_pay_227 hF (by decide) (by decide)
def fX9_pay (h : Hp) (a0 : Nat) (x1 : Int32) : Option (Int32 × Hp) := gO h 9 a0 (
  (getR h 9 a0 0).bind fun r3 =>
  (rdI h r3 3).bind fun v7 =>
  (fX9_in x1 0 (v7 - 1)).bind fun q10 =>
  if q10 = 0 then
    (fX9_error h a0 1).bind fun q18 =>
    some (q18.1, q18.2)
  else
    (fX9_findHeaps h a0).bind fun q23 =>
    (fX9_owed q23 a0 x1 0).bind fun q29 =>
    (fX9_owed q23 a0 x1 1).bind fun q36 =>
    (fX9_holds q23 a0 x1).bind fun q42 =>
    if q42 = 0 then
      (fX9_error q23 a0 3).bind fun q59 =>
      some (q59.1, q59.2)
    else
      (fX9_of q23 a0 q29 1).bind fun q51 =>
      if q51 = 0 then
        (fX9_error q23 a0 3).bind fun q59 =>
        some (q59.1, q59.2)
      else
        (fX9_owed q23 a0 x1 2).bind fun q66 =>
        (fX9_of q23 a0 q29 1).bind fun q72 =>
        if q72 ≤ q66 then
          (fX9_of q23 a0 q29 1).bind fun q90 =>
          fX9_pay_93 q23 a0 x1 q29 q36 q90
        else
          (fX9_owed q23 a0 x1 2).bind fun q81 =>
          fX9_pay_93 q23 a0 x1 q29 q36 q81)
set_option maxRecDepth 100000 in
theorem kX9_pay {h : Hp} {a0 : Nat} {x1 : Int32} {z : (Int32 × Hp)} (hF : fX9_pay h a0 x1 = some z) : Mc yX9_pay cX9_pay 6 (some .int) 2 0 0 [.ref a0, .int x1] h (some (.int z.1), z.2) := by
  have hF := (gO_some hF).2
  refine Mc_of [some (.ref a0), some (.int x1), none, none, none, none] plX9 rfl rfl (Nat.le_of_ble_eq_true rfl) (fun X C => ?_)
  refine J_iload_n (pc := 0) C dX9_pay_0 rfl ?_
  refine J_iconst (pc := 1) C dX9_pay_1 ic_0 ?_
  refine J_aload_n (pc := 2) C dX9_pay_2 rfl ?_
  refine J_getR (pc := 3) C dX9_pay_3 fg_X9_7 hF (fun r3 hF => ?_)
  refine J_iconst (pc := 6) C dX9_pay_6 ic_3 ?_
  refine J_iald (pc := 7) C dX9_pay_7 hF (fun v7 hF => ?_)
  refine J_iconst (pc := 8) C dX9_pay_8 ic_1 ?_
  refine J_isub (pc := 9) C dX9_pay_9 ?_
  refine J_bind hF (fun q10 hq hF => ?_)
  refine J_callS0_ip (pc := 10) (stk := [.int (v7 - 1), .int 0, .int x1]) (st := []) C dX9_pay_10 yw_X9_in w_MLX9_59 st_X9_in (kX9_in hq) rfl (by decide) rfl (Nat.le_of_ble_eq_true rfl) ?_
  refine J_if_ne (pc := 13) (tgt := 22) C dX9_pay_13 rfl hF (fun hF => ?_) (fun hF => ?_)
  · refine J_aload_n (pc := 16) C dX9_pay_16 rfl ?_
    refine J_iconst (pc := 17) C dX9_pay_17 ic_1 ?_
    refine J_bind hF (fun q18 hq hF => ?_)
    refine J_callV0_i (pc := 18) (stk := [.int 1, .ref a0]) (st := []) C dX9_pay_18 yw_X9_error w_MLX9_63 in_X9_error sl_X9_error ⟨_, rfl, rfl⟩ (kX9_error hq) (gO_some hq).1 rfl (by decide) rfl (Nat.le_of_ble_eq_true rfl) ?_
    exact J_iret (pc := 21) C dX9_pay_21 hF (by decide) (by decide)
  · refine J_aload_n (pc := 22) C dX9_pay_22 rfl ?_
    refine J_bind hF (fun q23 hq hF => ?_)
    refine J_callV0_v (pc := 23) (stk := [.ref a0]) (st := []) C dX9_pay_23 yw_X9_findHeaps w_MLX9_159 in_X9_findHeaps sl_X9_findHeaps ⟨_, rfl, rfl⟩ (kX9_findHeaps hq) (gO_some hq).1 rfl (by decide) rfl (Nat.le_of_ble_eq_true rfl) ?_
    refine J_aload_n (pc := 26) C dX9_pay_26 rfl ?_
    refine J_iload_n (pc := 27) C dX9_pay_27 rfl ?_
    refine J_iconst (pc := 28) C dX9_pay_28 ic_0 ?_
    refine J_bind hF (fun q29 hq hF => ?_)
    refine J_callV0_ip (pc := 29) (stk := [.int 0, .int x1, .ref a0]) (st := []) C dX9_pay_29 yw_X9_owed w_MLX9_201 in_X9_owed sl_X9_owed ⟨_, rfl, rfl⟩ (kX9_owed hq) (gO_some hq).1 rfl (by decide) rfl (Nat.le_of_ble_eq_true rfl) ?_
    refine J_istore_n (pc := 32) (lv' := [some (.ref a0), some (.int x1), some (.int q29), none, none, none]) C dX9_pay_32 rfl ?_
    refine J_aload_n (pc := 33) C dX9_pay_33 rfl ?_
    refine J_iload_n (pc := 34) C dX9_pay_34 rfl ?_
    refine J_iconst (pc := 35) C dX9_pay_35 ic_1 ?_
    refine J_bind hF (fun q36 hq hF => ?_)
    refine J_callV0_ip (pc := 36) (stk := [.int 1, .int x1, .ref a0]) (st := []) C dX9_pay_36 yw_X9_owed w_MLX9_201 in_X9_owed sl_X9_owed ⟨_, rfl, rfl⟩ (kX9_owed hq) (gO_some hq).1 rfl (by decide) rfl (Nat.le_of_ble_eq_true rfl) ?_
    refine J_istore_n (pc := 39) (lv' := [some (.ref a0), some (.int x1), some (.int q29), some (.int q36), none, none]) C dX9_pay_39 rfl ?_
    refine J_aload_n (pc := 40) C dX9_pay_40 rfl ?_
    refine J_iload_n (pc := 41) C dX9_pay_41 rfl ?_
    refine J_bind hF (fun q42 hq hF => ?_)
    refine J_callV0_ip (pc := 42) (stk := [.int x1, .ref a0]) (st := []) C dX9_pay_42 yw_X9_holds w_MLX9_204 in_X9_holds sl_X9_holds ⟨_, rfl, rfl⟩ (kX9_holds hq) (gO_some hq).1 rfl (by decide) rfl (Nat.le_of_ble_eq_true rfl) ?_
    refine J_if_eq (pc := 45) (tgt := 57) C dX9_pay_45 rfl hF (fun hF => ?_) (fun hF => ?_)
    · refine J_aload_n (pc := 57) C dX9_pay_57 rfl ?_
      refine J_iconst (pc := 58) C dX9_pay_58 ic_3 ?_
      refine J_bind hF (fun q59 hq hF => ?_)
      refine J_callV0_i (pc := 59) (stk := [.int 3, .ref a0]) (st := []) C dX9_pay_59 yw_X9_error w_MLX9_63 in_X9_error sl_X9_error ⟨_, rfl, rfl⟩ (kX9_error hq) (gO_some hq).1 rfl (by decide) rfl (Nat.le_of_ble_eq_true rfl) ?_
      exact J_iret (pc := 62) C dX9_pay_62 hF (by decide) (by decide)
    · refine J_aload_n (pc := 48) C dX9_pay_48 rfl ?_
      refine J_iload_n (pc := 49) C dX9_pay_49 rfl ?_
      refine J_iconst (pc := 50) C dX9_pay_50 ic_1 ?_
      refine J_bind hF (fun q51 hq hF => ?_)
      refine J_callV0_ip (pc := 51) (stk := [.int 1, .int q29, .ref a0]) (st := []) C dX9_pay_51 yw_X9_of w_MLX9_162 in_X9_of sl_X9_of ⟨_, rfl, rfl⟩ (kX9_of hq) (gO_some hq).1 rfl (by decide) rfl (Nat.le_of_ble_eq_true rfl) ?_
      refine J_if_ne (pc := 54) (tgt := 63) C dX9_pay_54 rfl hF (fun hF => ?_) (fun hF => ?_)
      · refine J_aload_n (pc := 57) C dX9_pay_57 rfl ?_
        refine J_iconst (pc := 58) C dX9_pay_58 ic_3 ?_
        refine J_bind hF (fun q59 hq hF => ?_)
        refine J_callV0_i (pc := 59) (stk := [.int 3, .ref a0]) (st := []) C dX9_pay_59 yw_X9_error w_MLX9_63 in_X9_error sl_X9_error ⟨_, rfl, rfl⟩ (kX9_error hq) (gO_some hq).1 rfl (by decide) rfl (Nat.le_of_ble_eq_true rfl) ?_
        exact J_iret (pc := 62) C dX9_pay_62 hF (by decide) (by decide)
      · refine J_aload_n (pc := 63) C dX9_pay_63 rfl ?_
        refine J_iload_n (pc := 64) C dX9_pay_64 rfl ?_
        refine J_iconst (pc := 65) C dX9_pay_65 ic_2 ?_
        refine J_bind hF (fun q66 hq hF => ?_)
        refine J_callV0_ip (pc := 66) (stk := [.int 2, .int x1, .ref a0]) (st := []) C dX9_pay_66 yw_X9_owed w_MLX9_201 in_X9_owed sl_X9_owed ⟨_, rfl, rfl⟩ (kX9_owed hq) (gO_some hq).1 rfl (by decide) rfl (Nat.le_of_ble_eq_true rfl) ?_
        refine J_aload_n (pc := 69) C dX9_pay_69 rfl ?_
        refine J_iload_n (pc := 70) C dX9_pay_70 rfl ?_
        refine J_iconst (pc := 71) C dX9_pay_71 ic_1 ?_
        refine J_bind hF (fun q72 hq hF => ?_)
        refine J_callV0_ip (pc := 72) (stk := [.int 1, .int q29, .ref a0, .int q66]) (st := [.int q66]) C dX9_pay_72 yw_X9_of w_MLX9_162 in_X9_of sl_X9_of ⟨_, rfl, rfl⟩ (kX9_of hq) (gO_some hq).1 rfl (by decide) rfl (Nat.le_of_ble_eq_true rfl) ?_
        refine J_icmp_ge (pc := 75) (tgt := 87) C dX9_pay_75 rfl hF (fun hF => ?_) (fun hF => ?_)
        · refine J_aload_n (pc := 87) C dX9_pay_87 rfl ?_
          refine J_iload_n (pc := 88) C dX9_pay_88 rfl ?_
          refine J_iconst (pc := 89) C dX9_pay_89 ic_1 ?_
          refine J_bind hF (fun q90 hq hF => ?_)
          refine J_callV0_ip (pc := 90) (stk := [.int 1, .int q29, .ref a0]) (st := []) C dX9_pay_90 yw_X9_of w_MLX9_162 in_X9_of sl_X9_of ⟨_, rfl, rfl⟩ (kX9_of hq) (gO_some hq).1 rfl (by decide) rfl (Nat.le_of_ble_eq_true rfl) ?_
          exact kX9_pay_93 C q23 a0 x1 q29 q36 q90 hF
        · refine J_aload_n (pc := 78) C dX9_pay_78 rfl ?_
          refine J_iload_n (pc := 79) C dX9_pay_79 rfl ?_
          refine J_iconst (pc := 80) C dX9_pay_80 ic_2 ?_
          refine J_bind hF (fun q81 hq hF => ?_)
          refine J_callV0_ip (pc := 81) (stk := [.int 2, .int x1, .ref a0]) (st := []) C dX9_pay_81 yw_X9_owed w_MLX9_201 in_X9_owed sl_X9_owed ⟨_, rfl, rfl⟩ (kX9_owed hq) (gO_some hq).1 rfl (by decide) rfl (Nat.le_of_ble_eq_true rfl) ?_
          refine J_goto (pc := 84) (tgt := 93) C dX9_pay_84 rfl ?_
          exact kX9_pay_93 C q23 a0 x1 q29 q36 q81 hF
def fX9_person (h : Hp) (a0 : Nat) (x1 : Int32) : Option (Int32 × Hp) := gO h 9 a0 (
  (fX9_in x1 0 1).bind fun q3 =>
  if q3 = 0 then
    (fX9_error h a0 1).bind fun q11 =>
    some (q11.1, q11.2)
  else
    (getR h 9 a0 0).bind fun r16 =>
    (rdI h r16 0).bind fun v20 =>
    if v20 = 8 then
      (fX9_error h a0 4).bind fun q28 =>
      some (q28.1, q28.2)
    else
      (getR h 9 a0 0).bind fun r33 =>
      (getR h 9 a0 0).bind fun r40 =>
      (rdI h r40 0).bind fun v44 =>
      (wrI h r33 (8 + (2 * v44)) x1).bind fun h48 =>
      (getR h48 9 a0 0).bind fun r50 =>
      (getR h48 9 a0 0).bind fun r57 =>
      (rdI h48 r57 0).bind fun v61 =>
      (wrI h48 r50 ((8 + (2 * v61)) + 1) 20).bind fun h68 =>
      (getR h68 9 a0 0).bind fun r70 =>
      (rdI h68 r70 0).bind fun v75 =>
      (wrI h68 r70 0 (v75 + 1)).bind fun h78 =>
      (getR h78 9 a0 0).bind fun r80 =>
      (rdI h78 r80 0).bind fun v84 =>
      some (v84 - 1, h78))
set_option maxRecDepth 100000 in
theorem kX9_person {h : Hp} {a0 : Nat} {x1 : Int32} {z : (Int32 × Hp)} (hF : fX9_person h a0 x1 = some z) : Mc yX9_person cX9_person 2 (some .int) 1 0 0 [.ref a0, .int x1] h (some (.int z.1), z.2) := by
  have hF := (gO_some hF).2
  refine Mc_of [some (.ref a0), some (.int x1)] plX9 rfl rfl (Nat.le_of_ble_eq_true rfl) (fun X C => ?_)
  refine J_iload_n (pc := 0) C dX9_person_0 rfl ?_
  refine J_iconst (pc := 1) C dX9_person_1 ic_0 ?_
  refine J_iconst (pc := 2) C dX9_person_2 ic_1 ?_
  refine J_bind hF (fun q3 hq hF => ?_)
  refine J_callS0_ip (pc := 3) (stk := [.int 1, .int 0, .int x1]) (st := []) C dX9_person_3 yw_X9_in w_MLX9_59 st_X9_in (kX9_in hq) rfl (by decide) rfl (Nat.le_of_ble_eq_true rfl) ?_
  refine J_if_ne (pc := 6) (tgt := 15) C dX9_person_6 rfl hF (fun hF => ?_) (fun hF => ?_)
  · refine J_aload_n (pc := 9) C dX9_person_9 rfl ?_
    refine J_iconst (pc := 10) C dX9_person_10 ic_1 ?_
    refine J_bind hF (fun q11 hq hF => ?_)
    refine J_callV0_i (pc := 11) (stk := [.int 1, .ref a0]) (st := []) C dX9_person_11 yw_X9_error w_MLX9_63 in_X9_error sl_X9_error ⟨_, rfl, rfl⟩ (kX9_error hq) (gO_some hq).1 rfl (by decide) rfl (Nat.le_of_ble_eq_true rfl) ?_
    exact J_iret (pc := 14) C dX9_person_14 hF (by decide) (by decide)
  · refine J_aload_n (pc := 15) C dX9_person_15 rfl ?_
    refine J_getR (pc := 16) C dX9_person_16 fg_X9_7 hF (fun r16 hF => ?_)
    refine J_iconst (pc := 19) C dX9_person_19 ic_0 ?_
    refine J_iald (pc := 20) C dX9_person_20 hF (fun v20 hF => ?_)
    refine J_bipush (pc := 21) C dX9_person_21 bc_8 ?_
    refine J_icmp_ne (pc := 23) (tgt := 32) C dX9_person_23 rfl hF (fun hF => ?_) (fun hF => ?_)
    · refine J_aload_n (pc := 26) C dX9_person_26 rfl ?_
      refine J_iconst (pc := 27) C dX9_person_27 ic_4 ?_
      refine J_bind hF (fun q28 hq hF => ?_)
      refine J_callV0_i (pc := 28) (stk := [.int 4, .ref a0]) (st := []) C dX9_person_28 yw_X9_error w_MLX9_63 in_X9_error sl_X9_error ⟨_, rfl, rfl⟩ (kX9_error hq) (gO_some hq).1 rfl (by decide) rfl (Nat.le_of_ble_eq_true rfl) ?_
      exact J_iret (pc := 31) C dX9_person_31 hF (by decide) (by decide)
    · refine J_aload_n (pc := 32) C dX9_person_32 rfl ?_
      refine J_getR (pc := 33) C dX9_person_33 fg_X9_7 hF (fun r33 hF => ?_)
      refine J_bipush (pc := 36) C dX9_person_36 bc_8 ?_
      refine J_iconst (pc := 38) C dX9_person_38 ic_2 ?_
      refine J_aload_n (pc := 39) C dX9_person_39 rfl ?_
      refine J_getR (pc := 40) C dX9_person_40 fg_X9_7 hF (fun r40 hF => ?_)
      refine J_iconst (pc := 43) C dX9_person_43 ic_0 ?_
      refine J_iald (pc := 44) C dX9_person_44 hF (fun v44 hF => ?_)
      refine J_imul (pc := 45) C dX9_person_45 ?_
      refine J_iadd (pc := 46) C dX9_person_46 ?_
      refine J_iload_n (pc := 47) C dX9_person_47 rfl ?_
      refine J_iast (pc := 48) C dX9_person_48 hF (fun h48 hF => ?_)
      refine J_aload_n (pc := 49) C dX9_person_49 rfl ?_
      refine J_getR (pc := 50) C dX9_person_50 fg_X9_7 hF (fun r50 hF => ?_)
      refine J_bipush (pc := 53) C dX9_person_53 bc_8 ?_
      refine J_iconst (pc := 55) C dX9_person_55 ic_2 ?_
      refine J_aload_n (pc := 56) C dX9_person_56 rfl ?_
      refine J_getR (pc := 57) C dX9_person_57 fg_X9_7 hF (fun r57 hF => ?_)
      refine J_iconst (pc := 60) C dX9_person_60 ic_0 ?_
      refine J_iald (pc := 61) C dX9_person_61 hF (fun v61 hF => ?_)
      refine J_imul (pc := 62) C dX9_person_62 ?_
      refine J_iadd (pc := 63) C dX9_person_63 ?_
      refine J_iconst (pc := 64) C dX9_person_64 ic_1 ?_
      refine J_iadd (pc := 65) C dX9_person_65 ?_
      refine J_bipush (pc := 66) C dX9_person_66 bc_20 ?_
      refine J_iast (pc := 68) C dX9_person_68 hF (fun h68 hF => ?_)
      refine J_aload_n (pc := 69) C dX9_person_69 rfl ?_
      refine J_getR (pc := 70) C dX9_person_70 fg_X9_7 hF (fun r70 hF => ?_)
      refine J_iconst (pc := 73) C dX9_person_73 ic_0 ?_
      refine J_dup2 (pc := 74) C dX9_person_74 rfl rfl ?_
      refine J_iald (pc := 75) C dX9_person_75 hF (fun v75 hF => ?_)
      refine J_iconst (pc := 76) C dX9_person_76 ic_1 ?_
      refine J_iadd (pc := 77) C dX9_person_77 ?_
      refine J_iast (pc := 78) C dX9_person_78 hF (fun h78 hF => ?_)
      refine J_aload_n (pc := 79) C dX9_person_79 rfl ?_
      refine J_getR (pc := 80) C dX9_person_80 fg_X9_7 hF (fun r80 hF => ?_)
      refine J_iconst (pc := 83) C dX9_person_83 ic_0 ?_
      refine J_iald (pc := 84) C dX9_person_84 hF (fun v84 hF => ?_)
      refine J_iconst (pc := 85) C dX9_person_85 ic_1 ?_
      refine J_isub (pc := 86) C dX9_person_86 ?_
      exact J_iret (pc := 87) C dX9_person_87 hF (by decide) (by decide)
def fX9_personIs (h : Hp) (a0 : Nat) (x1 : Int32) (x2 : Int32) : Option (Int32 × Hp) := gO h 9 a0 (
  (fX9_isPerson h a0 x1).bind fun q2 =>
  if q2 = 0 then
    (fX9_error h a0 1).bind fun q19 =>
    some (q19.1, q19.2)
  else
    (fX9_in x2 0 3).bind fun q11 =>
    if q11 = 0 then
      (fX9_error h a0 1).bind fun q19 =>
      some (q19.1, q19.2)
    else
      (fX9_findHeaps h a0).bind fun q24 =>
      if (2 : Int32) ≤ x2 then
        if x2 = 2 then
          (fX9_knownBy q24 a0 x1).bind fun q48 =>
          some (q48, q24)
        else
          (getR q24 9 a0 13).bind fun r55 =>
          (rdI q24 r55 x1).bind fun v59 =>
          some (v59, q24)
      else
        (fX9_of q24 a0 x1 x2).bind fun q35 =>
        some (q35, q24))
set_option maxRecDepth 100000 in
theorem kX9_personIs {h : Hp} {a0 : Nat} {x1 : Int32} {x2 : Int32} {z : (Int32 × Hp)} (hF : fX9_personIs h a0 x1 x2 = some z) : Mc yX9_personIs cX9_personIs 3 (some .int) 4 0 0 [.ref a0, .int x1, .int x2] h (some (.int z.1), z.2) := by
  have hF := (gO_some hF).2
  refine Mc_of [some (.ref a0), some (.int x1), some (.int x2)] plX9 rfl rfl (Nat.le_of_ble_eq_true rfl) (fun X C => ?_)
  refine J_aload_n (pc := 0) C dX9_personIs_0 rfl ?_
  refine J_iload_n (pc := 1) C dX9_personIs_1 rfl ?_
  refine J_bind hF (fun q2 hq hF => ?_)
  refine J_callV0_ip (pc := 2) (stk := [.int x1, .ref a0]) (st := []) C dX9_personIs_2 yw_X9_isPerson w_MLX9_156 in_X9_isPerson sl_X9_isPerson ⟨_, rfl, rfl⟩ (kX9_isPerson hq) (gO_some hq).1 rfl (by decide) rfl (Nat.le_of_ble_eq_true rfl) ?_
  refine J_if_eq (pc := 5) (tgt := 17) C dX9_personIs_5 rfl hF (fun hF => ?_) (fun hF => ?_)
  · refine J_aload_n (pc := 17) C dX9_personIs_17 rfl ?_
    refine J_iconst (pc := 18) C dX9_personIs_18 ic_1 ?_
    refine J_bind hF (fun q19 hq hF => ?_)
    refine J_callV0_i (pc := 19) (stk := [.int 1, .ref a0]) (st := []) C dX9_personIs_19 yw_X9_error w_MLX9_63 in_X9_error sl_X9_error ⟨_, rfl, rfl⟩ (kX9_error hq) (gO_some hq).1 rfl (by decide) rfl (Nat.le_of_ble_eq_true rfl) ?_
    exact J_iret (pc := 22) C dX9_personIs_22 hF (by decide) (by decide)
  · refine J_iload_n (pc := 8) C dX9_personIs_8 rfl ?_
    refine J_iconst (pc := 9) C dX9_personIs_9 ic_0 ?_
    refine J_iconst (pc := 10) C dX9_personIs_10 ic_3 ?_
    refine J_bind hF (fun q11 hq hF => ?_)
    refine J_callS0_ip (pc := 11) (stk := [.int 3, .int 0, .int x2]) (st := []) C dX9_personIs_11 yw_X9_in w_MLX9_59 st_X9_in (kX9_in hq) rfl (by decide) rfl (Nat.le_of_ble_eq_true rfl) ?_
    refine J_if_ne (pc := 14) (tgt := 23) C dX9_personIs_14 rfl hF (fun hF => ?_) (fun hF => ?_)
    · refine J_aload_n (pc := 17) C dX9_personIs_17 rfl ?_
      refine J_iconst (pc := 18) C dX9_personIs_18 ic_1 ?_
      refine J_bind hF (fun q19 hq hF => ?_)
      refine J_callV0_i (pc := 19) (stk := [.int 1, .ref a0]) (st := []) C dX9_personIs_19 yw_X9_error w_MLX9_63 in_X9_error sl_X9_error ⟨_, rfl, rfl⟩ (kX9_error hq) (gO_some hq).1 rfl (by decide) rfl (Nat.le_of_ble_eq_true rfl) ?_
      exact J_iret (pc := 22) C dX9_personIs_22 hF (by decide) (by decide)
    · refine J_aload_n (pc := 23) C dX9_personIs_23 rfl ?_
      refine J_bind hF (fun q24 hq hF => ?_)
      refine J_callV0_v (pc := 24) (stk := [.ref a0]) (st := []) C dX9_personIs_24 yw_X9_findHeaps w_MLX9_159 in_X9_findHeaps sl_X9_findHeaps ⟨_, rfl, rfl⟩ (kX9_findHeaps hq) (gO_some hq).1 rfl (by decide) rfl (Nat.le_of_ble_eq_true rfl) ?_
      refine J_iload_n (pc := 27) C dX9_personIs_27 rfl ?_
      refine J_iconst (pc := 28) C dX9_personIs_28 ic_2 ?_
      refine J_icmp_ge (pc := 29) (tgt := 41) C dX9_personIs_29 rfl hF (fun hF => ?_) (fun hF => ?_)
      · refine J_iload_n (pc := 41) C dX9_personIs_41 rfl ?_
        refine J_iconst (pc := 42) C dX9_personIs_42 ic_2 ?_
        refine J_icmp_ne (pc := 43) (tgt := 54) C dX9_personIs_43 rfl hF (fun hF => ?_) (fun hF => ?_)
        · refine J_aload_n (pc := 46) C dX9_personIs_46 rfl ?_
          refine J_iload_n (pc := 47) C dX9_personIs_47 rfl ?_
          refine J_bind hF (fun q48 hq hF => ?_)
          refine J_callV0_ip (pc := 48) (stk := [.int x1, .ref a0]) (st := []) C dX9_personIs_48 yw_X9_knownBy w_MLX9_165 in_X9_knownBy sl_X9_knownBy ⟨_, rfl, rfl⟩ (kX9_knownBy hq) (gO_some hq).1 rfl (by decide) rfl (Nat.le_of_ble_eq_true rfl) ?_
          refine J_goto (pc := 51) (tgt := 60) C dX9_personIs_51 rfl ?_
          exact J_iret (pc := 60) C dX9_personIs_60 hF (by decide) (by decide)
        · refine J_aload_n (pc := 54) C dX9_personIs_54 rfl ?_
          refine J_getR (pc := 55) C dX9_personIs_55 fg_X9_34 hF (fun r55 hF => ?_)
          refine J_iload_n (pc := 58) C dX9_personIs_58 rfl ?_
          refine J_iald (pc := 59) C dX9_personIs_59 hF (fun v59 hF => ?_)
          exact J_iret (pc := 60) C dX9_personIs_60 hF (by decide) (by decide)
      · refine J_aload_n (pc := 32) C dX9_personIs_32 rfl ?_
        refine J_iload_n (pc := 33) C dX9_personIs_33 rfl ?_
        refine J_iload_n (pc := 34) C dX9_personIs_34 rfl ?_
        refine J_bind hF (fun q35 hq hF => ?_)
        refine J_callV0_ip (pc := 35) (stk := [.int x2, .int x1, .ref a0]) (st := []) C dX9_personIs_35 yw_X9_of w_MLX9_162 in_X9_of sl_X9_of ⟨_, rfl, rfl⟩ (kX9_of hq) (gO_some hq).1 rfl (by decide) rfl (Nat.le_of_ble_eq_true rfl) ?_
        refine J_goto (pc := 38) (tgt := 60) C dX9_personIs_38 rfl ?_
        exact J_iret (pc := 60) C dX9_personIs_60 hF (by decide) (by decide)
def fX9_put (h : Hp) (a0 : Nat) (x1 : Int32) (x2 : Int32) (x3 : Int32) : Option (Int32 × Hp) := gO h 9 a0 (
  (fX9_isSheet x1).bind fun q1 =>
  if q1 = 0 then
    (fX9_error h a0 1).bind fun q9 =>
    some (q9.1, q9.2)
  else
    (getR h 9 a0 23).bind fun r14 =>
    (rdI h r14 x1).bind fun v18 =>
    if v18 = 0 then
      (fX9_error h a0 2).bind fun q24 =>
      some (q24.1, q24.2)
    else
      (getR h 9 a0 24).bind fun r31 =>
      (rdI h r31 x1).bind fun v35 =>
      (fX9_in x2 0 (v35 - 1)).bind fun q38 =>
      if q38 = 0 then
        (fX9_error h a0 1).bind fun q46 =>
        some (q46.1, q46.2)
      else
        (getR h 9 a0 23).bind fun r53 =>
        (rdI h r53 x1).bind fun v57 =>
        (getR h 9 a0 25).bind fun r62 =>
        (wrI h r62 ((24 * x1) + x2) ((x3 <<< ((32 - v57) &&& 31)) >>> ((32 - v57) &&& 31))).bind fun h78 =>
        some (1, h78))
set_option maxRecDepth 100000 in
theorem kX9_put {h : Hp} {a0 : Nat} {x1 : Int32} {x2 : Int32} {x3 : Int32} {z : (Int32 × Hp)} (hF : fX9_put h a0 x1 x2 x3 = some z) : Mc yX9_put cX9_put 5 (some .int) 2 0 0 [.ref a0, .int x1, .int x2, .int x3] h (some (.int z.1), z.2) := by
  have hF := (gO_some hF).2
  refine Mc_of [some (.ref a0), some (.int x1), some (.int x2), some (.int x3), none] plX9 rfl rfl (Nat.le_of_ble_eq_true rfl) (fun X C => ?_)
  refine J_iload_n (pc := 0) C dX9_put_0 rfl ?_
  refine J_bind hF (fun q1 hq hF => ?_)
  refine J_callS0_ip (pc := 1) (stk := [.int x1]) (st := []) C dX9_put_1 yw_X9_isSheet w_MLX9_280 st_X9_isSheet (kX9_isSheet hq) rfl (by decide) rfl (Nat.le_of_ble_eq_true rfl) ?_
  refine J_if_ne (pc := 4) (tgt := 13) C dX9_put_4 rfl hF (fun hF => ?_) (fun hF => ?_)
  · refine J_aload_n (pc := 7) C dX9_put_7 rfl ?_
    refine J_iconst (pc := 8) C dX9_put_8 ic_1 ?_
    refine J_bind hF (fun q9 hq hF => ?_)
    refine J_callV0_i (pc := 9) (stk := [.int 1, .ref a0]) (st := []) C dX9_put_9 yw_X9_error w_MLX9_63 in_X9_error sl_X9_error ⟨_, rfl, rfl⟩ (kX9_error hq) (gO_some hq).1 rfl (by decide) rfl (Nat.le_of_ble_eq_true rfl) ?_
    exact J_iret (pc := 12) C dX9_put_12 hF (by decide) (by decide)
  · refine J_aload_n (pc := 13) C dX9_put_13 rfl ?_
    refine J_getR (pc := 14) C dX9_put_14 fg_X9_46 hF (fun r14 hF => ?_)
    refine J_iload_n (pc := 17) C dX9_put_17 rfl ?_
    refine J_iald (pc := 18) C dX9_put_18 hF (fun v18 hF => ?_)
    refine J_if_ne (pc := 19) (tgt := 28) C dX9_put_19 rfl hF (fun hF => ?_) (fun hF => ?_)
    · refine J_aload_n (pc := 22) C dX9_put_22 rfl ?_
      refine J_iconst (pc := 23) C dX9_put_23 ic_2 ?_
      refine J_bind hF (fun q24 hq hF => ?_)
      refine J_callV0_i (pc := 24) (stk := [.int 2, .ref a0]) (st := []) C dX9_put_24 yw_X9_error w_MLX9_63 in_X9_error sl_X9_error ⟨_, rfl, rfl⟩ (kX9_error hq) (gO_some hq).1 rfl (by decide) rfl (Nat.le_of_ble_eq_true rfl) ?_
      exact J_iret (pc := 27) C dX9_put_27 hF (by decide) (by decide)
    · refine J_iload_n (pc := 28) C dX9_put_28 rfl ?_
      refine J_iconst (pc := 29) C dX9_put_29 ic_0 ?_
      refine J_aload_n (pc := 30) C dX9_put_30 rfl ?_
      refine J_getR (pc := 31) C dX9_put_31 fg_X9_49 hF (fun r31 hF => ?_)
      refine J_iload_n (pc := 34) C dX9_put_34 rfl ?_
      refine J_iald (pc := 35) C dX9_put_35 hF (fun v35 hF => ?_)
      refine J_iconst (pc := 36) C dX9_put_36 ic_1 ?_
      refine J_isub (pc := 37) C dX9_put_37 ?_
      refine J_bind hF (fun q38 hq hF => ?_)
      refine J_callS0_ip (pc := 38) (stk := [.int (v35 - 1), .int 0, .int x2]) (st := []) C dX9_put_38 yw_X9_in w_MLX9_59 st_X9_in (kX9_in hq) rfl (by decide) rfl (Nat.le_of_ble_eq_true rfl) ?_
      refine J_if_ne (pc := 41) (tgt := 50) C dX9_put_41 rfl hF (fun hF => ?_) (fun hF => ?_)
      · refine J_aload_n (pc := 44) C dX9_put_44 rfl ?_
        refine J_iconst (pc := 45) C dX9_put_45 ic_1 ?_
        refine J_bind hF (fun q46 hq hF => ?_)
        refine J_callV0_i (pc := 46) (stk := [.int 1, .ref a0]) (st := []) C dX9_put_46 yw_X9_error w_MLX9_63 in_X9_error sl_X9_error ⟨_, rfl, rfl⟩ (kX9_error hq) (gO_some hq).1 rfl (by decide) rfl (Nat.le_of_ble_eq_true rfl) ?_
        exact J_iret (pc := 49) C dX9_put_49 hF (by decide) (by decide)
      · refine J_bipush (pc := 50) C dX9_put_50 bc_32 ?_
        refine J_aload_n (pc := 52) C dX9_put_52 rfl ?_
        refine J_getR (pc := 53) C dX9_put_53 fg_X9_46 hF (fun r53 hF => ?_)
        refine J_iload_n (pc := 56) C dX9_put_56 rfl ?_
        refine J_iald (pc := 57) C dX9_put_57 hF (fun v57 hF => ?_)
        refine J_isub (pc := 58) C dX9_put_58 ?_
        refine J_istore (pc := 59) (lv' := [some (.ref a0), some (.int x1), some (.int x2), some (.int x3), some (.int (32 - v57))]) C dX9_put_59 rfl ?_
        refine J_aload_n (pc := 61) C dX9_put_61 rfl ?_
        refine J_getR (pc := 62) C dX9_put_62 fg_X9_52 hF (fun r62 hF => ?_)
        refine J_bipush (pc := 65) C dX9_put_65 bc_24 ?_
        refine J_iload_n (pc := 67) C dX9_put_67 rfl ?_
        refine J_imul (pc := 68) C dX9_put_68 ?_
        refine J_iload_n (pc := 69) C dX9_put_69 rfl ?_
        refine J_iadd (pc := 70) C dX9_put_70 ?_
        refine J_iload_n (pc := 71) C dX9_put_71 rfl ?_
        refine J_iload (pc := 72) C dX9_put_72 rfl ?_
        refine J_ishl (pc := 74) C dX9_put_74 ?_
        refine J_iload (pc := 75) C dX9_put_75 rfl ?_
        refine J_ishr (pc := 77) C dX9_put_77 ?_
        refine J_iast (pc := 78) C dX9_put_78 hF (fun h78 hF => ?_)
        refine J_iconst (pc := 79) C dX9_put_79 ic_1 ?_
        exact J_iret (pc := 80) C dX9_put_80 hF (by decide) (by decide)
def fX9_restore (h : Hp) (a0 : Nat) : Option (Int32 × Hp) := gO h 9 a0 (
  (getI h 9 a0 4).bind fun v1 =>
  if v1 = 0 then
    (fX9_error h a0 2).bind fun q9 =>
    some (q9.1, q9.2)
  else
    (getR h 9 a0 1).bind fun r14 =>
    (getR h 9 a0 0).bind fun r18 =>
    (fX9_carry h r14 r18).bind fun q21 =>
    (getR q21 9 a0 0).bind fun r25 =>
    (rdI q21 r25 2).bind fun v29 =>
    some (v29, q21))
set_option maxRecDepth 100000 in
theorem kX9_restore {h : Hp} {a0 : Nat} {z : (Int32 × Hp)} (hF : fX9_restore h a0 = some z) : Mc yX9_restore cX9_restore 1 (some .int) 1 0 0 [.ref a0] h (some (.int z.1), z.2) := by
  have hF := (gO_some hF).2
  refine Mc_of [some (.ref a0)] plX9 rfl rfl (Nat.le_of_ble_eq_true rfl) (fun X C => ?_)
  refine J_aload_n (pc := 0) C dX9_restore_0 rfl ?_
  refine J_getI (pc := 1) C dX9_restore_1 fg_X9_239 hF (fun v1 hF => ?_)
  refine J_if_ne (pc := 4) (tgt := 13) C dX9_restore_4 rfl hF (fun hF => ?_) (fun hF => ?_)
  · refine J_aload_n (pc := 7) C dX9_restore_7 rfl ?_
    refine J_iconst (pc := 8) C dX9_restore_8 ic_2 ?_
    refine J_bind hF (fun q9 hq hF => ?_)
    refine J_callV0_i (pc := 9) (stk := [.int 2, .ref a0]) (st := []) C dX9_restore_9 yw_X9_error w_MLX9_63 in_X9_error sl_X9_error ⟨_, rfl, rfl⟩ (kX9_error hq) (gO_some hq).1 rfl (by decide) rfl (Nat.le_of_ble_eq_true rfl) ?_
    exact J_iret (pc := 12) C dX9_restore_12 hF (by decide) (by decide)
  · refine J_aload_n (pc := 13) C dX9_restore_13 rfl ?_
    refine J_getR (pc := 14) C dX9_restore_14 fg_X9_13 hF (fun r14 hF => ?_)
    refine J_aload_n (pc := 17) C dX9_restore_17 rfl ?_
    refine J_getR (pc := 18) C dX9_restore_18 fg_X9_7 hF (fun r18 hF => ?_)
    refine J_bind hF (fun q21 hq hF => ?_)
    refine J_callS0_v (pc := 21) (stk := [.ref r18, .ref r14]) (st := []) C dX9_restore_21 yw_X9_carry w_MLX9_242 st_X9_carry (kX9_carry hq) rfl (by decide) rfl (Nat.le_of_ble_eq_true rfl) ?_
    refine J_aload_n (pc := 24) C dX9_restore_24 rfl ?_
    refine J_getR (pc := 25) C dX9_restore_25 fg_X9_7 hF (fun r25 hF => ?_)
    refine J_iconst (pc := 28) C dX9_restore_28 ic_2 ?_
    refine J_iald (pc := 29) C dX9_restore_29 hF (fun v29 hF => ?_)
    exact J_iret (pc := 30) C dX9_restore_30 hF (by decide) (by decide)
def fX9_rows (h : Hp) (a0 : Nat) (x1 : Int32) (x2 : Int32) : Option (Int32 × Hp) := gO h 9 a0 (
  (fX9_in x1 0 3).bind fun q3 =>
  if q3 = 0 then
    (fX9_error h a0 1).bind fun q20 =>
    some (q20.1, q20.2)
  else
    (fX9_in x2 0 1).bind fun q12 =>
    if q12 = 0 then
      (fX9_error h a0 1).bind fun q20 =>
      some (q20.1, q20.2)
    else
      (getI h 9 a0 4).bind fun v25 =>
      if v25 = 0 then
        (fX9_error h a0 2).bind fun q33 =>
        some (q33.1, q33.2)
      else
        (putV h 9 a0 17 (.int 0)).bind fun h39 =>
        (putV h39 9 a0 18 (.int 0)).bind fun h44 =>
        (getR h44 9 a0 0).bind fun r48 =>
        (getR h44 9 a0 2).bind fun r52 =>
        (fX9_carry h44 r48 r52).bind fun q55 =>
        (getR q55 9 a0 1).bind fun r59 =>
        (getR q55 9 a0 0).bind fun r63 =>
        (fX9_carry q55 r59 r63).bind fun q66 =>
        (fX9_fits q66 a0 x1 0 0).bind fun q73 =>
        (getR q73 9 a0 2).bind fun r77 =>
        (getR q73 9 a0 0).bind fun r81 =>
        (fX9_carry q73 r77 r81).bind fun q84 =>
        if x2 = 0 then
          (getI q84 9 a0 17).bind fun v92 =>
          some (v92, q84)
        else
          (getI q84 9 a0 18).bind fun v99 =>
          some (v99, q84))
set_option maxRecDepth 100000 in
theorem kX9_rows {h : Hp} {a0 : Nat} {x1 : Int32} {x2 : Int32} {z : (Int32 × Hp)} (hF : fX9_rows h a0 x1 x2 = some z) : Mc yX9_rows cX9_rows 3 (some .int) 15 0 0 [.ref a0, .int x1, .int x2] h (some (.int z.1), z.2) := by
  have hF := (gO_some hF).2
  refine Mc_of [some (.ref a0), some (.int x1), some (.int x2)] plX9 rfl rfl (Nat.le_of_ble_eq_true rfl) (fun X C => ?_)
  refine J_iload_n (pc := 0) C dX9_rows_0 rfl ?_
  refine J_iconst (pc := 1) C dX9_rows_1 ic_0 ?_
  refine J_iconst (pc := 2) C dX9_rows_2 ic_3 ?_
  refine J_bind hF (fun q3 hq hF => ?_)
  refine J_callS0_ip (pc := 3) (stk := [.int 3, .int 0, .int x1]) (st := []) C dX9_rows_3 yw_X9_in w_MLX9_59 st_X9_in (kX9_in hq) rfl (by decide) rfl (Nat.le_of_ble_eq_true rfl) ?_
  refine J_if_eq (pc := 6) (tgt := 18) C dX9_rows_6 rfl hF (fun hF => ?_) (fun hF => ?_)
  · refine J_aload_n (pc := 18) C dX9_rows_18 rfl ?_
    refine J_iconst (pc := 19) C dX9_rows_19 ic_1 ?_
    refine J_bind hF (fun q20 hq hF => ?_)
    refine J_callV0_i (pc := 20) (stk := [.int 1, .ref a0]) (st := []) C dX9_rows_20 yw_X9_error w_MLX9_63 in_X9_error sl_X9_error ⟨_, rfl, rfl⟩ (kX9_error hq) (gO_some hq).1 rfl (by decide) rfl (Nat.le_of_ble_eq_true rfl) ?_
    exact J_iret (pc := 23) C dX9_rows_23 hF (by decide) (by decide)
  · refine J_iload_n (pc := 9) C dX9_rows_9 rfl ?_
    refine J_iconst (pc := 10) C dX9_rows_10 ic_0 ?_
    refine J_iconst (pc := 11) C dX9_rows_11 ic_1 ?_
    refine J_bind hF (fun q12 hq hF => ?_)
    refine J_callS0_ip (pc := 12) (stk := [.int 1, .int 0, .int x2]) (st := []) C dX9_rows_12 yw_X9_in w_MLX9_59 st_X9_in (kX9_in hq) rfl (by decide) rfl (Nat.le_of_ble_eq_true rfl) ?_
    refine J_if_ne (pc := 15) (tgt := 24) C dX9_rows_15 rfl hF (fun hF => ?_) (fun hF => ?_)
    · refine J_aload_n (pc := 18) C dX9_rows_18 rfl ?_
      refine J_iconst (pc := 19) C dX9_rows_19 ic_1 ?_
      refine J_bind hF (fun q20 hq hF => ?_)
      refine J_callV0_i (pc := 20) (stk := [.int 1, .ref a0]) (st := []) C dX9_rows_20 yw_X9_error w_MLX9_63 in_X9_error sl_X9_error ⟨_, rfl, rfl⟩ (kX9_error hq) (gO_some hq).1 rfl (by decide) rfl (Nat.le_of_ble_eq_true rfl) ?_
      exact J_iret (pc := 23) C dX9_rows_23 hF (by decide) (by decide)
    · refine J_aload_n (pc := 24) C dX9_rows_24 rfl ?_
      refine J_getI (pc := 25) C dX9_rows_25 fg_X9_239 hF (fun v25 hF => ?_)
      refine J_if_ne (pc := 28) (tgt := 37) C dX9_rows_28 rfl hF (fun hF => ?_) (fun hF => ?_)
      · refine J_aload_n (pc := 31) C dX9_rows_31 rfl ?_
        refine J_iconst (pc := 32) C dX9_rows_32 ic_2 ?_
        refine J_bind hF (fun q33 hq hF => ?_)
        refine J_callV0_i (pc := 33) (stk := [.int 2, .ref a0]) (st := []) C dX9_rows_33 yw_X9_error w_MLX9_63 in_X9_error sl_X9_error ⟨_, rfl, rfl⟩ (kX9_error hq) (gO_some hq).1 rfl (by decide) rfl (Nat.le_of_ble_eq_true rfl) ?_
        exact J_iret (pc := 36) C dX9_rows_36 hF (by decide) (by decide)
      · refine J_aload_n (pc := 37) C dX9_rows_37 rfl ?_
        refine J_iconst (pc := 38) C dX9_rows_38 ic_0 ?_
        refine J_put (pc := 39) C dX9_rows_39 (fp_X9_230 _) hF rfl rfl (fun h39 hF => ?_)
        refine J_aload_n (pc := 42) C dX9_rows_42 rfl ?_
        refine J_iconst (pc := 43) C dX9_rows_43 ic_0 ?_
        refine J_put (pc := 44) C dX9_rows_44 (fp_X9_233 _) hF rfl rfl (fun h44 hF => ?_)
        refine J_aload_n (pc := 47) C dX9_rows_47 rfl ?_
        refine J_getR (pc := 48) C dX9_rows_48 fg_X9_7 hF (fun r48 hF => ?_)
        refine J_aload_n (pc := 51) C dX9_rows_51 rfl ?_
        refine J_getR (pc := 52) C dX9_rows_52 fg_X9_16 hF (fun r52 hF => ?_)
        refine J_bind hF (fun q55 hq hF => ?_)
        refine J_callS0_v (pc := 55) (stk := [.ref r52, .ref r48]) (st := []) C dX9_rows_55 yw_X9_carry w_MLX9_242 st_X9_carry (kX9_carry hq) rfl (by decide) rfl (Nat.le_of_ble_eq_true rfl) ?_
        refine J_aload_n (pc := 58) C dX9_rows_58 rfl ?_
        refine J_getR (pc := 59) C dX9_rows_59 fg_X9_13 hF (fun r59 hF => ?_)
        refine J_aload_n (pc := 62) C dX9_rows_62 rfl ?_
        refine J_getR (pc := 63) C dX9_rows_63 fg_X9_7 hF (fun r63 hF => ?_)
        refine J_bind hF (fun q66 hq hF => ?_)
        refine J_callS0_v (pc := 66) (stk := [.ref r63, .ref r59]) (st := []) C dX9_rows_66 yw_X9_carry w_MLX9_242 st_X9_carry (kX9_carry hq) rfl (by decide) rfl (Nat.le_of_ble_eq_true rfl) ?_
        refine J_aload_n (pc := 69) C dX9_rows_69 rfl ?_
        refine J_iload_n (pc := 70) C dX9_rows_70 rfl ?_
        refine J_iconst (pc := 71) C dX9_rows_71 ic_0 ?_
        refine J_iconst (pc := 72) C dX9_rows_72 ic_0 ?_
        refine J_bind hF (fun q73 hq hF => ?_)
        refine J_callV0_v (pc := 73) (stk := [.int 0, .int 0, .int x1, .ref a0]) (st := []) C dX9_rows_73 yw_X9_fits w_MLX9_236 in_X9_fits sl_X9_fits ⟨_, rfl, rfl⟩ (kX9_fits hq) (gO_some hq).1 rfl (by decide) rfl (Nat.le_of_ble_eq_true rfl) ?_
        refine J_aload_n (pc := 76) C dX9_rows_76 rfl ?_
        refine J_getR (pc := 77) C dX9_rows_77 fg_X9_16 hF (fun r77 hF => ?_)
        refine J_aload_n (pc := 80) C dX9_rows_80 rfl ?_
        refine J_getR (pc := 81) C dX9_rows_81 fg_X9_7 hF (fun r81 hF => ?_)
        refine J_bind hF (fun q84 hq hF => ?_)
        refine J_callS0_v (pc := 84) (stk := [.ref r81, .ref r77]) (st := []) C dX9_rows_84 yw_X9_carry w_MLX9_242 st_X9_carry (kX9_carry hq) rfl (by decide) rfl (Nat.le_of_ble_eq_true rfl) ?_
        refine J_iload_n (pc := 87) C dX9_rows_87 rfl ?_
        refine J_if_ne (pc := 88) (tgt := 98) C dX9_rows_88 rfl hF (fun hF => ?_) (fun hF => ?_)
        · refine J_aload_n (pc := 91) C dX9_rows_91 rfl ?_
          refine J_getI (pc := 92) C dX9_rows_92 fg_X9_230 hF (fun v92 hF => ?_)
          refine J_goto (pc := 95) (tgt := 102) C dX9_rows_95 rfl ?_
          exact J_iret (pc := 102) C dX9_rows_102 hF (by decide) (by decide)
        · refine J_aload_n (pc := 98) C dX9_rows_98 rfl ?_
          refine J_getI (pc := 99) C dX9_rows_99 fg_X9_233 hF (fun v99 hF => ?_)
          exact J_iret (pc := 102) C dX9_rows_102 hF (by decide) (by decide)
def fX9_seed (h : Hp) (a0 : Nat) (x1 : Int32) : Option (Int32 × Hp) := gO h 9 a0 (
  (getR h 9 a0 0).bind fun r1 =>
  (rdI h r1 7).bind fun v6 =>
  (getR h 9 a0 0).bind fun r9 =>
  (wrI h r9 7 x1).bind fun h15 =>
  some (v6, h15))
set_option maxRecDepth 100000 in
theorem kX9_seed {h : Hp} {a0 : Nat} {x1 : Int32} {z : (Int32 × Hp)} (hF : fX9_seed h a0 x1 = some z) : Mc yX9_seed cX9_seed 3 (some .int) 0 0 0 [.ref a0, .int x1] h (some (.int z.1), z.2) := by
  have hF := (gO_some hF).2
  refine Mc_of [some (.ref a0), some (.int x1), none] plX9 rfl rfl (Nat.le_of_ble_eq_true rfl) (fun X C => ?_)
  refine J_aload_n (pc := 0) C dX9_seed_0 rfl ?_
  refine J_getR (pc := 1) C dX9_seed_1 fg_X9_7 hF (fun r1 hF => ?_)
  refine J_bipush (pc := 4) C dX9_seed_4 bc_7 ?_
  refine J_iald (pc := 6) C dX9_seed_6 hF (fun v6 hF => ?_)
  refine J_istore_n (pc := 7) (lv' := [some (.ref a0), some (.int x1), some (.int v6)]) C dX9_seed_7 rfl ?_
  refine J_aload_n (pc := 8) C dX9_seed_8 rfl ?_
  refine J_getR (pc := 9) C dX9_seed_9 fg_X9_7 hF (fun r9 hF => ?_)
  refine J_bipush (pc := 12) C dX9_seed_12 bc_7 ?_
  refine J_iload_n (pc := 14) C dX9_seed_14 rfl ?_
  refine J_iast (pc := 15) C dX9_seed_15 hF (fun h15 hF => ?_)
  refine J_iload_n (pc := 16) C dX9_seed_16 rfl ?_
  exact J_iret (pc := 17) C dX9_seed_17 hF (by decide) (by decide)
def fX9_setMan_39 (h : Hp) (a0 : Nat) (x1 : Int32) (x2 : Int32) (x3 : Int32) (y0 : Int32) (y1 : Int32) (y2 : Int32) : Option (Int32 × Hp) :=
  (fX9_in y0 y1 y2).bind fun q39 =>
  if q39 = 0 then
    (fX9_error h a0 1).bind fun q47 =>
    some (q47.1, q47.2)
  else
    (fX9_its h a0 x1 x2).bind fun q54 =>
    (fX9_lays1 h a0 x1 x2 x3).bind fun q63 =>
    some (q54, q63)
set_option maxRecDepth 100000 in
theorem kX9_setMan_39 {X : Cx} {z : (Int32 × Hp)} (C : Jc X yX9_setMan cX9_setMan 5 (some .int) 2 0 0 (some (.int z.1), z.2)) (h : Hp) (a0 : Nat) (x1 : Int32) (x2 : Int32) (x3 : Int32) (y0 : Int32) (y1 : Int32) (y2 : Int32) (hF : fX9_setMan_39 h a0 x1 x2 x3 y0 y1 y2 = some z) : J X 0 0 0 0 39 [some (.ref a0), some (.int x1), some (.int x2), some (.int x3), none] [.int y2, .int y1, .int y0] h := by
  unfold fX9_setMan_39 at hF
  refine J_bind hF (fun q39 hq hF => ?_)
  refine J_callS0_ip (pc := 39) (stk := [.int y2, .int y1, .int y0]) (st := []) C dX9_setMan_39 yw_X9_in w_MLX9_59 st_X9_in (kX9_in hq) rfl (by decide) rfl (Nat.le_of_ble_eq_true rfl) ?_
  refine J_if_ne (pc := 42) (tgt := 51) C dX9_setMan_42 rfl hF (fun hF => ?_) (fun hF => ?_)
  · refine J_aload_n (pc := 45) C dX9_setMan_45 rfl ?_
    refine J_iconst (pc := 46) C dX9_setMan_46 ic_1 ?_
    refine J_bind hF (fun q47 hq hF => ?_)
    refine J_callV0_i (pc := 47) (stk := [.int 1, .ref a0]) (st := []) C dX9_setMan_47 yw_X9_error w_MLX9_63 in_X9_error sl_X9_error ⟨_, rfl, rfl⟩ (kX9_error hq) (gO_some hq).1 rfl (by decide) rfl (Nat.le_of_ble_eq_true rfl) ?_
    exact J_iret (pc := 50) C dX9_setMan_50 hF (by decide) (by decide)
  · refine J_aload_n (pc := 51) C dX9_setMan_51 rfl ?_
    refine J_iload_n (pc := 52) C dX9_setMan_52 rfl ?_
    refine J_iload_n (pc := 53) C dX9_setMan_53 rfl ?_
    refine J_bind hF (fun q54 hq hF => ?_)
    refine J_callV0_ip (pc := 54) (stk := [.int x2, .int x1, .ref a0]) (st := []) C dX9_setMan_54 yw_X9_its w_MLX9_123 in_X9_its sl_X9_its ⟨_, rfl, rfl⟩ (kX9_its hq) (gO_some hq).1 rfl (by decide) rfl (Nat.le_of_ble_eq_true rfl) ?_
    refine J_istore (pc := 57) (lv' := [some (.ref a0), some (.int x1), some (.int x2), some (.int x3), some (.int q54)]) C dX9_setMan_57 rfl ?_
    refine J_aload_n (pc := 59) C dX9_setMan_59 rfl ?_
    refine J_iload_n (pc := 60) C dX9_setMan_60 rfl ?_
    refine J_iload_n (pc := 61) C dX9_setMan_61 rfl ?_
    refine J_iload_n (pc := 62) C dX9_setMan_62 rfl ?_
    refine J_bind hF (fun q63 hq hF => ?_)
    refine J_callV0_v (pc := 63) (stk := [.int x3, .int x2, .int x1, .ref a0]) (st := []) C dX9_setMan_63 yw_X9_lays1 w_MLX9_142 in_X9_lays1 sl_X9_lays1 ⟨_, rfl, rfl⟩ (kX9_lays1 hq) (gO_some hq).1 rfl (by decide) rfl (Nat.le_of_ble_eq_true rfl) ?_
    refine J_iload (pc := 66) C dX9_setMan_66 rfl ?_
    exact J_iret (pc := 68) C dX9_setMan_68 hF (by decide) (by decide)
def fX9_setMan (h : Hp) (a0 : Nat) (x1 : Int32) (x2 : Int32) (x3 : Int32) : Option (Int32 × Hp) := gO h 9 a0 (
  (fX9_isMan h a0 x1).bind fun q2 =>
  if q2 = 0 then
    (fX9_error h a0 1).bind fun q47 =>
    some (q47.1, q47.2)
  else
    (fX9_in x2 0 2).bind fun q11 =>
    if q11 = 0 then
      (fX9_error h a0 1).bind fun q47 =>
      some (q47.1, q47.2)
    else
      if x2 = 0 then
        fX9_setMan_39 h a0 x1 x2 x3 x3 0 6
      else
        if x2 = 1 then
          fX9_setMan_39 h a0 x1 x2 x3 x3 0 9
        else
          fX9_setMan_39 h a0 x1 x2 x3 x3 0 1)
set_option maxRecDepth 100000 in
theorem kX9_setMan {h : Hp} {a0 : Nat} {x1 : Int32} {x2 : Int32} {x3 : Int32} {z : (Int32 × Hp)} (hF : fX9_setMan h a0 x1 x2 x3 = some z) : Mc yX9_setMan cX9_setMan 5 (some .int) 2 0 0 [.ref a0, .int x1, .int x2, .int x3] h (some (.int z.1), z.2) := by
  have hF := (gO_some hF).2
  refine Mc_of [some (.ref a0), some (.int x1), some (.int x2), some (.int x3), none] plX9 rfl rfl (Nat.le_of_ble_eq_true rfl) (fun X C => ?_)
  refine J_aload_n (pc := 0) C dX9_setMan_0 rfl ?_
  refine J_iload_n (pc := 1) C dX9_setMan_1 rfl ?_
  refine J_bind hF (fun q2 hq hF => ?_)
  refine J_callV0_ip (pc := 2) (stk := [.int x1, .ref a0]) (st := []) C dX9_setMan_2 yw_X9_isMan w_MLX9_168 in_X9_isMan sl_X9_isMan ⟨_, rfl, rfl⟩ (kX9_isMan hq) (gO_some hq).1 rfl (by decide) rfl (Nat.le_of_ble_eq_true rfl) ?_
  refine J_if_eq (pc := 5) (tgt := 45) C dX9_setMan_5 rfl hF (fun hF => ?_) (fun hF => ?_)
  · refine J_aload_n (pc := 45) C dX9_setMan_45 rfl ?_
    refine J_iconst (pc := 46) C dX9_setMan_46 ic_1 ?_
    refine J_bind hF (fun q47 hq hF => ?_)
    refine J_callV0_i (pc := 47) (stk := [.int 1, .ref a0]) (st := []) C dX9_setMan_47 yw_X9_error w_MLX9_63 in_X9_error sl_X9_error ⟨_, rfl, rfl⟩ (kX9_error hq) (gO_some hq).1 rfl (by decide) rfl (Nat.le_of_ble_eq_true rfl) ?_
    exact J_iret (pc := 50) C dX9_setMan_50 hF (by decide) (by decide)
  · refine J_iload_n (pc := 8) C dX9_setMan_8 rfl ?_
    refine J_iconst (pc := 9) C dX9_setMan_9 ic_0 ?_
    refine J_iconst (pc := 10) C dX9_setMan_10 ic_2 ?_
    refine J_bind hF (fun q11 hq hF => ?_)
    refine J_callS0_ip (pc := 11) (stk := [.int 2, .int 0, .int x2]) (st := []) C dX9_setMan_11 yw_X9_in w_MLX9_59 st_X9_in (kX9_in hq) rfl (by decide) rfl (Nat.le_of_ble_eq_true rfl) ?_
    refine J_if_eq (pc := 14) (tgt := 45) C dX9_setMan_14 rfl hF (fun hF => ?_) (fun hF => ?_)
    · refine J_aload_n (pc := 45) C dX9_setMan_45 rfl ?_
      refine J_iconst (pc := 46) C dX9_setMan_46 ic_1 ?_
      refine J_bind hF (fun q47 hq hF => ?_)
      refine J_callV0_i (pc := 47) (stk := [.int 1, .ref a0]) (st := []) C dX9_setMan_47 yw_X9_error w_MLX9_63 in_X9_error sl_X9_error ⟨_, rfl, rfl⟩ (kX9_error hq) (gO_some hq).1 rfl (by decide) rfl (Nat.le_of_ble_eq_true rfl) ?_
      exact J_iret (pc := 50) C dX9_setMan_50 hF (by decide) (by decide)
    · refine J_iload_n (pc := 17) C dX9_setMan_17 rfl ?_
      refine J_iconst (pc := 18) C dX9_setMan_18 ic_0 ?_
      refine J_iload_n (pc := 19) C dX9_setMan_19 rfl ?_
      refine J_if_ne (pc := 20) (tgt := 28) C dX9_setMan_20 rfl hF (fun hF => ?_) (fun hF => ?_)
      · refine J_bipush (pc := 23) C dX9_setMan_23 bc_6 ?_
        refine J_goto (pc := 25) (tgt := 39) C dX9_setMan_25 rfl ?_
        exact kX9_setMan_39 C h a0 x1 x2 x3 x3 0 6 hF
      · refine J_iload_n (pc := 28) C dX9_setMan_28 rfl ?_
        refine J_iconst (pc := 29) C dX9_setMan_29 ic_1 ?_
        refine J_icmp_ne (pc := 30) (tgt := 38) C dX9_setMan_30 rfl hF (fun hF => ?_) (fun hF => ?_)
        · refine J_bipush (pc := 33) C dX9_setMan_33 bc_9 ?_
          refine J_goto (pc := 35) (tgt := 39) C dX9_setMan_35 rfl ?_
          exact kX9_setMan_39 C h a0 x1 x2 x3 x3 0 9 hF
        · refine J_iconst (pc := 38) C dX9_setMan_38 ic_1 ?_
          exact kX9_setMan_39 C h a0 x1 x2 x3 x3 0 1 hF
def fX9_setPerson_30 (h : Hp) (a0 : Nat) (x1 : Int32) (x2 : Int32) (x3 : Int32) (y0 : Int32) (y1 : Int32) (y2 : Int32) : Option (Int32 × Hp) :=
  (fX9_in y0 y1 y2).bind fun q30 =>
  if q30 = 0 then
    (fX9_error h a0 1).bind fun q38 =>
    some (q38.1, q38.2)
  else
    (fX9_of h a0 x1 x2).bind fun q45 =>
    (getR h 9 a0 0).bind fun r51 =>
    (wrI h r51 ((8 + (2 * x1)) + x2) x3).bind fun h63 =>
    some (q45, h63)
set_option maxRecDepth 100000 in
theorem kX9_setPerson_30 {X : Cx} {z : (Int32 × Hp)} (C : Jc X yX9_setPerson cX9_setPerson 5 (some .int) 2 0 0 (some (.int z.1), z.2)) (h : Hp) (a0 : Nat) (x1 : Int32) (x2 : Int32) (x3 : Int32) (y0 : Int32) (y1 : Int32) (y2 : Int32) (hF : fX9_setPerson_30 h a0 x1 x2 x3 y0 y1 y2 = some z) : J X 0 0 0 0 30 [some (.ref a0), some (.int x1), some (.int x2), some (.int x3), none] [.int y2, .int y1, .int y0] h := by
  unfold fX9_setPerson_30 at hF
  refine J_bind hF (fun q30 hq hF => ?_)
  refine J_callS0_ip (pc := 30) (stk := [.int y2, .int y1, .int y0]) (st := []) C dX9_setPerson_30 yw_X9_in w_MLX9_59 st_X9_in (kX9_in hq) rfl (by decide) rfl (Nat.le_of_ble_eq_true rfl) ?_
  refine J_if_ne (pc := 33) (tgt := 42) C dX9_setPerson_33 rfl hF (fun hF => ?_) (fun hF => ?_)
  · refine J_aload_n (pc := 36) C dX9_setPerson_36 rfl ?_
    refine J_iconst (pc := 37) C dX9_setPerson_37 ic_1 ?_
    refine J_bind hF (fun q38 hq hF => ?_)
    refine J_callV0_i (pc := 38) (stk := [.int 1, .ref a0]) (st := []) C dX9_setPerson_38 yw_X9_error w_MLX9_63 in_X9_error sl_X9_error ⟨_, rfl, rfl⟩ (kX9_error hq) (gO_some hq).1 rfl (by decide) rfl (Nat.le_of_ble_eq_true rfl) ?_
    exact J_iret (pc := 41) C dX9_setPerson_41 hF (by decide) (by decide)
  · refine J_aload_n (pc := 42) C dX9_setPerson_42 rfl ?_
    refine J_iload_n (pc := 43) C dX9_setPerson_43 rfl ?_
    refine J_iload_n (pc := 44) C dX9_setPerson_44 rfl ?_
    refine J_bind hF (fun q45 hq hF => ?_)
    refine J_callV0_ip (pc := 45) (stk := [.int x2, .int x1, .ref a0]) (st := []) C dX9_setPerson_45 yw_X9_of w_MLX9_162 in_X9_of sl_X9_of ⟨_, rfl, rfl⟩ (kX9_of hq) (gO_some hq).1 rfl (by decide) rfl (Nat.le_of_ble_eq_true rfl) ?_
    refine J_istore (pc := 48) (lv' := [some (.ref a0), some (.int x1), some (.int x2), some (.int x3), some (.int q45)]) C dX9_setPerson_48 rfl ?_
    refine J_aload_n (pc := 50) C dX9_setPerson_50 rfl ?_
    refine J_getR (pc := 51) C dX9_setPerson_51 fg_X9_7 hF (fun r51 hF => ?_)
    refine J_bipush (pc := 54) C dX9_setPerson_54 bc_8 ?_
    refine J_iconst (pc := 56) C dX9_setPerson_56 ic_2 ?_
    refine J_iload_n (pc := 57) C dX9_setPerson_57 rfl ?_
    refine J_imul (pc := 58) C dX9_setPerson_58 ?_
    refine J_iadd (pc := 59) C dX9_setPerson_59 ?_
    refine J_iload_n (pc := 60) C dX9_setPerson_60 rfl ?_
    refine J_iadd (pc := 61) C dX9_setPerson_61 ?_
    refine J_iload_n (pc := 62) C dX9_setPerson_62 rfl ?_
    refine J_iast (pc := 63) C dX9_setPerson_63 hF (fun h63 hF => ?_)
    refine J_iload (pc := 64) C dX9_setPerson_64 rfl ?_
    exact J_iret (pc := 66) C dX9_setPerson_66 hF (by decide) (by decide)
def fX9_setPerson (h : Hp) (a0 : Nat) (x1 : Int32) (x2 : Int32) (x3 : Int32) : Option (Int32 × Hp) := gO h 9 a0 (
  (fX9_isPerson h a0 x1).bind fun q2 =>
  if q2 = 0 then
    (fX9_error h a0 1).bind fun q38 =>
    some (q38.1, q38.2)
  else
    (fX9_in x2 0 1).bind fun q11 =>
    if q11 = 0 then
      (fX9_error h a0 1).bind fun q38 =>
      some (q38.1, q38.2)
    else
      if x2 = 0 then
        fX9_setPerson_30 h a0 x1 x2 x3 x3 0 1
      else
        fX9_setPerson_30 h a0 x1 x2 x3 x3 0 9999)
set_option maxRecDepth 100000 in
theorem kX9_setPerson {h : Hp} {a0 : Nat} {x1 : Int32} {x2 : Int32} {x3 : Int32} {z : (Int32 × Hp)} (hF : fX9_setPerson h a0 x1 x2 x3 = some z) : Mc yX9_setPerson cX9_setPerson 5 (some .int) 2 0 0 [.ref a0, .int x1, .int x2, .int x3] h (some (.int z.1), z.2) := by
  have hF := (gO_some hF).2
  refine Mc_of [some (.ref a0), some (.int x1), some (.int x2), some (.int x3), none] plX9 rfl rfl (Nat.le_of_ble_eq_true rfl) (fun X C => ?_)
  refine J_aload_n (pc := 0) C dX9_setPerson_0 rfl ?_
  refine J_iload_n (pc := 1) C dX9_setPerson_1 rfl ?_
  refine J_bind hF (fun q2 hq hF => ?_)
  refine J_callV0_ip (pc := 2) (stk := [.int x1, .ref a0]) (st := []) C dX9_setPerson_2 yw_X9_isPerson w_MLX9_156 in_X9_isPerson sl_X9_isPerson ⟨_, rfl, rfl⟩ (kX9_isPerson hq) (gO_some hq).1 rfl (by decide) rfl (Nat.le_of_ble_eq_true rfl) ?_
  refine J_if_eq (pc := 5) (tgt := 36) C dX9_setPerson_5 rfl hF (fun hF => ?_) (fun hF => ?_)
  · refine J_aload_n (pc := 36) C dX9_setPerson_36 rfl ?_
    refine J_iconst (pc := 37) C dX9_setPerson_37 ic_1 ?_
    refine J_bind hF (fun q38 hq hF => ?_)
    refine J_callV0_i (pc := 38) (stk := [.int 1, .ref a0]) (st := []) C dX9_setPerson_38 yw_X9_error w_MLX9_63 in_X9_error sl_X9_error ⟨_, rfl, rfl⟩ (kX9_error hq) (gO_some hq).1 rfl (by decide) rfl (Nat.le_of_ble_eq_true rfl) ?_
    exact J_iret (pc := 41) C dX9_setPerson_41 hF (by decide) (by decide)
  · refine J_iload_n (pc := 8) C dX9_setPerson_8 rfl ?_
    refine J_iconst (pc := 9) C dX9_setPerson_9 ic_0 ?_
    refine J_iconst (pc := 10) C dX9_setPerson_10 ic_1 ?_
    refine J_bind hF (fun q11 hq hF => ?_)
    refine J_callS0_ip (pc := 11) (stk := [.int 1, .int 0, .int x2]) (st := []) C dX9_setPerson_11 yw_X9_in w_MLX9_59 st_X9_in (kX9_in hq) rfl (by decide) rfl (Nat.le_of_ble_eq_true rfl) ?_
    refine J_if_eq (pc := 14) (tgt := 36) C dX9_setPerson_14 rfl hF (fun hF => ?_) (fun hF => ?_)
    · refine J_aload_n (pc := 36) C dX9_setPerson_36 rfl ?_
      refine J_iconst (pc := 37) C dX9_setPerson_37 ic_1 ?_
      refine J_bind hF (fun q38 hq hF => ?_)
      refine J_callV0_i (pc := 38) (stk := [.int 1, .ref a0]) (st := []) C dX9_setPerson_38 yw_X9_error w_MLX9_63 in_X9_error sl_X9_error ⟨_, rfl, rfl⟩ (kX9_error hq) (gO_some hq).1 rfl (by decide) rfl (Nat.le_of_ble_eq_true rfl) ?_
      exact J_iret (pc := 41) C dX9_setPerson_41 hF (by decide) (by decide)
    · refine J_iload_n (pc := 17) C dX9_setPerson_17 rfl ?_
      refine J_iconst (pc := 18) C dX9_setPerson_18 ic_0 ?_
      refine J_iload_n (pc := 19) C dX9_setPerson_19 rfl ?_
      refine J_if_ne (pc := 20) (tgt := 27) C dX9_setPerson_20 rfl hF (fun hF => ?_) (fun hF => ?_)
      · refine J_iconst (pc := 23) C dX9_setPerson_23 ic_1 ?_
        refine J_goto (pc := 24) (tgt := 30) C dX9_setPerson_24 rfl ?_
        exact kX9_setPerson_30 C h a0 x1 x2 x3 x3 0 1 hF
      · refine J_sipush (pc := 27) C dX9_setPerson_27 sc_9999 ?_
        exact kX9_setPerson_30 C h a0 x1 x2 x3 x3 0 9999 hF
def fX9_sheet_90 : Nat → Hp → Nat → Int32 → Int32 → Option (Int32 × Hp)
  | 0, _, _, _, _ => none
  | n90 + 1, h, a0, x1, x4 =>
    if (24 : Int32) ≤ x4 then
      some (1, h)
    else
      (getR h 9 a0 25).bind fun r98 =>
      (wrI h r98 ((24 * x1) + x4) 0).bind fun h109 =>
      fX9_sheet_90 n90 h109 a0 x1 (x4 + 1)
set_option maxRecDepth 100000 in
theorem kX9_sheet_90 {X : Cx} {z : (Int32 × Hp)} (C : Jc X yX9_sheet cX9_sheet 5 (some .int) 2 0 0 (some (.int z.1), z.2)) : ∀ (n90 : Nat) (h : Hp) (a0 : Nat) (x1 : Int32) (x4 : Int32), fX9_sheet_90 n90 h a0 x1 x4 = some z → J X 0 0 0 0 90 [some (.ref a0), some (.int x1), none, none, some (.int x4)] [] h := by
  intro n90
  induction n90 with
  | zero => intro h a0 x1 x4 hF; cases hF
  | succ n90 ih =>
    intro h a0 x1 x4 hF
    rw [fX9_sheet_90] at hF
    refine J_iload (pc := 90) C dX9_sheet_90 rfl ?_
    refine J_bipush (pc := 92) C dX9_sheet_92 bc_24 ?_
    refine J_icmp_ge (pc := 94) (tgt := 116) C dX9_sheet_94 rfl hF (fun hF => ?_) (fun hF => ?_)
    · refine J_iconst (pc := 116) C dX9_sheet_116 ic_1 ?_
      exact J_iret (pc := 117) C dX9_sheet_117 hF (by decide) (by decide)
    · refine J_aload_n (pc := 97) C dX9_sheet_97 rfl ?_
      refine J_getR (pc := 98) C dX9_sheet_98 fg_X9_52 hF (fun r98 hF => ?_)
      refine J_bipush (pc := 101) C dX9_sheet_101 bc_24 ?_
      refine J_iload_n (pc := 103) C dX9_sheet_103 rfl ?_
      refine J_imul (pc := 104) C dX9_sheet_104 ?_
      refine J_iload (pc := 105) C dX9_sheet_105 rfl ?_
      refine J_iadd (pc := 107) C dX9_sheet_107 ?_
      refine J_iconst (pc := 108) C dX9_sheet_108 ic_0 ?_
      refine J_iast (pc := 109) C dX9_sheet_109 hF (fun h109 hF => ?_)
      refine J_iinc (pc := 110) (lv' := [some (.ref a0), some (.int x1), none, none, some (.int (x4 + 1))]) C dX9_sheet_110 rfl ic_1 rfl ?_
      refine J_goto (pc := 113) (tgt := 90) C dX9_sheet_113 rfl ?_
      exact ih h109 a0 x1 (x4 + 1) hF
def fX9_sheet_65 (h : Hp) (a0 : Nat) (x1 : Int32) (x2 : Int32) (x3 : Int32) : Option (Int32 × Hp) :=
  (getR h 9 a0 23).bind fun r66 =>
  (wrI h r66 x1 x2).bind fun h71 =>
  (getR h71 9 a0 24).bind fun r73 =>
  if x2 = 0 then
    (wrI h71 r73 x1 0).bind fun h86 =>
    fX9_sheet_90 1000 h86 a0 x1 0
  else
    (wrI h71 r73 x1 x3).bind fun h86 =>
    fX9_sheet_90 1000 h86 a0 x1 0
set_option maxRecDepth 100000 in
theorem kX9_sheet_65 {X : Cx} {z : (Int32 × Hp)} (C : Jc X yX9_sheet cX9_sheet 5 (some .int) 2 0 0 (some (.int z.1), z.2)) (h : Hp) (a0 : Nat) (x1 : Int32) (x2 : Int32) (x3 : Int32) (hF : fX9_sheet_65 h a0 x1 x2 x3 = some z) : J X 0 0 0 0 65 [some (.ref a0), some (.int x1), some (.int x2), some (.int x3), none] [] h := by
  unfold fX9_sheet_65 at hF
  refine J_aload_n (pc := 65) C dX9_sheet_65 rfl ?_
  refine J_getR (pc := 66) C dX9_sheet_66 fg_X9_46 hF (fun r66 hF => ?_)
  refine J_iload_n (pc := 69) C dX9_sheet_69 rfl ?_
  refine J_iload_n (pc := 70) C dX9_sheet_70 rfl ?_
  refine J_iast (pc := 71) C dX9_sheet_71 hF (fun h71 hF => ?_)
  refine J_aload_n (pc := 72) C dX9_sheet_72 rfl ?_
  refine J_getR (pc := 73) C dX9_sheet_73 fg_X9_49 hF (fun r73 hF => ?_)
  refine J_iload_n (pc := 76) C dX9_sheet_76 rfl ?_
  refine J_iload_n (pc := 77) C dX9_sheet_77 rfl ?_
  refine J_if_ne (pc := 78) (tgt := 85) C dX9_sheet_78 rfl hF (fun hF => ?_) (fun hF => ?_)
  · refine J_iconst (pc := 81) C dX9_sheet_81 ic_0 ?_
    refine J_goto (pc := 82) (tgt := 86) C dX9_sheet_82 rfl ?_
    refine J_iast (pc := 86) C dX9_sheet_86 hF (fun h86 hF => ?_)
    refine J_iconst (pc := 87) C dX9_sheet_87 ic_0 ?_
    refine J_istore (pc := 88) (lv' := [some (.ref a0), some (.int x1), some (.int x2), some (.int x3), some (.int 0)]) C dX9_sheet_88 rfl ?_
    refine J_msk (m := [true, true, false, false, true]) rfl ?_
    exact kX9_sheet_90 C 1000 h86 a0 x1 0 hF
  · refine J_iload_n (pc := 85) C dX9_sheet_85 rfl ?_
    refine J_iast (pc := 86) C dX9_sheet_86 hF (fun h86 hF => ?_)
    refine J_iconst (pc := 87) C dX9_sheet_87 ic_0 ?_
    refine J_istore (pc := 88) (lv' := [some (.ref a0), some (.int x1), some (.int x2), some (.int x3), some (.int 0)]) C dX9_sheet_88 rfl ?_
    refine J_msk (m := [true, true, false, false, true]) rfl ?_
    exact kX9_sheet_90 C 1000 h86 a0 x1 0 hF
def fX9_sheet_49 (h : Hp) (a0 : Nat) (x1 : Int32) (x2 : Int32) (x3 : Int32) : Option (Int32 × Hp) :=
  if x2 = 0 then
    fX9_sheet_65 h a0 x1 x2 x3
  else
    if x3 ≤ 24 then
      fX9_sheet_65 h a0 x1 x2 x3
    else
      (fX9_error h a0 1).bind fun q61 =>
      some (q61.1, q61.2)
set_option maxRecDepth 100000 in
theorem kX9_sheet_49 {X : Cx} {z : (Int32 × Hp)} (C : Jc X yX9_sheet cX9_sheet 5 (some .int) 2 0 0 (some (.int z.1), z.2)) (h : Hp) (a0 : Nat) (x1 : Int32) (x2 : Int32) (x3 : Int32) (hF : fX9_sheet_49 h a0 x1 x2 x3 = some z) : J X 0 0 0 0 49 [some (.ref a0), some (.int x1), some (.int x2), some (.int x3), none] [] h := by
  unfold fX9_sheet_49 at hF
  refine J_iload_n (pc := 49) C dX9_sheet_49 rfl ?_
  refine J_if_eq (pc := 50) (tgt := 65) C dX9_sheet_50 rfl hF (fun hF => ?_) (fun hF => ?_)
  · exact kX9_sheet_65 C h a0 x1 x2 x3 hF
  · refine J_iload_n (pc := 53) C dX9_sheet_53 rfl ?_
    refine J_bipush (pc := 54) C dX9_sheet_54 bc_24 ?_
    refine J_icmp_le (pc := 56) (tgt := 65) C dX9_sheet_56 rfl hF (fun hF => ?_) (fun hF => ?_)
    · exact kX9_sheet_65 C h a0 x1 x2 x3 hF
    · refine J_aload_n (pc := 59) C dX9_sheet_59 rfl ?_
      refine J_iconst (pc := 60) C dX9_sheet_60 ic_1 ?_
      refine J_bind hF (fun q61 hq hF => ?_)
      refine J_callV0_i (pc := 61) (stk := [.int 1, .ref a0]) (st := []) C dX9_sheet_61 yw_X9_error w_MLX9_63 in_X9_error sl_X9_error ⟨_, rfl, rfl⟩ (kX9_error hq) (gO_some hq).1 rfl (by decide) rfl (Nat.le_of_ble_eq_true rfl) ?_
      exact J_iret (pc := 64) C dX9_sheet_64 hF (by decide) (by decide)
def fX9_sheet_35 (h : Hp) (a0 : Nat) (x1 : Int32) (x2 : Int32) (x3 : Int32) : Option (Int32 × Hp) :=
  if x2 = 0 then
    fX9_sheet_49 h a0 x1 x2 x3
  else
    if 0 ≤ x3 then
      fX9_sheet_49 h a0 x1 x2 x3
    else
      (fX9_error h a0 3).bind fun q45 =>
      some (q45.1, q45.2)
set_option maxRecDepth 100000 in
theorem kX9_sheet_35 {X : Cx} {z : (Int32 × Hp)} (C : Jc X yX9_sheet cX9_sheet 5 (some .int) 2 0 0 (some (.int z.1), z.2)) (h : Hp) (a0 : Nat) (x1 : Int32) (x2 : Int32) (x3 : Int32) (hF : fX9_sheet_35 h a0 x1 x2 x3 = some z) : J X 0 0 0 0 35 [some (.ref a0), some (.int x1), some (.int x2), some (.int x3), none] [] h := by
  unfold fX9_sheet_35 at hF
  refine J_iload_n (pc := 35) C dX9_sheet_35 rfl ?_
  refine J_if_eq (pc := 36) (tgt := 49) C dX9_sheet_36 rfl hF (fun hF => ?_) (fun hF => ?_)
  · exact kX9_sheet_49 C h a0 x1 x2 x3 hF
  · refine J_iload_n (pc := 39) C dX9_sheet_39 rfl ?_
    refine J_if_ge (pc := 40) (tgt := 49) C dX9_sheet_40 rfl hF (fun hF => ?_) (fun hF => ?_)
    · exact kX9_sheet_49 C h a0 x1 x2 x3 hF
    · refine J_aload_n (pc := 43) C dX9_sheet_43 rfl ?_
      refine J_iconst (pc := 44) C dX9_sheet_44 ic_3 ?_
      refine J_bind hF (fun q45 hq hF => ?_)
      refine J_callV0_i (pc := 45) (stk := [.int 3, .ref a0]) (st := []) C dX9_sheet_45 yw_X9_error w_MLX9_63 in_X9_error sl_X9_error ⟨_, rfl, rfl⟩ (kX9_error hq) (gO_some hq).1 rfl (by decide) rfl (Nat.le_of_ble_eq_true rfl) ?_
      exact J_iret (pc := 48) C dX9_sheet_48 hF (by decide) (by decide)
def fX9_sheet (h : Hp) (a0 : Nat) (x1 : Int32) (x2 : Int32) (x3 : Int32) : Option (Int32 × Hp) := gO h 9 a0 (
  (fX9_isSheet x1).bind fun q1 =>
  if q1 = 0 then
    (fX9_error h a0 1).bind fun q31 =>
    some (q31.1, q31.2)
  else
    if x2 = 0 then
      fX9_sheet_35 h a0 x1 x2 x3
    else
      if x2 = 8 then
        fX9_sheet_35 h a0 x1 x2 x3
      else
        if x2 = 16 then
          fX9_sheet_35 h a0 x1 x2 x3
        else
          if x2 = 32 then
            fX9_sheet_35 h a0 x1 x2 x3
          else
            (fX9_error h a0 1).bind fun q31 =>
            some (q31.1, q31.2))
set_option maxRecDepth 100000 in
theorem kX9_sheet {h : Hp} {a0 : Nat} {x1 : Int32} {x2 : Int32} {x3 : Int32} {z : (Int32 × Hp)} (hF : fX9_sheet h a0 x1 x2 x3 = some z) : Mc yX9_sheet cX9_sheet 5 (some .int) 2 0 0 [.ref a0, .int x1, .int x2, .int x3] h (some (.int z.1), z.2) := by
  have hF := (gO_some hF).2
  refine Mc_of [some (.ref a0), some (.int x1), some (.int x2), some (.int x3), none] plX9 rfl rfl (Nat.le_of_ble_eq_true rfl) (fun X C => ?_)
  refine J_iload_n (pc := 0) C dX9_sheet_0 rfl ?_
  refine J_bind hF (fun q1 hq hF => ?_)
  refine J_callS0_ip (pc := 1) (stk := [.int x1]) (st := []) C dX9_sheet_1 yw_X9_isSheet w_MLX9_280 st_X9_isSheet (kX9_isSheet hq) rfl (by decide) rfl (Nat.le_of_ble_eq_true rfl) ?_
  refine J_if_eq (pc := 4) (tgt := 29) C dX9_sheet_4 rfl hF (fun hF => ?_) (fun hF => ?_)
  · refine J_aload_n (pc := 29) C dX9_sheet_29 rfl ?_
    refine J_iconst (pc := 30) C dX9_sheet_30 ic_1 ?_
    refine J_bind hF (fun q31 hq hF => ?_)
    refine J_callV0_i (pc := 31) (stk := [.int 1, .ref a0]) (st := []) C dX9_sheet_31 yw_X9_error w_MLX9_63 in_X9_error sl_X9_error ⟨_, rfl, rfl⟩ (kX9_error hq) (gO_some hq).1 rfl (by decide) rfl (Nat.le_of_ble_eq_true rfl) ?_
    exact J_iret (pc := 34) C dX9_sheet_34 hF (by decide) (by decide)
  · refine J_iload_n (pc := 7) C dX9_sheet_7 rfl ?_
    refine J_if_eq (pc := 8) (tgt := 35) C dX9_sheet_8 rfl hF (fun hF => ?_) (fun hF => ?_)
    · exact kX9_sheet_35 C h a0 x1 x2 x3 hF
    · refine J_iload_n (pc := 11) C dX9_sheet_11 rfl ?_
      refine J_bipush (pc := 12) C dX9_sheet_12 bc_8 ?_
      refine J_icmp_eq (pc := 14) (tgt := 35) C dX9_sheet_14 rfl hF (fun hF => ?_) (fun hF => ?_)
      · exact kX9_sheet_35 C h a0 x1 x2 x3 hF
      · refine J_iload_n (pc := 17) C dX9_sheet_17 rfl ?_
        refine J_bipush (pc := 18) C dX9_sheet_18 bc_16 ?_
        refine J_icmp_eq (pc := 20) (tgt := 35) C dX9_sheet_20 rfl hF (fun hF => ?_) (fun hF => ?_)
        · exact kX9_sheet_35 C h a0 x1 x2 x3 hF
        · refine J_iload_n (pc := 23) C dX9_sheet_23 rfl ?_
          refine J_bipush (pc := 24) C dX9_sheet_24 bc_32 ?_
          refine J_icmp_eq (pc := 26) (tgt := 35) C dX9_sheet_26 rfl hF (fun hF => ?_) (fun hF => ?_)
          · exact kX9_sheet_35 C h a0 x1 x2 x3 hF
          · refine J_aload_n (pc := 29) C dX9_sheet_29 rfl ?_
            refine J_iconst (pc := 30) C dX9_sheet_30 ic_1 ?_
            refine J_bind hF (fun q31 hq hF => ?_)
            refine J_callV0_i (pc := 31) (stk := [.int 1, .ref a0]) (st := []) C dX9_sheet_31 yw_X9_error w_MLX9_63 in_X9_error sl_X9_error ⟨_, rfl, rfl⟩ (kX9_error hq) (gO_some hq).1 rfl (by decide) rfl (Nat.le_of_ble_eq_true rfl) ?_
            exact J_iret (pc := 34) C dX9_sheet_34 hF (by decide) (by decide)
def fX9_stranger (h : Hp) (a0 : Nat) (x1 : Int32) (x2 : Int32) (x3 : Int32) : Option (Int32 × Hp) := gO h 9 a0 (
  (fX9_isPerson h a0 x1).bind fun q2 =>
  if q2 = 0 then
    (fX9_error h a0 1).bind fun q27 =>
    some (q27.1, q27.2)
  else
    (fX9_isMan h a0 x2).bind fun q10 =>
    if q10 = 0 then
      (fX9_error h a0 1).bind fun q27 =>
      some (q27.1, q27.2)
    else
      (fX9_in x3 0 4).bind fun q19 =>
      if q19 = 0 then
        (fX9_error h a0 1).bind fun q27 =>
        some (q27.1, q27.2)
      else
        (fX9_estranges h a0 x1 x2 x3 0).bind fun q36 =>
        if q36.1 = ((-1)) then
          (fX9_error q36.2 a0 2).bind fun q49 =>
          some (q49.1, q49.2)
        else
          some (q36.1, q36.2))
set_option maxRecDepth 100000 in
theorem kX9_stranger {h : Hp} {a0 : Nat} {x1 : Int32} {x2 : Int32} {x3 : Int32} {z : (Int32 × Hp)} (hF : fX9_stranger h a0 x1 x2 x3 = some z) : Mc yX9_stranger cX9_stranger 5 (some .int) 15 0 0 [.ref a0, .int x1, .int x2, .int x3] h (some (.int z.1), z.2) := by
  have hF := (gO_some hF).2
  refine Mc_of [some (.ref a0), some (.int x1), some (.int x2), some (.int x3), none] plX9 rfl rfl (Nat.le_of_ble_eq_true rfl) (fun X C => ?_)
  refine J_aload_n (pc := 0) C dX9_stranger_0 rfl ?_
  refine J_iload_n (pc := 1) C dX9_stranger_1 rfl ?_
  refine J_bind hF (fun q2 hq hF => ?_)
  refine J_callV0_ip (pc := 2) (stk := [.int x1, .ref a0]) (st := []) C dX9_stranger_2 yw_X9_isPerson w_MLX9_156 in_X9_isPerson sl_X9_isPerson ⟨_, rfl, rfl⟩ (kX9_isPerson hq) (gO_some hq).1 rfl (by decide) rfl (Nat.le_of_ble_eq_true rfl) ?_
  refine J_if_eq (pc := 5) (tgt := 25) C dX9_stranger_5 rfl hF (fun hF => ?_) (fun hF => ?_)
  · refine J_aload_n (pc := 25) C dX9_stranger_25 rfl ?_
    refine J_iconst (pc := 26) C dX9_stranger_26 ic_1 ?_
    refine J_bind hF (fun q27 hq hF => ?_)
    refine J_callV0_i (pc := 27) (stk := [.int 1, .ref a0]) (st := []) C dX9_stranger_27 yw_X9_error w_MLX9_63 in_X9_error sl_X9_error ⟨_, rfl, rfl⟩ (kX9_error hq) (gO_some hq).1 rfl (by decide) rfl (Nat.le_of_ble_eq_true rfl) ?_
    exact J_iret (pc := 30) C dX9_stranger_30 hF (by decide) (by decide)
  · refine J_aload_n (pc := 8) C dX9_stranger_8 rfl ?_
    refine J_iload_n (pc := 9) C dX9_stranger_9 rfl ?_
    refine J_bind hF (fun q10 hq hF => ?_)
    refine J_callV0_ip (pc := 10) (stk := [.int x2, .ref a0]) (st := []) C dX9_stranger_10 yw_X9_isMan w_MLX9_168 in_X9_isMan sl_X9_isMan ⟨_, rfl, rfl⟩ (kX9_isMan hq) (gO_some hq).1 rfl (by decide) rfl (Nat.le_of_ble_eq_true rfl) ?_
    refine J_if_eq (pc := 13) (tgt := 25) C dX9_stranger_13 rfl hF (fun hF => ?_) (fun hF => ?_)
    · refine J_aload_n (pc := 25) C dX9_stranger_25 rfl ?_
      refine J_iconst (pc := 26) C dX9_stranger_26 ic_1 ?_
      refine J_bind hF (fun q27 hq hF => ?_)
      refine J_callV0_i (pc := 27) (stk := [.int 1, .ref a0]) (st := []) C dX9_stranger_27 yw_X9_error w_MLX9_63 in_X9_error sl_X9_error ⟨_, rfl, rfl⟩ (kX9_error hq) (gO_some hq).1 rfl (by decide) rfl (Nat.le_of_ble_eq_true rfl) ?_
      exact J_iret (pc := 30) C dX9_stranger_30 hF (by decide) (by decide)
    · refine J_iload_n (pc := 16) C dX9_stranger_16 rfl ?_
      refine J_iconst (pc := 17) C dX9_stranger_17 ic_0 ?_
      refine J_iconst (pc := 18) C dX9_stranger_18 ic_4 ?_
      refine J_bind hF (fun q19 hq hF => ?_)
      refine J_callS0_ip (pc := 19) (stk := [.int 4, .int 0, .int x3]) (st := []) C dX9_stranger_19 yw_X9_in w_MLX9_59 st_X9_in (kX9_in hq) rfl (by decide) rfl (Nat.le_of_ble_eq_true rfl) ?_
      refine J_if_ne (pc := 22) (tgt := 31) C dX9_stranger_22 rfl hF (fun hF => ?_) (fun hF => ?_)
      · refine J_aload_n (pc := 25) C dX9_stranger_25 rfl ?_
        refine J_iconst (pc := 26) C dX9_stranger_26 ic_1 ?_
        refine J_bind hF (fun q27 hq hF => ?_)
        refine J_callV0_i (pc := 27) (stk := [.int 1, .ref a0]) (st := []) C dX9_stranger_27 yw_X9_error w_MLX9_63 in_X9_error sl_X9_error ⟨_, rfl, rfl⟩ (kX9_error hq) (gO_some hq).1 rfl (by decide) rfl (Nat.le_of_ble_eq_true rfl) ?_
        exact J_iret (pc := 30) C dX9_stranger_30 hF (by decide) (by decide)
      · refine J_aload_n (pc := 31) C dX9_stranger_31 rfl ?_
        refine J_iload_n (pc := 32) C dX9_stranger_32 rfl ?_
        refine J_iload_n (pc := 33) C dX9_stranger_33 rfl ?_
        refine J_iload_n (pc := 34) C dX9_stranger_34 rfl ?_
        refine J_iconst (pc := 35) C dX9_stranger_35 ic_0 ?_
        refine J_bind hF (fun q36 hq hF => ?_)
        refine J_callV0_i (pc := 36) (stk := [.int 0, .int x3, .int x2, .int x1, .ref a0]) (st := []) C dX9_stranger_36 yw_X9_estranges w_MLX9_216 in_X9_estranges sl_X9_estranges ⟨_, rfl, rfl⟩ (kX9_estranges hq) (gO_some hq).1 rfl (by decide) rfl (Nat.le_of_ble_eq_true rfl) ?_
        refine J_istore (pc := 39) (lv' := [some (.ref a0), some (.int x1), some (.int x2), some (.int x3), some (.int q36.1)]) C dX9_stranger_39 rfl ?_
        refine J_iload (pc := 41) C dX9_stranger_41 rfl ?_
        refine J_iconst (pc := 43) C dX9_stranger_43 ic_m1 ?_
        refine J_icmp_ne (pc := 44) (tgt := 55) C dX9_stranger_44 rfl hF (fun hF => ?_) (fun hF => ?_)
        · refine J_aload_n (pc := 47) C dX9_stranger_47 rfl ?_
          refine J_iconst (pc := 48) C dX9_stranger_48 ic_2 ?_
          refine J_bind hF (fun q49 hq hF => ?_)
          refine J_callV0_i (pc := 49) (stk := [.int 2, .ref a0]) (st := []) C dX9_stranger_49 yw_X9_error w_MLX9_63 in_X9_error sl_X9_error ⟨_, rfl, rfl⟩ (kX9_error hq) (gO_some hq).1 rfl (by decide) rfl (Nat.le_of_ble_eq_true rfl) ?_
          refine J_goto (pc := 52) (tgt := 57) C dX9_stranger_52 rfl ?_
          exact J_iret (pc := 57) C dX9_stranger_57 hF (by decide) (by decide)
        · refine J_iload (pc := 55) C dX9_stranger_55 rfl ?_
          exact J_iret (pc := 57) C dX9_stranger_57 hF (by decide) (by decide)
def fX9_tell (h : Hp) (a0 : Nat) (x1 : Int32) : Option (Int32 × Hp) := gO h 9 a0 (
  (getR h 9 a0 0).bind fun r1 =>
  (rdI h r1 6).bind fun v6 =>
  if v6 = 24 then
    (fX9_error h a0 4).bind fun q14 =>
    some (q14.1, q14.2)
  else
    (getR h 9 a0 0).bind fun r19 =>
    (getR h 9 a0 0).bind fun r26 =>
    (rdI h r26 6).bind fun v31 =>
    (wrI h r19 (434 + v31) x1).bind fun h34 =>
    (getR h34 9 a0 0).bind fun r36 =>
    (rdI h34 r36 6).bind fun v42 =>
    (wrI h34 r36 6 (v42 + 1)).bind fun h45 =>
    (getR h45 9 a0 0).bind fun r47 =>
    (rdI h45 r47 6).bind fun v52 =>
    some (v52, h45))
set_option maxRecDepth 100000 in
theorem kX9_tell {h : Hp} {a0 : Nat} {x1 : Int32} {z : (Int32 × Hp)} (hF : fX9_tell h a0 x1 = some z) : Mc yX9_tell cX9_tell 2 (some .int) 1 0 0 [.ref a0, .int x1] h (some (.int z.1), z.2) := by
  have hF := (gO_some hF).2
  refine Mc_of [some (.ref a0), some (.int x1)] plX9 rfl rfl (Nat.le_of_ble_eq_true rfl) (fun X C => ?_)
  refine J_aload_n (pc := 0) C dX9_tell_0 rfl ?_
  refine J_getR (pc := 1) C dX9_tell_1 fg_X9_7 hF (fun r1 hF => ?_)
  refine J_bipush (pc := 4) C dX9_tell_4 bc_6 ?_
  refine J_iald (pc := 6) C dX9_tell_6 hF (fun v6 hF => ?_)
  refine J_bipush (pc := 7) C dX9_tell_7 bc_24 ?_
  refine J_icmp_ne (pc := 9) (tgt := 18) C dX9_tell_9 rfl hF (fun hF => ?_) (fun hF => ?_)
  · refine J_aload_n (pc := 12) C dX9_tell_12 rfl ?_
    refine J_iconst (pc := 13) C dX9_tell_13 ic_4 ?_
    refine J_bind hF (fun q14 hq hF => ?_)
    refine J_callV0_i (pc := 14) (stk := [.int 4, .ref a0]) (st := []) C dX9_tell_14 yw_X9_error w_MLX9_63 in_X9_error sl_X9_error ⟨_, rfl, rfl⟩ (kX9_error hq) (gO_some hq).1 rfl (by decide) rfl (Nat.le_of_ble_eq_true rfl) ?_
    exact J_iret (pc := 17) C dX9_tell_17 hF (by decide) (by decide)
  · refine J_aload_n (pc := 18) C dX9_tell_18 rfl ?_
    refine J_getR (pc := 19) C dX9_tell_19 fg_X9_7 hF (fun r19 hF => ?_)
    refine J_sipush (pc := 22) C dX9_tell_22 sc_434 ?_
    refine J_aload_n (pc := 25) C dX9_tell_25 rfl ?_
    refine J_getR (pc := 26) C dX9_tell_26 fg_X9_7 hF (fun r26 hF => ?_)
    refine J_bipush (pc := 29) C dX9_tell_29 bc_6 ?_
    refine J_iald (pc := 31) C dX9_tell_31 hF (fun v31 hF => ?_)
    refine J_iadd (pc := 32) C dX9_tell_32 ?_
    refine J_iload_n (pc := 33) C dX9_tell_33 rfl ?_
    refine J_iast (pc := 34) C dX9_tell_34 hF (fun h34 hF => ?_)
    refine J_aload_n (pc := 35) C dX9_tell_35 rfl ?_
    refine J_getR (pc := 36) C dX9_tell_36 fg_X9_7 hF (fun r36 hF => ?_)
    refine J_bipush (pc := 39) C dX9_tell_39 bc_6 ?_
    refine J_dup2 (pc := 41) C dX9_tell_41 rfl rfl ?_
    refine J_iald (pc := 42) C dX9_tell_42 hF (fun v42 hF => ?_)
    refine J_iconst (pc := 43) C dX9_tell_43 ic_1 ?_
    refine J_iadd (pc := 44) C dX9_tell_44 ?_
    refine J_iast (pc := 45) C dX9_tell_45 hF (fun h45 hF => ?_)
    refine J_aload_n (pc := 46) C dX9_tell_46 rfl ?_
    refine J_getR (pc := 47) C dX9_tell_47 fg_X9_7 hF (fun r47 hF => ?_)
    refine J_bipush (pc := 50) C dX9_tell_50 bc_6 ?_
    refine J_iald (pc := 52) C dX9_tell_52 hF (fun v52 hF => ?_)
    exact J_iret (pc := 53) C dX9_tell_53 hF (by decide) (by decide)
