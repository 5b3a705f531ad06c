def fX7_carry_202 (h : Hp) (a0 : Nat) (x3 : Int32) : Option (Int32 × Hp) :=
  (getI h 7 a0 0).bind fun v204 =>
  (putV h 7 a0 0 (.int (v204 + 1))).bind fun h209 =>
  some (x3, h209)
set_option maxRecDepth 100000 in
theorem kX7_carry_202 {X : Cx} {z : (Int32 × Hp)} (C : Jc X yX7_carry cX7_carry 7 (some .int) 4 0 0 (some (.int z.1), z.2)) (h : Hp) (a0 : Nat) (x3 : Int32) (hF : fX7_carry_202 h a0 x3 = some z) : J X 0 0 0 0 202 [some (.ref a0), none, none, some (.int x3), none, none, none] [] h := by
  unfold fX7_carry_202 at hF
  refine J_aload_n (pc := 202) C dX7_carry_202 rfl ?_
  refine J_dup (pc := 203) C dX7_carry_203 rfl ?_
  refine J_getI (pc := 204) C dX7_carry_204 fg_X7_43 hF (fun v204 hF => ?_)
  refine J_iconst (pc := 207) C dX7_carry_207 ic_1 ?_
  refine J_iadd (pc := 208) C dX7_carry_208 ?_
  refine J_put (pc := 209) C dX7_carry_209 (fp_X7_43 _) hF rfl rfl (fun h209 hF => ?_)
  refine J_iload_n (pc := 212) C dX7_carry_212 rfl ?_
  exact J_iret (pc := 213) C dX7_carry_213 hF (by decide) (by decide)
def fX7_carry_153 : Nat → Hp → Nat → Int32 → Int32 → Int32 → Int32 → Int32 → Option (Int32 × Hp)
  | 0, _, _, _, _, _, _, _ => none
  | n153 + 1, h, a0, x1, x2, x3, x5, x6 =>
    if x5 = 0 then
      fX7_carry_202 h a0 x3
    else
      (getI h 7 a0 2).bind fun v161 =>
      if v161 ≤ x6 then
        fX7_carry_202 h a0 x3
      else
        if x6 = x1 then
          fX7_carry_153 n153 h a0 x1 x2 x3 x5 (x6 + 1)
        else
          (getR h 7 a0 7).bind fun r174 =>
          (rdI h r174 x6).bind fun v179 =>
          (getR h 7 a0 7).bind fun r181 =>
          (rdI h r181 x1).bind fun v185 =>
          if v179 = v185 then
            (fX7_faceComes h a0 x6 x2).bind fun q193 =>
            fX7_carry_153 n153 q193 a0 x1 x2 x3 x5 (x6 + 1)
          else
            fX7_carry_153 n153 h a0 x1 x2 x3 x5 (x6 + 1)
set_option maxRecDepth 100000 in
theorem kX7_carry_153 {X : Cx} {z : (Int32 × Hp)} (C : Jc X yX7_carry cX7_carry 7 (some .int) 4 0 0 (some (.int z.1), z.2)) : ∀ (n153 : Nat) (h : Hp) (a0 : Nat) (x1 : Int32) (x2 : Int32) (x3 : Int32) (x5 : Int32) (x6 : Int32), fX7_carry_153 n153 h a0 x1 x2 x3 x5 x6 = some z → J X 0 0 0 0 153 [some (.ref a0), some (.int x1), some (.int x2), some (.int x3), none, some (.int x5), some (.int x6)] [] h := by
  intro n153
  induction n153 with
  | zero => intro h a0 x1 x2 x3 x5 x6 hF; cases hF
  | succ n153 ih =>
    intro h a0 x1 x2 x3 x5 x6 hF
    rw [fX7_carry_153] at hF
    refine J_iload (pc := 153) C dX7_carry_153 rfl ?_
    refine J_if_eq (pc := 155) (tgt := 202) C dX7_carry_155 rfl hF (fun hF => ?_) (fun hF => ?_)
    · refine J_msk (m := [true, false, false, true, false, false, false]) rfl ?_
      exact kX7_carry_202 C h a0 x3 hF
    · refine J_iload (pc := 158) C dX7_carry_158 rfl ?_
      refine J_aload_n (pc := 160) C dX7_carry_160 rfl ?_
      refine J_getI (pc := 161) C dX7_carry_161 fg_X7_50 hF (fun v161 hF => ?_)
      refine J_icmp_ge (pc := 164) (tgt := 202) C dX7_carry_164 rfl hF (fun hF => ?_) (fun hF => ?_)
      · refine J_msk (m := [true, false, false, true, false, false, false]) rfl ?_
        exact kX7_carry_202 C h a0 x3 hF
      · refine J_iload (pc := 167) C dX7_carry_167 rfl ?_
        refine J_iload_n (pc := 169) C dX7_carry_169 rfl ?_
        refine J_icmp_eq (pc := 170) (tgt := 196) C dX7_carry_170 rfl hF (fun hF => ?_) (fun hF => ?_)
        · refine J_iinc (pc := 196) (lv' := [some (.ref a0), some (.int x1), some (.int x2), some (.int x3), none, some (.int x5), some (.int (x6 + 1))]) C dX7_carry_196 rfl ic_1 rfl ?_
          refine J_goto (pc := 199) (tgt := 153) C dX7_carry_199 rfl ?_
          exact ih h a0 x1 x2 x3 x5 (x6 + 1) hF
        · refine J_aload_n (pc := 173) C dX7_carry_173 rfl ?_
          refine J_getR (pc := 174) C dX7_carry_174 fg_X7_24 hF (fun r174 hF => ?_)
          refine J_iload (pc := 177) C dX7_carry_177 rfl ?_
          refine J_iald (pc := 179) C dX7_carry_179 hF (fun v179 hF => ?_)
          refine J_aload_n (pc := 180) C dX7_carry_180 rfl ?_
          refine J_getR (pc := 181) C dX7_carry_181 fg_X7_24 hF (fun r181 hF => ?_)
          refine J_iload_n (pc := 184) C dX7_carry_184 rfl ?_
          refine J_iald (pc := 185) C dX7_carry_185 hF (fun v185 hF => ?_)
          refine J_icmp_ne (pc := 186) (tgt := 196) C dX7_carry_186 rfl hF (fun hF => ?_) (fun hF => ?_)
          · refine J_aload_n (pc := 189) C dX7_carry_189 rfl ?_
            refine J_iload (pc := 190) C dX7_carry_190 rfl ?_
            refine J_iload_n (pc := 192) C dX7_carry_192 rfl ?_
            refine J_bind hF (fun q193 hq hF => ?_)
            refine J_callV0_v (pc := 193) (stk := [.int x2, .int x6, .ref a0]) (st := []) C dX7_carry_193 yw_X7_faceComes w_MLX7_103 in_X7_faceComes sl_X7_faceComes ⟨_, rfl, rfl⟩ (kX7_faceComes hq) (gO_some hq).1 rfl (by decide) rfl (Nat.le_of_ble_eq_true rfl) ?_
            refine J_iinc (pc := 196) (lv' := [some (.ref a0), some (.int x1), some (.int x2), some (.int x3), none, some (.int x5), some (.int (x6 + 1))]) C dX7_carry_196 rfl ic_1 rfl ?_
            refine J_goto (pc := 199) (tgt := 153) C dX7_carry_199 rfl ?_
            exact ih q193 a0 x1 x2 x3 x5 (x6 + 1) hF
          · refine J_iinc (pc := 196) (lv' := [some (.ref a0), some (.int x1), some (.int x2), some (.int x3), none, some (.int x5), some (.int (x6 + 1))]) C dX7_carry_196 rfl ic_1 rfl ?_
            refine J_goto (pc := 199) (tgt := 153) C dX7_carry_199 rfl ?_
            exact ih h a0 x1 x2 x3 x5 (x6 + 1) hF
def fX7_carry_138 (h : Hp) (a0 : Nat) (x1 : Int32) (x2 : Int32) (x3 : Int32) : Option (Int32 × Hp) :=
  (getR h 7 a0 5).bind fun r139 =>
  (rdI h r139 x1).bind fun v143 =>
  (fX8_isUnder h v143 4).bind fun q145 =>
  fX7_carry_153 1000 h a0 x1 x2 x3 q145 0
set_option maxRecDepth 100000 in
theorem kX7_carry_138 {X : Cx} {z : (Int32 × Hp)} (C : Jc X yX7_carry cX7_carry 7 (some .int) 4 0 0 (some (.int z.1), z.2)) (h : Hp) (a0 : Nat) (x1 : Int32) (x2 : Int32) (x3 : Int32) (hF : fX7_carry_138 h a0 x1 x2 x3 = some z) : J X 0 0 0 0 138 [some (.ref a0), some (.int x1), some (.int x2), some (.int x3), none, none, none] [] h := by
  unfold fX7_carry_138 at hF
  refine J_aload_n (pc := 138) C dX7_carry_138 rfl ?_
  refine J_getR (pc := 139) C dX7_carry_139 fg_X7_18 hF (fun r139 hF => ?_)
  refine J_iload_n (pc := 142) C dX7_carry_142 rfl ?_
  refine J_iald (pc := 143) C dX7_carry_143 hF (fun v143 hF => ?_)
  refine J_iconst (pc := 144) C dX7_carry_144 ic_4 ?_
  refine J_bind hF (fun q145 hq hF => ?_)
  refine J_callSN0_ip (pc := 145) (stk := [.int 4, .int v143]) (st := []) C dX7_carry_145 yw_X8_isUnder (by decide +kernel) st_X8_isUnder (kX8_isUnder hq) rfl (by decide) rfl (Nat.le_of_ble_eq_true rfl) ?_
  refine J_istore (pc := 148) (lv' := [some (.ref a0), some (.int x1), some (.int x2), some (.int x3), none, some (.int q145), none]) C dX7_carry_148 rfl ?_
  refine J_iconst (pc := 150) C dX7_carry_150 ic_0 ?_
  refine J_istore (pc := 151) (lv' := [some (.ref a0), some (.int x1), some (.int x2), some (.int x3), none, some (.int q145), some (.int 0)]) C dX7_carry_151 rfl ?_
  exact kX7_carry_153 C 1000 h a0 x1 x2 x3 q145 0 hF
def fX7_carry_132 (h : Hp) (a0 : Nat) (x1 : Int32) (x2 : Int32) (x3 : Int32) : Option (Int32 × Hp) :=
  (fX7_faceComes h a0 x1 x2).bind fun q135 =>
  fX7_carry_138 q135 a0 x1 x2 x3
set_option maxRecDepth 100000 in
theorem kX7_carry_132 {X : Cx} {z : (Int32 × Hp)} (C : Jc X yX7_carry cX7_carry 7 (some .int) 4 0 0 (some (.int z.1), z.2)) (h : Hp) (a0 : Nat) (x1 : Int32) (x2 : Int32) (x3 : Int32) (hF : fX7_carry_132 h a0 x1 x2 x3 = some z) : J X 0 0 0 0 132 [some (.ref a0), some (.int x1), some (.int x2), some (.int x3), none, none, none] [] h := by
  unfold fX7_carry_132 at hF
  refine J_aload_n (pc := 132) C dX7_carry_132 rfl ?_
  refine J_iload_n (pc := 133) C dX7_carry_133 rfl ?_
  refine J_iload_n (pc := 134) C dX7_carry_134 rfl ?_
  refine J_bind hF (fun q135 hq hF => ?_)
  refine J_callV0_v (pc := 135) (stk := [.int x2, .int x1, .ref a0]) (st := []) C dX7_carry_135 yw_X7_faceComes w_MLX7_103 in_X7_faceComes sl_X7_faceComes ⟨_, rfl, rfl⟩ (kX7_faceComes hq) (gO_some hq).1 rfl (by decide) rfl (Nat.le_of_ble_eq_true rfl) ?_
  exact kX7_carry_138 C q135 a0 x1 x2 x3 hF
def fX7_carry_80 (h : Hp) (a0 : Nat) (x1 : Int32) (x2 : Int32) (x3 : Int32) (x4 : Int32) : Option (Int32 × Hp) :=
  (getR h 7 a0 3).bind fun r81 =>
  (getR h 7 a0 3).bind fun r87 =>
  (rdI h r87 x2).bind fun v91 =>
  (wrI h r81 x2 (1 - v91)).bind fun h93 =>
  (getR h93 7 a0 7).bind fun r95 =>
  (getR h93 7 a0 7).bind fun r101 =>
  (rdI h93 r101 x1).bind fun v105 =>
  (wrI h93 r95 x1 (1 - v105)).bind fun h107 =>
  if x4 = 0 then
    fX7_carry_132 h107 a0 x1 x2 x3
  else
    (getR h107 7 a0 5).bind fun r114 =>
    (rdI h107 r114 x1).bind fun v118 =>
    if v118 = 5 then
      (fX7_loseFace h107 a0 x1 x2).bind fun q126 =>
      fX7_carry_138 q126 a0 x1 x2 x3
    else
      fX7_carry_132 h107 a0 x1 x2 x3
set_option maxRecDepth 100000 in
theorem kX7_carry_80 {X : Cx} {z : (Int32 × Hp)} (C : Jc X yX7_carry cX7_carry 7 (some .int) 4 0 0 (some (.int z.1), z.2)) (h : Hp) (a0 : Nat) (x1 : Int32) (x2 : Int32) (x3 : Int32) (x4 : Int32) (hF : fX7_carry_80 h a0 x1 x2 x3 x4 = some z) : J X 0 0 0 0 80 [some (.ref a0), some (.int x1), some (.int x2), some (.int x3), some (.int x4), none, none] [] h := by
  unfold fX7_carry_80 at hF
  refine J_aload_n (pc := 80) C dX7_carry_80 rfl ?_
  refine J_getR (pc := 81) C dX7_carry_81 fg_X7_9 hF (fun r81 hF => ?_)
  refine J_iload_n (pc := 84) C dX7_carry_84 rfl ?_
  refine J_iconst (pc := 85) C dX7_carry_85 ic_1 ?_
  refine J_aload_n (pc := 86) C dX7_carry_86 rfl ?_
  refine J_getR (pc := 87) C dX7_carry_87 fg_X7_9 hF (fun r87 hF => ?_)
  refine J_iload_n (pc := 90) C dX7_carry_90 rfl ?_
  refine J_iald (pc := 91) C dX7_carry_91 hF (fun v91 hF => ?_)
  refine J_isub (pc := 92) C dX7_carry_92 ?_
  refine J_iast (pc := 93) C dX7_carry_93 hF (fun h93 hF => ?_)
  refine J_aload_n (pc := 94) C dX7_carry_94 rfl ?_
  refine J_getR (pc := 95) C dX7_carry_95 fg_X7_24 hF (fun r95 hF => ?_)
  refine J_iload_n (pc := 98) C dX7_carry_98 rfl ?_
  refine J_iconst (pc := 99) C dX7_carry_99 ic_1 ?_
  refine J_aload_n (pc := 100) C dX7_carry_100 rfl ?_
  refine J_getR (pc := 101) C dX7_carry_101 fg_X7_24 hF (fun r101 hF => ?_)
  refine J_iload_n (pc := 104) C dX7_carry_104 rfl ?_
  refine J_iald (pc := 105) C dX7_carry_105 hF (fun v105 hF => ?_)
  refine J_isub (pc := 106) C dX7_carry_106 ?_
  refine J_iast (pc := 107) C dX7_carry_107 hF (fun h107 hF => ?_)
  refine J_iload (pc := 108) C dX7_carry_108 rfl ?_
  refine J_if_eq (pc := 110) (tgt := 132) C dX7_carry_110 rfl hF (fun hF => ?_) (fun hF => ?_)
  · refine J_msk (m := [true, true, true, true, false, false, false]) rfl ?_
    exact kX7_carry_132 C h107 a0 x1 x2 x3 hF
  · refine J_aload_n (pc := 113) C dX7_carry_113 rfl ?_
    refine J_getR (pc := 114) C dX7_carry_114 fg_X7_18 hF (fun r114 hF => ?_)
    refine J_iload_n (pc := 117) C dX7_carry_117 rfl ?_
    refine J_iald (pc := 118) C dX7_carry_118 hF (fun v118 hF => ?_)
    refine J_iconst (pc := 119) C dX7_carry_119 ic_5 ?_
    refine J_icmp_ne (pc := 120) (tgt := 132) C dX7_carry_120 rfl hF (fun hF => ?_) (fun hF => ?_)
    · refine J_aload_n (pc := 123) C dX7_carry_123 rfl ?_
      refine J_iload_n (pc := 124) C dX7_carry_124 rfl ?_
      refine J_iload_n (pc := 125) C dX7_carry_125 rfl ?_
      refine J_bind hF (fun q126 hq hF => ?_)
      refine J_callV0_v (pc := 126) (stk := [.int x2, .int x1, .ref a0]) (st := []) C dX7_carry_126 yw_X7_loseFace w_MLX7_99 in_X7_loseFace sl_X7_loseFace ⟨_, rfl, rfl⟩ (kX7_loseFace hq) (gO_some hq).1 rfl (by decide) rfl (Nat.le_of_ble_eq_true rfl) ?_
      refine J_goto (pc := 129) (tgt := 138) C dX7_carry_129 rfl ?_
      refine J_msk (m := [true, true, true, true, false, false, false]) rfl ?_
      exact kX7_carry_138 C q126 a0 x1 x2 x3 hF
    · refine J_msk (m := [true, true, true, true, false, false, false]) rfl ?_
      exact kX7_carry_132 C h107 a0 x1 x2 x3 hF
def fX7_carry_49 (h : Hp) (a0 : Nat) (x1 : Int32) (x2 : Int32) (x3 : Int32) (y0 : Int32) : Option (Int32 × Hp) :=
  (getR h 7 a0 4).bind fun r52 =>
  (rdI h r52 x2).bind fun v57 =>
  (wrI h r52 x2 (v57 - x3)).bind fun h60 =>
  (getR h60 7 a0 8).bind fun r62 =>
  (getR h60 7 a0 8).bind fun r67 =>
  (rdI h60 r67 x1).bind fun v71 =>
  (wrI h60 r62 x1 (imin (v71 + x3) 999999)).bind fun h79 =>
  fX7_carry_80 h79 a0 x1 x2 x3 y0
set_option maxRecDepth 100000 in
theorem kX7_carry_49 {X : Cx} {z : (Int32 × Hp)} (C : Jc X yX7_carry cX7_carry 7 (some .int) 4 0 0 (some (.int z.1), z.2)) (h : Hp) (a0 : Nat) (x1 : Int32) (x2 : Int32) (x3 : Int32) (y0 : Int32) (hF : fX7_carry_49 h a0 x1 x2 x3 y0 = some z) : J X 0 0 0 0 49 [some (.ref a0), some (.int x1), some (.int x2), some (.int x3), none, none, none] [.int y0] h := by
  unfold fX7_carry_49 at hF
  refine J_istore (pc := 49) (lv' := [some (.ref a0), some (.int x1), some (.int x2), some (.int x3), some (.int y0), none, none]) C dX7_carry_49 rfl ?_
  refine J_aload_n (pc := 51) C dX7_carry_51 rfl ?_
  refine J_getR (pc := 52) C dX7_carry_52 fg_X7_15 hF (fun r52 hF => ?_)
  refine J_iload_n (pc := 55) C dX7_carry_55 rfl ?_
  refine J_dup2 (pc := 56) C dX7_carry_56 rfl rfl ?_
  refine J_iald (pc := 57) C dX7_carry_57 hF (fun v57 hF => ?_)
  refine J_iload_n (pc := 58) C dX7_carry_58 rfl ?_
  refine J_isub (pc := 59) C dX7_carry_59 ?_
  refine J_iast (pc := 60) C dX7_carry_60 hF (fun h60 hF => ?_)
  refine J_aload_n (pc := 61) C dX7_carry_61 rfl ?_
  refine J_getR (pc := 62) C dX7_carry_62 fg_X7_27 hF (fun r62 hF => ?_)
  refine J_iload_n (pc := 65) C dX7_carry_65 rfl ?_
  refine J_aload_n (pc := 66) C dX7_carry_66 rfl ?_
  refine J_getR (pc := 67) C dX7_carry_67 fg_X7_27 hF (fun r67 hF => ?_)
  refine J_iload_n (pc := 70) C dX7_carry_70 rfl ?_
  refine J_iald (pc := 71) C dX7_carry_71 hF (fun v71 hF => ?_)
  refine J_iload_n (pc := 72) C dX7_carry_72 rfl ?_
  refine J_iadd (pc := 73) C dX7_carry_73 ?_
  refine J_ldc (pc := 74) C dX7_carry_74 w_KX7_98 ?_
  refine J_mmin (pc := 76) C dX7_carry_76 w_MLX7_93 w_mn1 w_mn2 w_mn3 (by decide) (Nat.le_of_ble_eq_true rfl) ?_
  refine J_iast (pc := 79) C dX7_carry_79 hF (fun h79 hF => ?_)
  exact kX7_carry_80 C h79 a0 x1 x2 x3 y0 hF
def fX7_carry_48 (h : Hp) (a0 : Nat) (x1 : Int32) (x2 : Int32) (x3 : Int32) : Option (Int32 × Hp) :=
  fX7_carry_49 h a0 x1 x2 x3 0
set_option maxRecDepth 100000 in
theorem kX7_carry_48 {X : Cx} {z : (Int32 × Hp)} (C : Jc X yX7_carry cX7_carry 7 (some .int) 4 0 0 (some (.int z.1), z.2)) (h : Hp) (a0 : Nat) (x1 : Int32) (x2 : Int32) (x3 : Int32) (hF : fX7_carry_48 h a0 x1 x2 x3 = some z) : J X 0 0 0 0 48 [some (.ref a0), some (.int x1), some (.int x2), some (.int x3), none, none, none] [] h := by
  unfold fX7_carry_48 at hF
  refine J_iconst (pc := 48) C dX7_carry_48 ic_0 ?_
  exact kX7_carry_49 C h a0 x1 x2 x3 0 hF
def fX7_carry (h : Hp) (a0 : Nat) (x1 : Int32) (x2 : Int32) : Option (Int32 × Hp) := gO h 7 a0 (
  (fX7_knows h a0 x1 x2).bind fun q8 =>
  if q8 = 0 then
    fX7_carry_80 h a0 x1 x2 0 0
  else
    (fX7_fare h a0 x1).bind fun q16 =>
    (getR q16.2 7 a0 4).bind fun r24 =>
    (rdI q16.2 r24 x2).bind fun v28 =>
    if q16.1 ≤ 0 then
      fX7_carry_48 q16.2 a0 x1 x2 (imin q16.1 v28)
    else
      if (imin q16.1 v28) = q16.1 then
        fX7_carry_49 q16.2 a0 x1 x2 (imin q16.1 v28) 1
      else
        fX7_carry_48 q16.2 a0 x1 x2 (imin q16.1 v28))
set_option maxRecDepth 100000 in
theorem kX7_carry {h : Hp} {a0 : Nat} {x1 : Int32} {x2 : Int32} {z : (Int32 × Hp)} (hF : fX7_carry h a0 x1 x2 = some z) : Mc yX7_carry cX7_carry 7 (some .int) 4 0 0 [.ref a0, .int x1, .int x2] h (some (.int z.1), z.2) := by
  have hF := (gO_some hF).2
  refine Mc_of [some (.ref a0), some (.int x1), some (.int x2), none, none, none, none] plX7 rfl rfl (Nat.le_of_ble_eq_true rfl) (fun X C => ?_)
  refine J_iconst (pc := 0) C dX7_carry_0 ic_0 ?_
  refine J_istore_n (pc := 1) (lv' := [some (.ref a0), some (.int x1), some (.int x2), some (.int 0), none, none, none]) C dX7_carry_1 rfl ?_
  refine J_iconst (pc := 2) C dX7_carry_2 ic_0 ?_
  refine J_istore (pc := 3) (lv' := [some (.ref a0), some (.int x1), some (.int x2), some (.int 0), some (.int 0), none, none]) C dX7_carry_3 rfl ?_
  refine J_aload_n (pc := 5) C dX7_carry_5 rfl ?_
  refine J_iload_n (pc := 6) C dX7_carry_6 rfl ?_
  refine J_iload_n (pc := 7) C dX7_carry_7 rfl ?_
  refine J_bind hF (fun q8 hq hF => ?_)
  refine J_callV0_ip (pc := 8) (stk := [.int x2, .int x1, .ref a0]) (st := []) C dX7_carry_8 yw_X7_knows w_MLX7_76 in_X7_knows sl_X7_knows ⟨_, rfl, rfl⟩ (kX7_knows hq) (gO_some hq).1 rfl (by decide) rfl (Nat.le_of_ble_eq_true rfl) ?_
  refine J_if_eq (pc := 11) (tgt := 80) C dX7_carry_11 rfl hF (fun hF => ?_) (fun hF => ?_)
  · exact kX7_carry_80 C h a0 x1 x2 0 0 hF
  · refine J_aload_n (pc := 14) C dX7_carry_14 rfl ?_
    refine J_iload_n (pc := 15) C dX7_carry_15 rfl ?_
    refine J_bind hF (fun q16 hq hF => ?_)
    refine J_callV0_i (pc := 16) (stk := [.int x1, .ref a0]) (st := []) C dX7_carry_16 yw_X7_fare w_MLX7_90 in_X7_fare sl_X7_fare ⟨_, rfl, rfl⟩ (kX7_fare hq) (gO_some hq).1 rfl (by decide) rfl (Nat.le_of_ble_eq_true rfl) ?_
    refine J_istore (pc := 19) (lv' := [some (.ref a0), some (.int x1), some (.int x2), some (.int 0), some (.int 0), some (.int q16.1), none]) C dX7_carry_19 rfl ?_
    refine J_iload (pc := 21) C dX7_carry_21 rfl ?_
    refine J_aload_n (pc := 23) C dX7_carry_23 rfl ?_
    refine J_getR (pc := 24) C dX7_carry_24 fg_X7_15 hF (fun r24 hF => ?_)
    refine J_iload_n (pc := 27) C dX7_carry_27 rfl ?_
    refine J_iald (pc := 28) C dX7_carry_28 hF (fun v28 hF => ?_)
    refine J_mmin (pc := 29) C dX7_carry_29 w_MLX7_93 w_mn1 w_mn2 w_mn3 (by decide) (Nat.le_of_ble_eq_true rfl) ?_
    refine J_istore_n (pc := 32) (lv' := [some (.ref a0), some (.int x1), some (.int x2), some (.int (imin q16.1 v28)), some (.int 0), some (.int q16.1), none]) C dX7_carry_32 rfl ?_
    refine J_iload (pc := 33) C dX7_carry_33 rfl ?_
    refine J_if_le (pc := 35) (tgt := 48) C dX7_carry_35 rfl hF (fun hF => ?_) (fun hF => ?_)
    · refine J_msk (m := [true, true, true, true, false, false, false]) rfl ?_
      exact kX7_carry_48 C q16.2 a0 x1 x2 (imin q16.1 v28) hF
    · refine J_iload_n (pc := 38) C dX7_carry_38 rfl ?_
      refine J_iload (pc := 39) C dX7_carry_39 rfl ?_
      refine J_icmp_ne (pc := 41) (tgt := 48) C dX7_carry_41 rfl hF (fun hF => ?_) (fun hF => ?_)
      · refine J_iconst (pc := 44) C dX7_carry_44 ic_1 ?_
        refine J_goto (pc := 45) (tgt := 49) C dX7_carry_45 rfl ?_
        refine J_msk (m := [true, true, true, true, false, false, false]) rfl ?_
        exact kX7_carry_49 C q16.2 a0 x1 x2 (imin q16.1 v28) 1 hF
      · refine J_msk (m := [true, true, true, true, false, false, false]) rfl ?_
        exact kX7_carry_48 C q16.2 a0 x1 x2 (imin q16.1 v28) hF
def fX1_carryAndBook (h : Hp) (a0 : Nat) (x1 : Int32) (x2 : Int32) : Option (Int32 × Hp) := gO h 1 a0 (
  (getR h 1 a0 6).bind fun r1 =>
  (getR h 1 a0 6).bind fun r6 =>
  (acopy h r1 0 r6 1 23).bind fun h12 =>
  (getR h12 1 a0 6).bind fun r16 =>
  (wrI h12 r16 0 ((10 * x1) + x2)).bind fun h26 =>
  (getI h26 1 a0 7).bind fun v29 =>
  (putV h26 1 a0 7 (.int (imin (v29 + 1) 24))).bind fun h39 =>
  (getR h39 1 a0 0).bind fun r43 =>
  (fX7_carry h39 r43 x1 x2).bind fun q48 =>
  some (q48.1, q48.2))
set_option maxRecDepth 100000 in
theorem kX1_carryAndBook {h : Hp} {a0 : Nat} {x1 : Int32} {x2 : Int32} {z : (Int32 × Hp)} (hF : fX1_carryAndBook h a0 x1 x2 = some z) : Mc yX1_carryAndBook cX1_carryAndBook 3 (some .int) 5 0 0 [.ref a0, .int x1, .int x2] h (some (.int z.1), z.2) := by
  have hF := (gO_some hF).2
  refine Mc_of [some (.ref a0), some (.int x1), some (.int x2)] plX1 rfl rfl (Nat.le_of_ble_eq_true rfl) (fun X C => ?_)
  refine J_aload_n (pc := 0) C dX1_carryAndBook_0 rfl ?_
  refine J_getR (pc := 1) C dX1_carryAndBook_1 fg_X1_25 hF (fun r1 hF => ?_)
  refine J_iconst (pc := 4) C dX1_carryAndBook_4 ic_0 ?_
  refine J_aload_n (pc := 5) C dX1_carryAndBook_5 rfl ?_
  refine J_getR (pc := 6) C dX1_carryAndBook_6 fg_X1_25 hF (fun r6 hF => ?_)
  refine J_iconst (pc := 9) C dX1_carryAndBook_9 ic_1 ?_
  refine J_bipush (pc := 10) C dX1_carryAndBook_10 bc_23 ?_
  refine J_acopy (pc := 12) C dX1_carryAndBook_12 w_MLX1_48 w_ac1 w_ac2 w_ac3 (by decide) (Nat.le_of_ble_eq_true rfl) hF (fun h12 hF => ?_)
  refine J_aload_n (pc := 15) C dX1_carryAndBook_15 rfl ?_
  refine J_getR (pc := 16) C dX1_carryAndBook_16 fg_X1_25 hF (fun r16 hF => ?_)
  refine J_iconst (pc := 19) C dX1_carryAndBook_19 ic_0 ?_
  refine J_bipush (pc := 20) C dX1_carryAndBook_20 bc_10 ?_
  refine J_iload_n (pc := 22) C dX1_carryAndBook_22 rfl ?_
  refine J_imul (pc := 23) C dX1_carryAndBook_23 ?_
  refine J_iload_n (pc := 24) C dX1_carryAndBook_24 rfl ?_
  refine J_iadd (pc := 25) C dX1_carryAndBook_25 ?_
  refine J_iast (pc := 26) C dX1_carryAndBook_26 hF (fun h26 hF => ?_)
  refine J_aload_n (pc := 27) C dX1_carryAndBook_27 rfl ?_
  refine J_aload_n (pc := 28) C dX1_carryAndBook_28 rfl ?_
  refine J_getI (pc := 29) C dX1_carryAndBook_29 fg_X1_60 hF (fun v29 hF => ?_)
  refine J_iconst (pc := 32) C dX1_carryAndBook_32 ic_1 ?_
  refine J_iadd (pc := 33) C dX1_carryAndBook_33 ?_
  refine J_bipush (pc := 34) C dX1_carryAndBook_34 bc_24 ?_
  refine J_mmin (pc := 36) C dX1_carryAndBook_36 w_MLX1_63 w_mn1 w_mn2 w_mn3 (by decide) (Nat.le_of_ble_eq_true rfl) ?_
  refine J_put (pc := 39) C dX1_carryAndBook_39 (fp_X1_60 _) hF rfl rfl (fun h39 hF => ?_)
  refine J_aload_n (pc := 42) C dX1_carryAndBook_42 rfl ?_
  refine J_getR (pc := 43) C dX1_carryAndBook_43 fg_X1_37 hF (fun r43 hF => ?_)
  refine J_iload_n (pc := 46) C dX1_carryAndBook_46 rfl ?_
  refine J_iload_n (pc := 47) C dX1_carryAndBook_47 rfl ?_
  refine J_bind hF (fun q48 hq hF => ?_)
  refine J_callV0_i (pc := 48) (stk := [.int x2, .int x1, .ref r43]) (st := []) C dX1_carryAndBook_48 yw_X7_carry w_MLX1_69 in_X7_carry sl_X7_carry ⟨_, rfl, rfl⟩ (kX7_carry hq) (gO_some hq).1 rfl (by decide) rfl (Nat.le_of_ble_eq_true rfl) ?_
  exact J_iret (pc := 51) C dX1_carryAndBook_51 hF (by decide) (by decide)
def fX7_copyFrom (h : Hp) (a0 : Nat) (a1 : Nat) : Option Hp := gO h 7 a0 (
  (getI h 7 a1 0).bind fun v2 =>
  (putV h 7 a0 0 (.int v2)).bind fun h5 =>
  (getI h5 7 a1 1).bind fun v10 =>
  (putV h5 7 a0 1 (.int v10)).bind fun h13 =>
  (getI h13 7 a1 2).bind fun v18 =>
  (putV h13 7 a0 2 (.int v18)).bind fun h21 =>
  (getR h21 7 a1 3).bind fun r25 =>
  (getR h21 7 a0 3).bind fun r30 =>
  (acopy h21 r25 0 r30 0 8).bind fun h36 =>
  (getR h36 7 a1 4).bind fun r40 =>
  (getR h36 7 a0 4).bind fun r45 =>
  (acopy h36 r40 0 r45 0 8).bind fun h51 =>
  (getR h51 7 a1 5).bind fun r55 =>
  (getR h51 7 a0 5).bind fun r60 =>
  (acopy h51 r55 0 r60 0 4).bind fun h65 =>
  (getR h65 7 a1 6).bind fun r69 =>
  (getR h65 7 a0 6).bind fun r74 =>
  (acopy h65 r69 0 r74 0 4).bind fun h79 =>
  (getR h79 7 a1 7).bind fun r83 =>
  (getR h79 7 a0 7).bind fun r88 =>
  (acopy h79 r83 0 r88 0 4).bind fun h93 =>
  (getR h93 7 a1 8).bind fun r97 =>
  (getR h93 7 a0 8).bind fun r102 =>
  (acopy h93 r97 0 r102 0 4).bind fun h107 =>
  (getR h107 7 a1 9).bind fun r111 =>
  (getR h107 7 a0 9).bind fun r116 =>
  (acopy h107 r111 0 r116 0 4).bind fun h121 =>
  (getR h121 7 a1 10).bind fun r125 =>
  (getR h121 7 a0 10).bind fun r130 =>
  (acopy h121 r125 0 r130 0 32).bind fun h136 =>
  (getR h136 7 a1 11).bind fun r141 =>
  (putV h136 7 a0 11 (.ref r141)).bind fun h144 =>
  (getR h144 7 a1 12).bind fun r149 =>
  (putV h144 7 a0 12 (.ref r149)).bind fun h152 =>
  some h152)
set_option maxRecDepth 100000 in
theorem kX7_copyFrom {h : Hp} {a0 : Nat} {a1 : Nat} {z : Hp} (hF : fX7_copyFrom h a0 a1 = some z) : Mc yX7_copyFrom cX7_copyFrom 2 none 1 0 0 [.ref a0, .ref a1] h (none, z) := by
  have hF := (gO_some hF).2
  refine Mc_of [some (.ref a0), some (.ref a1)] plX7 rfl rfl (Nat.le_of_ble_eq_true rfl) (fun X C => ?_)
  refine J_aload_n (pc := 0) C dX7_copyFrom_0 rfl ?_
  refine J_aload_n (pc := 1) C dX7_copyFrom_1 rfl ?_
  refine J_getI (pc := 2) C dX7_copyFrom_2 fg_X7_43 hF (fun v2 hF => ?_)
  refine J_put (pc := 5) C dX7_copyFrom_5 (fp_X7_43 _) hF rfl rfl (fun h5 hF => ?_)
  refine J_aload_n (pc := 8) C dX7_copyFrom_8 rfl ?_
  refine J_aload_n (pc := 9) C dX7_copyFrom_9 rfl ?_
  refine J_getI (pc := 10) C dX7_copyFrom_10 fg_X7_47 hF (fun v10 hF => ?_)
  refine J_put (pc := 13) C dX7_copyFrom_13 (fp_X7_47 _) hF rfl rfl (fun h13 hF => ?_)
  refine J_aload_n (pc := 16) C dX7_copyFrom_16 rfl ?_
  refine J_aload_n (pc := 17) C dX7_copyFrom_17 rfl ?_
  refine J_getI (pc := 18) C dX7_copyFrom_18 fg_X7_50 hF (fun v18 hF => ?_)
  refine J_put (pc := 21) C dX7_copyFrom_21 (fp_X7_50 _) hF rfl rfl (fun h21 hF => ?_)
  refine J_aload_n (pc := 24) C dX7_copyFrom_24 rfl ?_
  refine J_getR (pc := 25) C dX7_copyFrom_25 fg_X7_9 hF (fun r25 hF => ?_)
  refine J_iconst (pc := 28) C dX7_copyFrom_28 ic_0 ?_
  refine J_aload_n (pc := 29) C dX7_copyFrom_29 rfl ?_
  refine J_getR (pc := 30) C dX7_copyFrom_30 fg_X7_9 hF (fun r30 hF => ?_)
  refine J_iconst (pc := 33) C dX7_copyFrom_33 ic_0 ?_
  refine J_bipush (pc := 34) C dX7_copyFrom_34 bc_8 ?_
  refine J_acopy (pc := 36) C dX7_copyFrom_36 w_MLX7_53 w_ac1 w_ac2 w_ac3 (by decide) (Nat.le_of_ble_eq_true rfl) hF (fun h36 hF => ?_)
  refine J_aload_n (pc := 39) C dX7_copyFrom_39 rfl ?_
  refine J_getR (pc := 40) C dX7_copyFrom_40 fg_X7_15 hF (fun r40 hF => ?_)
  refine J_iconst (pc := 43) C dX7_copyFrom_43 ic_0 ?_
  refine J_aload_n (pc := 44) C dX7_copyFrom_44 rfl ?_
  refine J_getR (pc := 45) C dX7_copyFrom_45 fg_X7_15 hF (fun r45 hF => ?_)
  refine J_iconst (pc := 48) C dX7_copyFrom_48 ic_0 ?_
  refine J_bipush (pc := 49) C dX7_copyFrom_49 bc_8 ?_
  refine J_acopy (pc := 51) C dX7_copyFrom_51 w_MLX7_53 w_ac1 w_ac2 w_ac3 (by decide) (Nat.le_of_ble_eq_true rfl) hF (fun h51 hF => ?_)
  refine J_aload_n (pc := 54) C dX7_copyFrom_54 rfl ?_
  refine J_getR (pc := 55) C dX7_copyFrom_55 fg_X7_18 hF (fun r55 hF => ?_)
  refine J_iconst (pc := 58) C dX7_copyFrom_58 ic_0 ?_
  refine J_aload_n (pc := 59) C dX7_copyFrom_59 rfl ?_
  refine J_getR (pc := 60) C dX7_copyFrom_60 fg_X7_18 hF (fun r60 hF => ?_)
  refine J_iconst (pc := 63) C dX7_copyFrom_63 ic_0 ?_
  refine J_iconst (pc := 64) C dX7_copyFrom_64 ic_4 ?_
  refine J_acopy (pc := 65) C dX7_copyFrom_65 w_MLX7_53 w_ac1 w_ac2 w_ac3 (by decide) (Nat.le_of_ble_eq_true rfl) hF (fun h65 hF => ?_)
  refine J_aload_n (pc := 68) C dX7_copyFrom_68 rfl ?_
  refine J_getR (pc := 69) C dX7_copyFrom_69 fg_X7_21 hF (fun r69 hF => ?_)
  refine J_iconst (pc := 72) C dX7_copyFrom_72 ic_0 ?_
  refine J_aload_n (pc := 73) C dX7_copyFrom_73 rfl ?_
  refine J_getR (pc := 74) C dX7_copyFrom_74 fg_X7_21 hF (fun r74 hF => ?_)
  refine J_iconst (pc := 77) C dX7_copyFrom_77 ic_0 ?_
  refine J_iconst (pc := 78) C dX7_copyFrom_78 ic_4 ?_
  refine J_acopy (pc := 79) C dX7_copyFrom_79 w_MLX7_53 w_ac1 w_ac2 w_ac3 (by decide) (Nat.le_of_ble_eq_true rfl) hF (fun h79 hF => ?_)
  refine J_aload_n (pc := 82) C dX7_copyFrom_82 rfl ?_
  refine J_getR (pc := 83) C dX7_copyFrom_83 fg_X7_24 hF (fun r83 hF => ?_)
  refine J_iconst (pc := 86) C dX7_copyFrom_86 ic_0 ?_
  refine J_aload_n (pc := 87) C dX7_copyFrom_87 rfl ?_
  refine J_getR (pc := 88) C dX7_copyFrom_88 fg_X7_24 hF (fun r88 hF => ?_)
  refine J_iconst (pc := 91) C dX7_copyFrom_91 ic_0 ?_
  refine J_iconst (pc := 92) C dX7_copyFrom_92 ic_4 ?_
  refine J_acopy (pc := 93) C dX7_copyFrom_93 w_MLX7_53 w_ac1 w_ac2 w_ac3 (by decide) (Nat.le_of_ble_eq_true rfl) hF (fun h93 hF => ?_)
  refine J_aload_n (pc := 96) C dX7_copyFrom_96 rfl ?_
  refine J_getR (pc := 97) C dX7_copyFrom_97 fg_X7_27 hF (fun r97 hF => ?_)
  refine J_iconst (pc := 100) C dX7_copyFrom_100 ic_0 ?_
  refine J_aload_n (pc := 101) C dX7_copyFrom_101 rfl ?_
  refine J_getR (pc := 102) C dX7_copyFrom_102 fg_X7_27 hF (fun r102 hF => ?_)
  refine J_iconst (pc := 105) C dX7_copyFrom_105 ic_0 ?_
  refine J_iconst (pc := 106) C dX7_copyFrom_106 ic_4 ?_
  refine J_acopy (pc := 107) C dX7_copyFrom_107 w_MLX7_53 w_ac1 w_ac2 w_ac3 (by decide) (Nat.le_of_ble_eq_true rfl) hF (fun h107 hF => ?_)
  refine J_aload_n (pc := 110) C dX7_copyFrom_110 rfl ?_
  refine J_getR (pc := 111) C dX7_copyFrom_111 fg_X7_30 hF (fun r111 hF => ?_)
  refine J_iconst (pc := 114) C dX7_copyFrom_114 ic_0 ?_
  refine J_aload_n (pc := 115) C dX7_copyFrom_115 rfl ?_
  refine J_getR (pc := 116) C dX7_copyFrom_116 fg_X7_30 hF (fun r116 hF => ?_)
  refine J_iconst (pc := 119) C dX7_copyFrom_119 ic_0 ?_
  refine J_iconst (pc := 120) C dX7_copyFrom_120 ic_4 ?_
  refine J_acopy (pc := 121) C dX7_copyFrom_121 w_MLX7_53 w_ac1 w_ac2 w_ac3 (by decide) (Nat.le_of_ble_eq_true rfl) hF (fun h121 hF => ?_)
  refine J_aload_n (pc := 124) C dX7_copyFrom_124 rfl ?_
  refine J_getR (pc := 125) C dX7_copyFrom_125 fg_X7_33 hF (fun r125 hF => ?_)
  refine J_iconst (pc := 128) C dX7_copyFrom_128 ic_0 ?_
  refine J_aload_n (pc := 129) C dX7_copyFrom_129 rfl ?_
  refine J_getR (pc := 130) C dX7_copyFrom_130 fg_X7_33 hF (fun r130 hF => ?_)
  refine J_iconst (pc := 133) C dX7_copyFrom_133 ic_0 ?_
  refine J_bipush (pc := 134) C dX7_copyFrom_134 bc_32 ?_
  refine J_acopy (pc := 136) C dX7_copyFrom_136 w_MLX7_53 w_ac1 w_ac2 w_ac3 (by decide) (Nat.le_of_ble_eq_true rfl) hF (fun h136 hF => ?_)
  refine J_aload_n (pc := 139) C dX7_copyFrom_139 rfl ?_
  refine J_aload_n (pc := 140) C dX7_copyFrom_140 rfl ?_
  refine J_getR (pc := 141) C dX7_copyFrom_141 fg_X7_36 hF (fun r141 hF => ?_)
  refine J_put (pc := 144) C dX7_copyFrom_144 (fp_X7_36 _) hF rfl rfl (fun h144 hF => ?_)
  refine J_aload_n (pc := 147) C dX7_copyFrom_147 rfl ?_
  refine J_aload_n (pc := 148) C dX7_copyFrom_148 rfl ?_
  refine J_getR (pc := 149) C dX7_copyFrom_149 fg_X7_40 hF (fun r149 hF => ?_)
  refine J_put (pc := 152) C dX7_copyFrom_152 (fp_X7_40 _) hF rfl rfl (fun h152 hF => ?_)
  exact J_vret (pc := 155) C dX7_copyFrom_155 hF (by decide) (by decide)
def fX1_copyFrom (h : Hp) (a0 : Nat) (a1 : Nat) : Option Hp := gO h 1 a0 (
  (getR h 1 a0 0).bind fun r1 =>
  (getR h 1 a1 0).bind fun r5 =>
  (fX7_copyFrom h r1 r5).bind fun q8 =>
  (getR q8 1 a0 1).bind fun r12 =>
  (getR q8 1 a1 1).bind fun r16 =>
  (fX0_copyFrom q8 r12 r16).bind fun q19 =>
  (getR q19 1 a1 2).bind fun r23 =>
  (getR q19 1 a0 2).bind fun r28 =>
  (acopy q19 r23 0 r28 0 60).bind fun h34 =>
  (getI h34 1 a1 3).bind fun v39 =>
  (putV h34 1 a0 3 (.int v39)).bind fun h42 =>
  (getR h42 1 a1 4).bind fun r46 =>
  (getR h42 1 a0 4).bind fun r51 =>
  (acopy h42 r46 0 r51 0 24).bind fun h57 =>
  (getI h57 1 a1 5).bind fun v62 =>
  (putV h57 1 a0 5 (.int v62)).bind fun h65 =>
  (getR h65 1 a1 6).bind fun r69 =>
  (getR h65 1 a0 6).bind fun r74 =>
  (acopy h65 r69 0 r74 0 24).bind fun h80 =>
  (getI h80 1 a1 7).bind fun v85 =>
  (putV h80 1 a0 7 (.int v85)).bind fun h88 =>
  (getI h88 1 a1 8).bind fun v93 =>
  (putV h88 1 a0 8 (.int v93)).bind fun h96 =>
  some h96)
set_option maxRecDepth 100000 in
theorem kX1_copyFrom {h : Hp} {a0 : Nat} {a1 : Nat} {z : Hp} (hF : fX1_copyFrom h a0 a1 = some z) : Mc yX1_copyFrom cX1_copyFrom 2 none 2 0 0 [.ref a0, .ref a1] h (none, z) := by
  have hF := (gO_some hF).2
  refine Mc_of [some (.ref a0), some (.ref a1)] plX1 rfl rfl (Nat.le_of_ble_eq_true rfl) (fun X C => ?_)
  refine J_aload_n (pc := 0) C dX1_copyFrom_0 rfl ?_
  refine J_getR (pc := 1) C dX1_copyFrom_1 fg_X1_37 hF (fun r1 hF => ?_)
  refine J_aload_n (pc := 4) C dX1_copyFrom_4 rfl ?_
  refine J_getR (pc := 5) C dX1_copyFrom_5 fg_X1_37 hF (fun r5 hF => ?_)
  refine J_bind hF (fun q8 hq hF => ?_)
  refine J_callV0_v (pc := 8) (stk := [.ref r5, .ref r1]) (st := []) C dX1_copyFrom_8 yw_X7_copyFrom w_MLX1_41 in_X7_copyFrom sl_X7_copyFrom ⟨_, rfl, rfl⟩ (kX7_copyFrom hq) (gO_some hq).1 rfl (by decide) rfl (Nat.le_of_ble_eq_true rfl) ?_
  refine J_aload_n (pc := 11) C dX1_copyFrom_11 rfl ?_
  refine J_getR (pc := 12) C dX1_copyFrom_12 fg_X1_12 hF (fun r12 hF => ?_)
  refine J_aload_n (pc := 15) C dX1_copyFrom_15 rfl ?_
  refine J_getR (pc := 16) C dX1_copyFrom_16 fg_X1_12 hF (fun r16 hF => ?_)
  refine J_bind hF (fun q19 hq hF => ?_)
  refine J_callV0_v (pc := 19) (stk := [.ref r16, .ref r12]) (st := []) C dX1_copyFrom_19 yw_X0_copyFrom w_MLX1_45 in_X0_copyFrom sl_X0_copyFrom ⟨_, rfl, rfl⟩ (kX0_copyFrom hq) (gO_some hq).1 rfl (by decide) rfl (Nat.le_of_ble_eq_true rfl) ?_
  refine J_aload_n (pc := 22) C dX1_copyFrom_22 rfl ?_
  refine J_getR (pc := 23) C dX1_copyFrom_23 fg_X1_18 hF (fun r23 hF => ?_)
  refine J_iconst (pc := 26) C dX1_copyFrom_26 ic_0 ?_
  refine J_aload_n (pc := 27) C dX1_copyFrom_27 rfl ?_
  refine J_getR (pc := 28) C dX1_copyFrom_28 fg_X1_18 hF (fun r28 hF => ?_)
  refine J_iconst (pc := 31) C dX1_copyFrom_31 ic_0 ?_
  refine J_bipush (pc := 32) C dX1_copyFrom_32 bc_60 ?_
  refine J_acopy (pc := 34) C dX1_copyFrom_34 w_MLX1_48 w_ac1 w_ac2 w_ac3 (by decide) (Nat.le_of_ble_eq_true rfl) hF (fun h34 hF => ?_)
  refine J_aload_n (pc := 37) C dX1_copyFrom_37 rfl ?_
  refine J_aload_n (pc := 38) C dX1_copyFrom_38 rfl ?_
  refine J_getI (pc := 39) C dX1_copyFrom_39 fg_X1_54 hF (fun v39 hF => ?_)
  refine J_put (pc := 42) C dX1_copyFrom_42 (fp_X1_54 _) hF rfl rfl (fun h42 hF => ?_)
  refine J_aload_n (pc := 45) C dX1_copyFrom_45 rfl ?_
  refine J_getR (pc := 46) C dX1_copyFrom_46 fg_X1_22 hF (fun r46 hF => ?_)
  refine J_iconst (pc := 49) C dX1_copyFrom_49 ic_0 ?_
  refine J_aload_n (pc := 50) C dX1_copyFrom_50 rfl ?_
  refine J_getR (pc := 51) C dX1_copyFrom_51 fg_X1_22 hF (fun r51 hF => ?_)
  refine J_iconst (pc := 54) C dX1_copyFrom_54 ic_0 ?_
  refine J_bipush (pc := 55) C dX1_copyFrom_55 bc_24 ?_
  refine J_acopy (pc := 57) C dX1_copyFrom_57 w_MLX1_48 w_ac1 w_ac2 w_ac3 (by decide) (Nat.le_of_ble_eq_true rfl) hF (fun h57 hF => ?_)
  refine J_aload_n (pc := 60) C dX1_copyFrom_60 rfl ?_
  refine J_aload_n (pc := 61) C dX1_copyFrom_61 rfl ?_
  refine J_getI (pc := 62) C dX1_copyFrom_62 fg_X1_57 hF (fun v62 hF => ?_)
  refine J_put (pc := 65) C dX1_copyFrom_65 (fp_X1_57 _) hF rfl rfl (fun h65 hF => ?_)
  refine J_aload_n (pc := 68) C dX1_copyFrom_68 rfl ?_
  refine J_getR (pc := 69) C dX1_copyFrom_69 fg_X1_25 hF (fun r69 hF => ?_)
  refine J_iconst (pc := 72) C dX1_copyFrom_72 ic_0 ?_
  refine J_aload_n (pc := 73) C dX1_copyFrom_73 rfl ?_
  refine J_getR (pc := 74) C dX1_copyFrom_74 fg_X1_25 hF (fun r74 hF => ?_)
  refine J_iconst (pc := 77) C dX1_copyFrom_77 ic_0 ?_
  refine J_bipush (pc := 78) C dX1_copyFrom_78 bc_24 ?_
  refine J_acopy (pc := 80) C dX1_copyFrom_80 w_MLX1_48 w_ac1 w_ac2 w_ac3 (by decide) (Nat.le_of_ble_eq_true rfl) hF (fun h80 hF => ?_)
  refine J_aload_n (pc := 83) C dX1_copyFrom_83 rfl ?_
  refine J_aload_n (pc := 84) C dX1_copyFrom_84 rfl ?_
  refine J_getI (pc := 85) C dX1_copyFrom_85 fg_X1_60 hF (fun v85 hF => ?_)
  refine J_put (pc := 88) C dX1_copyFrom_88 (fp_X1_60 _) hF rfl rfl (fun h88 hF => ?_)
  refine J_aload_n (pc := 91) C dX1_copyFrom_91 rfl ?_
  refine J_aload_n (pc := 92) C dX1_copyFrom_92 rfl ?_
  refine J_getI (pc := 93) C dX1_copyFrom_93 fg_X1_28 hF (fun v93 hF => ?_)
  refine J_put (pc := 96) C dX1_copyFrom_96 (fp_X1_28 _) hF rfl rfl (fun h96 hF => ?_)
  exact J_vret (pc := 99) C dX1_copyFrom_99 hF (by decide) (by decide)
def fX1_draw (h : Hp) (a0 : Nat) : Option (Int32 × Hp) := gO h 1 a0 (
  (getI h 1 a0 8).bind fun v2 =>
  (putV h 1 a0 8 (.int ((v2 * 1103515245) + 12345))).bind fun h12 =>
  (getI h12 1 a0 8).bind fun v16 =>
  some (ushr v16 8, h12))
set_option maxRecDepth 100000 in
theorem kX1_draw {h : Hp} {a0 : Nat} {z : (Int32 × Hp)} (hF : fX1_draw h a0 = some z) : Mc yX1_draw cX1_draw 1 (some .int) 0 0 0 [.ref a0] h (some (.int z.1), z.2) := by
  have hF := (gO_some hF).2
  refine Mc_of [some (.ref a0)] plX1 rfl rfl (Nat.le_of_ble_eq_true rfl) (fun X C => ?_)
  refine J_aload_n (pc := 0) C dX1_draw_0 rfl ?_
  refine J_aload_n (pc := 1) C dX1_draw_1 rfl ?_
  refine J_getI (pc := 2) C dX1_draw_2 fg_X1_28 hF (fun v2 hF => ?_)
  refine J_ldc (pc := 5) C dX1_draw_5 w_KX1_93 ?_
  refine J_imul (pc := 7) C dX1_draw_7 ?_
  refine J_sipush (pc := 8) C dX1_draw_8 sc_12345 ?_
  refine J_iadd (pc := 11) C dX1_draw_11 ?_
  refine J_put (pc := 12) C dX1_draw_12 (fp_X1_28 _) hF rfl rfl (fun h12 hF => ?_)
  refine J_aload_n (pc := 15) C dX1_draw_15 rfl ?_
  refine J_getI (pc := 16) C dX1_draw_16 fg_X1_28 hF (fun v16 hF => ?_)
  refine J_bipush (pc := 19) C dX1_draw_19 bc_8 ?_
  refine J_iushr (pc := 21) C dX1_draw_21 ?_
  exact J_iret (pc := 22) C dX1_draw_22 hF (by decide) (by decide)
def fX7_meet (h : Hp) (a0 : Nat) (x1 : Int32) (x2 : Int32) : Option Int32 := gO h 7 a0 (
  (getR h 7 a0 7).bind fun r1 =>
  (rdI h r1 x1).bind fun v5 =>
  (getR h 7 a0 3).bind fun r7 =>
  (rdI h r7 x2).bind fun v11 =>
  if v5 = v11 then
    some 1
  else
    some 0)
set_option maxRecDepth 100000 in
theorem kX7_meet {h : Hp} {a0 : Nat} {x1 : Int32} {x2 : Int32} {z : Int32} (hF : fX7_meet h a0 x1 x2 = some z) : Mc yX7_meet cX7_meet 3 (some .boolean) 0 0 0 [.ref a0, .int x1, .int x2] h (some (.int z), h) := by
  have hF := (gO_some hF).2
  refine Mc_of [some (.ref a0), some (.int x1), some (.int x2)] plX7 rfl rfl (Nat.le_of_ble_eq_true rfl) (fun X C => ?_)
  refine J_aload_n (pc := 0) C dX7_meet_0 rfl ?_
  refine J_getR (pc := 1) C dX7_meet_1 fg_X7_24 hF (fun r1 hF => ?_)
  refine J_iload_n (pc := 4) C dX7_meet_4 rfl ?_
  refine J_iald (pc := 5) C dX7_meet_5 hF (fun v5 hF => ?_)
  refine J_aload_n (pc := 6) C dX7_meet_6 rfl ?_
  refine J_getR (pc := 7) C dX7_meet_7 fg_X7_9 hF (fun r7 hF => ?_)
  refine J_iload_n (pc := 10) C dX7_meet_10 rfl ?_
  refine J_iald (pc := 11) C dX7_meet_11 hF (fun v11 hF => ?_)
  refine J_icmp_ne (pc := 12) (tgt := 19) C dX7_meet_12 rfl hF (fun hF => ?_) (fun hF => ?_)
  · refine J_iconst (pc := 15) C dX7_meet_15 ic_1 ?_
    refine J_goto (pc := 16) (tgt := 20) C dX7_meet_16 rfl ?_
    exact J_zretP (pc := 20) C dX7_meet_20 rfl hF (by decide) (by decide)
  · refine J_iconst (pc := 19) C dX7_meet_19 ic_0 ?_
    exact J_zretP (pc := 20) C dX7_meet_20 rfl hF (by decide) (by decide)
def fX7_howManyWith_4 (h : Hp) : Nat → Nat → Int32 → Int32 → Int32 → Option Int32
  | 0, _, _, _, _ => none
  | n4 + 1, a0, x1, x2, x3 =>
    (getI h 7 a0 1).bind fun v6 =>
    if v6 ≤ x3 then
      some x2
    else
      (fX7_meet h a0 x1 x3).bind fun q15 =>
      if q15 = 0 then
        fX7_howManyWith_4 h n4 a0 x1 x2 (x3 + 1)
      else
        fX7_howManyWith_4 h n4 a0 x1 (x2 + 1) (x3 + 1)
set_option maxRecDepth 100000 in
theorem kX7_howManyWith_4 {X : Cx} {z : Int32} {h : Hp} (C : Jc X yX7_howManyWith cX7_howManyWith 4 (some .int) 1 0 0 (some (.int z), h)) : ∀ (n4 : Nat) (a0 : Nat) (x1 : Int32) (x2 : Int32) (x3 : Int32), fX7_howManyWith_4 h n4 a0 x1 x2 x3 = some z → J X 0 0 0 0 4 [some (.ref a0), some (.int x1), some (.int x2), some (.int x3)] [] h := by
  intro n4
  induction n4 with
  | zero => intro a0 x1 x2 x3 hF; cases hF
  | succ n4 ih =>
    intro a0 x1 x2 x3 hF
    rw [fX7_howManyWith_4] at hF
    refine J_iload_n (pc := 4) C dX7_howManyWith_4 rfl ?_
    refine J_aload_n (pc := 5) C dX7_howManyWith_5 rfl ?_
    refine J_getI (pc := 6) C dX7_howManyWith_6 fg_X7_47 hF (fun v6 hF => ?_)
    refine J_icmp_ge (pc := 9) (tgt := 30) C dX7_howManyWith_9 rfl hF (fun hF => ?_) (fun hF => ?_)
    · refine J_iload_n (pc := 30) C dX7_howManyWith_30 rfl ?_
      exact J_iretP (pc := 31) C dX7_howManyWith_31 hF (by decide) (by decide)
    · refine J_aload_n (pc := 12) C dX7_howManyWith_12 rfl ?_
      refine J_iload_n (pc := 13) C dX7_howManyWith_13 rfl ?_
      refine J_iload_n (pc := 14) C dX7_howManyWith_14 rfl ?_
      refine J_bind hF (fun q15 hq hF => ?_)
      refine J_callV0_ip (pc := 15) (stk := [.int x3, .int x1, .ref a0]) (st := []) C dX7_howManyWith_15 yw_X7_meet w_MLX7_87 in_X7_meet sl_X7_meet ⟨_, rfl, rfl⟩ (kX7_meet hq) (gO_some hq).1 rfl (by decide) rfl (Nat.le_of_ble_eq_true rfl) ?_
      refine J_if_eq (pc := 18) (tgt := 24) C dX7_howManyWith_18 rfl hF (fun hF => ?_) (fun hF => ?_)
      · refine J_iinc (pc := 24) (lv' := [some (.ref a0), some (.int x1), some (.int x2), some (.int (x3 + 1))]) C dX7_howManyWith_24 rfl ic_1 rfl ?_
        refine J_goto (pc := 27) (tgt := 4) C dX7_howManyWith_27 rfl ?_
        exact ih a0 x1 x2 (x3 + 1) hF
      · refine J_iinc (pc := 21) (lv' := [some (.ref a0), some (.int x1), some (.int (x2 + 1)), some (.int x3)]) C dX7_howManyWith_21 rfl ic_1 rfl ?_
        refine J_iinc (pc := 24) (lv' := [some (.ref a0), some (.int x1), some (.int (x2 + 1)), some (.int (x3 + 1))]) C dX7_howManyWith_24 rfl ic_1 rfl ?_
        refine J_goto (pc := 27) (tgt := 4) C dX7_howManyWith_27 rfl ?_
        exact ih a0 x1 (x2 + 1) (x3 + 1) hF
def fX7_howManyWith (h : Hp) (a0 : Nat) (x1 : Int32) : Option Int32 := gO h 7 a0 (
  fX7_howManyWith_4 h 1000 a0 x1 0 0)
set_option maxRecDepth 100000 in
theorem kX7_howManyWith {h : Hp} {a0 : Nat} {x1 : Int32} {z : Int32} (hF : fX7_howManyWith h a0 x1 = some z) : Mc yX7_howManyWith cX7_howManyWith 4 (some .int) 1 0 0 [.ref a0, .int x1] h (some (.int z), h) := by
  have hF := (gO_some hF).2
  refine Mc_of [some (.ref a0), some (.int x1), none, none] plX7 rfl rfl (Nat.le_of_ble_eq_true rfl) (fun X C => ?_)
  refine J_iconst (pc := 0) C dX7_howManyWith_0 ic_0 ?_
  refine J_istore_n (pc := 1) (lv' := [some (.ref a0), some (.int x1), some (.int 0), none]) C dX7_howManyWith_1 rfl ?_
  refine J_iconst (pc := 2) C dX7_howManyWith_2 ic_0 ?_
  refine J_istore_n (pc := 3) (lv' := [some (.ref a0), some (.int x1), some (.int 0), some (.int 0)]) C dX7_howManyWith_3 rfl ?_
  exact kX7_howManyWith_4 C 1000 a0 x1 0 0 hF
def fX7_oneWith_5 (h : Hp) : Nat → Nat → Int32 → Int32 → Int32 → Option Int32
  | 0, _, _, _, _ => none
  | n5 + 1, a0, x1, x3, x4 =>
    (getI h 7 a0 1).bind fun v8 =>
    if v8 ≤ x4 then
      some 0
    else
      (fX7_meet h a0 x1 x4).bind fun q18 =>
      if q18 = 0 then
        fX7_oneWith_5 h n5 a0 x1 x3 (x4 + 1)
      else
        if x3 = 0 then
          some x4
        else
          fX7_oneWith_5 h n5 a0 x1 (x3 + (-1)) (x4 + 1)
set_option maxRecDepth 100000 in
theorem kX7_oneWith_5 {X : Cx} {z : Int32} {h : Hp} (C : Jc X yX7_oneWith cX7_oneWith 5 (some .int) 1 0 0 (some (.int z), h)) : ∀ (n5 : Nat) (a0 : Nat) (x1 : Int32) (x3 : Int32) (x4 : Int32), fX7_oneWith_5 h n5 a0 x1 x3 x4 = some z → J X 0 0 0 0 5 [some (.ref a0), some (.int x1), none, some (.int x3), some (.int x4)] [] h := by
  intro n5
  induction n5 with
  | zero => intro a0 x1 x3 x4 hF; cases hF
  | succ n5 ih =>
    intro a0 x1 x3 x4 hF
    rw [fX7_oneWith_5] at hF
    refine J_iload (pc := 5) C dX7_oneWith_5 rfl ?_
    refine J_aload_n (pc := 7) C dX7_oneWith_7 rfl ?_
    refine J_getI (pc := 8) C dX7_oneWith_8 fg_X7_47 hF (fun v8 hF => ?_)
    refine J_icmp_ge (pc := 11) (tgt := 40) C dX7_oneWith_11 rfl hF (fun hF => ?_) (fun hF => ?_)
    · refine J_iconst (pc := 40) C dX7_oneWith_40 ic_0 ?_
      exact J_iretP (pc := 41) C dX7_oneWith_41 hF (by decide) (by decide)
    · refine J_aload_n (pc := 14) C dX7_oneWith_14 rfl ?_
      refine J_iload_n (pc := 15) C dX7_oneWith_15 rfl ?_
      refine J_iload (pc := 16) C dX7_oneWith_16 rfl ?_
      refine J_bind hF (fun q18 hq hF => ?_)
      refine J_callV0_ip (pc := 18) (stk := [.int x4, .int x1, .ref a0]) (st := []) C dX7_oneWith_18 yw_X7_meet w_MLX7_87 in_X7_meet sl_X7_meet ⟨_, rfl, rfl⟩ (kX7_meet hq) (gO_some hq).1 rfl (by decide) rfl (Nat.le_of_ble_eq_true rfl) ?_
      refine J_if_eq (pc := 21) (tgt := 34) C dX7_oneWith_21 rfl hF (fun hF => ?_) (fun hF => ?_)
      · refine J_iinc (pc := 34) (lv' := [some (.ref a0), some (.int x1), none, some (.int x3), some (.int (x4 + 1))]) C dX7_oneWith_34 rfl ic_1 rfl ?_
        refine J_goto (pc := 37) (tgt := 5) C dX7_oneWith_37 rfl ?_
        exact ih a0 x1 x3 (x4 + 1) hF
      · refine J_iload_n (pc := 24) C dX7_oneWith_24 rfl ?_
        refine J_if_ne (pc := 25) (tgt := 31) C dX7_oneWith_25 rfl hF (fun hF => ?_) (fun hF => ?_)
        · refine J_iload (pc := 28) C dX7_oneWith_28 rfl ?_
          exact J_iretP (pc := 30) C dX7_oneWith_30 hF (by decide) (by decide)
        · refine J_iinc (pc := 31) (lv' := [some (.ref a0), some (.int x1), none, some (.int (x3 + (-1))), some (.int x4)]) C dX7_oneWith_31 rfl ic_m1 rfl ?_
          refine J_iinc (pc := 34) (lv' := [some (.ref a0), some (.int x1), none, some (.int (x3 + (-1))), some (.int (x4 + 1))]) C dX7_oneWith_34 rfl ic_1 rfl ?_
          refine J_goto (pc := 37) (tgt := 5) C dX7_oneWith_37 rfl ?_
          exact ih a0 x1 (x3 + (-1)) (x4 + 1) hF
def fX7_oneWith (h : Hp) (a0 : Nat) (x1 : Int32) (x2 : Int32) : Option Int32 := gO h 7 a0 (
  fX7_oneWith_5 h 1000 a0 x1 x2 0)
set_option maxRecDepth 100000 in
theorem kX7_oneWith {h : Hp} {a0 : Nat} {x1 : Int32} {x2 : Int32} {z : Int32} (hF : fX7_oneWith h a0 x1 x2 = some z) : Mc yX7_oneWith cX7_oneWith 5 (some .int) 1 0 0 [.ref a0, .int x1, .int x2] h (some (.int z), h) := by
  have hF := (gO_some hF).2
  refine Mc_of [some (.ref a0), some (.int x1), some (.int x2), none, none] plX7 rfl rfl (Nat.le_of_ble_eq_true rfl) (fun X C => ?_)
  refine J_iload_n (pc := 0) C dX7_oneWith_0 rfl ?_
  refine J_istore_n (pc := 1) (lv' := [some (.ref a0), some (.int x1), some (.int x2), some (.int x2), none]) C dX7_oneWith_1 rfl ?_
  refine J_iconst (pc := 2) C dX7_oneWith_2 ic_0 ?_
  refine J_istore (pc := 3) (lv' := [some (.ref a0), some (.int x1), some (.int x2), some (.int x2), some (.int 0)]) C dX7_oneWith_3 rfl ?_
  refine J_msk (m := [true, true, false, true, true]) rfl ?_
  exact kX7_oneWith_5 C 1000 a0 x1 x2 0 hF
def fX7_rowOver (h : Hp) (a0 : Nat) (x1 : Int32) : Option Hp := gO h 7 a0 (
  (getR h 7 a0 7).bind fun r1 =>
  (getR h 7 a0 7).bind fun r7 =>
  (rdI h r7 x1).bind fun v11 =>
  (wrI h r1 x1 (1 - v11)).bind fun h13 =>
  (getI h13 7 a0 0).bind fun v16 =>
  (putV h13 7 a0 0 (.int (v16 + 1))).bind fun h21 =>
  some h21)
set_option maxRecDepth 100000 in
theorem kX7_rowOver {h : Hp} {a0 : Nat} {x1 : Int32} {z : Hp} (hF : fX7_rowOver h a0 x1 = some z) : Mc yX7_rowOver cX7_rowOver 2 none 0 0 0 [.ref a0, .int x1] h (none, z) := by
  have hF := (gO_some hF).2
  refine Mc_of [some (.ref a0), some (.int x1)] plX7 rfl rfl (Nat.le_of_ble_eq_true rfl) (fun X C => ?_)
  refine J_aload_n (pc := 0) C dX7_rowOver_0 rfl ?_
  refine J_getR (pc := 1) C dX7_rowOver_1 fg_X7_24 hF (fun r1 hF => ?_)
  refine J_iload_n (pc := 4) C dX7_rowOver_4 rfl ?_
  refine J_iconst (pc := 5) C dX7_rowOver_5 ic_1 ?_
  refine J_aload_n (pc := 6) C dX7_rowOver_6 rfl ?_
  refine J_getR (pc := 7) C dX7_rowOver_7 fg_X7_24 hF (fun r7 hF => ?_)
  refine J_iload_n (pc := 10) C dX7_rowOver_10 rfl ?_
  refine J_iald (pc := 11) C dX7_rowOver_11 hF (fun v11 hF => ?_)
  refine J_isub (pc := 12) C dX7_rowOver_12 ?_
  refine J_iast (pc := 13) C dX7_rowOver_13 hF (fun h13 hF => ?_)
  refine J_aload_n (pc := 14) C dX7_rowOver_14 rfl ?_
  refine J_dup (pc := 15) C dX7_rowOver_15 rfl ?_
  refine J_getI (pc := 16) C dX7_rowOver_16 fg_X7_43 hF (fun v16 hF => ?_)
  refine J_iconst (pc := 19) C dX7_rowOver_19 ic_1 ?_
  refine J_iadd (pc := 20) C dX7_rowOver_20 ?_
  refine J_put (pc := 21) C dX7_rowOver_21 (fp_X7_43 _) hF rfl rfl (fun h21 hF => ?_)
  exact J_vret (pc := 24) C dX7_rowOver_24 hF (by decide) (by decide)
def fX1_crossByDraw (h : Hp) (a0 : Nat) : Option Hp := gO h 1 a0 (
  (getR h 1 a0 0).bind fun r1 =>
  (getI h 7 r1 2).bind fun v4 =>
  if v4 = 0 then
    some h
  else
    (fX1_draw h a0).bind fun q12 =>
    (getR q12.2 1 a0 0).bind fun r16 =>
    (getI q12.2 7 r16 2).bind fun v19 =>
    (rmz q12.1 v19).bind fun v22 =>
    (getR q12.2 1 a0 0).bind fun r25 =>
    (fX7_howManyWith q12.2 r25 v22).bind fun q29 =>
    if q29 = 0 then
      (getR q12.2 1 a0 0).bind fun r38 =>
      (fX7_rowOver q12.2 r38 v22).bind fun q42 =>
      some q42
    else
      (getR q12.2 1 a0 0).bind fun r51 =>
      (fX1_draw q12.2 a0).bind fun q56 =>
      (rmz q56.1 q29).bind fun v60 =>
      (fX7_oneWith q56.2 r51 v22 v60).bind fun q61 =>
      (fX1_carryAndBook q56.2 a0 v22 q61).bind fun q64 =>
      some q64.2)
set_option maxRecDepth 100000 in
theorem kX1_crossByDraw {h : Hp} {a0 : Nat} {z : Hp} (hF : fX1_crossByDraw h a0 = some z) : Mc yX1_crossByDraw cX1_crossByDraw 3 none 6 0 0 [.ref a0] h (none, z) := by
  have hF := (gO_some hF).2
  refine Mc_of [some (.ref a0), none, none] plX1 rfl rfl (Nat.le_of_ble_eq_true rfl) (fun X C => ?_)
  refine J_aload_n (pc := 0) C dX1_crossByDraw_0 rfl ?_
  refine J_getR (pc := 1) C dX1_crossByDraw_1 fg_X1_37 hF (fun r1 hF => ?_)
  refine J_getI (pc := 4) C dX1_crossByDraw_4 fg_X1_72 hF (fun v4 hF => ?_)
  refine J_if_ne (pc := 7) (tgt := 11) C dX1_crossByDraw_7 rfl hF (fun hF => ?_) (fun hF => ?_)
  · exact J_vret (pc := 10) C dX1_crossByDraw_10 hF (by decide) (by decide)
  · refine J_aload_n (pc := 11) C dX1_crossByDraw_11 rfl ?_
    refine J_bind hF (fun q12 hq hF => ?_)
    refine J_callV0_i (pc := 12) (stk := [.ref a0]) (st := []) C dX1_crossByDraw_12 yw_X1_draw w_MLX1_75 in_X1_draw sl_X1_draw ⟨_, rfl, rfl⟩ (kX1_draw hq) (gO_some hq).1 rfl (by decide) rfl (Nat.le_of_ble_eq_true rfl) ?_
    refine J_aload_n (pc := 15) C dX1_crossByDraw_15 rfl ?_
    refine J_getR (pc := 16) C dX1_crossByDraw_16 fg_X1_37 hF (fun r16 hF => ?_)
    refine J_getI (pc := 19) C dX1_crossByDraw_19 fg_X1_72 hF (fun v19 hF => ?_)
    refine J_irem (pc := 22) C dX1_crossByDraw_22 hF (fun v22 hF => ?_)
    refine J_istore_n (pc := 23) (lv' := [some (.ref a0), some (.int v22), none]) C dX1_crossByDraw_23 rfl ?_
    refine J_aload_n (pc := 24) C dX1_crossByDraw_24 rfl ?_
    refine J_getR (pc := 25) C dX1_crossByDraw_25 fg_X1_37 hF (fun r25 hF => ?_)
    refine J_iload_n (pc := 28) C dX1_crossByDraw_28 rfl ?_
    refine J_bind hF (fun q29 hq hF => ?_)
    refine J_callV0_ip (pc := 29) (stk := [.int v22, .ref r25]) (st := []) C dX1_crossByDraw_29 yw_X7_howManyWith w_MLX1_79 in_X7_howManyWith sl_X7_howManyWith ⟨_, rfl, rfl⟩ (kX7_howManyWith hq) (gO_some hq).1 rfl (by decide) rfl (Nat.le_of_ble_eq_true rfl) ?_
    refine J_istore_n (pc := 32) (lv' := [some (.ref a0), some (.int v22), some (.int q29)]) C dX1_crossByDraw_32 rfl ?_
    refine J_iload_n (pc := 33) C dX1_crossByDraw_33 rfl ?_
    refine J_if_ne (pc := 34) (tgt := 48) C dX1_crossByDraw_34 rfl hF (fun hF => ?_) (fun hF => ?_)
    · refine J_aload_n (pc := 37) C dX1_crossByDraw_37 rfl ?_
      refine J_getR (pc := 38) C dX1_crossByDraw_38 fg_X1_37 hF (fun r38 hF => ?_)
      refine J_iload_n (pc := 41) C dX1_crossByDraw_41 rfl ?_
      refine J_bind hF (fun q42 hq hF => ?_)
      refine J_callV0_v (pc := 42) (stk := [.int v22, .ref r38]) (st := []) C dX1_crossByDraw_42 yw_X7_rowOver w_MLX1_83 in_X7_rowOver sl_X7_rowOver ⟨_, rfl, rfl⟩ (kX7_rowOver hq) (gO_some hq).1 rfl (by decide) rfl (Nat.le_of_ble_eq_true rfl) ?_
      refine J_goto (pc := 45) (tgt := 68) C dX1_crossByDraw_45 rfl ?_
      exact J_vret (pc := 68) C dX1_crossByDraw_68 hF (by decide) (by decide)
    · refine J_aload_n (pc := 48) C dX1_crossByDraw_48 rfl ?_
      refine J_iload_n (pc := 49) C dX1_crossByDraw_49 rfl ?_
      refine J_aload_n (pc := 50) C dX1_crossByDraw_50 rfl ?_
      refine J_getR (pc := 51) C dX1_crossByDraw_51 fg_X1_37 hF (fun r51 hF => ?_)
      refine J_iload_n (pc := 54) C dX1_crossByDraw_54 rfl ?_
      refine J_aload_n (pc := 55) C dX1_crossByDraw_55 rfl ?_
      refine J_bind hF (fun q56 hq hF => ?_)
      refine J_callV0_i (pc := 56) (stk := [.ref a0, .int v22, .ref r51, .int v22, .ref a0]) (st := [.int v22, .ref r51, .int v22, .ref a0]) C dX1_crossByDraw_56 yw_X1_draw w_MLX1_75 in_X1_draw sl_X1_draw ⟨_, rfl, rfl⟩ (kX1_draw hq) (gO_some hq).1 rfl (by decide) rfl (Nat.le_of_ble_eq_true rfl) ?_
      refine J_iload_n (pc := 59) C dX1_crossByDraw_59 rfl ?_
      refine J_irem (pc := 60) C dX1_crossByDraw_60 hF (fun v60 hF => ?_)
      refine J_bind hF (fun q61 hq hF => ?_)
      refine J_callV0_ip (pc := 61) (stk := [.int v60, .int v22, .ref r51, .int v22, .ref a0]) (st := [.int v22, .ref a0]) C dX1_crossByDraw_61 yw_X7_oneWith w_MLX1_87 in_X7_oneWith sl_X7_oneWith ⟨_, rfl, rfl⟩ (kX7_oneWith hq) (gO_some hq).1 rfl (by decide) rfl (Nat.le_of_ble_eq_true rfl) ?_
      refine J_bind hF (fun q64 hq hF => ?_)
      refine J_callV0_i (pc := 64) (stk := [.int q61, .int v22, .ref a0]) (st := []) C dX1_crossByDraw_64 yw_X1_carryAndBook w_MLX1_90 in_X1_carryAndBook sl_X1_carryAndBook ⟨_, rfl, rfl⟩ (kX1_carryAndBook hq) (gO_some hq).1 rfl (by decide) rfl (Nat.le_of_ble_eq_true rfl) ?_
      refine J_pop (pc := 67) C dX1_crossByDraw_67 rfl ?_
      exact J_vret (pc := 68) C dX1_crossByDraw_68 hF (by decide) (by decide)
def fX1_facesBackTo_5 (h : Hp) : Nat → Nat → Int32 → Int32 → Int32 → Int32 → Option Int32
  | 0, _, _, _, _, _ => none
  | n5 + 1, a0, x1, x2, x3, x4 =>
    (getI h 1 a0 7).bind fun v8 =>
    if v8 ≤ x4 then
      some 9
    else
      (getR h 1 a0 6).bind fun r15 =>
      (rdI h r15 x4).bind fun v20 =>
      (dvz v20 10).bind fun v23 =>
      if v23 = x1 then
        (getR h 1 a0 6).bind fun r29 =>
        (rdI h r29 x4).bind fun v34 =>
        (rmz v34 10).bind fun v37 =>
        if v37 = x2 then
          (fJ6_bitCount_0f7a4 (x3 ||| ((1 : Int32) <<< (v37 &&& 31)))).bind fun q54 =>
          some q54
        else
          fX1_facesBackTo_5 h n5 a0 x1 x2 (x3 ||| ((1 : Int32) <<< (v37 &&& 31))) (x4 + 1)
      else
        fX1_facesBackTo_5 h n5 a0 x1 x2 x3 (x4 + 1)
set_option maxRecDepth 100000 in
theorem kX1_facesBackTo_5 {X : Cx} {z : Int32} {h : Hp} (C : Jc X yX1_facesBackTo cX1_facesBackTo 6 (some .int) 1 0 0 (some (.int z), h)) : ∀ (n5 : Nat) (a0 : Nat) (x1 : Int32) (x2 : Int32) (x3 : Int32) (x4 : Int32), fX1_facesBackTo_5 h n5 a0 x1 x2 x3 x4 = some z → J X 0 0 0 0 5 [some (.ref a0), some (.int x1), some (.int x2), some (.int x3), some (.int x4), none] [] h := by
  intro n5
  induction n5 with
  | zero => intro a0 x1 x2 x3 x4 hF; cases hF
  | succ n5 ih =>
    intro a0 x1 x2 x3 x4 hF
    rw [fX1_facesBackTo_5] at hF
    refine J_iload (pc := 5) C dX1_facesBackTo_5 rfl ?_
    refine J_aload_n (pc := 7) C dX1_facesBackTo_7 rfl ?_
    refine J_getI (pc := 8) C dX1_facesBackTo_8 fg_X1_60 hF (fun v8 hF => ?_)
    refine J_icmp_ge (pc := 11) (tgt := 64) C dX1_facesBackTo_11 rfl hF (fun hF => ?_) (fun hF => ?_)
    · refine J_bipush (pc := 64) C dX1_facesBackTo_64 bc_9 ?_
      exact J_iretP (pc := 66) C dX1_facesBackTo_66 hF (by decide) (by decide)
    · refine J_aload_n (pc := 14) C dX1_facesBackTo_14 rfl ?_
      refine J_getR (pc := 15) C dX1_facesBackTo_15 fg_X1_25 hF (fun r15 hF => ?_)
      refine J_iload (pc := 18) C dX1_facesBackTo_18 rfl ?_
      refine J_iald (pc := 20) C dX1_facesBackTo_20 hF (fun v20 hF => ?_)
      refine J_bipush (pc := 21) C dX1_facesBackTo_21 bc_10 ?_
      refine J_idiv (pc := 23) C dX1_facesBackTo_23 hF (fun v23 hF => ?_)
      refine J_iload_n (pc := 24) C dX1_facesBackTo_24 rfl ?_
      refine J_icmp_ne (pc := 25) (tgt := 58) C dX1_facesBackTo_25 rfl hF (fun hF => ?_) (fun hF => ?_)
      · refine J_aload_n (pc := 28) C dX1_facesBackTo_28 rfl ?_
        refine J_getR (pc := 29) C dX1_facesBackTo_29 fg_X1_25 hF (fun r29 hF => ?_)
        refine J_iload (pc := 32) C dX1_facesBackTo_32 rfl ?_
        refine J_iald (pc := 34) C dX1_facesBackTo_34 hF (fun v34 hF => ?_)
        refine J_bipush (pc := 35) C dX1_facesBackTo_35 bc_10 ?_
        refine J_irem (pc := 37) C dX1_facesBackTo_37 hF (fun v37 hF => ?_)
        refine J_istore (pc := 38) (lv' := [some (.ref a0), some (.int x1), some (.int x2), some (.int x3), some (.int x4), some (.int v37)]) C dX1_facesBackTo_38 rfl ?_
        refine J_iload_n (pc := 40) C dX1_facesBackTo_40 rfl ?_
        refine J_iconst (pc := 41) C dX1_facesBackTo_41 ic_1 ?_
        refine J_iload (pc := 42) C dX1_facesBackTo_42 rfl ?_
        refine J_ishl (pc := 44) C dX1_facesBackTo_44 ?_
        refine J_ior (pc := 45) C dX1_facesBackTo_45 ?_
        refine J_istore_n (pc := 46) (lv' := [some (.ref a0), some (.int x1), some (.int x2), some (.int (x3 ||| ((1 : Int32) <<< (v37 &&& 31)))), some (.int x4), some (.int v37)]) C dX1_facesBackTo_46 rfl ?_
        refine J_iload (pc := 47) C dX1_facesBackTo_47 rfl ?_
        refine J_iload_n (pc := 49) C dX1_facesBackTo_49 rfl ?_
        refine J_icmp_ne (pc := 50) (tgt := 58) C dX1_facesBackTo_50 rfl hF (fun hF => ?_) (fun hF => ?_)
        · refine J_iload_n (pc := 53) C dX1_facesBackTo_53 rfl ?_
          refine J_bind hF (fun q54 hq hF => ?_)
          refine J_callS0_ip (pc := 54) (stk := [.int (x3 ||| ((1 : Int32) <<< (v37 &&& 31)))]) (st := []) C dX1_facesBackTo_54 yw_J6_bitCount_0f7a4 w_MLX1_94 st_J6_bitCount_0f7a4 (kJ6_bitCount_0f7a4 hq) rfl (by decide) rfl (Nat.le_of_ble_eq_true rfl) ?_
          exact J_iretP (pc := 57) C dX1_facesBackTo_57 hF (by decide) (by decide)
        · refine J_iinc (pc := 58) (lv' := [some (.ref a0), some (.int x1), some (.int x2), some (.int (x3 ||| ((1 : Int32) <<< (v37 &&& 31)))), some (.int (x4 + 1)), some (.int v37)]) C dX1_facesBackTo_58 rfl ic_1 rfl ?_
          refine J_goto (pc := 61) (tgt := 5) C dX1_facesBackTo_61 rfl ?_
          refine J_msk (m := [true, true, true, true, true, false]) rfl ?_
          exact ih a0 x1 x2 (x3 ||| ((1 : Int32) <<< (v37 &&& 31))) (x4 + 1) hF
      · refine J_iinc (pc := 58) (lv' := [some (.ref a0), some (.int x1), some (.int x2), some (.int x3), some (.int (x4 + 1)), none]) C dX1_facesBackTo_58 rfl ic_1 rfl ?_
        refine J_goto (pc := 61) (tgt := 5) C dX1_facesBackTo_61 rfl ?_
        exact ih a0 x1 x2 x3 (x4 + 1) hF
def fX1_facesBackTo (h : Hp) (a0 : Nat) (x1 : Int32) (x2 : Int32) : Option Int32 := gO h 1 a0 (
  fX1_facesBackTo_5 h 1000 a0 x1 x2 0 0)
set_option maxRecDepth 100000 in
theorem kX1_facesBackTo {h : Hp} {a0 : Nat} {x1 : Int32} {x2 : Int32} {z : Int32} (hF : fX1_facesBackTo h a0 x1 x2 = some z) : Mc yX1_facesBackTo cX1_facesBackTo 6 (some .int) 1 0 0 [.ref a0, .int x1, .int x2] h (some (.int z), h) := by
  have hF := (gO_some hF).2
  refine Mc_of [some (.ref a0), some (.int x1), some (.int x2), none, none, none] plX1 rfl rfl (Nat.le_of_ble_eq_true rfl) (fun X C => ?_)
  refine J_iconst (pc := 0) C dX1_facesBackTo_0 ic_0 ?_
  refine J_istore_n (pc := 1) (lv' := [some (.ref a0), some (.int x1), some (.int x2), some (.int 0), none, none]) C dX1_facesBackTo_1 rfl ?_
  refine J_iconst (pc := 2) C dX1_facesBackTo_2 ic_0 ?_
  refine J_istore (pc := 3) (lv' := [some (.ref a0), some (.int x1), some (.int x2), some (.int 0), some (.int 0), none]) C dX1_facesBackTo_3 rfl ?_
  exact kX1_facesBackTo_5 C 1000 a0 x1 x2 0 0 hF
def fX7_init (h : Hp) (a0 : Nat) (a1 : Nat) : Option Hp :=
  (newA 8 h 8).bind fun q7 =>
  (putV q7.2 7 a0 3 (.ref q7.1)).bind fun h9 =>
  (newA 8 h9 8).bind fun q15 =>
  (putV q15.2 7 a0 4 (.ref q15.1)).bind fun h17 =>
  (newA 4 h17 4).bind fun q22 =>
  (putV q22.2 7 a0 5 (.ref q22.1)).bind fun h24 =>
  (newA 4 h24 4).bind fun q29 =>
  (putV q29.2 7 a0 6 (.ref q29.1)).bind fun h31 =>
  (newA 4 h31 4).bind fun q36 =>
  (putV q36.2 7 a0 7 (.ref q36.1)).bind fun h38 =>
  (newA 4 h38 4).bind fun q43 =>
  (putV q43.2 7 a0 8 (.ref q43.1)).bind fun h45 =>
  (newA 4 h45 4).bind fun q50 =>
  (putV q50.2 7 a0 9 (.ref q50.1)).bind fun h52 =>
  (newA 32 h52 32).bind fun q58 =>
  (putV q58.2 7 a0 10 (.ref q58.1)).bind fun h60 =>
  (putV h60 7 a0 11 (.ref a1)).bind fun h65 =>
  (putV h65 7 a0 12 (.ref a1)).bind fun h70 =>
  some h70
set_option maxRecDepth 100000 in
theorem kX7_init {h : Hp} {a0 : Nat} {a1 : Nat} {z : Hp} (hF : fX7_init h a0 a1 = some z) : Mc yX7_init cX7_init 2 none 1 8 68 [.ref a0, .ref a1] h (none, z) := by
  unfold fX7_init at hF
  refine Mc_of [some (.ref a0), some (.ref a1)] plX7 rfl rfl (Nat.le_of_ble_eq_true rfl) (fun X C => ?_)
  refine J_aload_n (pc := 0) C dX7_init_0 rfl ?_
  refine J_objInit (pc := 1) C dX7_init_1 w_MLX7_3 (by decide) (Nat.le_of_ble_eq_true rfl) ?_
  refine J_aload_n (pc := 4) C dX7_init_4 rfl ?_
  refine J_bipush (pc := 5) C dX7_init_5 bc_8 ?_
  refine J_newarr (pc := 7) C dX7_init_7 (cap := 8) w_AC (by decide) (by decide) (by decide) hF (fun q7 hF => ?_)
  refine J_put (pc := 9) C dX7_init_9 fi_X7_9 hF rfl rfl (fun h9 hF => ?_)
  refine J_aload_n (pc := 12) C dX7_init_12 rfl ?_
  refine J_bipush (pc := 13) C dX7_init_13 bc_8 ?_
  refine J_newarr (pc := 15) C dX7_init_15 (cap := 8) w_AC (by decide) (by decide) (by decide) hF (fun q15 hF => ?_)
  refine J_put (pc := 17) C dX7_init_17 fi_X7_15 hF rfl rfl (fun h17 hF => ?_)
  refine J_aload_n (pc := 20) C dX7_init_20 rfl ?_
  refine J_iconst (pc := 21) C dX7_init_21 ic_4 ?_
  refine J_newarr (pc := 22) C dX7_init_22 (cap := 4) w_AC (by decide) (by decide) (by decide) hF (fun q22 hF => ?_)
  refine J_put (pc := 24) C dX7_init_24 fi_X7_18 hF rfl rfl (fun h24 hF => ?_)
  refine J_aload_n (pc := 27) C dX7_init_27 rfl ?_
  refine J_iconst (pc := 28) C dX7_init_28 ic_4 ?_
  refine J_newarr (pc := 29) C dX7_init_29 (cap := 4) w_AC (by decide) (by decide) (by decide) hF (fun q29 hF => ?_)
  refine J_put (pc := 31) C dX7_init_31 fi_X7_21 hF rfl rfl (fun h31 hF => ?_)
  refine J_aload_n (pc := 34) C dX7_init_34 rfl ?_
  refine J_iconst (pc := 35) C dX7_init_35 ic_4 ?_
  refine J_newarr (pc := 36) C dX7_init_36 (cap := 4) w_AC (by decide) (by decide) (by decide) hF (fun q36 hF => ?_)
  refine J_put (pc := 38) C dX7_init_38 fi_X7_24 hF rfl rfl (fun h38 hF => ?_)
  refine J_aload_n (pc := 41) C dX7_init_41 rfl ?_
  refine J_iconst (pc := 42) C dX7_init_42 ic_4 ?_
  refine J_newarr (pc := 43) C dX7_init_43 (cap := 4) w_AC (by decide) (by decide) (by decide) hF (fun q43 hF => ?_)
  refine J_put (pc := 45) C dX7_init_45 fi_X7_27 hF rfl rfl (fun h45 hF => ?_)
  refine J_aload_n (pc := 48) C dX7_init_48 rfl ?_
  refine J_iconst (pc := 49) C dX7_init_49 ic_4 ?_
  refine J_newarr (pc := 50) C dX7_init_50 (cap := 4) w_AC (by decide) (by decide) (by decide) hF (fun q50 hF => ?_)
  refine J_put (pc := 52) C dX7_init_52 fi_X7_30 hF rfl rfl (fun h52 hF => ?_)
  refine J_aload_n (pc := 55) C dX7_init_55 rfl ?_
  refine J_bipush (pc := 56) C dX7_init_56 bc_32 ?_
  refine J_newarr (pc := 58) C dX7_init_58 (cap := 32) w_AC (by decide) (by decide) (by decide) hF (fun q58 hF => ?_)
  refine J_put (pc := 60) C dX7_init_60 fi_X7_33 hF rfl rfl (fun h60 hF => ?_)
  refine J_aload_n (pc := 63) C dX7_init_63 rfl ?_
  refine J_aload_n (pc := 64) C dX7_init_64 rfl ?_
  refine J_put (pc := 65) C dX7_init_65 (fp_X7_36 _) hF rfl rfl (fun h65 hF => ?_)
  refine J_aload_n (pc := 68) C dX7_init_68 rfl ?_
  refine J_aload_n (pc := 69) C dX7_init_69 rfl ?_
  refine J_put (pc := 70) C dX7_init_70 (fp_X7_40 _) hF rfl rfl (fun h70 hF => ?_)
  exact J_vret (pc := 73) C dX7_init_73 hF (by decide) (by decide)
def fX1_init (h : Hp) (a0 : Nat) (a1 : Nat) : Option Hp :=
  (newO h 0 [.int 0, .null, .null, .null]).bind fun q5 =>
  (fX0_init q5.2 q5.1).bind fun q9 =>
  (putV q9 1 a0 1 (.ref q5.1)).bind fun h12 =>
  (newA 60 h12 60).bind fun q18 =>
  (putV q18.2 1 a0 2 (.ref q18.1)).bind fun h20 =>
  (newA 24 h20 24).bind fun q26 =>
  (putV q26.2 1 a0 4 (.ref q26.1)).bind fun h28 =>
  (newA 24 h28 24).bind fun q34 =>
  (putV q34.2 1 a0 6 (.ref q34.1)).bind fun h36 =>
  (putV h36 1 a0 8 (.int 1)).bind fun h41 =>
  (newO h41 7 [.int 0, .int 0, .int 0, .null, .null, .null, .null, .null, .null, .null, .null, .null, .null]).bind fun q45 =>
  (fX7_init q45.2 q45.1 a1).bind fun q50 =>
  (putV q50 1 a0 0 (.ref q45.1)).bind fun h53 =>
  some h53
set_option maxRecDepth 100000 in
theorem kX1_init {h : Hp} {a0 : Nat} {a1 : Nat} {z : Hp} (hF : fX1_init h a0 a1 = some z) : Mc yX1_init cX1_init 2 none 2 16 217 [.ref a0, .ref a1] h (none, z) := by
  unfold fX1_init at hF
  refine Mc_of [some (.ref a0), some (.ref a1)] plX1 rfl rfl (Nat.le_of_ble_eq_true rfl) (fun X C => ?_)
  refine J_aload_n (pc := 0) C dX1_init_0 rfl ?_
  refine J_objInit (pc := 1) C dX1_init_1 w_MLX1_3 (by decide) (Nat.le_of_ble_eq_true rfl) ?_
  refine J_aload_n (pc := 4) C dX1_init_4 rfl ?_
  refine J_new (pc := 5) C dX1_init_5 fn_X1_9 (by decide) (by decide) hF (fun q5 hF => ?_)
  refine J_dup (pc := 8) C dX1_init_8 rfl ?_
  refine J_bind hF (fun q9 hq hF => ?_)
  refine J_callIN_v (pc := 9) (stk := [.ref q5.1, .ref q5.1, .ref a0]) (st := [.ref q5.1, .ref a0]) C dX1_init_9 yw_X0_init (by decide +kernel) rfl in_X0_init (kX0_init hq) rfl (by decide) (by decide) (by decide) rfl (Nat.le_of_ble_eq_true rfl) ?_
  refine J_put (pc := 12) C dX1_init_12 fi_X1_12 hF rfl rfl (fun h12 hF => ?_)
  refine J_aload_n (pc := 15) C dX1_init_15 rfl ?_
  refine J_bipush (pc := 16) C dX1_init_16 bc_60 ?_
  refine J_newarr (pc := 18) C dX1_init_18 (cap := 60) w_AC (by decide) (by decide) (by decide) hF (fun q18 hF => ?_)
  refine J_put (pc := 20) C dX1_init_20 fi_X1_18 hF rfl rfl (fun h20 hF => ?_)
  refine J_aload_n (pc := 23) C dX1_init_23 rfl ?_
  refine J_bipush (pc := 24) C dX1_init_24 bc_24 ?_
  refine J_newarr (pc := 26) C dX1_init_26 (cap := 24) w_AC (by decide) (by decide) (by decide) hF (fun q26 hF => ?_)
  refine J_put (pc := 28) C dX1_init_28 fi_X1_22 hF rfl rfl (fun h28 hF => ?_)
  refine J_aload_n (pc := 31) C dX1_init_31 rfl ?_
  refine J_bipush (pc := 32) C dX1_init_32 bc_24 ?_
  refine J_newarr (pc := 34) C dX1_init_34 (cap := 24) w_AC (by decide) (by decide) (by decide) hF (fun q34 hF => ?_)
  refine J_put (pc := 36) C dX1_init_36 fi_X1_25 hF rfl rfl (fun h36 hF => ?_)
  refine J_aload_n (pc := 39) C dX1_init_39 rfl ?_
  refine J_iconst (pc := 40) C dX1_init_40 ic_1 ?_
  refine J_put (pc := 41) C dX1_init_41 (fp_X1_28 _) hF rfl rfl (fun h41 hF => ?_)
  refine J_aload_n (pc := 44) C dX1_init_44 rfl ?_
  refine J_new (pc := 45) C dX1_init_45 fn_X1_32 (by decide) (by decide) hF (fun q45 hF => ?_)
  refine J_dup (pc := 48) C dX1_init_48 rfl ?_
  refine J_aload_n (pc := 49) C dX1_init_49 rfl ?_
  refine J_bind hF (fun q50 hq hF => ?_)
  refine J_callI_v (pc := 50) (stk := [.ref a1, .ref q45.1, .ref q45.1, .ref a0]) (st := [.ref q45.1, .ref a0]) C dX1_init_50 yw_X7_init w_MLX1_34 rfl in_X7_init (kX7_init hq) rfl (by decide) (by decide) (by decide) rfl (Nat.le_of_ble_eq_true rfl) ?_
  refine J_put (pc := 53) C dX1_init_53 fi_X1_37 hF rfl rfl (fun h53 hF => ?_)
  exact J_vret (pc := 56) C dX1_init_56 hF (by decide) (by decide)
def fX2_init (h : Hp) (a0 : Nat) (a1 : Nat) : Option Hp :=
  (putV h 2 a0 0 (.ref a1)).bind fun h6 =>
  (lenA h6 a1).bind fun v11 =>
  (newA 60 h6 v11).bind fun q12 =>
  (putV q12.2 2 a0 1 (.ref q12.1)).bind fun h14 =>
  some h14
set_option maxRecDepth 100000 in
theorem kX2_init {h : Hp} {a0 : Nat} {a1 : Nat} {z : Hp} (hF : fX2_init h a0 a1 = some z) : Mc yX2_init cX2_init 2 none 1 1 60 [.ref a0, .ref a1] h (none, z) := by
  unfold fX2_init at hF
  refine Mc_of [some (.ref a0), some (.ref a1)] plX2 rfl rfl (Nat.le_of_ble_eq_true rfl) (fun X C => ?_)
  refine J_aload_n (pc := 0) C dX2_init_0 rfl ?_
  refine J_objInit (pc := 1) C dX2_init_1 w_MLX2_1 (by decide) (Nat.le_of_ble_eq_true rfl) ?_
  refine J_aload_n (pc := 4) C dX2_init_4 rfl ?_
  refine J_aload_n (pc := 5) C dX2_init_5 rfl ?_
  refine J_put (pc := 6) C dX2_init_6 fi_X2_7 hF rfl rfl (fun h6 hF => ?_)
  refine J_aload_n (pc := 9) C dX2_init_9 rfl ?_
  refine J_aload_n (pc := 10) C dX2_init_10 rfl ?_
  refine J_alen (pc := 11) C dX2_init_11 hF (fun v11 hF => ?_)
  refine J_newarr (pc := 12) C dX2_init_12 (cap := 60) w_AC (by decide) (by decide) (by decide) hF (fun q12 hF => ?_)
  refine J_put (pc := 14) C dX2_init_14 fi_X2_13 hF rfl rfl (fun h14 hF => ?_)
  exact J_vret (pc := 17) C dX2_init_17 hF (by decide) (by decide)
def fX3_sees (h : Hp) (a0 : Nat) (x1 : Int32) : Option Int32 := gO h 3 a0 (
  (getI h 3 a0 6).bind fun v1 =>
  if v1 = 0 then
    (getI h 3 a0 5).bind fun v8 =>
    (getI h 3 a0 1).bind fun v12 =>
    if v12 ≤ v8 then
      some 0
    else
      (getR h 3 a0 0).bind fun r19 =>
      (getI h 3 a0 5).bind fun v23 =>
      (rdI h r19 v23).bind fun v26 =>
      if v26 = x1 then
        some 1
      else
        some 0
  else
    some 0)
set_option maxRecDepth 100000 in
theorem kX3_sees {h : Hp} {a0 : Nat} {x1 : Int32} {z : Int32} (hF : fX3_sees h a0 x1 = some z) : Mc yX3_sees cX3_sees 2 (some .boolean) 0 0 0 [.ref a0, .int x1] h (some (.int z), h) := by
  have hF := (gO_some hF).2
  refine Mc_of [some (.ref a0), some (.int x1)] plX3 rfl rfl (Nat.le_of_ble_eq_true rfl) (fun X C => ?_)
  refine J_aload_n (pc := 0) C dX3_sees_0 rfl ?_
  refine J_getI (pc := 1) C dX3_sees_1 fg_X3_29 hF (fun v1 hF => ?_)
  refine J_if_ne (pc := 4) (tgt := 35) C dX3_sees_4 rfl hF (fun hF => ?_) (fun hF => ?_)
  · refine J_aload_n (pc := 7) C dX3_sees_7 rfl ?_
    refine J_getI (pc := 8) C dX3_sees_8 fg_X3_33 hF (fun v8 hF => ?_)
    refine J_aload_n (pc := 11) C dX3_sees_11 rfl ?_
    refine J_getI (pc := 12) C dX3_sees_12 fg_X3_15 hF (fun v12 hF => ?_)
    refine J_icmp_ge (pc := 15) (tgt := 35) C dX3_sees_15 rfl hF (fun hF => ?_) (fun hF => ?_)
    · refine J_iconst (pc := 35) C dX3_sees_35 ic_0 ?_
      exact J_zretP (pc := 36) C dX3_sees_36 rfl hF (by decide) (by decide)
    · refine J_aload_n (pc := 18) C dX3_sees_18 rfl ?_
      refine J_getR (pc := 19) C dX3_sees_19 fg_X3_9 hF (fun r19 hF => ?_)
      refine J_aload_n (pc := 22) C dX3_sees_22 rfl ?_
      refine J_getI (pc := 23) C dX3_sees_23 fg_X3_33 hF (fun v23 hF => ?_)
      refine J_iald (pc := 26) C dX3_sees_26 hF (fun v26 hF => ?_)
      refine J_iload_n (pc := 27) C dX3_sees_27 rfl ?_
      refine J_icmp_ne (pc := 28) (tgt := 35) C dX3_sees_28 rfl hF (fun hF => ?_) (fun hF => ?_)
      · refine J_iconst (pc := 31) C dX3_sees_31 ic_1 ?_
        refine J_goto (pc := 32) (tgt := 36) C dX3_sees_32 rfl ?_
        exact J_zretP (pc := 36) C dX3_sees_36 rfl hF (by decide) (by decide)
      · refine J_iconst (pc := 35) C dX3_sees_35 ic_0 ?_
        exact J_zretP (pc := 36) C dX3_sees_36 rfl hF (by decide) (by decide)
  · refine J_iconst (pc := 35) C dX3_sees_35 ic_0 ?_
    exact J_zretP (pc := 36) C dX3_sees_36 rfl hF (by decide) (by decide)
def fX3_close (h : Hp) (a0 : Nat) : Option Hp := gO h 3 a0 (
  (fX3_sees h a0 41).bind fun q3 =>
  if q3 = 0 then
    (putV h 3 a0 6 (.int 1)).bind fun h24 =>
    some h24
  else
    (getI h 3 a0 5).bind fun v11 =>
    (putV h 3 a0 5 (.int (v11 + 1))).bind fun h16 =>
    some h16)
set_option maxRecDepth 100000 in
theorem kX3_close {h : Hp} {a0 : Nat} {z : Hp} (hF : fX3_close h a0 = some z) : Mc yX3_close cX3_close 1 none 1 0 0 [.ref a0] h (none, z) := by
  have hF := (gO_some hF).2
  refine Mc_of [some (.ref a0)] plX3 rfl rfl (Nat.le_of_ble_eq_true rfl) (fun X C => ?_)
  refine J_aload_n (pc := 0) C dX3_close_0 rfl ?_
  refine J_bipush (pc := 1) C dX3_close_1 bc_41 ?_
  refine J_bind hF (fun q3 hq hF => ?_)
  refine J_callV0_ip (pc := 3) (stk := [.int 41, .ref a0]) (st := []) C dX3_close_3 yw_X3_sees w_MLX3_75 in_X3_sees sl_X3_sees ⟨_, rfl, rfl⟩ (kX3_sees hq) (gO_some hq).1 rfl (by decide) rfl (Nat.le_of_ble_eq_true rfl) ?_
  refine J_if_eq (pc := 6) (tgt := 22) C dX3_close_6 rfl hF (fun hF => ?_) (fun hF => ?_)
  · refine J_aload_n (pc := 22) C dX3_close_22 rfl ?_
    refine J_iconst (pc := 23) C dX3_close_23 ic_1 ?_
    refine J_put (pc := 24) C dX3_close_24 (fp_X3_29 _) hF rfl rfl (fun h24 hF => ?_)
    exact J_vret (pc := 27) C dX3_close_27 hF (by decide) (by decide)
  · refine J_aload_n (pc := 9) C dX3_close_9 rfl ?_
    refine J_dup (pc := 10) C dX3_close_10 rfl ?_
    refine J_getI (pc := 11) C dX3_close_11 fg_X3_33 hF (fun v11 hF => ?_)
    refine J_iconst (pc := 14) C dX3_close_14 ic_1 ?_
    refine J_iadd (pc := 15) C dX3_close_15 ?_
    refine J_put (pc := 16) C dX3_close_16 (fp_X3_33 _) hF rfl rfl (fun h16 hF => ?_)
    refine J_goto (pc := 19) (tgt := 27) C dX3_close_19 rfl ?_
    exact J_vret (pc := 27) C dX3_close_27 hF (by decide) (by decide)
def fX3_init (h : Hp) (a0 : Nat) (a1 : Nat) (x2 : Int32) (x3 : Int32) : Option Hp :=
  (putV h 3 a0 0 (.ref a1)).bind fun h6 =>
  (putV h6 3 a0 1 (.int x2)).bind fun h11 =>
  (putV h11 3 a0 2 (.int x3)).bind fun h16 =>
  (newA 60 h16 x2).bind fun q21 =>
  (putV q21.2 3 a0 3 (.ref q21.1)).bind fun h23 =>
  some h23
set_option maxRecDepth 100000 in
theorem kX3_init {h : Hp} {a0 : Nat} {a1 : Nat} {x2 : Int32} {x3 : Int32} {z : Hp} (hF : fX3_init h a0 a1 x2 x3 = some z) : Mc yX3_init cX3_init 4 none 1 1 60 [.ref a0, .ref a1, .int x2, .int x3] h (none, z) := by
  unfold fX3_init at hF
  refine Mc_of [some (.ref a0), some (.ref a1), some (.int x2), some (.int x3)] plX3 rfl rfl (Nat.le_of_ble_eq_true rfl) (fun X C => ?_)
  refine J_aload_n (pc := 0) C dX3_init_0 rfl ?_
  refine J_objInit (pc := 1) C dX3_init_1 w_MLX3_3 (by decide) (Nat.le_of_ble_eq_true rfl) ?_
  refine J_aload_n (pc := 4) C dX3_init_4 rfl ?_
  refine J_aload_n (pc := 5) C dX3_init_5 rfl ?_
  refine J_put (pc := 6) C dX3_init_6 fi_X3_9 hF rfl rfl (fun h6 hF => ?_)
  refine J_aload_n (pc := 9) C dX3_init_9 rfl ?_
  refine J_iload_n (pc := 10) C dX3_init_10 rfl ?_
  refine J_put (pc := 11) C dX3_init_11 fi_X3_15 hF rfl rfl (fun h11 hF => ?_)
  refine J_aload_n (pc := 14) C dX3_init_14 rfl ?_
  refine J_iload_n (pc := 15) C dX3_init_15 rfl ?_
  refine J_put (pc := 16) C dX3_init_16 fi_X3_19 hF rfl rfl (fun h16 hF => ?_)
  refine J_aload_n (pc := 19) C dX3_init_19 rfl ?_
  refine J_iload_n (pc := 20) C dX3_init_20 rfl ?_
  refine J_newarr (pc := 21) C dX3_init_21 (cap := 60) w_AC (by decide) (by decide) (by decide) hF (fun q21 hF => ?_)
  refine J_put (pc := 23) C dX3_init_23 fi_X3_22 hF rfl rfl (fun h23 hF => ?_)
  exact J_vret (pc := 26) C dX3_init_26 hF (by decide) (by decide)
def fX3_levelOf (x0 : Int32) : Option Int32 :=
  if x0 = 37 then
    some 4
  else
    if x0 = 38 then
      some 1
    else
      if x0 = 42 then
        some 4
      else
        if x0 = 43 then
          some 3
        else
          if x0 = 45 then
            some 3
          else
            if x0 = 47 then
              some 4
            else
              if x0 = 60 then
                some 2
              else
                if x0 = 61 then
                  some 2
                else
                  if x0 = 62 then
                    some 2
                  else
                    if x0 = 124 then
                      some 0
                    else
                      some ((-1))
set_option maxRecDepth 100000 in
theorem kX3_levelOf {h : Hp} {x0 : Int32} {z : Int32} (hF : fX3_levelOf x0 = some z) : Mc yX3_levelOf cX3_levelOf 1 (some .int) 0 0 0 [.int x0] h (some (.int z), h) := by
  unfold fX3_levelOf at hF
  refine Mc_of [some (.int x0)] plX3 rfl rfl (Nat.le_of_ble_eq_true rfl) (fun X C => ?_)
  refine J_iload_n (pc := 0) C dX3_levelOf_0 rfl ?_
  refine J_br hF (fun hc1_37 hF => ?_) (fun hc1_37 hF => ?_)
  · refine J_lsC (pc := 1) (tgt := 100) C 37 hc1_37 dX3_levelOf_1 (by decide) rfl rfl ?_
    refine J_iconst (pc := 100) C dX3_levelOf_100 ic_4 ?_
    exact J_iretP (pc := 101) C dX3_levelOf_101 hF (by decide) (by decide)
  · refine J_br hF (fun hc1_38 hF => ?_) (fun hc1_38 hF => ?_)
    · refine J_lsC (pc := 1) (tgt := 94) C 38 hc1_38 dX3_levelOf_1 (by decide) rfl rfl ?_
      refine J_iconst (pc := 94) C dX3_levelOf_94 ic_1 ?_
      exact J_iretP (pc := 95) C dX3_levelOf_95 hF (by decide) (by decide)
    · refine J_br hF (fun hc1_42 hF => ?_) (fun hc1_42 hF => ?_)
      · refine J_lsC (pc := 1) (tgt := 100) C 42 hc1_42 dX3_levelOf_1 (by decide) rfl rfl ?_
        refine J_iconst (pc := 100) C dX3_levelOf_100 ic_4 ?_
        exact J_iretP (pc := 101) C dX3_levelOf_101 hF (by decide) (by decide)
      · refine J_br hF (fun hc1_43 hF => ?_) (fun hc1_43 hF => ?_)
        · refine J_lsC (pc := 1) (tgt := 98) C 43 hc1_43 dX3_levelOf_1 (by decide) rfl rfl ?_
          refine J_iconst (pc := 98) C dX3_levelOf_98 ic_3 ?_
          exact J_iretP (pc := 99) C dX3_levelOf_99 hF (by decide) (by decide)
        · refine J_br hF (fun hc1_45 hF => ?_) (fun hc1_45 hF => ?_)
          · refine J_lsC (pc := 1) (tgt := 98) C 45 hc1_45 dX3_levelOf_1 (by decide) rfl rfl ?_
            refine J_iconst (pc := 98) C dX3_levelOf_98 ic_3 ?_
            exact J_iretP (pc := 99) C dX3_levelOf_99 hF (by decide) (by decide)
          · refine J_br hF (fun hc1_47 hF => ?_) (fun hc1_47 hF => ?_)
            · refine J_lsC (pc := 1) (tgt := 100) C 47 hc1_47 dX3_levelOf_1 (by decide) rfl rfl ?_
              refine J_iconst (pc := 100) C dX3_levelOf_100 ic_4 ?_
              exact J_iretP (pc := 101) C dX3_levelOf_101 hF (by decide) (by decide)
            · refine J_br hF (fun hc1_60 hF => ?_) (fun hc1_60 hF => ?_)
              · refine J_lsC (pc := 1) (tgt := 96) C 60 hc1_60 dX3_levelOf_1 (by decide) rfl rfl ?_
                refine J_iconst (pc := 96) C dX3_levelOf_96 ic_2 ?_
                exact J_iretP (pc := 97) C dX3_levelOf_97 hF (by decide) (by decide)
              · refine J_br hF (fun hc1_61 hF => ?_) (fun hc1_61 hF => ?_)
                · refine J_lsC (pc := 1) (tgt := 96) C 61 hc1_61 dX3_levelOf_1 (by decide) rfl rfl ?_
                  refine J_iconst (pc := 96) C dX3_levelOf_96 ic_2 ?_
                  exact J_iretP (pc := 97) C dX3_levelOf_97 hF (by decide) (by decide)
                · refine J_br hF (fun hc1_62 hF => ?_) (fun hc1_62 hF => ?_)
                  · refine J_lsC (pc := 1) (tgt := 96) C 62 hc1_62 dX3_levelOf_1 (by decide) rfl rfl ?_
                    refine J_iconst (pc := 96) C dX3_levelOf_96 ic_2 ?_
                    exact J_iretP (pc := 97) C dX3_levelOf_97 hF (by decide) (by decide)
                  · refine J_br hF (fun hc1_124 hF => ?_) (fun hc1_124 hF => ?_)
                    · refine J_lsC (pc := 1) (tgt := 92) C 124 hc1_124 dX3_levelOf_1 (by decide) rfl rfl ?_
                      refine J_iconst (pc := 92) C dX3_levelOf_92 ic_0 ?_
                      exact J_iretP (pc := 93) C dX3_levelOf_93 hF (by decide) (by decide)
                    · refine J_ls (pc := 1) (tgt := 102) C dX3_levelOf_1 (by decide) (show Op.lookupswitch.offset [(37, 99), (38, 93), (42, 99), (43, 97), (45, 97), (47, 99), (60, 95), (61, 95), (62, 95), (124, 91)] 101 x0.toInt = 101 from by rw [lv_osw hc1_37 (a := 37) rfl, lv_osw hc1_38 (a := 38) rfl, lv_osw hc1_42 (a := 42) rfl, lv_osw hc1_43 (a := 43) rfl, lv_osw hc1_45 (a := 45) rfl, lv_osw hc1_47 (a := 47) rfl, lv_osw hc1_60 (a := 60) rfl, lv_osw hc1_61 (a := 61) rfl, lv_osw hc1_62 (a := 62) rfl, lv_osw hc1_124 (a := 124) rfl]; rfl) rfl ?_
                      refine J_iconst (pc := 102) C dX3_levelOf_102 ic_m1 ?_
                      exact J_iretP (pc := 103) C dX3_levelOf_103 hF (by decide) (by decide)
def fX3_joinsAt (h : Hp) (a0 : Nat) (x1 : Int32) : Option Int32 := gO h 3 a0 (
  (getI h 3 a0 6).bind fun v1 =>
  if v1 = 0 then
    (getI h 3 a0 5).bind fun v8 =>
    (getI h 3 a0 1).bind fun v12 =>
    if v12 ≤ v8 then
      some 0
    else
      (getR h 3 a0 0).bind fun r19 =>
      (getI h 3 a0 5).bind fun v23 =>
      (rdI h r19 v23).bind fun v26 =>
      (fX3_levelOf v26).bind fun q27 =>
      if q27 = x1 then
        some 1
      else
        some 0
  else
    some 0)
set_option maxRecDepth 100000 in
theorem kX3_joinsAt {h : Hp} {a0 : Nat} {x1 : Int32} {z : Int32} (hF : fX3_joinsAt h a0 x1 = some z) : Mc yX3_joinsAt cX3_joinsAt 2 (some .boolean) 1 0 0 [.ref a0, .int x1] h (some (.int z), h) := by
  have hF := (gO_some hF).2
  refine Mc_of [some (.ref a0), some (.int x1)] plX3 rfl rfl (Nat.le_of_ble_eq_true rfl) (fun X C => ?_)
  refine J_aload_n (pc := 0) C dX3_joinsAt_0 rfl ?_
  refine J_getI (pc := 1) C dX3_joinsAt_1 fg_X3_29 hF (fun v1 hF => ?_)
  refine J_if_ne (pc := 4) (tgt := 38) C dX3_joinsAt_4 rfl hF (fun hF => ?_) (fun hF => ?_)
  · refine J_aload_n (pc := 7) C dX3_joinsAt_7 rfl ?_
    refine J_getI (pc := 8) C dX3_joinsAt_8 fg_X3_33 hF (fun v8 hF => ?_)
    refine J_aload_n (pc := 11) C dX3_joinsAt_11 rfl ?_
    refine J_getI (pc := 12) C dX3_joinsAt_12 fg_X3_15 hF (fun v12 hF => ?_)
    refine J_icmp_ge (pc := 15) (tgt := 38) C dX3_joinsAt_15 rfl hF (fun hF => ?_) (fun hF => ?_)
    · refine J_iconst (pc := 38) C dX3_joinsAt_38 ic_0 ?_
      exact J_zretP (pc := 39) C dX3_joinsAt_39 rfl hF (by decide) (by decide)
    · refine J_aload_n (pc := 18) C dX3_joinsAt_18 rfl ?_
      refine J_getR (pc := 19) C dX3_joinsAt_19 fg_X3_9 hF (fun r19 hF => ?_)
      refine J_aload_n (pc := 22) C dX3_joinsAt_22 rfl ?_
      refine J_getI (pc := 23) C dX3_joinsAt_23 fg_X3_33 hF (fun v23 hF => ?_)
      refine J_iald (pc := 26) C dX3_joinsAt_26 hF (fun v26 hF => ?_)
      refine J_bind hF (fun q27 hq hF => ?_)
      refine J_callS0_ip (pc := 27) (stk := [.int v26]) (st := []) C dX3_joinsAt_27 yw_X3_levelOf w_MLX3_61 st_X3_levelOf (kX3_levelOf hq) rfl (by decide) rfl (Nat.le_of_ble_eq_true rfl) ?_
      refine J_iload_n (pc := 30) C dX3_joinsAt_30 rfl ?_
      refine J_icmp_ne (pc := 31) (tgt := 38) C dX3_joinsAt_31 rfl hF (fun hF => ?_) (fun hF => ?_)
      · refine J_iconst (pc := 34) C dX3_joinsAt_34 ic_1 ?_
        refine J_goto (pc := 35) (tgt := 39) C dX3_joinsAt_35 rfl ?_
        exact J_zretP (pc := 39) C dX3_joinsAt_39 rfl hF (by decide) (by decide)
      · refine J_iconst (pc := 38) C dX3_joinsAt_38 ic_0 ?_
        exact J_zretP (pc := 39) C dX3_joinsAt_39 rfl hF (by decide) (by decide)
  · refine J_iconst (pc := 38) C dX3_joinsAt_38 ic_0 ?_
    exact J_zretP (pc := 39) C dX3_joinsAt_39 rfl hF (by decide) (by decide)
def fX3_law (h : Hp) (a0 : Nat) : Option (Nat × Hp) := gO h 3 a0 (
  (newO h 2 [.null, .null]).bind fun q0 =>
  (getR q0.2 3 a0 3).bind fun r5 =>
  (getI q0.2 3 a0 4).bind fun v9 =>
  (fJ7_copyOf_59c91 q0.2 r5 v9).bind fun q12 =>
  (fX2_init q12.2 q0.1 q12.1).bind fun q15 =>
  some (q0.1, q15))
set_option maxRecDepth 100000 in
theorem kX3_law {h : Hp} {a0 : Nat} {z : (Nat × Hp)} (hF : fX3_law h a0 = some z) : Mc yX3_law cX3_law 1 (some (.object "FourthFace$Law")) 2 3 122 [.ref a0] h (some (.ref z.1), z.2) := by
  have hF := (gO_some hF).2
  refine Mc_of [some (.ref a0)] plX3 rfl rfl (Nat.le_of_ble_eq_true rfl) (fun X C => ?_)
  refine J_new (pc := 0) C dX3_law_0 fn_X3_36 (by decide) (by decide) hF (fun q0 hF => ?_)
  refine J_dup (pc := 3) C dX3_law_3 rfl ?_
  refine J_aload_n (pc := 4) C dX3_law_4 rfl ?_
  refine J_getR (pc := 5) C dX3_law_5 fg_X3_22 hF (fun r5 hF => ?_)
  refine J_aload_n (pc := 8) C dX3_law_8 rfl ?_
  refine J_getI (pc := 9) C dX3_law_9 fg_X3_38 hF (fun v9 hF => ?_)
  refine J_bind hF (fun q12 hq hF => ?_)
  refine J_callS_r (pc := 12) (stk := [.int v9, .ref r5, .ref q0.1, .ref q0.1]) (st := [.ref q0.1, .ref q0.1]) C dX3_law_12 yw_J7_copyOf_59c91 w_MLX3_41 st_J7_copyOf_59c91 (kJ7_copyOf_59c91 hq) rfl (by decide) (by decide) (by decide) rfl (Nat.le_of_ble_eq_true rfl) ?_
  refine J_bind hF (fun q15 hq hF => ?_)
  refine J_callI_v (pc := 15) (stk := [.ref q12.1, .ref q0.1, .ref q0.1]) (st := [.ref q0.1]) C dX3_law_15 yw_X2_init w_MLX3_47 rfl in_X2_init (kX2_init hq) rfl (by decide) (by decide) (by decide) rfl (Nat.le_of_ble_eq_true rfl) ?_
  exact J_aret (pc := 18) C dX3_law_18 (Or.inl ⟨_, rfl⟩) hF (by decide) (by decide)
def fX3_nameOf_45 (h : Hp) (y0 : Int32) (y1 : Int32) : Option Int32 :=
  if y0 = y1 then
    some 2
  else
    some ((-1))
set_option maxRecDepth 100000 in
theorem kX3_nameOf_45 {X : Cx} {z : Int32} {h : Hp} (C : Jc X yX3_nameOf cX3_nameOf 2 (some .int) 0 0 0 (some (.int z), h)) (y0 : Int32) (y1 : Int32) (hF : fX3_nameOf_45 h y0 y1 = some z) : J X 0 0 0 0 45 [none, none] [.int y1, .int y0] h := by
  unfold fX3_nameOf_45 at hF
  refine J_icmp_ne (pc := 45) (tgt := 52) C dX3_nameOf_45 rfl hF (fun hF => ?_) (fun hF => ?_)
  · refine J_iconst (pc := 48) C dX3_nameOf_48 ic_2 ?_
    refine J_goto (pc := 49) (tgt := 53) C dX3_nameOf_49 rfl ?_
    exact J_iretP (pc := 53) C dX3_nameOf_53 hF (by decide) (by decide)
  · refine J_iconst (pc := 52) C dX3_nameOf_52 ic_m1 ?_
    exact J_iretP (pc := 53) C dX3_nameOf_53 hF (by decide) (by decide)
def fX3_nameOf_24 (h : Hp) (a0 : Nat) (x1 : Int32) (y0 : Int32) (y1 : Int32) : Option Int32 :=
  if y0 = y1 then
    some 1
  else
    (getI h 3 a0 2).bind fun v31 =>
    if v31 = 1 then
      fX3_nameOf_45 h x1 98
    else
      fX3_nameOf_45 h x1 112
set_option maxRecDepth 100000 in
theorem kX3_nameOf_24 {X : Cx} {z : Int32} {h : Hp} (C : Jc X yX3_nameOf cX3_nameOf 2 (some .int) 0 0 0 (some (.int z), h)) (a0 : Nat) (x1 : Int32) (y0 : Int32) (y1 : Int32) (hF : fX3_nameOf_24 h a0 x1 y0 y1 = some z) : J X 0 0 0 0 24 [some (.ref a0), some (.int x1)] [.int y1, .int y0] h := by
  unfold fX3_nameOf_24 at hF
  refine J_icmp_ne (pc := 24) (tgt := 29) C dX3_nameOf_24 rfl hF (fun hF => ?_) (fun hF => ?_)
  · refine J_iconst (pc := 27) C dX3_nameOf_27 ic_1 ?_
    exact J_iretP (pc := 28) C dX3_nameOf_28 hF (by decide) (by decide)
  · refine J_iload_n (pc := 29) C dX3_nameOf_29 rfl ?_
    refine J_aload_n (pc := 30) C dX3_nameOf_30 rfl ?_
    refine J_getI (pc := 31) C dX3_nameOf_31 fg_X3_19 hF (fun v31 hF => ?_)
    refine J_iconst (pc := 34) C dX3_nameOf_34 ic_1 ?_
    refine J_icmp_ne (pc := 35) (tgt := 43) C dX3_nameOf_35 rfl hF (fun hF => ?_) (fun hF => ?_)
    · refine J_bipush (pc := 38) C dX3_nameOf_38 bc_98 ?_
      refine J_goto (pc := 40) (tgt := 45) C dX3_nameOf_40 rfl ?_
      refine J_msk (m := [false, false]) rfl ?_
      exact kX3_nameOf_45 C x1 98 hF
    · refine J_bipush (pc := 43) C dX3_nameOf_43 bc_112 ?_
      refine J_msk (m := [false, false]) rfl ?_
      exact kX3_nameOf_45 C x1 112 hF
def fX3_nameOf (h : Hp) (a0 : Nat) (x1 : Int32) : Option Int32 := gO h 3 a0 (
  if x1 = 109 then
    some 0
  else
    (getI h 3 a0 2).bind fun v10 =>
    if v10 = 1 then
      fX3_nameOf_24 h a0 x1 x1 107
    else
      fX3_nameOf_24 h a0 x1 x1 116)
set_option maxRecDepth 100000 in
theorem kX3_nameOf {h : Hp} {a0 : Nat} {x1 : Int32} {z : Int32} (hF : fX3_nameOf h a0 x1 = some z) : Mc yX3_nameOf cX3_nameOf 2 (some .int) 0 0 0 [.ref a0, .int x1] h (some (.int z), h) := by
  have hF := (gO_some hF).2
  refine Mc_of [some (.ref a0), some (.int x1)] plX3 rfl rfl (Nat.le_of_ble_eq_true rfl) (fun X C => ?_)
  refine J_iload_n (pc := 0) C dX3_nameOf_0 rfl ?_
  refine J_bipush (pc := 1) C dX3_nameOf_1 bc_109 ?_
  refine J_icmp_ne (pc := 3) (tgt := 8) C dX3_nameOf_3 rfl hF (fun hF => ?_) (fun hF => ?_)
  · refine J_iconst (pc := 6) C dX3_nameOf_6 ic_0 ?_
    exact J_iretP (pc := 7) C dX3_nameOf_7 hF (by decide) (by decide)
  · refine J_iload_n (pc := 8) C dX3_nameOf_8 rfl ?_
    refine J_aload_n (pc := 9) C dX3_nameOf_9 rfl ?_
    refine J_getI (pc := 10) C dX3_nameOf_10 fg_X3_19 hF (fun v10 hF => ?_)
    refine J_iconst (pc := 13) C dX3_nameOf_13 ic_1 ?_
    refine J_icmp_ne (pc := 14) (tgt := 22) C dX3_nameOf_14 rfl hF (fun hF => ?_) (fun hF => ?_)
    · refine J_bipush (pc := 17) C dX3_nameOf_17 bc_107 ?_
      refine J_goto (pc := 19) (tgt := 24) C dX3_nameOf_19 rfl ?_
      exact kX3_nameOf_24 C a0 x1 x1 107 hF
    · refine J_bipush (pc := 22) C dX3_nameOf_22 bc_116 ?_
      exact kX3_nameOf_24 C a0 x1 x1 116 hF
def fX3_place (h : Hp) (a0 : Nat) : Option Int32 := gO h 3 a0 (
  (getI h 3 a0 5).bind fun v1 =>
  some v1)
set_option maxRecDepth 100000 in
theorem kX3_place {h : Hp} {a0 : Nat} {z : Int32} (hF : fX3_place h a0 = some z) : Mc yX3_place cX3_place 1 (some .int) 0 0 0 [.ref a0] h (some (.int z), h) := by
  have hF := (gO_some hF).2
  refine Mc_of [some (.ref a0)] plX3 rfl rfl (Nat.le_of_ble_eq_true rfl) (fun X C => ?_)
  refine J_aload_n (pc := 0) C dX3_place_0 rfl ?_
  refine J_getI (pc := 1) C dX3_place_1 fg_X3_33 hF (fun v1 hF => ?_)
  exact J_iretP (pc := 4) C dX3_place_4 hF (by decide) (by decide)
def fX3_write (h : Hp) (a0 : Nat) (x1 : Int32) : Option Hp := gO h 3 a0 (
  (getI h 3 a0 4).bind fun v1 =>
  (getR h 3 a0 3).bind fun r5 =>
  (lenA h r5).bind fun v8 =>
  if v8 ≤ v1 then
    some h
  else
    (getR h 3 a0 3).bind fun r13 =>
    (getI h 3 a0 4).bind fun v17 =>
    (wrI h r13 v17 x1).bind fun h21 =>
    (getI h21 3 a0 4).bind fun v24 =>
    (putV h21 3 a0 4 (.int (v24 + 1))).bind fun h29 =>
    some h29)
set_option maxRecDepth 100000 in
theorem kX3_write {h : Hp} {a0 : Nat} {x1 : Int32} {z : Hp} (hF : fX3_write h a0 x1 = some z) : Mc yX3_write cX3_write 2 none 0 0 0 [.ref a0, .int x1] h (none, z) := by
  have hF := (gO_some hF).2
  refine Mc_of [some (.ref a0), some (.int x1)] plX3 rfl rfl (Nat.le_of_ble_eq_true rfl) (fun X C => ?_)
  refine J_aload_n (pc := 0) C dX3_write_0 rfl ?_
  refine J_getI (pc := 1) C dX3_write_1 fg_X3_38 hF (fun v1 hF => ?_)
  refine J_aload_n (pc := 4) C dX3_write_4 rfl ?_
  refine J_getR (pc := 5) C dX3_write_5 fg_X3_22 hF (fun r5 hF => ?_)
  refine J_alen (pc := 8) C dX3_write_8 hF (fun v8 hF => ?_)
  refine J_icmp_ge (pc := 9) (tgt := 32) C dX3_write_9 rfl hF (fun hF => ?_) (fun hF => ?_)
  · exact J_vret (pc := 32) C dX3_write_32 hF (by decide) (by decide)
  · refine J_aload_n (pc := 12) C dX3_write_12 rfl ?_
    refine J_getR (pc := 13) C dX3_write_13 fg_X3_22 hF (fun r13 hF => ?_)
    refine J_aload_n (pc := 16) C dX3_write_16 rfl ?_
    refine J_getI (pc := 17) C dX3_write_17 fg_X3_38 hF (fun v17 hF => ?_)
    refine J_iload_n (pc := 20) C dX3_write_20 rfl ?_
    refine J_iast (pc := 21) C dX3_write_21 hF (fun h21 hF => ?_)
    refine J_aload_n (pc := 22) C dX3_write_22 rfl ?_
    refine J_dup (pc := 23) C dX3_write_23 rfl ?_
    refine J_getI (pc := 24) C dX3_write_24 fg_X3_38 hF (fun v24 hF => ?_)
    refine J_iconst (pc := 27) C dX3_write_27 ic_1 ?_
    refine J_iadd (pc := 28) C dX3_write_28 ?_
    refine J_put (pc := 29) C dX3_write_29 (fp_X3_38 _) hF rfl rfl (fun h29 hF => ?_)
    exact J_vret (pc := 32) C dX3_write_32 hF (by decide) (by decide)
def fX3_seesDigit (h : Hp) (a0 : Nat) : Option Int32 := gO h 3 a0 (
  (getI h 3 a0 6).bind fun v1 =>
  if v1 = 0 then
    (getI h 3 a0 5).bind fun v8 =>
    (getI h 3 a0 1).bind fun v12 =>
    if v12 ≤ v8 then
      some 0
    else
      (getR h 3 a0 0).bind fun r19 =>
      (getI h 3 a0 5).bind fun v23 =>
      (rdI h r19 v23).bind fun v26 =>
      if v26 < 48 then
        some 0
      else
        (getR h 3 a0 0).bind fun r33 =>
        (getI h 3 a0 5).bind fun v37 =>
        (rdI h r33 v37).bind fun v40 =>
        if (57 : Int32) < v40 then
          some 0
        else
          some 1
  else
    some 0)
set_option maxRecDepth 100000 in
theorem kX3_seesDigit {h : Hp} {a0 : Nat} {z : Int32} (hF : fX3_seesDigit h a0 = some z) : Mc yX3_seesDigit cX3_seesDigit 1 (some .boolean) 0 0 0 [.ref a0] h (some (.int z), h) := by
  have hF := (gO_some hF).2
  refine Mc_of [some (.ref a0)] plX3 rfl rfl (Nat.le_of_ble_eq_true rfl) (fun X C => ?_)
  refine J_aload_n (pc := 0) C dX3_seesDigit_0 rfl ?_
  refine J_getI (pc := 1) C dX3_seesDigit_1 fg_X3_29 hF (fun v1 hF => ?_)
  refine J_if_ne (pc := 4) (tgt := 50) C dX3_seesDigit_4 rfl hF (fun hF => ?_) (fun hF => ?_)
  · refine J_aload_n (pc := 7) C dX3_seesDigit_7 rfl ?_
    refine J_getI (pc := 8) C dX3_seesDigit_8 fg_X3_33 hF (fun v8 hF => ?_)
    refine J_aload_n (pc := 11) C dX3_seesDigit_11 rfl ?_
    refine J_getI (pc := 12) C dX3_seesDigit_12 fg_X3_15 hF (fun v12 hF => ?_)
    refine J_icmp_ge (pc := 15) (tgt := 50) C dX3_seesDigit_15 rfl hF (fun hF => ?_) (fun hF => ?_)
    · refine J_iconst (pc := 50) C dX3_seesDigit_50 ic_0 ?_
      exact J_zretP (pc := 51) C dX3_seesDigit_51 rfl hF (by decide) (by decide)
    · refine J_aload_n (pc := 18) C dX3_seesDigit_18 rfl ?_
      refine J_getR (pc := 19) C dX3_seesDigit_19 fg_X3_9 hF (fun r19 hF => ?_)
      refine J_aload_n (pc := 22) C dX3_seesDigit_22 rfl ?_
      refine J_getI (pc := 23) C dX3_seesDigit_23 fg_X3_33 hF (fun v23 hF => ?_)
      refine J_iald (pc := 26) C dX3_seesDigit_26 hF (fun v26 hF => ?_)
      refine J_bipush (pc := 27) C dX3_seesDigit_27 bc_48 ?_
      refine J_icmp_lt (pc := 29) (tgt := 50) C dX3_seesDigit_29 rfl hF (fun hF => ?_) (fun hF => ?_)
      · refine J_iconst (pc := 50) C dX3_seesDigit_50 ic_0 ?_
        exact J_zretP (pc := 51) C dX3_seesDigit_51 rfl hF (by decide) (by decide)
      · refine J_aload_n (pc := 32) C dX3_seesDigit_32 rfl ?_
        refine J_getR (pc := 33) C dX3_seesDigit_33 fg_X3_9 hF (fun r33 hF => ?_)
        refine J_aload_n (pc := 36) C dX3_seesDigit_36 rfl ?_
        refine J_getI (pc := 37) C dX3_seesDigit_37 fg_X3_33 hF (fun v37 hF => ?_)
        refine J_iald (pc := 40) C dX3_seesDigit_40 hF (fun v40 hF => ?_)
        refine J_bipush (pc := 41) C dX3_seesDigit_41 bc_57 ?_
        refine J_icmp_gt (pc := 43) (tgt := 50) C dX3_seesDigit_43 rfl hF (fun hF => ?_) (fun hF => ?_)
        · refine J_iconst (pc := 50) C dX3_seesDigit_50 ic_0 ?_
          exact J_zretP (pc := 51) C dX3_seesDigit_51 rfl hF (by decide) (by decide)
        · refine J_iconst (pc := 46) C dX3_seesDigit_46 ic_1 ?_
          refine J_goto (pc := 47) (tgt := 51) C dX3_seesDigit_47 rfl ?_
          exact J_zretP (pc := 51) C dX3_seesDigit_51 rfl hF (by decide) (by decide)
  · refine J_iconst (pc := 50) C dX3_seesDigit_50 ic_0 ?_
    exact J_zretP (pc := 51) C dX3_seesDigit_51 rfl hF (by decide) (by decide)
def fX3_readNumber_50 (h : Hp) (a0 : Nat) (x1 : Int32) : Option Hp :=
  (fX3_write h a0 (256 + x1)).bind fun q56 =>
  some q56
set_option maxRecDepth 100000 in
theorem kX3_readNumber_50 {X : Cx} {z : Hp} (C : Jc X yX3_readNumber cX3_readNumber 3 none 1 0 0 (none, z)) (h : Hp) (a0 : Nat) (x1 : Int32) (hF : fX3_readNumber_50 h a0 x1 = some z) : J X 0 0 0 0 50 [some (.ref a0), some (.int x1), none] [] h := by
  unfold fX3_readNumber_50 at hF
  refine J_aload_n (pc := 50) C dX3_readNumber_50 rfl ?_
  refine J_sipush (pc := 51) C dX3_readNumber_51 sc_256 ?_
  refine J_iload_n (pc := 54) C dX3_readNumber_54 rfl ?_
  refine J_iadd (pc := 55) C dX3_readNumber_55 ?_
  refine J_bind hF (fun q56 hq hF => ?_)
  refine J_callV0_v (pc := 56) (stk := [.int (256 + x1), .ref a0]) (st := []) C dX3_readNumber_56 yw_X3_write w_MLX3_58 in_X3_write sl_X3_write ⟨_, rfl, rfl⟩ (kX3_write hq) (gO_some hq).1 rfl (by decide) rfl (Nat.le_of_ble_eq_true rfl) ?_
  exact J_vret (pc := 59) C dX3_readNumber_59 hF (by decide) (by decide)
def fX3_readNumber_4 : Nat → Hp → Nat → Int32 → Int32 → Option Hp
  | 0, _, _, _, _ => none
  | n4 + 1, h, a0, x1, x2 =>
    if (4 : Int32) ≤ x2 then
      fX3_readNumber_50 h a0 x1
    else
      (fX3_seesDigit h a0).bind fun q10 =>
      if q10 = 0 then
        fX3_readNumber_50 h a0 x1
      else
        (getR h 3 a0 0).bind fun r21 =>
        (getI h 3 a0 5).bind fun v25 =>
        (rdI h r21 v25).bind fun v28 =>
        (getI h 3 a0 5).bind fun v36 =>
        (putV h 3 a0 5 (.int (v36 + 1))).bind fun h41 =>
        fX3_readNumber_4 n4 h41 a0 (((x1 * 10) + v28) - 48) (x2 + 1)
set_option maxRecDepth 100000 in
theorem kX3_readNumber_4 {X : Cx} {z : Hp} (C : Jc X yX3_readNumber cX3_readNumber 3 none 1 0 0 (none, z)) : ∀ (n4 : Nat) (h : Hp) (a0 : Nat) (x1 : Int32) (x2 : Int32), fX3_readNumber_4 n4 h a0 x1 x2 = some z → J X 0 0 0 0 4 [some (.ref a0), some (.int x1), some (.int x2)] [] h := by
  intro n4
  induction n4 with
  | zero => intro h a0 x1 x2 hF; cases hF
  | succ n4 ih =>
    intro h a0 x1 x2 hF
    rw [fX3_readNumber_4] at hF
    refine J_iload_n (pc := 4) C dX3_readNumber_4 rfl ?_
    refine J_iconst (pc := 5) C dX3_readNumber_5 ic_4 ?_
    refine J_icmp_ge (pc := 6) (tgt := 50) C dX3_readNumber_6 rfl hF (fun hF => ?_) (fun hF => ?_)
    · refine J_msk (m := [true, true, false]) rfl ?_
      exact kX3_readNumber_50 C h a0 x1 hF
    · refine J_aload_n (pc := 9) C dX3_readNumber_9 rfl ?_
      refine J_bind hF (fun q10 hq hF => ?_)
      refine J_callV0_ip (pc := 10) (stk := [.ref a0]) (st := []) C dX3_readNumber_10 yw_X3_seesDigit w_MLX3_65 in_X3_seesDigit sl_X3_seesDigit ⟨_, rfl, rfl⟩ (kX3_seesDigit hq) (gO_some hq).1 rfl (by decide) rfl (Nat.le_of_ble_eq_true rfl) ?_
      refine J_if_eq (pc := 13) (tgt := 50) C dX3_readNumber_13 rfl hF (fun hF => ?_) (fun hF => ?_)
      · refine J_msk (m := [true, true, false]) rfl ?_
        exact kX3_readNumber_50 C h a0 x1 hF
      · refine J_iload_n (pc := 16) C dX3_readNumber_16 rfl ?_
        refine J_bipush (pc := 17) C dX3_readNumber_17 bc_10 ?_
        refine J_imul (pc := 19) C dX3_readNumber_19 ?_
        refine J_aload_n (pc := 20) C dX3_readNumber_20 rfl ?_
        refine J_getR (pc := 21) C dX3_readNumber_21 fg_X3_9 hF (fun r21 hF => ?_)
        refine J_aload_n (pc := 24) C dX3_readNumber_24 rfl ?_
        refine J_getI (pc := 25) C dX3_readNumber_25 fg_X3_33 hF (fun v25 hF => ?_)
        refine J_iald (pc := 28) C dX3_readNumber_28 hF (fun v28 hF => ?_)
        refine J_iadd (pc := 29) C dX3_readNumber_29 ?_
        refine J_bipush (pc := 30) C dX3_readNumber_30 bc_48 ?_
        refine J_isub (pc := 32) C dX3_readNumber_32 ?_
        refine J_istore_n (pc := 33) (lv' := [some (.ref a0), some (.int (((x1 * 10) + v28) - 48)), some (.int x2)]) C dX3_readNumber_33 rfl ?_
        refine J_aload_n (pc := 34) C dX3_readNumber_34 rfl ?_
        refine J_dup (pc := 35) C dX3_readNumber_35 rfl ?_
        refine J_getI (pc := 36) C dX3_readNumber_36 fg_X3_33 hF (fun v36 hF => ?_)
        refine J_iconst (pc := 39) C dX3_readNumber_39 ic_1 ?_
        refine J_iadd (pc := 40) C dX3_readNumber_40 ?_
        refine J_put (pc := 41) C dX3_readNumber_41 (fp_X3_33 _) hF rfl rfl (fun h41 hF => ?_)
        refine J_iinc (pc := 44) (lv' := [some (.ref a0), some (.int (((x1 * 10) + v28) - 48)), some (.int (x2 + 1))]) C dX3_readNumber_44 rfl ic_1 rfl ?_
        refine J_goto (pc := 47) (tgt := 4) C dX3_readNumber_47 rfl ?_
        exact ih h41 a0 (((x1 * 10) + v28) - 48) (x2 + 1) hF
def fX3_readNumber (h : Hp) (a0 : Nat) : Option Hp := gO h 3 a0 (
  fX3_readNumber_4 1000 h a0 0 0)
set_option maxRecDepth 100000 in
theorem kX3_readNumber {h : Hp} {a0 : Nat} {z : Hp} (hF : fX3_readNumber h a0 = some z) : Mc yX3_readNumber cX3_readNumber 3 none 1 0 0 [.ref a0] h (none, z) := by
  have hF := (gO_some hF).2
  refine Mc_of [some (.ref a0), none, none] plX3 rfl rfl (Nat.le_of_ble_eq_true rfl) (fun X C => ?_)
  refine J_iconst (pc := 0) C dX3_readNumber_0 ic_0 ?_
  refine J_istore_n (pc := 1) (lv' := [some (.ref a0), some (.int 0), none]) C dX3_readNumber_1 rfl ?_
  refine J_iconst (pc := 2) C dX3_readNumber_2 ic_0 ?_
  refine J_istore_n (pc := 3) (lv' := [some (.ref a0), some (.int 0), some (.int 0)]) C dX3_readNumber_3 rfl ?_
  exact kX3_readNumber_4 C 1000 h a0 0 0 hF
