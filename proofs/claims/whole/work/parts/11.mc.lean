def fX9_joined (x0 : Int32) (x1 : Int32) (x2 : Int32) : Option Int32 :=
  if x0 = 37 then
    if x2 = 0 then
      some 0
    else
      if x2 = ((-1)) then
        some 0
      else
        (rmz x1 x2).bind fun v169 =>
        some v169
  else
    if x0 = 38 then
      if x1 = 0 then
        some 0
      else
        if x2 = 0 then
          some 0
        else
          some 1
    else
      if x0 = 42 then
        some (x1 * x2)
      else
        if x0 = 43 then
          some (x1 + x2)
        else
          if x0 = 45 then
            some (x1 - x2)
          else
            if x0 = 47 then
              if x2 = 0 then
                some 0
              else
                if x2 = ((-1)) then
                  some (-x1)
                else
                  (dvz x1 x2).bind fun v152 =>
                  some v152
            else
              if x0 = 60 then
                if x2 ≤ x1 then
                  some 0
                else
                  some 1
              else
                if x0 = 61 then
                  if x1 = x2 then
                    some 1
                  else
                    some 0
                else
                  if x0 = 62 then
                    if x1 ≤ x2 then
                      some 0
                    else
                      some 1
                  else
                    if x1 = 0 then
                      if x2 = 0 then
                        some 0
                      else
                        some 1
                    else
                      some 1
set_option maxRecDepth 100000 in
theorem kX9_joined {h : Hp} {x0 : Int32} {x1 : Int32} {x2 : Int32} {z : Int32} (hF : fX9_joined x0 x1 x2 = some z) : Mc yX9_joined cX9_joined 3 (some .int) 0 0 0 [.int x0, .int x1, .int x2] h (some (.int z), h) := by
  unfold fX9_joined at hF
  refine Mc_of [some (.int x0), some (.int x1), some (.int x2)] plX9 rfl rfl (Nat.le_of_ble_eq_true rfl) (fun X C => ?_)
  refine J_iload_n (pc := 0) C dX9_joined_0 rfl ?_
  refine J_br hF (fun hc1_37 hF => ?_) (fun hc1_37 hF => ?_)
  · refine J_tsIn (pc := 1) (tgt := 154) C 37 hc1_37 dX9_joined_1 (by decide) (by decide) rfl rfl ?_
    refine J_iload_n (pc := 154) C dX9_joined_154 rfl ?_
    refine J_if_eq (pc := 155) (tgt := 163) C dX9_joined_155 rfl hF (fun hF => ?_) (fun hF => ?_)
    · refine J_iconst (pc := 163) C dX9_joined_163 ic_0 ?_
      refine J_goto (pc := 164) (tgt := 170) C dX9_joined_164 rfl ?_
      exact J_iretP (pc := 170) C dX9_joined_170 hF (by decide) (by decide)
    · refine J_iload_n (pc := 158) C dX9_joined_158 rfl ?_
      refine J_iconst (pc := 159) C dX9_joined_159 ic_m1 ?_
      refine J_icmp_ne (pc := 160) (tgt := 167) C dX9_joined_160 rfl hF (fun hF => ?_) (fun hF => ?_)
      · refine J_iconst (pc := 163) C dX9_joined_163 ic_0 ?_
        refine J_goto (pc := 164) (tgt := 170) C dX9_joined_164 rfl ?_
        exact J_iretP (pc := 170) C dX9_joined_170 hF (by decide) (by decide)
      · refine J_iload_n (pc := 167) C dX9_joined_167 rfl ?_
        refine J_iload_n (pc := 168) C dX9_joined_168 rfl ?_
        refine J_irem (pc := 169) C dX9_joined_169 hF (fun v169 hF => ?_)
        exact J_iretP (pc := 170) C dX9_joined_170 hF (by decide) (by decide)
  · refine J_br hF (fun hc1_38 hF => ?_) (fun hc1_38 hF => ?_)
    · refine J_tsIn (pc := 1) (tgt := 204) C 38 hc1_38 dX9_joined_1 (by decide) (by decide) rfl rfl ?_
      refine J_iload_n (pc := 204) C dX9_joined_204 rfl ?_
      refine J_if_eq (pc := 205) (tgt := 216) C dX9_joined_205 rfl hF (fun hF => ?_) (fun hF => ?_)
      · refine J_iconst (pc := 216) C dX9_joined_216 ic_0 ?_
        exact J_iretP (pc := 217) C dX9_joined_217 hF (by decide) (by decide)
      · refine J_iload_n (pc := 208) C dX9_joined_208 rfl ?_
        refine J_if_eq (pc := 209) (tgt := 216) C dX9_joined_209 rfl hF (fun hF => ?_) (fun hF => ?_)
        · refine J_iconst (pc := 216) C dX9_joined_216 ic_0 ?_
          exact J_iretP (pc := 217) C dX9_joined_217 hF (by decide) (by decide)
        · refine J_iconst (pc := 212) C dX9_joined_212 ic_1 ?_
          refine J_goto (pc := 213) (tgt := 217) C dX9_joined_213 rfl ?_
          exact J_iretP (pc := 217) C dX9_joined_217 hF (by decide) (by decide)
    · refine J_br hF (fun hc1_42 hF => ?_) (fun hc1_42 hF => ?_)
      · refine J_tsIn (pc := 1) (tgt := 128) C 42 hc1_42 dX9_joined_1 (by decide) (by decide) rfl rfl ?_
        refine J_iload_n (pc := 128) C dX9_joined_128 rfl ?_
        refine J_iload_n (pc := 129) C dX9_joined_129 rfl ?_
        refine J_imul (pc := 130) C dX9_joined_130 ?_
        exact J_iretP (pc := 131) C dX9_joined_131 hF (by decide) (by decide)
      · refine J_br hF (fun hc1_43 hF => ?_) (fun hc1_43 hF => ?_)
        · refine J_tsIn (pc := 1) (tgt := 120) C 43 hc1_43 dX9_joined_1 (by decide) (by decide) rfl rfl ?_
          refine J_iload_n (pc := 120) C dX9_joined_120 rfl ?_
          refine J_iload_n (pc := 121) C dX9_joined_121 rfl ?_
          refine J_iadd (pc := 122) C dX9_joined_122 ?_
          exact J_iretP (pc := 123) C dX9_joined_123 hF (by decide) (by decide)
        · refine J_br hF (fun hc1_45 hF => ?_) (fun hc1_45 hF => ?_)
          · refine J_tsIn (pc := 1) (tgt := 124) C 45 hc1_45 dX9_joined_1 (by decide) (by decide) rfl rfl ?_
            refine J_iload_n (pc := 124) C dX9_joined_124 rfl ?_
            refine J_iload_n (pc := 125) C dX9_joined_125 rfl ?_
            refine J_isub (pc := 126) C dX9_joined_126 ?_
            exact J_iretP (pc := 127) C dX9_joined_127 hF (by decide) (by decide)
          · refine J_br hF (fun hc1_47 hF => ?_) (fun hc1_47 hF => ?_)
            · refine J_tsIn (pc := 1) (tgt := 132) C 47 hc1_47 dX9_joined_1 (by decide) (by decide) rfl rfl ?_
              refine J_iload_n (pc := 132) C dX9_joined_132 rfl ?_
              refine J_if_ne (pc := 133) (tgt := 140) C dX9_joined_133 rfl hF (fun hF => ?_) (fun hF => ?_)
              · refine J_iconst (pc := 136) C dX9_joined_136 ic_0 ?_
                refine J_goto (pc := 137) (tgt := 153) C dX9_joined_137 rfl ?_
                exact J_iretP (pc := 153) C dX9_joined_153 hF (by decide) (by decide)
              · refine J_iload_n (pc := 140) C dX9_joined_140 rfl ?_
                refine J_iconst (pc := 141) C dX9_joined_141 ic_m1 ?_
                refine J_icmp_ne (pc := 142) (tgt := 150) C dX9_joined_142 rfl hF (fun hF => ?_) (fun hF => ?_)
                · refine J_iload_n (pc := 145) C dX9_joined_145 rfl ?_
                  refine J_ineg (pc := 146) C dX9_joined_146 ?_
                  refine J_goto (pc := 147) (tgt := 153) C dX9_joined_147 rfl ?_
                  exact J_iretP (pc := 153) C dX9_joined_153 hF (by decide) (by decide)
                · refine J_iload_n (pc := 150) C dX9_joined_150 rfl ?_
                  refine J_iload_n (pc := 151) C dX9_joined_151 rfl ?_
                  refine J_idiv (pc := 152) C dX9_joined_152 hF (fun v152 hF => ?_)
                  exact J_iretP (pc := 153) C dX9_joined_153 hF (by decide) (by decide)
            · refine J_br hF (fun hc1_60 hF => ?_) (fun hc1_60 hF => ?_)
              · refine J_tsIn (pc := 1) (tgt := 171) C 60 hc1_60 dX9_joined_1 (by decide) (by decide) rfl rfl ?_
                refine J_iload_n (pc := 171) C dX9_joined_171 rfl ?_
                refine J_iload_n (pc := 172) C dX9_joined_172 rfl ?_
                refine J_icmp_ge (pc := 173) (tgt := 180) C dX9_joined_173 rfl hF (fun hF => ?_) (fun hF => ?_)
                · refine J_iconst (pc := 180) C dX9_joined_180 ic_0 ?_
                  exact J_iretP (pc := 181) C dX9_joined_181 hF (by decide) (by decide)
                · refine J_iconst (pc := 176) C dX9_joined_176 ic_1 ?_
                  refine J_goto (pc := 177) (tgt := 181) C dX9_joined_177 rfl ?_
                  exact J_iretP (pc := 181) C dX9_joined_181 hF (by decide) (by decide)
              · refine J_br hF (fun hc1_61 hF => ?_) (fun hc1_61 hF => ?_)
                · refine J_tsIn (pc := 1) (tgt := 193) C 61 hc1_61 dX9_joined_1 (by decide) (by decide) rfl rfl ?_
                  refine J_iload_n (pc := 193) C dX9_joined_193 rfl ?_
                  refine J_iload_n (pc := 194) C dX9_joined_194 rfl ?_
                  refine J_icmp_ne (pc := 195) (tgt := 202) C dX9_joined_195 rfl hF (fun hF => ?_) (fun hF => ?_)
                  · refine J_iconst (pc := 198) C dX9_joined_198 ic_1 ?_
                    refine J_goto (pc := 199) (tgt := 203) C dX9_joined_199 rfl ?_
                    exact J_iretP (pc := 203) C dX9_joined_203 hF (by decide) (by decide)
                  · refine J_iconst (pc := 202) C dX9_joined_202 ic_0 ?_
                    exact J_iretP (pc := 203) C dX9_joined_203 hF (by decide) (by decide)
                · refine J_br hF (fun hc1_62 hF => ?_) (fun hc1_62 hF => ?_)
                  · refine J_tsIn (pc := 1) (tgt := 182) C 62 hc1_62 dX9_joined_1 (by decide) (by decide) rfl rfl ?_
                    refine J_iload_n (pc := 182) C dX9_joined_182 rfl ?_
                    refine J_iload_n (pc := 183) C dX9_joined_183 rfl ?_
                    refine J_icmp_le (pc := 184) (tgt := 191) C dX9_joined_184 rfl hF (fun hF => ?_) (fun hF => ?_)
                    · refine J_iconst (pc := 191) C dX9_joined_191 ic_0 ?_
                      exact J_iretP (pc := 192) C dX9_joined_192 hF (by decide) (by decide)
                    · refine J_iconst (pc := 187) C dX9_joined_187 ic_1 ?_
                      refine J_goto (pc := 188) (tgt := 192) C dX9_joined_188 rfl ?_
                      exact J_iretP (pc := 192) C dX9_joined_192 hF (by decide) (by decide)
                  · have hD : J X 0 0 0 0 218 [some (.int x0), some (.int x1), some (.int x2)] [] h := by
                      refine J_iload_n (pc := 218) C dX9_joined_218 rfl ?_
                      refine J_if_ne (pc := 219) (tgt := 226) C dX9_joined_219 rfl hF (fun hF => ?_) (fun hF => ?_)
                      · refine J_iload_n (pc := 222) C dX9_joined_222 rfl ?_
                        refine J_if_eq (pc := 223) (tgt := 230) C dX9_joined_223 rfl hF (fun hF => ?_) (fun hF => ?_)
                        · refine J_iconst (pc := 230) C dX9_joined_230 ic_0 ?_
                          exact J_iretP (pc := 231) C dX9_joined_231 hF (by decide) (by decide)
                        · refine J_iconst (pc := 226) C dX9_joined_226 ic_1 ?_
                          refine J_goto (pc := 227) (tgt := 231) C dX9_joined_227 rfl ?_
                          exact J_iretP (pc := 231) C dX9_joined_231 hF (by decide) (by decide)
                      · refine J_iconst (pc := 226) C dX9_joined_226 ic_1 ?_
                        refine J_goto (pc := 227) (tgt := 231) C dX9_joined_227 rfl ?_
                        exact J_iretP (pc := 231) C dX9_joined_231 hF (by decide) (by decide)
                    by_cases hh1_39 : x0 = 39
                    · exact J_tsIn (pc := 1) (tgt := 218) C 39 hh1_39 dX9_joined_1 (by decide) (by decide) rfl rfl hD
                    by_cases hh1_40 : x0 = 40
                    · exact J_tsIn (pc := 1) (tgt := 218) C 40 hh1_40 dX9_joined_1 (by decide) (by decide) rfl rfl hD
                    by_cases hh1_41 : x0 = 41
                    · exact J_tsIn (pc := 1) (tgt := 218) C 41 hh1_41 dX9_joined_1 (by decide) (by decide) rfl rfl hD
                    by_cases hh1_44 : x0 = 44
                    · exact J_tsIn (pc := 1) (tgt := 218) C 44 hh1_44 dX9_joined_1 (by decide) (by decide) rfl rfl hD
                    by_cases hh1_46 : x0 = 46
                    · exact J_tsIn (pc := 1) (tgt := 218) C 46 hh1_46 dX9_joined_1 (by decide) (by decide) rfl rfl hD
                    by_cases hh1_48 : x0 = 48
                    · exact J_tsIn (pc := 1) (tgt := 218) C 48 hh1_48 dX9_joined_1 (by decide) (by decide) rfl rfl hD
                    by_cases hh1_49 : x0 = 49
                    · exact J_tsIn (pc := 1) (tgt := 218) C 49 hh1_49 dX9_joined_1 (by decide) (by decide) rfl rfl hD
                    by_cases hh1_50 : x0 = 50
                    · exact J_tsIn (pc := 1) (tgt := 218) C 50 hh1_50 dX9_joined_1 (by decide) (by decide) rfl rfl hD
                    by_cases hh1_51 : x0 = 51
                    · exact J_tsIn (pc := 1) (tgt := 218) C 51 hh1_51 dX9_joined_1 (by decide) (by decide) rfl rfl hD
                    by_cases hh1_52 : x0 = 52
                    · exact J_tsIn (pc := 1) (tgt := 218) C 52 hh1_52 dX9_joined_1 (by decide) (by decide) rfl rfl hD
                    by_cases hh1_53 : x0 = 53
                    · exact J_tsIn (pc := 1) (tgt := 218) C 53 hh1_53 dX9_joined_1 (by decide) (by decide) rfl rfl hD
                    by_cases hh1_54 : x0 = 54
                    · exact J_tsIn (pc := 1) (tgt := 218) C 54 hh1_54 dX9_joined_1 (by decide) (by decide) rfl rfl hD
                    by_cases hh1_55 : x0 = 55
                    · exact J_tsIn (pc := 1) (tgt := 218) C 55 hh1_55 dX9_joined_1 (by decide) (by decide) rfl rfl hD
                    by_cases hh1_56 : x0 = 56
                    · exact J_tsIn (pc := 1) (tgt := 218) C 56 hh1_56 dX9_joined_1 (by decide) (by decide) rfl rfl hD
                    by_cases hh1_57 : x0 = 57
                    · exact J_tsIn (pc := 1) (tgt := 218) C 57 hh1_57 dX9_joined_1 (by decide) (by decide) rfl rfl hD
                    by_cases hh1_58 : x0 = 58
                    · exact J_tsIn (pc := 1) (tgt := 218) C 58 hh1_58 dX9_joined_1 (by decide) (by decide) rfl rfl hD
                    by_cases hh1_59 : x0 = 59
                    · exact J_tsIn (pc := 1) (tgt := 218) C 59 hh1_59 dX9_joined_1 (by decide) (by decide) rfl rfl hD
                    refine J_tsOut (pc := 1) (tgt := 218) C dX9_joined_1 (by have z0 := lv_neT hc1_37 (a := 37) rfl; have z1 := lv_neT hc1_38 (a := 38) rfl; have z2 := lv_neT hc1_42 (a := 42) rfl; have z3 := lv_neT hc1_43 (a := 43) rfl; have z4 := lv_neT hc1_45 (a := 45) rfl; have z5 := lv_neT hc1_47 (a := 47) rfl; have z6 := lv_neT hc1_60 (a := 60) rfl; have z7 := lv_neT hc1_61 (a := 61) rfl; have z8 := lv_neT hc1_62 (a := 62) rfl; have z9 := lv_neT hh1_39 (a := 39) rfl; have z10 := lv_neT hh1_40 (a := 40) rfl; have z11 := lv_neT hh1_41 (a := 41) rfl; have z12 := lv_neT hh1_44 (a := 44) rfl; have z13 := lv_neT hh1_46 (a := 46) rfl; have z14 := lv_neT hh1_48 (a := 48) rfl; have z15 := lv_neT hh1_49 (a := 49) rfl; have z16 := lv_neT hh1_50 (a := 50) rfl; have z17 := lv_neT hh1_51 (a := 51) rfl; have z18 := lv_neT hh1_52 (a := 52) rfl; have z19 := lv_neT hh1_53 (a := 53) rfl; have z20 := lv_neT hh1_54 (a := 54) rfl; have z21 := lv_neT hh1_55 (a := 55) rfl; have z22 := lv_neT hh1_56 (a := 56) rfl; have z23 := lv_neT hh1_57 (a := 57) rfl; have z24 := lv_neT hh1_58 (a := 58) rfl; have z25 := lv_neT hh1_59 (a := 59) rfl; omega) rfl hD
def fX9_worked_87 (k13 : Hp → Nat → Int32 → Int32 → Int32 → Option (Int32 × Hp)) (h : Hp) (a0 : Nat) (x2 : Int32) (x3 : Int32) (x4 : Int32) (b0 : Nat) (y1 : Int32) (y2 : Int32) : Option (Int32 × Hp) :=
  (wrI h b0 y1 y2).bind fun h87 =>
  k13 h87 a0 x2 (x3 + 1) (x4 + 1)
set_option maxRecDepth 100000 in
theorem kX9_worked_87 {X : Cx} {z : (Int32 × Hp)} (C : Jc X yX9_worked cX9_worked 7 (some .int) 1 0 0 (some (.int z.1), z.2)) {k13 : Hp → Nat → Int32 → Int32 → Int32 → Option (Int32 × Hp)} (hk13 : ∀ (h : Hp) (a0 : Nat) (x2 : Int32) (x3 : Int32) (x4 : Int32), k13 h a0 x2 x3 x4 = some z → J X 0 0 0 0 13 [some (.ref a0), none, some (.int x2), some (.int x3), some (.int x4), none, none] [] h) (h : Hp) (a0 : Nat) (x2 : Int32) (x3 : Int32) (x4 : Int32) (b0 : Nat) (y1 : Int32) (y2 : Int32) (hF : fX9_worked_87 k13 h a0 x2 x3 x4 b0 y1 y2 = some z) : J X 0 0 0 0 87 [some (.ref a0), none, some (.int x2), some (.int x3), some (.int x4), none, none] [.int y2, .int y1, .ref b0] h := by
  unfold fX9_worked_87 at hF
  refine J_iast (pc := 87) C dX9_worked_87 hF (fun h87 hF => ?_)
  refine J_iinc (pc := 88) (lv' := [some (.ref a0), none, some (.int x2), some (.int (x3 + 1)), some (.int x4), none, none]) C dX9_worked_88 rfl ic_1 rfl ?_
  refine J_goto (pc := 91) (tgt := 157) C dX9_worked_91 rfl ?_
  refine J_iinc (pc := 157) (lv' := [some (.ref a0), none, some (.int x2), some (.int (x3 + 1)), some (.int (x4 + 1)), none, none]) C dX9_worked_157 rfl ic_1 rfl ?_
  refine J_goto (pc := 160) (tgt := 13) C dX9_worked_160 rfl ?_
  exact hk13 h87 a0 x2 (x3 + 1) (x4 + 1) hF
def fX9_worked_65 (k13 : Hp → Nat → Int32 → Int32 → Int32 → Option (Int32 × Hp)) (h : Hp) (a0 : Nat) (x2 : Int32) (x3 : Int32) (x4 : Int32) (x5 : Int32) (x6 : Int32) : Option (Int32 × Hp) :=
  (getR h 9 a0 12).bind fun r66 =>
  if x5 = 0 then
    fX9_worked_87 k13 h a0 x2 x3 x4 r66 x3 x6
  else
    (getR h 9 a0 11).bind fun r81 =>
    (rdI h r81 x6).bind fun v86 =>
    fX9_worked_87 k13 h a0 x2 x3 x4 r66 x3 v86
set_option maxRecDepth 100000 in
theorem kX9_worked_65 {X : Cx} {z : (Int32 × Hp)} (C : Jc X yX9_worked cX9_worked 7 (some .int) 1 0 0 (some (.int z.1), z.2)) {k13 : Hp → Nat → Int32 → Int32 → Int32 → Option (Int32 × Hp)} (hk13 : ∀ (h : Hp) (a0 : Nat) (x2 : Int32) (x3 : Int32) (x4 : Int32), k13 h a0 x2 x3 x4 = some z → J X 0 0 0 0 13 [some (.ref a0), none, some (.int x2), some (.int x3), some (.int x4), none, none] [] h) (h : Hp) (a0 : Nat) (x2 : Int32) (x3 : Int32) (x4 : Int32) (x5 : Int32) (x6 : Int32) (hF : fX9_worked_65 k13 h a0 x2 x3 x4 x5 x6 = some z) : J X 0 0 0 0 65 [some (.ref a0), none, some (.int x2), some (.int x3), some (.int x4), some (.int x5), some (.int x6)] [] h := by
  unfold fX9_worked_65 at hF
  refine J_aload_n (pc := 65) C dX9_worked_65 rfl ?_
  refine J_getR (pc := 66) C dX9_worked_66 fg_X9_31 hF (fun r66 hF => ?_)
  refine J_iload_n (pc := 69) C dX9_worked_69 rfl ?_
  refine J_iload (pc := 70) C dX9_worked_70 rfl ?_
  refine J_if_ne (pc := 72) (tgt := 80) C dX9_worked_72 rfl hF (fun hF => ?_) (fun hF => ?_)
  · refine J_iload (pc := 75) C dX9_worked_75 rfl ?_
    refine J_goto (pc := 77) (tgt := 87) C dX9_worked_77 rfl ?_
    refine J_msk (m := [true, false, true, true, true, false, false]) rfl ?_
    exact kX9_worked_87 C hk13 h a0 x2 x3 x4 r66 x3 x6 hF
  · refine J_aload_n (pc := 80) C dX9_worked_80 rfl ?_
    refine J_getR (pc := 81) C dX9_worked_81 fg_X9_28 hF (fun r81 hF => ?_)
    refine J_iload (pc := 84) C dX9_worked_84 rfl ?_
    refine J_iald (pc := 86) C dX9_worked_86 hF (fun v86 hF => ?_)
    refine J_msk (m := [true, false, true, true, true, false, false]) rfl ?_
    exact kX9_worked_87 C hk13 h a0 x2 x3 x4 r66 x3 v86 hF
def fX9_worked_13 : Nat → Hp → Nat → Int32 → Int32 → Int32 → Option (Int32 × Hp)
  | 0, _, _, _, _, _ => none
  | n13 + 1, h, a0, x2, x3, x4 =>
    (getR h 9 a0 0).bind fun r16 =>
    (rdI h r16 x2).bind fun v20 =>
    if v20 ≤ x4 then
      (getR h 9 a0 12).bind fun r164 =>
      (rdI h r164 0).bind fun v168 =>
      some (v168, h)
    else
      (getR h 9 a0 0).bind fun r25 =>
      (rdI h r25 ((x2 + 1) + (2 * x4))).bind fun v36 =>
      (getR h 9 a0 0).bind fun r40 =>
      (rdI h r40 ((x2 + 2) + (2 * x4))).bind fun v51 =>
      if v36 = 0 then
        fX9_worked_65 (fX9_worked_13 n13) h a0 x2 x3 x4 v36 v51
      else
        if v36 = 1 then
          fX9_worked_65 (fX9_worked_13 n13) h a0 x2 x3 x4 v36 v51
        else
          if v36 = 2 then
            (getR h 9 a0 12).bind fun r101 =>
            (getR h 9 a0 12).bind fun r108 =>
            (rdI h r108 (x3 - 1)).bind fun v114 =>
            if v114 = 0 then
              (wrI h r101 (x3 - 1) 1).bind fun h123 =>
              fX9_worked_13 n13 h123 a0 x2 x3 (x4 + 1)
            else
              (wrI h r101 (x3 - 1) 0).bind fun h123 =>
              fX9_worked_13 n13 h123 a0 x2 x3 (x4 + 1)
          else
            (getR h 9 a0 12).bind fun r131 =>
            (getR h 9 a0 12).bind fun r140 =>
            (rdI h r140 ((x3 + (-1)) - 1)).bind fun v146 =>
            (getR h 9 a0 12).bind fun r148 =>
            (rdI h r148 (x3 + (-1))).bind fun v152 =>
            (fX9_joined v51 v146 v152).bind fun q153 =>
            (wrI h r131 ((x3 + (-1)) - 1) q153).bind fun h156 =>
            fX9_worked_13 n13 h156 a0 x2 (x3 + (-1)) (x4 + 1)
set_option maxRecDepth 100000 in
theorem kX9_worked_13 {X : Cx} {z : (Int32 × Hp)} (C : Jc X yX9_worked cX9_worked 7 (some .int) 1 0 0 (some (.int z.1), z.2)) : ∀ (n13 : Nat) (h : Hp) (a0 : Nat) (x2 : Int32) (x3 : Int32) (x4 : Int32), fX9_worked_13 n13 h a0 x2 x3 x4 = some z → J X 0 0 0 0 13 [some (.ref a0), none, some (.int x2), some (.int x3), some (.int x4), none, none] [] h := by
  intro n13
  induction n13 with
  | zero => intro h a0 x2 x3 x4 hF; cases hF
  | succ n13 ih =>
    intro h a0 x2 x3 x4 hF
    rw [fX9_worked_13] at hF
    refine J_iload (pc := 13) C dX9_worked_13 rfl ?_
    refine J_aload_n (pc := 15) C dX9_worked_15 rfl ?_
    refine J_getR (pc := 16) C dX9_worked_16 fg_X9_7 hF (fun r16 hF => ?_)
    refine J_iload_n (pc := 19) C dX9_worked_19 rfl ?_
    refine J_iald (pc := 20) C dX9_worked_20 hF (fun v20 hF => ?_)
    refine J_icmp_ge (pc := 21) (tgt := 163) C dX9_worked_21 rfl hF (fun hF => ?_) (fun hF => ?_)
    · refine J_aload_n (pc := 163) C dX9_worked_163 rfl ?_
      refine J_getR (pc := 164) C dX9_worked_164 fg_X9_31 hF (fun r164 hF => ?_)
      refine J_iconst (pc := 167) C dX9_worked_167 ic_0 ?_
      refine J_iald (pc := 168) C dX9_worked_168 hF (fun v168 hF => ?_)
      exact J_iret (pc := 169) C dX9_worked_169 hF (by decide) (by decide)
    · refine J_aload_n (pc := 24) C dX9_worked_24 rfl ?_
      refine J_getR (pc := 25) C dX9_worked_25 fg_X9_7 hF (fun r25 hF => ?_)
      refine J_iload_n (pc := 28) C dX9_worked_28 rfl ?_
      refine J_iconst (pc := 29) C dX9_worked_29 ic_1 ?_
      refine J_iadd (pc := 30) C dX9_worked_30 ?_
      refine J_iconst (pc := 31) C dX9_worked_31 ic_2 ?_
      refine J_iload (pc := 32) C dX9_worked_32 rfl ?_
      refine J_imul (pc := 34) C dX9_worked_34 ?_
      refine J_iadd (pc := 35) C dX9_worked_35 ?_
      refine J_iald (pc := 36) C dX9_worked_36 hF (fun v36 hF => ?_)
      refine J_istore (pc := 37) (lv' := [some (.ref a0), none, some (.int x2), some (.int x3), some (.int x4), some (.int v36), none]) C dX9_worked_37 rfl ?_
      refine J_aload_n (pc := 39) C dX9_worked_39 rfl ?_
      refine J_getR (pc := 40) C dX9_worked_40 fg_X9_7 hF (fun r40 hF => ?_)
      refine J_iload_n (pc := 43) C dX9_worked_43 rfl ?_
      refine J_iconst (pc := 44) C dX9_worked_44 ic_2 ?_
      refine J_iadd (pc := 45) C dX9_worked_45 ?_
      refine J_iconst (pc := 46) C dX9_worked_46 ic_2 ?_
      refine J_iload (pc := 47) C dX9_worked_47 rfl ?_
      refine J_imul (pc := 49) C dX9_worked_49 ?_
      refine J_iadd (pc := 50) C dX9_worked_50 ?_
      refine J_iald (pc := 51) C dX9_worked_51 hF (fun v51 hF => ?_)
      refine J_istore (pc := 52) (lv' := [some (.ref a0), none, some (.int x2), some (.int x3), some (.int x4), some (.int v36), some (.int v51)]) C dX9_worked_52 rfl ?_
      refine J_iload (pc := 54) C dX9_worked_54 rfl ?_
      refine J_if_eq (pc := 56) (tgt := 65) C dX9_worked_56 rfl hF (fun hF => ?_) (fun hF => ?_)
      · exact kX9_worked_65 C ih h a0 x2 x3 x4 v36 v51 hF
      · refine J_iload (pc := 59) C dX9_worked_59 rfl ?_
        refine J_iconst (pc := 61) C dX9_worked_61 ic_1 ?_
        refine J_icmp_ne (pc := 62) (tgt := 94) C dX9_worked_62 rfl hF (fun hF => ?_) (fun hF => ?_)
        · exact kX9_worked_65 C ih h a0 x2 x3 x4 v36 v51 hF
        · refine J_iload (pc := 94) C dX9_worked_94 rfl ?_
          refine J_iconst (pc := 96) C dX9_worked_96 ic_2 ?_
          refine J_icmp_ne (pc := 97) (tgt := 127) C dX9_worked_97 rfl hF (fun hF => ?_) (fun hF => ?_)
          · refine J_aload_n (pc := 100) C dX9_worked_100 rfl ?_
            refine J_getR (pc := 101) C dX9_worked_101 fg_X9_31 hF (fun r101 hF => ?_)
            refine J_iload_n (pc := 104) C dX9_worked_104 rfl ?_
            refine J_iconst (pc := 105) C dX9_worked_105 ic_1 ?_
            refine J_isub (pc := 106) C dX9_worked_106 ?_
            refine J_aload_n (pc := 107) C dX9_worked_107 rfl ?_
            refine J_getR (pc := 108) C dX9_worked_108 fg_X9_31 hF (fun r108 hF => ?_)
            refine J_iload_n (pc := 111) C dX9_worked_111 rfl ?_
            refine J_iconst (pc := 112) C dX9_worked_112 ic_1 ?_
            refine J_isub (pc := 113) C dX9_worked_113 ?_
            refine J_iald (pc := 114) C dX9_worked_114 hF (fun v114 hF => ?_)
            refine J_if_ne (pc := 115) (tgt := 122) C dX9_worked_115 rfl hF (fun hF => ?_) (fun hF => ?_)
            · refine J_iconst (pc := 118) C dX9_worked_118 ic_1 ?_
              refine J_goto (pc := 119) (tgt := 123) C dX9_worked_119 rfl ?_
              refine J_iast (pc := 123) C dX9_worked_123 hF (fun h123 hF => ?_)
              refine J_goto (pc := 124) (tgt := 157) C dX9_worked_124 rfl ?_
              refine J_iinc (pc := 157) (lv' := [some (.ref a0), none, some (.int x2), some (.int x3), some (.int (x4 + 1)), some (.int v36), some (.int v51)]) C dX9_worked_157 rfl ic_1 rfl ?_
              refine J_goto (pc := 160) (tgt := 13) C dX9_worked_160 rfl ?_
              refine J_msk (m := [true, false, true, true, true, false, false]) rfl ?_
              exact ih h123 a0 x2 x3 (x4 + 1) hF
            · refine J_iconst (pc := 122) C dX9_worked_122 ic_0 ?_
              refine J_iast (pc := 123) C dX9_worked_123 hF (fun h123 hF => ?_)
              refine J_goto (pc := 124) (tgt := 157) C dX9_worked_124 rfl ?_
              refine J_iinc (pc := 157) (lv' := [some (.ref a0), none, some (.int x2), some (.int x3), some (.int (x4 + 1)), some (.int v36), some (.int v51)]) C dX9_worked_157 rfl ic_1 rfl ?_
              refine J_goto (pc := 160) (tgt := 13) C dX9_worked_160 rfl ?_
              refine J_msk (m := [true, false, true, true, true, false, false]) rfl ?_
              exact ih h123 a0 x2 x3 (x4 + 1) hF
          · refine J_iinc (pc := 127) (lv' := [some (.ref a0), none, some (.int x2), some (.int (x3 + (-1))), some (.int x4), some (.int v36), some (.int v51)]) C dX9_worked_127 rfl ic_m1 rfl ?_
            refine J_aload_n (pc := 130) C dX9_worked_130 rfl ?_
            refine J_getR (pc := 131) C dX9_worked_131 fg_X9_31 hF (fun r131 hF => ?_)
            refine J_iload_n (pc := 134) C dX9_worked_134 rfl ?_
            refine J_iconst (pc := 135) C dX9_worked_135 ic_1 ?_
            refine J_isub (pc := 136) C dX9_worked_136 ?_
            refine J_iload (pc := 137) C dX9_worked_137 rfl ?_
            refine J_aload_n (pc := 139) C dX9_worked_139 rfl ?_
            refine J_getR (pc := 140) C dX9_worked_140 fg_X9_31 hF (fun r140 hF => ?_)
            refine J_iload_n (pc := 143) C dX9_worked_143 rfl ?_
            refine J_iconst (pc := 144) C dX9_worked_144 ic_1 ?_
            refine J_isub (pc := 145) C dX9_worked_145 ?_
            refine J_iald (pc := 146) C dX9_worked_146 hF (fun v146 hF => ?_)
            refine J_aload_n (pc := 147) C dX9_worked_147 rfl ?_
            refine J_getR (pc := 148) C dX9_worked_148 fg_X9_31 hF (fun r148 hF => ?_)
            refine J_iload_n (pc := 151) C dX9_worked_151 rfl ?_
            refine J_iald (pc := 152) C dX9_worked_152 hF (fun v152 hF => ?_)
            refine J_bind hF (fun q153 hq hF => ?_)
            refine J_callS0_ip (pc := 153) (stk := [.int v152, .int v146, .int v51, .int ((x3 + (-1)) - 1), .ref r131]) (st := [.int ((x3 + (-1)) - 1), .ref r131]) C dX9_worked_153 yw_X9_joined w_MLX9_119 st_X9_joined (kX9_joined hq) rfl (by decide) rfl (Nat.le_of_ble_eq_true rfl) ?_
            refine J_iast (pc := 156) C dX9_worked_156 hF (fun h156 hF => ?_)
            refine J_iinc (pc := 157) (lv' := [some (.ref a0), none, some (.int x2), some (.int (x3 + (-1))), some (.int (x4 + 1)), some (.int v36), some (.int v51)]) C dX9_worked_157 rfl ic_1 rfl ?_
            refine J_goto (pc := 160) (tgt := 13) C dX9_worked_160 rfl ?_
            refine J_msk (m := [true, false, true, true, true, false, false]) rfl ?_
            exact ih h156 a0 x2 (x3 + (-1)) (x4 + 1) hF
def fX9_worked (h : Hp) (a0 : Nat) (x1 : Int32) : Option (Int32 × Hp) := gO h 9 a0 (
  fX9_worked_13 1000 h a0 (124 + (125 * x1)) 0 0)
set_option maxRecDepth 100000 in
theorem kX9_worked {h : Hp} {a0 : Nat} {x1 : Int32} {z : (Int32 × Hp)} (hF : fX9_worked h a0 x1 = some z) : Mc yX9_worked cX9_worked 7 (some .int) 1 0 0 [.ref a0, .int x1] h (some (.int z.1), z.2) := by
  have hF := (gO_some hF).2
  refine Mc_of [some (.ref a0), some (.int x1), none, none, none, none, none] plX9 rfl rfl (Nat.le_of_ble_eq_true rfl) (fun X C => ?_)
  refine J_bipush (pc := 0) C dX9_worked_0 bc_124 ?_
  refine J_bipush (pc := 2) C dX9_worked_2 bc_125 ?_
  refine J_iload_n (pc := 4) C dX9_worked_4 rfl ?_
  refine J_imul (pc := 5) C dX9_worked_5 ?_
  refine J_iadd (pc := 6) C dX9_worked_6 ?_
  refine J_istore_n (pc := 7) (lv' := [some (.ref a0), some (.int x1), some (.int (124 + (125 * x1))), none, none, none, none]) C dX9_worked_7 rfl ?_
  refine J_iconst (pc := 8) C dX9_worked_8 ic_0 ?_
  refine J_istore_n (pc := 9) (lv' := [some (.ref a0), some (.int x1), some (.int (124 + (125 * x1))), some (.int 0), none, none, none]) C dX9_worked_9 rfl ?_
  refine J_iconst (pc := 10) C dX9_worked_10 ic_0 ?_
  refine J_istore (pc := 11) (lv' := [some (.ref a0), some (.int x1), some (.int (124 + (125 * x1))), some (.int 0), some (.int 0), none, none]) C dX9_worked_11 rfl ?_
  refine J_msk (m := [true, false, true, true, true, false, false]) rfl ?_
  exact kX9_worked_13 C 1000 h a0 (124 + (125 * x1)) 0 0 hF
def fX9_keepsTold (h : Hp) (a0 : Nat) (x1 : Int32) : Option (Int32 × Hp) := gO h 9 a0 (
  (fX9_hasText h a0 0).bind fun q2 =>
  if q2 = 0 then
    (fX9_its h a0 x1 1).bind fun q11 =>
    some (q11, h)
  else
    (getR h 9 a0 11).bind fun r16 =>
    (fX9_its h a0 x1 1).bind fun q24 =>
    (wrI h r16 109 q24).bind fun h27 =>
    (getR h27 9 a0 11).bind fun r29 =>
    (getR h27 9 a0 0).bind fun r35 =>
    (rdI h27 r35 2).bind fun v39 =>
    (wrI h27 r29 116 v39).bind fun h40 =>
    (getR h40 9 a0 11).bind fun r42 =>
    (getR h40 9 a0 0).bind fun r48 =>
    (rdI h40 r48 0).bind fun v52 =>
    (wrI h40 r42 112 v52).bind fun h53 =>
    (fX9_worked h53 a0 0).bind fun q56 =>
    some (q56.1, q56.2))
set_option maxRecDepth 100000 in
theorem kX9_keepsTold {h : Hp} {a0 : Nat} {x1 : Int32} {z : (Int32 × Hp)} (hF : fX9_keepsTold h a0 x1 = some z) : Mc yX9_keepsTold cX9_keepsTold 2 (some .int) 2 0 0 [.ref a0, .int x1] h (some (.int z.1), z.2) := by
  have hF := (gO_some hF).2
  refine Mc_of [some (.ref a0), some (.int x1)] plX9 rfl rfl (Nat.le_of_ble_eq_true rfl) (fun X C => ?_)
  refine J_aload_n (pc := 0) C dX9_keepsTold_0 rfl ?_
  refine J_iconst (pc := 1) C dX9_keepsTold_1 ic_0 ?_
  refine J_bind hF (fun q2 hq hF => ?_)
  refine J_callV0_ip (pc := 2) (stk := [.int 0, .ref a0]) (st := []) C dX9_keepsTold_2 yw_X9_hasText w_MLX9_116 in_X9_hasText sl_X9_hasText ⟨_, rfl, rfl⟩ (kX9_hasText hq) (gO_some hq).1 rfl (by decide) rfl (Nat.le_of_ble_eq_true rfl) ?_
  refine J_if_ne (pc := 5) (tgt := 15) C dX9_keepsTold_5 rfl hF (fun hF => ?_) (fun hF => ?_)
  · refine J_aload_n (pc := 8) C dX9_keepsTold_8 rfl ?_
    refine J_iload_n (pc := 9) C dX9_keepsTold_9 rfl ?_
    refine J_iconst (pc := 10) C dX9_keepsTold_10 ic_1 ?_
    refine J_bind hF (fun q11 hq hF => ?_)
    refine J_callV0_ip (pc := 11) (stk := [.int 1, .int x1, .ref a0]) (st := []) C dX9_keepsTold_11 yw_X9_its w_MLX9_123 in_X9_its sl_X9_its ⟨_, rfl, rfl⟩ (kX9_its hq) (gO_some hq).1 rfl (by decide) rfl (Nat.le_of_ble_eq_true rfl) ?_
    exact J_iret (pc := 14) C dX9_keepsTold_14 hF (by decide) (by decide)
  · refine J_aload_n (pc := 15) C dX9_keepsTold_15 rfl ?_
    refine J_getR (pc := 16) C dX9_keepsTold_16 fg_X9_28 hF (fun r16 hF => ?_)
    refine J_bipush (pc := 19) C dX9_keepsTold_19 bc_109 ?_
    refine J_aload_n (pc := 21) C dX9_keepsTold_21 rfl ?_
    refine J_iload_n (pc := 22) C dX9_keepsTold_22 rfl ?_
    refine J_iconst (pc := 23) C dX9_keepsTold_23 ic_1 ?_
    refine J_bind hF (fun q24 hq hF => ?_)
    refine J_callV0_ip (pc := 24) (stk := [.int 1, .int x1, .ref a0, .int 109, .ref r16]) (st := [.int 109, .ref r16]) C dX9_keepsTold_24 yw_X9_its w_MLX9_123 in_X9_its sl_X9_its ⟨_, rfl, rfl⟩ (kX9_its hq) (gO_some hq).1 rfl (by decide) rfl (Nat.le_of_ble_eq_true rfl) ?_
    refine J_iast (pc := 27) C dX9_keepsTold_27 hF (fun h27 hF => ?_)
    refine J_aload_n (pc := 28) C dX9_keepsTold_28 rfl ?_
    refine J_getR (pc := 29) C dX9_keepsTold_29 fg_X9_28 hF (fun r29 hF => ?_)
    refine J_bipush (pc := 32) C dX9_keepsTold_32 bc_116 ?_
    refine J_aload_n (pc := 34) C dX9_keepsTold_34 rfl ?_
    refine J_getR (pc := 35) C dX9_keepsTold_35 fg_X9_7 hF (fun r35 hF => ?_)
    refine J_iconst (pc := 38) C dX9_keepsTold_38 ic_2 ?_
    refine J_iald (pc := 39) C dX9_keepsTold_39 hF (fun v39 hF => ?_)
    refine J_iast (pc := 40) C dX9_keepsTold_40 hF (fun h40 hF => ?_)
    refine J_aload_n (pc := 41) C dX9_keepsTold_41 rfl ?_
    refine J_getR (pc := 42) C dX9_keepsTold_42 fg_X9_28 hF (fun r42 hF => ?_)
    refine J_bipush (pc := 45) C dX9_keepsTold_45 bc_112 ?_
    refine J_aload_n (pc := 47) C dX9_keepsTold_47 rfl ?_
    refine J_getR (pc := 48) C dX9_keepsTold_48 fg_X9_7 hF (fun r48 hF => ?_)
    refine J_iconst (pc := 51) C dX9_keepsTold_51 ic_0 ?_
    refine J_iald (pc := 52) C dX9_keepsTold_52 hF (fun v52 hF => ?_)
    refine J_iast (pc := 53) C dX9_keepsTold_53 hF (fun h53 hF => ?_)
    refine J_aload_n (pc := 54) C dX9_keepsTold_54 rfl ?_
    refine J_iconst (pc := 55) C dX9_keepsTold_55 ic_0 ?_
    refine J_bind hF (fun q56 hq hF => ?_)
    refine J_callV0_i (pc := 56) (stk := [.int 0, .ref a0]) (st := []) C dX9_keepsTold_56 yw_X9_worked w_MLX9_127 in_X9_worked sl_X9_worked ⟨_, rfl, rfl⟩ (kX9_worked hq) (gO_some hq).1 rfl (by decide) rfl (Nat.le_of_ble_eq_true rfl) ?_
    exact J_iret (pc := 59) C dX9_keepsTold_59 hF (by decide) (by decide)
def fX9_keeps_86 (h : Hp) (x2 : Int32) : Option (Int32 × Hp) :=
  (fX9_held x2 0 8).bind fun q90 =>
  some (q90, h)
set_option maxRecDepth 100000 in
theorem kX9_keeps_86 {X : Cx} {z : (Int32 × Hp)} (C : Jc X yX9_keeps cX9_keeps 3 (some .int) 3 0 0 (some (.int z.1), z.2)) (h : Hp) (x2 : Int32) (hF : fX9_keeps_86 h x2 = some z) : J X 0 0 0 0 86 [none, none, some (.int x2)] [] h := by
  unfold fX9_keeps_86 at hF
  refine J_iload_n (pc := 86) C dX9_keeps_86 rfl ?_
  refine J_iconst (pc := 87) C dX9_keeps_87 ic_0 ?_
  refine J_bipush (pc := 88) C dX9_keeps_88 bc_8 ?_
  refine J_bind hF (fun q90 hq hF => ?_)
  refine J_callS0_ip (pc := 90) (stk := [.int 8, .int 0, .int x2]) (st := []) C dX9_keeps_90 yw_X9_held w_MLX9_133 st_X9_held (kX9_held hq) rfl (by decide) rfl (Nat.le_of_ble_eq_true rfl) ?_
  exact J_iret (pc := 93) C dX9_keeps_93 hF (by decide) (by decide)
def fX9_keeps (h : Hp) (a0 : Nat) (x1 : Int32) : Option (Int32 × Hp) := gO h 9 a0 (
  (fX9_its h a0 x1 0).bind fun q5 =>
  if q5 = 1 then
    (fX9_its h a0 x1 1).bind fun q52 =>
    fX9_keeps_86 h (3 + q52)
  else
    if q5 = 3 then
      fX9_keeps_86 h 0
    else
      if q5 = 4 then
        (fX9_its h a0 x1 1).bind fun q69 =>
        fX9_keeps_86 h (2 + q69)
      else
        if q5 = 6 then
          (fX9_keepsTold h a0 x1).bind fun q79 =>
          fX9_keeps_86 q79.2 q79.1
        else
          fX9_keeps_86 h 3)
set_option maxRecDepth 100000 in
theorem kX9_keeps {h : Hp} {a0 : Nat} {x1 : Int32} {z : (Int32 × Hp)} (hF : fX9_keeps h a0 x1 = some z) : Mc yX9_keeps cX9_keeps 3 (some .int) 3 0 0 [.ref a0, .int x1] h (some (.int z.1), z.2) := by
  have hF := (gO_some hF).2
  refine Mc_of [some (.ref a0), some (.int x1), none] plX9 rfl rfl (Nat.le_of_ble_eq_true rfl) (fun X C => ?_)
  refine J_iconst (pc := 0) C dX9_keeps_0 ic_3 ?_
  refine J_istore_n (pc := 1) (lv' := [some (.ref a0), some (.int x1), some (.int 3)]) C dX9_keeps_1 rfl ?_
  refine J_aload_n (pc := 2) C dX9_keeps_2 rfl ?_
  refine J_iload_n (pc := 3) C dX9_keeps_3 rfl ?_
  refine J_iconst (pc := 4) C dX9_keeps_4 ic_0 ?_
  refine J_bind hF (fun q5 hq hF => ?_)
  refine J_callV0_ip (pc := 5) (stk := [.int 0, .int x1, .ref a0]) (st := []) C dX9_keeps_5 yw_X9_its w_MLX9_123 in_X9_its sl_X9_its ⟨_, rfl, rfl⟩ (kX9_its hq) (gO_some hq).1 rfl (by decide) rfl (Nat.le_of_ble_eq_true rfl) ?_
  refine J_br hF (fun hc8_1 hF => ?_) (fun hc8_1 hF => ?_)
  · refine J_tsIn (pc := 8) (tgt := 48) C 1 hc8_1 dX9_keeps_8 (by decide) (by decide) rfl rfl ?_
    refine J_iconst (pc := 48) C dX9_keeps_48 ic_3 ?_
    refine J_aload_n (pc := 49) C dX9_keeps_49 rfl ?_
    refine J_iload_n (pc := 50) C dX9_keeps_50 rfl ?_
    refine J_iconst (pc := 51) C dX9_keeps_51 ic_1 ?_
    refine J_bind hF (fun q52 hq hF => ?_)
    refine J_callV0_ip (pc := 52) (stk := [.int 1, .int x1, .ref a0, .int 3]) (st := [.int 3]) C dX9_keeps_52 yw_X9_its w_MLX9_123 in_X9_its sl_X9_its ⟨_, rfl, rfl⟩ (kX9_its hq) (gO_some hq).1 rfl (by decide) rfl (Nat.le_of_ble_eq_true rfl) ?_
    refine J_iadd (pc := 55) C dX9_keeps_55 ?_
    refine J_istore_n (pc := 56) (lv' := [some (.ref a0), some (.int x1), some (.int (3 + q52))]) C dX9_keeps_56 rfl ?_
    refine J_goto (pc := 57) (tgt := 86) C dX9_keeps_57 rfl ?_
    refine J_msk (m := [false, false, true]) rfl ?_
    exact kX9_keeps_86 C h (3 + q52) hF
  · refine J_br hF (fun hc8_3 hF => ?_) (fun hc8_3 hF => ?_)
    · refine J_tsIn (pc := 8) (tgt := 60) C 3 hc8_3 dX9_keeps_8 (by decide) (by decide) rfl rfl ?_
      refine J_iconst (pc := 60) C dX9_keeps_60 ic_0 ?_
      refine J_istore_n (pc := 61) (lv' := [some (.ref a0), some (.int x1), some (.int 0)]) C dX9_keeps_61 rfl ?_
      refine J_goto (pc := 62) (tgt := 86) C dX9_keeps_62 rfl ?_
      refine J_msk (m := [false, false, true]) rfl ?_
      exact kX9_keeps_86 C h 0 hF
    · refine J_br hF (fun hc8_4 hF => ?_) (fun hc8_4 hF => ?_)
      · refine J_tsIn (pc := 8) (tgt := 65) C 4 hc8_4 dX9_keeps_8 (by decide) (by decide) rfl rfl ?_
        refine J_iconst (pc := 65) C dX9_keeps_65 ic_2 ?_
        refine J_aload_n (pc := 66) C dX9_keeps_66 rfl ?_
        refine J_iload_n (pc := 67) C dX9_keeps_67 rfl ?_
        refine J_iconst (pc := 68) C dX9_keeps_68 ic_1 ?_
        refine J_bind hF (fun q69 hq hF => ?_)
        refine J_callV0_ip (pc := 69) (stk := [.int 1, .int x1, .ref a0, .int 2]) (st := [.int 2]) C dX9_keeps_69 yw_X9_its w_MLX9_123 in_X9_its sl_X9_its ⟨_, rfl, rfl⟩ (kX9_its hq) (gO_some hq).1 rfl (by decide) rfl (Nat.le_of_ble_eq_true rfl) ?_
        refine J_iadd (pc := 72) C dX9_keeps_72 ?_
        refine J_istore_n (pc := 73) (lv' := [some (.ref a0), some (.int x1), some (.int (2 + q69))]) C dX9_keeps_73 rfl ?_
        refine J_goto (pc := 74) (tgt := 86) C dX9_keeps_74 rfl ?_
        refine J_msk (m := [false, false, true]) rfl ?_
        exact kX9_keeps_86 C h (2 + q69) hF
      · refine J_br hF (fun hc8_6 hF => ?_) (fun hc8_6 hF => ?_)
        · refine J_tsIn (pc := 8) (tgt := 77) C 6 hc8_6 dX9_keeps_8 (by decide) (by decide) rfl rfl ?_
          refine J_aload_n (pc := 77) C dX9_keeps_77 rfl ?_
          refine J_iload_n (pc := 78) C dX9_keeps_78 rfl ?_
          refine J_bind hF (fun q79 hq hF => ?_)
          refine J_callV0_i (pc := 79) (stk := [.int x1, .ref a0]) (st := []) C dX9_keeps_79 yw_X9_keepsTold w_MLX9_130 in_X9_keepsTold sl_X9_keepsTold ⟨_, rfl, rfl⟩ (kX9_keepsTold hq) (gO_some hq).1 rfl (by decide) rfl (Nat.le_of_ble_eq_true rfl) ?_
          refine J_istore_n (pc := 82) (lv' := [some (.ref a0), some (.int x1), some (.int q79.1)]) C dX9_keeps_82 rfl ?_
          refine J_goto (pc := 83) (tgt := 86) C dX9_keeps_83 rfl ?_
          refine J_msk (m := [false, false, true]) rfl ?_
          exact kX9_keeps_86 C q79.2 q79.1 hF
        · have hD : J X 0 0 0 0 86 [some (.ref a0), some (.int x1), some (.int 3)] [] h := by
            refine J_msk (m := [false, false, true]) rfl ?_
            exact kX9_keeps_86 C h 3 hF
          by_cases hh8_2 : q5 = 2
          · exact J_tsIn (pc := 8) (tgt := 86) C 2 hh8_2 dX9_keeps_8 (by decide) (by decide) rfl rfl hD
          by_cases hh8_5 : q5 = 5
          · exact J_tsIn (pc := 8) (tgt := 86) C 5 hh8_5 dX9_keeps_8 (by decide) (by decide) rfl rfl hD
          refine J_tsOut (pc := 8) (tgt := 86) C dX9_keeps_8 (by have z0 := lv_neT hc8_1 (a := 1) rfl; have z1 := lv_neT hc8_3 (a := 3) rfl; have z2 := lv_neT hc8_4 (a := 4) rfl; have z3 := lv_neT hc8_6 (a := 6) rfl; have z4 := lv_neT hh8_2 (a := 2) rfl; have z5 := lv_neT hh8_5 (a := 5) rfl; omega) rfl hD
def fX9_comes_20 : Nat → Hp → Nat → Int32 → Int32 → Int32 → Int32 → Option Hp
  | 0, _, _, _, _, _, _ => none
  | n20 + 1, h, a0, x1, x2, x3, x4 =>
    if x4 ≤ 0 then
      (fX9_lays1 h a0 x1 5 x2).bind fun q55 =>
      (fX9_its q55 a0 x1 4).bind fun q64 =>
      (fX9_held (q64 + 1) 0 x3).bind fun q71 =>
      (fX9_lays1 q55 a0 x1 4 q71).bind fun q74 =>
      some q74
    else
      (fX9_its h a0 x1 ((5 + x4) - 1)).bind fun q39 =>
      (fX9_lays1 h a0 x1 (5 + x4) q39).bind fun q42 =>
      fX9_comes_20 n20 q42 a0 x1 x2 x3 (x4 + (-1))
set_option maxRecDepth 100000 in
theorem kX9_comes_20 {X : Cx} {z : Hp} (C : Jc X yX9_comes cX9_comes 5 none 4 0 0 (none, z)) : ∀ (n20 : Nat) (h : Hp) (a0 : Nat) (x1 : Int32) (x2 : Int32) (x3 : Int32) (x4 : Int32), fX9_comes_20 n20 h a0 x1 x2 x3 x4 = some z → J X 0 0 0 0 20 [some (.ref a0), some (.int x1), some (.int x2), some (.int x3), some (.int x4)] [] h := by
  intro n20
  induction n20 with
  | zero => intro h a0 x1 x2 x3 x4 hF; cases hF
  | succ n20 ih =>
    intro h a0 x1 x2 x3 x4 hF
    rw [fX9_comes_20] at hF
    refine J_iload (pc := 20) C dX9_comes_20 rfl ?_
    refine J_if_le (pc := 22) (tgt := 51) C dX9_comes_22 rfl hF (fun hF => ?_) (fun hF => ?_)
    · refine J_aload_n (pc := 51) C dX9_comes_51 rfl ?_
      refine J_iload_n (pc := 52) C dX9_comes_52 rfl ?_
      refine J_iconst (pc := 53) C dX9_comes_53 ic_5 ?_
      refine J_iload_n (pc := 54) C dX9_comes_54 rfl ?_
      refine J_bind hF (fun q55 hq hF => ?_)
      refine J_callV0_v (pc := 55) (stk := [.int x2, .int 5, .int x1, .ref a0]) (st := []) C dX9_comes_55 yw_X9_lays1 w_MLX9_142 in_X9_lays1 sl_X9_lays1 ⟨_, rfl, rfl⟩ (kX9_lays1 hq) (gO_some hq).1 rfl (by decide) rfl (Nat.le_of_ble_eq_true rfl) ?_
      refine J_aload_n (pc := 58) C dX9_comes_58 rfl ?_
      refine J_iload_n (pc := 59) C dX9_comes_59 rfl ?_
      refine J_iconst (pc := 60) C dX9_comes_60 ic_4 ?_
      refine J_aload_n (pc := 61) C dX9_comes_61 rfl ?_
      refine J_iload_n (pc := 62) C dX9_comes_62 rfl ?_
      refine J_iconst (pc := 63) C dX9_comes_63 ic_4 ?_
      refine J_bind hF (fun q64 hq hF => ?_)
      refine J_callV0_ip (pc := 64) (stk := [.int 4, .int x1, .ref a0, .int 4, .int x1, .ref a0]) (st := [.int 4, .int x1, .ref a0]) C dX9_comes_64 yw_X9_its w_MLX9_123 in_X9_its sl_X9_its ⟨_, rfl, rfl⟩ (kX9_its hq) (gO_some hq).1 rfl (by decide) rfl (Nat.le_of_ble_eq_true rfl) ?_
      refine J_iconst (pc := 67) C dX9_comes_67 ic_1 ?_
      refine J_iadd (pc := 68) C dX9_comes_68 ?_
      refine J_iconst (pc := 69) C dX9_comes_69 ic_0 ?_
      refine J_iload_n (pc := 70) C dX9_comes_70 rfl ?_
      refine J_bind hF (fun q71 hq hF => ?_)
      refine J_callS0_ip (pc := 71) (stk := [.int x3, .int 0, .int (q64 + 1), .int 4, .int x1, .ref a0]) (st := [.int 4, .int x1, .ref a0]) C dX9_comes_71 yw_X9_held w_MLX9_133 st_X9_held (kX9_held hq) rfl (by decide) rfl (Nat.le_of_ble_eq_true rfl) ?_
      refine J_bind hF (fun q74 hq hF => ?_)
      refine J_callV0_v (pc := 74) (stk := [.int q71, .int 4, .int x1, .ref a0]) (st := []) C dX9_comes_74 yw_X9_lays1 w_MLX9_142 in_X9_lays1 sl_X9_lays1 ⟨_, rfl, rfl⟩ (kX9_lays1 hq) (gO_some hq).1 rfl (by decide) rfl (Nat.le_of_ble_eq_true rfl) ?_
      exact J_vret (pc := 77) C dX9_comes_77 hF (by decide) (by decide)
    · refine J_aload_n (pc := 25) C dX9_comes_25 rfl ?_
      refine J_iload_n (pc := 26) C dX9_comes_26 rfl ?_
      refine J_iconst (pc := 27) C dX9_comes_27 ic_5 ?_
      refine J_iload (pc := 28) C dX9_comes_28 rfl ?_
      refine J_iadd (pc := 30) C dX9_comes_30 ?_
      refine J_aload_n (pc := 31) C dX9_comes_31 rfl ?_
      refine J_iload_n (pc := 32) C dX9_comes_32 rfl ?_
      refine J_iconst (pc := 33) C dX9_comes_33 ic_5 ?_
      refine J_iload (pc := 34) C dX9_comes_34 rfl ?_
      refine J_iadd (pc := 36) C dX9_comes_36 ?_
      refine J_iconst (pc := 37) C dX9_comes_37 ic_1 ?_
      refine J_isub (pc := 38) C dX9_comes_38 ?_
      refine J_bind hF (fun q39 hq hF => ?_)
      refine J_callV0_ip (pc := 39) (stk := [.int ((5 + x4) - 1), .int x1, .ref a0, .int (5 + x4), .int x1, .ref a0]) (st := [.int (5 + x4), .int x1, .ref a0]) C dX9_comes_39 yw_X9_its w_MLX9_123 in_X9_its sl_X9_its ⟨_, rfl, rfl⟩ (kX9_its hq) (gO_some hq).1 rfl (by decide) rfl (Nat.le_of_ble_eq_true rfl) ?_
      refine J_bind hF (fun q42 hq hF => ?_)
      refine J_callV0_v (pc := 42) (stk := [.int q39, .int (5 + x4), .int x1, .ref a0]) (st := []) C dX9_comes_42 yw_X9_lays1 w_MLX9_142 in_X9_lays1 sl_X9_lays1 ⟨_, rfl, rfl⟩ (kX9_lays1 hq) (gO_some hq).1 rfl (by decide) rfl (Nat.le_of_ble_eq_true rfl) ?_
      refine J_iinc (pc := 45) (lv' := [some (.ref a0), some (.int x1), some (.int x2), some (.int x3), some (.int (x4 + (-1)))]) C dX9_comes_45 rfl ic_m1 rfl ?_
      refine J_goto (pc := 48) (tgt := 20) C dX9_comes_48 rfl ?_
      exact ih q42 a0 x1 x2 x3 (x4 + (-1)) hF
def fX9_comes (h : Hp) (a0 : Nat) (x1 : Int32) (x2 : Int32) : Option Hp := gO h 9 a0 (
  (fX9_keeps h a0 x1).bind fun q2 =>
  (fX9_forgets q2.2 a0 x1 x2).bind fun q9 =>
  (fX9_its q9 a0 x1 4).bind fun q15 =>
  fX9_comes_20 1000 q9 a0 x1 x2 q2.1 q15)
set_option maxRecDepth 100000 in
theorem kX9_comes {h : Hp} {a0 : Nat} {x1 : Int32} {x2 : Int32} {z : Hp} (hF : fX9_comes h a0 x1 x2 = some z) : Mc yX9_comes cX9_comes 5 none 4 0 0 [.ref a0, .int x1, .int x2] h (none, z) := by
  have hF := (gO_some hF).2
  refine Mc_of [some (.ref a0), some (.int x1), some (.int x2), none, none] plX9 rfl rfl (Nat.le_of_ble_eq_true rfl) (fun X C => ?_)
  refine J_aload_n (pc := 0) C dX9_comes_0 rfl ?_
  refine J_iload_n (pc := 1) C dX9_comes_1 rfl ?_
  refine J_bind hF (fun q2 hq hF => ?_)
  refine J_callV0_i (pc := 2) (stk := [.int x1, .ref a0]) (st := []) C dX9_comes_2 yw_X9_keeps w_MLX9_146 in_X9_keeps sl_X9_keeps ⟨_, rfl, rfl⟩ (kX9_keeps hq) (gO_some hq).1 rfl (by decide) rfl (Nat.le_of_ble_eq_true rfl) ?_
  refine J_istore_n (pc := 5) (lv' := [some (.ref a0), some (.int x1), some (.int x2), some (.int q2.1), none]) C dX9_comes_5 rfl ?_
  refine J_aload_n (pc := 6) C dX9_comes_6 rfl ?_
  refine J_iload_n (pc := 7) C dX9_comes_7 rfl ?_
  refine J_iload_n (pc := 8) C dX9_comes_8 rfl ?_
  refine J_bind hF (fun q9 hq hF => ?_)
  refine J_callV0_v (pc := 9) (stk := [.int x2, .int x1, .ref a0]) (st := []) C dX9_comes_9 yw_X9_forgets w_MLX9_149 in_X9_forgets sl_X9_forgets ⟨_, rfl, rfl⟩ (kX9_forgets hq) (gO_some hq).1 rfl (by decide) rfl (Nat.le_of_ble_eq_true rfl) ?_
  refine J_aload_n (pc := 12) C dX9_comes_12 rfl ?_
  refine J_iload_n (pc := 13) C dX9_comes_13 rfl ?_
  refine J_iconst (pc := 14) C dX9_comes_14 ic_4 ?_
  refine J_bind hF (fun q15 hq hF => ?_)
  refine J_callV0_ip (pc := 15) (stk := [.int 4, .int x1, .ref a0]) (st := []) C dX9_comes_15 yw_X9_its w_MLX9_123 in_X9_its sl_X9_its ⟨_, rfl, rfl⟩ (kX9_its hq) (gO_some hq).1 rfl (by decide) rfl (Nat.le_of_ble_eq_true rfl) ?_
  refine J_istore (pc := 18) (lv' := [some (.ref a0), some (.int x1), some (.int x2), some (.int q2.1), some (.int q15)]) C dX9_comes_18 rfl ?_
  exact kX9_comes_20 C 1000 q9 a0 x1 x2 q2.1 q15 hF
def fX9_findHeaps_129 (k23 : Hp → Nat → Int32 → Option Hp) (k35 : Hp → Nat → Int32 → Int32 → Option Hp) (k93 : Hp → Nat → Int32 → Int32 → Int32 → Int32 → Int32 → Int32 → Option Hp) (h : Hp) (a0 : Nat) (x1 : Int32) (x2 : Int32) (x3 : Int32) (x4 : Int32) (x5 : Int32) (x6 : Int32) (b0 : Nat) (y1 : Int32) : Option Hp :=
  (wrI h b0 y1 x5).bind fun h141 =>
  k93 h141 a0 x1 x2 x3 x4 x5 (x6 + 1)
set_option maxRecDepth 100000 in
theorem kX9_findHeaps_129 {X : Cx} {z : Hp} (C : Jc X yX9_findHeaps cX9_findHeaps 7 none 1 0 0 (none, z)) {k23 : Hp → Nat → Int32 → Option Hp} (hk23 : ∀ (h : Hp) (a0 : Nat) (x1 : Int32), k23 h a0 x1 = some z → J X 0 0 0 0 23 [some (.ref a0), some (.int x1), none, none, none, none, none] [] h) {k35 : Hp → Nat → Int32 → Int32 → Option Hp} (hk35 : ∀ (h : Hp) (a0 : Nat) (x1 : Int32) (x2 : Int32), k35 h a0 x1 x2 = some z → J X 0 0 0 0 35 [some (.ref a0), some (.int x1), some (.int x2), none, none, none, none] [] h) {k93 : Hp → Nat → Int32 → Int32 → Int32 → Int32 → Int32 → Int32 → Option Hp} (hk93 : ∀ (h : Hp) (a0 : Nat) (x1 : Int32) (x2 : Int32) (x3 : Int32) (x4 : Int32) (x5 : Int32) (x6 : Int32), k93 h a0 x1 x2 x3 x4 x5 x6 = some z → J X 0 0 0 0 93 [some (.ref a0), some (.int x1), some (.int x2), some (.int x3), some (.int x4), some (.int x5), some (.int x6)] [] h) (h : Hp) (a0 : Nat) (x1 : Int32) (x2 : Int32) (x3 : Int32) (x4 : Int32) (x5 : Int32) (x6 : Int32) (b0 : Nat) (y1 : Int32) (hF : fX9_findHeaps_129 k23 k35 k93 h a0 x1 x2 x3 x4 x5 x6 b0 y1 = some z) : J X 0 0 0 0 129 [some (.ref a0), some (.int x1), some (.int x2), some (.int x3), some (.int x4), some (.int x5), some (.int x6)] [.int y1, .ref b0] h := by
  unfold fX9_findHeaps_129 at hF
  refine J_iload (pc := 129) C dX9_findHeaps_129 rfl ?_
  refine J_goto (pc := 131) (tgt := 141) C dX9_findHeaps_131 rfl ?_
  refine J_iast (pc := 141) C dX9_findHeaps_141 hF (fun h141 hF => ?_)
  refine J_iinc (pc := 142) (lv' := [some (.ref a0), some (.int x1), some (.int x2), some (.int x3), some (.int x4), some (.int x5), some (.int (x6 + 1))]) C dX9_findHeaps_142 rfl ic_1 rfl ?_
  refine J_goto (pc := 145) (tgt := 93) C dX9_findHeaps_145 rfl ?_
  exact hk93 h141 a0 x1 x2 x3 x4 x5 (x6 + 1) hF
def fX9_findHeaps_93 (k23 : Hp → Nat → Int32 → Option Hp) (k35 : Hp → Nat → Int32 → Int32 → Option Hp) : Nat → Hp → Nat → Int32 → Int32 → Int32 → Int32 → Int32 → Int32 → Option Hp
  | 0, _, _, _, _, _, _, _, _ => none
  | n93 + 1, h, a0, x1, x2, x3, x4, x5, x6 =>
    if (8 : Int32) ≤ x6 then
      k35 h a0 x1 (x2 + 1)
    else
      (getR h 9 a0 13).bind fun r101 =>
      (getR h 9 a0 13).bind fun r107 =>
      (rdI h r107 x6).bind fun v112 =>
      if v112 = x3 then
        fX9_findHeaps_129 k23 k35 (fX9_findHeaps_93 k23 k35 n93) h a0 x1 x2 x3 x4 x5 x6 r101 x6
      else
        (getR h 9 a0 13).bind fun r118 =>
        (rdI h r118 x6).bind fun v123 =>
        if v123 = x4 then
          fX9_findHeaps_129 k23 k35 (fX9_findHeaps_93 k23 k35 n93) h a0 x1 x2 x3 x4 x5 x6 r101 x6
        else
          (getR h 9 a0 13).bind fun r135 =>
          (rdI h r135 x6).bind fun v140 =>
          (wrI h r101 x6 v140).bind fun h141 =>
          fX9_findHeaps_93 k23 k35 n93 h141 a0 x1 x2 x3 x4 x5 (x6 + 1)
set_option maxRecDepth 100000 in
theorem kX9_findHeaps_93 {X : Cx} {z : Hp} (C : Jc X yX9_findHeaps cX9_findHeaps 7 none 1 0 0 (none, z)) {k23 : Hp → Nat → Int32 → Option Hp} (hk23 : ∀ (h : Hp) (a0 : Nat) (x1 : Int32), k23 h a0 x1 = some z → J X 0 0 0 0 23 [some (.ref a0), some (.int x1), none, none, none, none, none] [] h) {k35 : Hp → Nat → Int32 → Int32 → Option Hp} (hk35 : ∀ (h : Hp) (a0 : Nat) (x1 : Int32) (x2 : Int32), k35 h a0 x1 x2 = some z → J X 0 0 0 0 35 [some (.ref a0), some (.int x1), some (.int x2), none, none, none, none] [] h) : ∀ (n93 : Nat) (h : Hp) (a0 : Nat) (x1 : Int32) (x2 : Int32) (x3 : Int32) (x4 : Int32) (x5 : Int32) (x6 : Int32), fX9_findHeaps_93 k23 k35 n93 h a0 x1 x2 x3 x4 x5 x6 = some z → J X 0 0 0 0 93 [some (.ref a0), some (.int x1), some (.int x2), some (.int x3), some (.int x4), some (.int x5), some (.int x6)] [] h := by
  intro n93
  induction n93 with
  | zero => intro h a0 x1 x2 x3 x4 x5 x6 hF; cases hF
  | succ n93 ih =>
    intro h a0 x1 x2 x3 x4 x5 x6 hF
    rw [fX9_findHeaps_93] at hF
    refine J_iload (pc := 93) C dX9_findHeaps_93 rfl ?_
    refine J_bipush (pc := 95) C dX9_findHeaps_95 bc_8 ?_
    refine J_icmp_ge (pc := 97) (tgt := 148) C dX9_findHeaps_97 rfl hF (fun hF => ?_) (fun hF => ?_)
    · refine J_iinc (pc := 148) (lv' := [some (.ref a0), some (.int x1), some (.int (x2 + 1)), some (.int x3), some (.int x4), some (.int x5), some (.int x6)]) C dX9_findHeaps_148 rfl ic_1 rfl ?_
      refine J_goto (pc := 151) (tgt := 35) C dX9_findHeaps_151 rfl ?_
      refine J_msk (m := [true, true, true, false, false, false, false]) rfl ?_
      exact hk35 h a0 x1 (x2 + 1) hF
    · refine J_aload_n (pc := 100) C dX9_findHeaps_100 rfl ?_
      refine J_getR (pc := 101) C dX9_findHeaps_101 fg_X9_34 hF (fun r101 hF => ?_)
      refine J_iload (pc := 104) C dX9_findHeaps_104 rfl ?_
      refine J_aload_n (pc := 106) C dX9_findHeaps_106 rfl ?_
      refine J_getR (pc := 107) C dX9_findHeaps_107 fg_X9_34 hF (fun r107 hF => ?_)
      refine J_iload (pc := 110) C dX9_findHeaps_110 rfl ?_
      refine J_iald (pc := 112) C dX9_findHeaps_112 hF (fun v112 hF => ?_)
      refine J_iload_n (pc := 113) C dX9_findHeaps_113 rfl ?_
      refine J_icmp_eq (pc := 114) (tgt := 129) C dX9_findHeaps_114 rfl hF (fun hF => ?_) (fun hF => ?_)
      · exact kX9_findHeaps_129 C hk23 hk35 ih h a0 x1 x2 x3 x4 x5 x6 r101 x6 hF
      · refine J_aload_n (pc := 117) C dX9_findHeaps_117 rfl ?_
        refine J_getR (pc := 118) C dX9_findHeaps_118 fg_X9_34 hF (fun r118 hF => ?_)
        refine J_iload (pc := 121) C dX9_findHeaps_121 rfl ?_
        refine J_iald (pc := 123) C dX9_findHeaps_123 hF (fun v123 hF => ?_)
        refine J_iload (pc := 124) C dX9_findHeaps_124 rfl ?_
        refine J_icmp_ne (pc := 126) (tgt := 134) C dX9_findHeaps_126 rfl hF (fun hF => ?_) (fun hF => ?_)
        · exact kX9_findHeaps_129 C hk23 hk35 ih h a0 x1 x2 x3 x4 x5 x6 r101 x6 hF
        · refine J_aload_n (pc := 134) C dX9_findHeaps_134 rfl ?_
          refine J_getR (pc := 135) C dX9_findHeaps_135 fg_X9_34 hF (fun r135 hF => ?_)
          refine J_iload (pc := 138) C dX9_findHeaps_138 rfl ?_
          refine J_iald (pc := 140) C dX9_findHeaps_140 hF (fun v140 hF => ?_)
          refine J_iast (pc := 141) C dX9_findHeaps_141 hF (fun h141 hF => ?_)
          refine J_iinc (pc := 142) (lv' := [some (.ref a0), some (.int x1), some (.int x2), some (.int x3), some (.int x4), some (.int x5), some (.int (x6 + 1))]) C dX9_findHeaps_142 rfl ic_1 rfl ?_
          refine J_goto (pc := 145) (tgt := 93) C dX9_findHeaps_145 rfl ?_
          exact ih h141 a0 x1 x2 x3 x4 x5 (x6 + 1) hF
def fX9_findHeaps_35 (k23 : Hp → Nat → Int32 → Option Hp) : Nat → Hp → Nat → Int32 → Int32 → Option Hp
  | 0, _, _, _, _ => none
  | n35 + 1, h, a0, x1, x2 =>
    (fX9_its h a0 x1 4).bind fun q39 =>
    if q39 ≤ x2 then
      k23 h a0 (x1 + 1)
    else
      (getR h 9 a0 13).bind fun r46 =>
      (fX9_its h a0 x1 ((5 + x2) - 1)).bind fun q56 =>
      (rdI h r46 q56).bind fun v59 =>
      (getR h 9 a0 13).bind fun r62 =>
      (fX9_its h a0 x1 (5 + x2)).bind fun q70 =>
      (rdI h r62 q70).bind fun v73 =>
      if v73 ≤ v59 then
        fX9_findHeaps_93 k23 (fX9_findHeaps_35 k23 n35) 1000 h a0 x1 x2 v59 v73 v73 0
      else
        fX9_findHeaps_93 k23 (fX9_findHeaps_35 k23 n35) 1000 h a0 x1 x2 v59 v73 v59 0
set_option maxRecDepth 100000 in
theorem kX9_findHeaps_35 {X : Cx} {z : Hp} (C : Jc X yX9_findHeaps cX9_findHeaps 7 none 1 0 0 (none, z)) {k23 : Hp → Nat → Int32 → Option Hp} (hk23 : ∀ (h : Hp) (a0 : Nat) (x1 : Int32), k23 h a0 x1 = some z → J X 0 0 0 0 23 [some (.ref a0), some (.int x1), none, none, none, none, none] [] h) : ∀ (n35 : Nat) (h : Hp) (a0 : Nat) (x1 : Int32) (x2 : Int32), fX9_findHeaps_35 k23 n35 h a0 x1 x2 = some z → J X 0 0 0 0 35 [some (.ref a0), some (.int x1), some (.int x2), none, none, none, none] [] h := by
  intro n35
  induction n35 with
  | zero => intro h a0 x1 x2 hF; cases hF
  | succ n35 ih =>
    intro h a0 x1 x2 hF
    rw [fX9_findHeaps_35] at hF
    refine J_iload_n (pc := 35) C dX9_findHeaps_35 rfl ?_
    refine J_aload_n (pc := 36) C dX9_findHeaps_36 rfl ?_
    refine J_iload_n (pc := 37) C dX9_findHeaps_37 rfl ?_
    refine J_iconst (pc := 38) C dX9_findHeaps_38 ic_4 ?_
    refine J_bind hF (fun q39 hq hF => ?_)
    refine J_callV0_ip (pc := 39) (stk := [.int 4, .int x1, .ref a0, .int x2]) (st := [.int x2]) C dX9_findHeaps_39 yw_X9_its w_MLX9_123 in_X9_its sl_X9_its ⟨_, rfl, rfl⟩ (kX9_its hq) (gO_some hq).1 rfl (by decide) rfl (Nat.le_of_ble_eq_true rfl) ?_
    refine J_icmp_ge (pc := 42) (tgt := 154) C dX9_findHeaps_42 rfl hF (fun hF => ?_) (fun hF => ?_)
    · refine J_iinc (pc := 154) (lv' := [some (.ref a0), some (.int (x1 + 1)), some (.int x2), none, none, none, none]) C dX9_findHeaps_154 rfl ic_1 rfl ?_
      refine J_goto (pc := 157) (tgt := 23) C dX9_findHeaps_157 rfl ?_
      refine J_msk (m := [true, true, false, false, false, false, false]) rfl ?_
      exact hk23 h a0 (x1 + 1) hF
    · refine J_aload_n (pc := 45) C dX9_findHeaps_45 rfl ?_
      refine J_getR (pc := 46) C dX9_findHeaps_46 fg_X9_34 hF (fun r46 hF => ?_)
      refine J_aload_n (pc := 49) C dX9_findHeaps_49 rfl ?_
      refine J_iload_n (pc := 50) C dX9_findHeaps_50 rfl ?_
      refine J_iconst (pc := 51) C dX9_findHeaps_51 ic_5 ?_
      refine J_iload_n (pc := 52) C dX9_findHeaps_52 rfl ?_
      refine J_iadd (pc := 53) C dX9_findHeaps_53 ?_
      refine J_iconst (pc := 54) C dX9_findHeaps_54 ic_1 ?_
      refine J_isub (pc := 55) C dX9_findHeaps_55 ?_
      refine J_bind hF (fun q56 hq hF => ?_)
      refine J_callV0_ip (pc := 56) (stk := [.int ((5 + x2) - 1), .int x1, .ref a0, .ref r46]) (st := [.ref r46]) C dX9_findHeaps_56 yw_X9_its w_MLX9_123 in_X9_its sl_X9_its ⟨_, rfl, rfl⟩ (kX9_its hq) (gO_some hq).1 rfl (by decide) rfl (Nat.le_of_ble_eq_true rfl) ?_
      refine J_iald (pc := 59) C dX9_findHeaps_59 hF (fun v59 hF => ?_)
      refine J_istore_n (pc := 60) (lv' := [some (.ref a0), some (.int x1), some (.int x2), some (.int v59), none, none, none]) C dX9_findHeaps_60 rfl ?_
      refine J_aload_n (pc := 61) C dX9_findHeaps_61 rfl ?_
      refine J_getR (pc := 62) C dX9_findHeaps_62 fg_X9_34 hF (fun r62 hF => ?_)
      refine J_aload_n (pc := 65) C dX9_findHeaps_65 rfl ?_
      refine J_iload_n (pc := 66) C dX9_findHeaps_66 rfl ?_
      refine J_iconst (pc := 67) C dX9_findHeaps_67 ic_5 ?_
      refine J_iload_n (pc := 68) C dX9_findHeaps_68 rfl ?_
      refine J_iadd (pc := 69) C dX9_findHeaps_69 ?_
      refine J_bind hF (fun q70 hq hF => ?_)
      refine J_callV0_ip (pc := 70) (stk := [.int (5 + x2), .int x1, .ref a0, .ref r62]) (st := [.ref r62]) C dX9_findHeaps_70 yw_X9_its w_MLX9_123 in_X9_its sl_X9_its ⟨_, rfl, rfl⟩ (kX9_its hq) (gO_some hq).1 rfl (by decide) rfl (Nat.le_of_ble_eq_true rfl) ?_
      refine J_iald (pc := 73) C dX9_findHeaps_73 hF (fun v73 hF => ?_)
      refine J_istore (pc := 74) (lv' := [some (.ref a0), some (.int x1), some (.int x2), some (.int v59), some (.int v73), none, none]) C dX9_findHeaps_74 rfl ?_
      refine J_iload_n (pc := 76) C dX9_findHeaps_76 rfl ?_
      refine J_iload (pc := 77) C dX9_findHeaps_77 rfl ?_
      refine J_icmp_ge (pc := 79) (tgt := 86) C dX9_findHeaps_79 rfl hF (fun hF => ?_) (fun hF => ?_)
      · refine J_iload (pc := 86) C dX9_findHeaps_86 rfl ?_
        refine J_istore (pc := 88) (lv' := [some (.ref a0), some (.int x1), some (.int x2), some (.int v59), some (.int v73), some (.int v73), none]) C dX9_findHeaps_88 rfl ?_
        refine J_iconst (pc := 90) C dX9_findHeaps_90 ic_0 ?_
        refine J_istore (pc := 91) (lv' := [some (.ref a0), some (.int x1), some (.int x2), some (.int v59), some (.int v73), some (.int v73), some (.int 0)]) C dX9_findHeaps_91 rfl ?_
        exact kX9_findHeaps_93 C hk23 ih 1000 h a0 x1 x2 v59 v73 v73 0 hF
      · refine J_iload_n (pc := 82) C dX9_findHeaps_82 rfl ?_
        refine J_goto (pc := 83) (tgt := 88) C dX9_findHeaps_83 rfl ?_
        refine J_istore (pc := 88) (lv' := [some (.ref a0), some (.int x1), some (.int x2), some (.int v59), some (.int v73), some (.int v59), none]) C dX9_findHeaps_88 rfl ?_
        refine J_iconst (pc := 90) C dX9_findHeaps_90 ic_0 ?_
        refine J_istore (pc := 91) (lv' := [some (.ref a0), some (.int x1), some (.int x2), some (.int v59), some (.int v73), some (.int v59), some (.int 0)]) C dX9_findHeaps_91 rfl ?_
        exact kX9_findHeaps_93 C hk23 ih 1000 h a0 x1 x2 v59 v73 v59 0 hF
def fX9_findHeaps_23 : Nat → Hp → Nat → Int32 → Option Hp
  | 0, _, _, _ => none
  | n23 + 1, h, a0, x1 =>
    (getR h 9 a0 0).bind fun r25 =>
    (rdI h r25 1).bind fun v29 =>
    if v29 ≤ x1 then
      some h
    else
      fX9_findHeaps_35 (fX9_findHeaps_23 n23) 1000 h a0 x1 1
set_option maxRecDepth 100000 in
theorem kX9_findHeaps_23 {X : Cx} {z : Hp} (C : Jc X yX9_findHeaps cX9_findHeaps 7 none 1 0 0 (none, z)) : ∀ (n23 : Nat) (h : Hp) (a0 : Nat) (x1 : Int32), fX9_findHeaps_23 n23 h a0 x1 = some z → J X 0 0 0 0 23 [some (.ref a0), some (.int x1), none, none, none, none, none] [] h := by
  intro n23
  induction n23 with
  | zero => intro h a0 x1 hF; cases hF
  | succ n23 ih =>
    intro h a0 x1 hF
    rw [fX9_findHeaps_23] at hF
    refine J_iload_n (pc := 23) C dX9_findHeaps_23 rfl ?_
    refine J_aload_n (pc := 24) C dX9_findHeaps_24 rfl ?_
    refine J_getR (pc := 25) C dX9_findHeaps_25 fg_X9_7 hF (fun r25 hF => ?_)
    refine J_iconst (pc := 28) C dX9_findHeaps_28 ic_1 ?_
    refine J_iald (pc := 29) C dX9_findHeaps_29 hF (fun v29 hF => ?_)
    refine J_icmp_ge (pc := 30) (tgt := 160) C dX9_findHeaps_30 rfl hF (fun hF => ?_) (fun hF => ?_)
    · exact J_vret (pc := 160) C dX9_findHeaps_160 hF (by decide) (by decide)
    · refine J_iconst (pc := 33) C dX9_findHeaps_33 ic_1 ?_
      refine J_istore_n (pc := 34) (lv' := [some (.ref a0), some (.int x1), some (.int 1), none, none, none, none]) C dX9_findHeaps_34 rfl ?_
      exact kX9_findHeaps_35 C ih 1000 h a0 x1 1 hF
def fX9_findHeaps_2 : Nat → Hp → Nat → Int32 → Option Hp
  | 0, _, _, _ => none
  | n2 + 1, h, a0, x1 =>
    if (8 : Int32) ≤ x1 then
      fX9_findHeaps_23 1000 h a0 0
    else
      (getR h 9 a0 13).bind fun r9 =>
      (wrI h r9 x1 x1).bind fun h14 =>
      fX9_findHeaps_2 n2 h14 a0 (x1 + 1)
set_option maxRecDepth 100000 in
theorem kX9_findHeaps_2 {X : Cx} {z : Hp} (C : Jc X yX9_findHeaps cX9_findHeaps 7 none 1 0 0 (none, z)) : ∀ (n2 : Nat) (h : Hp) (a0 : Nat) (x1 : Int32), fX9_findHeaps_2 n2 h a0 x1 = some z → J X 0 0 0 0 2 [some (.ref a0), some (.int x1), none, none, none, none, none] [] h := by
  intro n2
  induction n2 with
  | zero => intro h a0 x1 hF; cases hF
  | succ n2 ih =>
    intro h a0 x1 hF
    rw [fX9_findHeaps_2] at hF
    refine J_iload_n (pc := 2) C dX9_findHeaps_2 rfl ?_
    refine J_bipush (pc := 3) C dX9_findHeaps_3 bc_8 ?_
    refine J_icmp_ge (pc := 5) (tgt := 21) C dX9_findHeaps_5 rfl hF (fun hF => ?_) (fun hF => ?_)
    · refine J_iconst (pc := 21) C dX9_findHeaps_21 ic_0 ?_
      refine J_istore_n (pc := 22) (lv' := [some (.ref a0), some (.int 0), none, none, none, none, none]) C dX9_findHeaps_22 rfl ?_
      exact kX9_findHeaps_23 C 1000 h a0 0 hF
    · refine J_aload_n (pc := 8) C dX9_findHeaps_8 rfl ?_
      refine J_getR (pc := 9) C dX9_findHeaps_9 fg_X9_34 hF (fun r9 hF => ?_)
      refine J_iload_n (pc := 12) C dX9_findHeaps_12 rfl ?_
      refine J_iload_n (pc := 13) C dX9_findHeaps_13 rfl ?_
      refine J_iast (pc := 14) C dX9_findHeaps_14 hF (fun h14 hF => ?_)
      refine J_iinc (pc := 15) (lv' := [some (.ref a0), some (.int (x1 + 1)), none, none, none, none, none]) C dX9_findHeaps_15 rfl ic_1 rfl ?_
      refine J_goto (pc := 18) (tgt := 2) C dX9_findHeaps_18 rfl ?_
      exact ih h14 a0 (x1 + 1) hF
def fX9_findHeaps (h : Hp) (a0 : Nat) : Option Hp := gO h 9 a0 (
  fX9_findHeaps_2 1000 h a0 0)
set_option maxRecDepth 100000 in
theorem kX9_findHeaps {h : Hp} {a0 : Nat} {z : Hp} (hF : fX9_findHeaps h a0 = some z) : Mc yX9_findHeaps cX9_findHeaps 7 none 1 0 0 [.ref a0] h (none, z) := by
  have hF := (gO_some hF).2
  refine Mc_of [some (.ref a0), none, none, none, none, none, none] plX9 rfl rfl (Nat.le_of_ble_eq_true rfl) (fun X C => ?_)
  refine J_iconst (pc := 0) C dX9_findHeaps_0 ic_0 ?_
  refine J_istore_n (pc := 1) (lv' := [some (.ref a0), some (.int 0), none, none, none, none, none]) C dX9_findHeaps_1 rfl ?_
  exact kX9_findHeaps_2 C 1000 h a0 0 hF
def fX9_owed (h : Hp) (a0 : Nat) (x1 : Int32) (x2 : Int32) : Option Int32 := gO h 9 a0 (
  (getR h 9 a0 0).bind fun r1 =>
  (rdI h r1 ((76 + (3 * x1)) + x2)).bind fun v12 =>
  some v12)
set_option maxRecDepth 100000 in
theorem kX9_owed {h : Hp} {a0 : Nat} {x1 : Int32} {x2 : Int32} {z : Int32} (hF : fX9_owed h a0 x1 x2 = some z) : Mc yX9_owed cX9_owed 3 (some .int) 0 0 0 [.ref a0, .int x1, .int x2] h (some (.int z), h) := by
  have hF := (gO_some hF).2
  refine Mc_of [some (.ref a0), some (.int x1), some (.int x2)] plX9 rfl rfl (Nat.le_of_ble_eq_true rfl) (fun X C => ?_)
  refine J_aload_n (pc := 0) C dX9_owed_0 rfl ?_
  refine J_getR (pc := 1) C dX9_owed_1 fg_X9_7 hF (fun r1 hF => ?_)
  refine J_bipush (pc := 4) C dX9_owed_4 bc_76 ?_
  refine J_iconst (pc := 6) C dX9_owed_6 ic_3 ?_
  refine J_iload_n (pc := 7) C dX9_owed_7 rfl ?_
  refine J_imul (pc := 8) C dX9_owed_8 ?_
  refine J_iadd (pc := 9) C dX9_owed_9 ?_
  refine J_iload_n (pc := 10) C dX9_owed_10 rfl ?_
  refine J_iadd (pc := 11) C dX9_owed_11 ?_
  refine J_iald (pc := 12) C dX9_owed_12 hF (fun v12 hF => ?_)
  exact J_iretP (pc := 13) C dX9_owed_13 hF (by decide) (by decide)
def fX9_holds (h : Hp) (a0 : Nat) (x1 : Int32) : Option Int32 := gO h 9 a0 (
  (getR h 9 a0 13).bind fun r1 =>
  (fX9_owed h a0 x1 0).bind fun q7 =>
  (rdI h r1 q7).bind fun v10 =>
  (getR h 9 a0 13).bind fun r12 =>
  (fX9_owed h a0 x1 1).bind fun q18 =>
  (rdI h r12 q18).bind fun v21 =>
  if v10 = v21 then
    some 1
  else
    some 0)
set_option maxRecDepth 100000 in
theorem kX9_holds {h : Hp} {a0 : Nat} {x1 : Int32} {z : Int32} (hF : fX9_holds h a0 x1 = some z) : Mc yX9_holds cX9_holds 2 (some .boolean) 1 0 0 [.ref a0, .int x1] h (some (.int z), h) := by
  have hF := (gO_some hF).2
  refine Mc_of [some (.ref a0), some (.int x1)] plX9 rfl rfl (Nat.le_of_ble_eq_true rfl) (fun X C => ?_)
  refine J_aload_n (pc := 0) C dX9_holds_0 rfl ?_
  refine J_getR (pc := 1) C dX9_holds_1 fg_X9_34 hF (fun r1 hF => ?_)
  refine J_aload_n (pc := 4) C dX9_holds_4 rfl ?_
  refine J_iload_n (pc := 5) C dX9_holds_5 rfl ?_
  refine J_iconst (pc := 6) C dX9_holds_6 ic_0 ?_
  refine J_bind hF (fun q7 hq hF => ?_)
  refine J_callV0_ip (pc := 7) (stk := [.int 0, .int x1, .ref a0, .ref r1]) (st := [.ref r1]) C dX9_holds_7 yw_X9_owed w_MLX9_201 in_X9_owed sl_X9_owed ⟨_, rfl, rfl⟩ (kX9_owed hq) (gO_some hq).1 rfl (by decide) rfl (Nat.le_of_ble_eq_true rfl) ?_
  refine J_iald (pc := 10) C dX9_holds_10 hF (fun v10 hF => ?_)
  refine J_aload_n (pc := 11) C dX9_holds_11 rfl ?_
  refine J_getR (pc := 12) C dX9_holds_12 fg_X9_34 hF (fun r12 hF => ?_)
  refine J_aload_n (pc := 15) C dX9_holds_15 rfl ?_
  refine J_iload_n (pc := 16) C dX9_holds_16 rfl ?_
  refine J_iconst (pc := 17) C dX9_holds_17 ic_1 ?_
  refine J_bind hF (fun q18 hq hF => ?_)
  refine J_callV0_ip (pc := 18) (stk := [.int 1, .int x1, .ref a0, .ref r12, .int v10]) (st := [.ref r12, .int v10]) C dX9_holds_18 yw_X9_owed w_MLX9_201 in_X9_owed sl_X9_owed ⟨_, rfl, rfl⟩ (kX9_owed hq) (gO_some hq).1 rfl (by decide) rfl (Nat.le_of_ble_eq_true rfl) ?_
  refine J_iald (pc := 21) C dX9_holds_21 hF (fun v21 hF => ?_)
  refine J_icmp_ne (pc := 22) (tgt := 29) C dX9_holds_22 rfl hF (fun hF => ?_) (fun hF => ?_)
  · refine J_iconst (pc := 25) C dX9_holds_25 ic_1 ?_
    refine J_goto (pc := 26) (tgt := 30) C dX9_holds_26 rfl ?_
    exact J_zretP (pc := 30) C dX9_holds_30 rfl hF (by decide) (by decide)
  · refine J_iconst (pc := 29) C dX9_holds_29 ic_0 ?_
    exact J_zretP (pc := 30) C dX9_holds_30 rfl hF (by decide) (by decide)
def fX9_holding_8 : Nat → Hp → Nat → Int32 → Int32 → Option (Int32 × Hp)
  | 0, _, _, _, _ => none
  | n8 + 1, h, a0, x1, x2 =>
    (getR h 9 a0 0).bind fun r10 =>
    (rdI h r10 3).bind fun v14 =>
    if v14 ≤ x2 then
      some (x1, h)
    else
      (fX9_holds h a0 x2).bind fun q21 =>
      if q21 = 0 then
        fX9_holding_8 n8 h a0 (x1 + 0) (x2 + 1)
      else
        fX9_holding_8 n8 h a0 (x1 + 1) (x2 + 1)
set_option maxRecDepth 100000 in
theorem kX9_holding_8 {X : Cx} {z : (Int32 × Hp)} (C : Jc X yX9_holding cX9_holding 3 (some .int) 2 0 0 (some (.int z.1), z.2)) : ∀ (n8 : Nat) (h : Hp) (a0 : Nat) (x1 : Int32) (x2 : Int32), fX9_holding_8 n8 h a0 x1 x2 = some z → J X 0 0 0 0 8 [some (.ref a0), some (.int x1), some (.int x2)] [] h := by
  intro n8
  induction n8 with
  | zero => intro h a0 x1 x2 hF; cases hF
  | succ n8 ih =>
    intro h a0 x1 x2 hF
    rw [fX9_holding_8] at hF
    refine J_iload_n (pc := 8) C dX9_holding_8 rfl ?_
    refine J_aload_n (pc := 9) C dX9_holding_9 rfl ?_
    refine J_getR (pc := 10) C dX9_holding_10 fg_X9_7 hF (fun r10 hF => ?_)
    refine J_iconst (pc := 13) C dX9_holding_13 ic_3 ?_
    refine J_iald (pc := 14) C dX9_holding_14 hF (fun v14 hF => ?_)
    refine J_icmp_ge (pc := 15) (tgt := 40) C dX9_holding_15 rfl hF (fun hF => ?_) (fun hF => ?_)
    · refine J_iload_n (pc := 40) C dX9_holding_40 rfl ?_
      exact J_iret (pc := 41) C dX9_holding_41 hF (by decide) (by decide)
    · refine J_iload_n (pc := 18) C dX9_holding_18 rfl ?_
      refine J_aload_n (pc := 19) C dX9_holding_19 rfl ?_
      refine J_iload_n (pc := 20) C dX9_holding_20 rfl ?_
      refine J_bind hF (fun q21 hq hF => ?_)
      refine J_callV0_ip (pc := 21) (stk := [.int x2, .ref a0, .int x1]) (st := [.int x1]) C dX9_holding_21 yw_X9_holds w_MLX9_204 in_X9_holds sl_X9_holds ⟨_, rfl, rfl⟩ (kX9_holds hq) (gO_some hq).1 rfl (by decide) rfl (Nat.le_of_ble_eq_true rfl) ?_
      refine J_if_eq (pc := 24) (tgt := 31) C dX9_holding_24 rfl hF (fun hF => ?_) (fun hF => ?_)
      · refine J_iconst (pc := 31) C dX9_holding_31 ic_0 ?_
        refine J_iadd (pc := 32) C dX9_holding_32 ?_
        refine J_istore_n (pc := 33) (lv' := [some (.ref a0), some (.int (x1 + 0)), some (.int x2)]) C dX9_holding_33 rfl ?_
        refine J_iinc (pc := 34) (lv' := [some (.ref a0), some (.int (x1 + 0)), some (.int (x2 + 1))]) C dX9_holding_34 rfl ic_1 rfl ?_
        refine J_goto (pc := 37) (tgt := 8) C dX9_holding_37 rfl ?_
        exact ih h a0 (x1 + 0) (x2 + 1) hF
      · refine J_iconst (pc := 27) C dX9_holding_27 ic_1 ?_
        refine J_goto (pc := 28) (tgt := 32) C dX9_holding_28 rfl ?_
        refine J_iadd (pc := 32) C dX9_holding_32 ?_
        refine J_istore_n (pc := 33) (lv' := [some (.ref a0), some (.int (x1 + 1)), some (.int x2)]) C dX9_holding_33 rfl ?_
        refine J_iinc (pc := 34) (lv' := [some (.ref a0), some (.int (x1 + 1)), some (.int (x2 + 1))]) C dX9_holding_34 rfl ic_1 rfl ?_
        refine J_goto (pc := 37) (tgt := 8) C dX9_holding_37 rfl ?_
        exact ih h a0 (x1 + 1) (x2 + 1) hF
def fX9_holding (h : Hp) (a0 : Nat) : Option (Int32 × Hp) := gO h 9 a0 (
  (fX9_findHeaps h a0).bind fun q1 =>
  fX9_holding_8 1000 q1 a0 0 0)
set_option maxRecDepth 100000 in
theorem kX9_holding {h : Hp} {a0 : Nat} {z : (Int32 × Hp)} (hF : fX9_holding h a0 = some z) : Mc yX9_holding cX9_holding 3 (some .int) 2 0 0 [.ref a0] h (some (.int z.1), z.2) := by
  have hF := (gO_some hF).2
  refine Mc_of [some (.ref a0), none, none] plX9 rfl rfl (Nat.le_of_ble_eq_true rfl) (fun X C => ?_)
  refine J_aload_n (pc := 0) C dX9_holding_0 rfl ?_
  refine J_bind hF (fun q1 hq hF => ?_)
  refine J_callV0_v (pc := 1) (stk := [.ref a0]) (st := []) C dX9_holding_1 yw_X9_findHeaps w_MLX9_159 in_X9_findHeaps sl_X9_findHeaps ⟨_, rfl, rfl⟩ (kX9_findHeaps hq) (gO_some hq).1 rfl (by decide) rfl (Nat.le_of_ble_eq_true rfl) ?_
  refine J_iconst (pc := 4) C dX9_holding_4 ic_0 ?_
  refine J_istore_n (pc := 5) (lv' := [some (.ref a0), some (.int 0), none]) C dX9_holding_5 rfl ?_
  refine J_iconst (pc := 6) C dX9_holding_6 ic_0 ?_
  refine J_istore_n (pc := 7) (lv' := [some (.ref a0), some (.int 0), some (.int 0)]) C dX9_holding_7 rfl ?_
  exact kX9_holding_8 C 1000 q1 a0 0 0 hF
def fX9_count (h : Hp) (a0 : Nat) (x1 : Int32) : Option (Int32 × Hp) := gO h 9 a0 (
  if x1 = 0 then
    (getR h 9 a0 0).bind fun r61 =>
    (rdI h r61 0).bind fun v65 =>
    some (v65, h)
  else
    if x1 = 1 then
      (getR h 9 a0 0).bind fun r68 =>
      (rdI h r68 1).bind fun v72 =>
      some (v72, h)
    else
      if x1 = 2 then
        (getR h 9 a0 0).bind fun r75 =>
        (rdI h r75 2).bind fun v79 =>
        some (v79, h)
      else
        if x1 = 3 then
          (getR h 9 a0 0).bind fun r82 =>
          (rdI h r82 3).bind fun v86 =>
          some (v86, h)
        else
          if x1 = 4 then
            (fX9_holding h a0).bind fun q89 =>
            some (q89.1, q89.2)
          else
            if x1 = 5 then
              (fX9_allCoins h a0).bind fun q94 =>
              some (q94, h)
            else
              if x1 = 6 then
                (getR h 9 a0 0).bind fun r99 =>
                (rdI h r99 5).bind fun v103 =>
                some (v103, h)
              else
                if x1 = 7 then
                  (getR h 9 a0 0).bind fun r106 =>
                  (rdI h r106 6).bind fun v111 =>
                  some (v111, h)
                else
                  if x1 = 8 then
                    (getI h 9 a0 20).bind fun v114 =>
                    some (v114, h)
                  else
                    if x1 = 9 then
                      (getR h 9 a0 0).bind fun r119 =>
                      (rdI h r119 7).bind fun v124 =>
                      some (v124, h)
                    else
                      if x1 = 10 then
                        (getR h 9 a0 0).bind fun r127 =>
                        (rdI h r127 4).bind fun v131 =>
                        some (v131, h)
                      else
                        (fX9_error h a0 1).bind fun q135 =>
                        some (q135.1, q135.2))
set_option maxRecDepth 100000 in
theorem kX9_count {h : Hp} {a0 : Nat} {x1 : Int32} {z : (Int32 × Hp)} (hF : fX9_count h a0 x1 = some z) : Mc yX9_count cX9_count 2 (some .int) 3 0 0 [.ref a0, .int x1] h (some (.int z.1), z.2) := by
  have hF := (gO_some hF).2
  refine Mc_of [some (.ref a0), some (.int x1)] plX9 rfl rfl (Nat.le_of_ble_eq_true rfl) (fun X C => ?_)
  refine J_iload_n (pc := 0) C dX9_count_0 rfl ?_
  refine J_br hF (fun hc1_0 hF => ?_) (fun hc1_0 hF => ?_)
  · refine J_tsIn (pc := 1) (tgt := 60) C 0 hc1_0 dX9_count_1 (by decide) (by decide) rfl rfl ?_
    refine J_aload_n (pc := 60) C dX9_count_60 rfl ?_
    refine J_getR (pc := 61) C dX9_count_61 fg_X9_7 hF (fun r61 hF => ?_)
    refine J_iconst (pc := 64) C dX9_count_64 ic_0 ?_
    refine J_iald (pc := 65) C dX9_count_65 hF (fun v65 hF => ?_)
    exact J_iret (pc := 66) C dX9_count_66 hF (by decide) (by decide)
  · refine J_br hF (fun hc1_1 hF => ?_) (fun hc1_1 hF => ?_)
    · refine J_tsIn (pc := 1) (tgt := 67) C 1 hc1_1 dX9_count_1 (by decide) (by decide) rfl rfl ?_
      refine J_aload_n (pc := 67) C dX9_count_67 rfl ?_
      refine J_getR (pc := 68) C dX9_count_68 fg_X9_7 hF (fun r68 hF => ?_)
      refine J_iconst (pc := 71) C dX9_count_71 ic_1 ?_
      refine J_iald (pc := 72) C dX9_count_72 hF (fun v72 hF => ?_)
      exact J_iret (pc := 73) C dX9_count_73 hF (by decide) (by decide)
    · refine J_br hF (fun hc1_2 hF => ?_) (fun hc1_2 hF => ?_)
      · refine J_tsIn (pc := 1) (tgt := 74) C 2 hc1_2 dX9_count_1 (by decide) (by decide) rfl rfl ?_
        refine J_aload_n (pc := 74) C dX9_count_74 rfl ?_
        refine J_getR (pc := 75) C dX9_count_75 fg_X9_7 hF (fun r75 hF => ?_)
        refine J_iconst (pc := 78) C dX9_count_78 ic_2 ?_
        refine J_iald (pc := 79) C dX9_count_79 hF (fun v79 hF => ?_)
        exact J_iret (pc := 80) C dX9_count_80 hF (by decide) (by decide)
      · refine J_br hF (fun hc1_3 hF => ?_) (fun hc1_3 hF => ?_)
        · refine J_tsIn (pc := 1) (tgt := 81) C 3 hc1_3 dX9_count_1 (by decide) (by decide) rfl rfl ?_
          refine J_aload_n (pc := 81) C dX9_count_81 rfl ?_
          refine J_getR (pc := 82) C dX9_count_82 fg_X9_7 hF (fun r82 hF => ?_)
          refine J_iconst (pc := 85) C dX9_count_85 ic_3 ?_
          refine J_iald (pc := 86) C dX9_count_86 hF (fun v86 hF => ?_)
          exact J_iret (pc := 87) C dX9_count_87 hF (by decide) (by decide)
        · refine J_br hF (fun hc1_4 hF => ?_) (fun hc1_4 hF => ?_)
          · refine J_tsIn (pc := 1) (tgt := 88) C 4 hc1_4 dX9_count_1 (by decide) (by decide) rfl rfl ?_
            refine J_aload_n (pc := 88) C dX9_count_88 rfl ?_
            refine J_bind hF (fun q89 hq hF => ?_)
            refine J_callV0_i (pc := 89) (stk := [.ref a0]) (st := []) C dX9_count_89 yw_X9_holding w_MLX9_207 in_X9_holding sl_X9_holding ⟨_, rfl, rfl⟩ (kX9_holding hq) (gO_some hq).1 rfl (by decide) rfl (Nat.le_of_ble_eq_true rfl) ?_
            exact J_iret (pc := 92) C dX9_count_92 hF (by decide) (by decide)
          · refine J_br hF (fun hc1_5 hF => ?_) (fun hc1_5 hF => ?_)
            · refine J_tsIn (pc := 1) (tgt := 93) C 5 hc1_5 dX9_count_1 (by decide) (by decide) rfl rfl ?_
              refine J_aload_n (pc := 93) C dX9_count_93 rfl ?_
              refine J_bind hF (fun q94 hq hF => ?_)
              refine J_callV0_ip (pc := 94) (stk := [.ref a0]) (st := []) C dX9_count_94 yw_X9_allCoins w_MLX9_286 in_X9_allCoins sl_X9_allCoins ⟨_, rfl, rfl⟩ (kX9_allCoins hq) (gO_some hq).1 rfl (by decide) rfl (Nat.le_of_ble_eq_true rfl) ?_
              exact J_iret (pc := 97) C dX9_count_97 hF (by decide) (by decide)
            · refine J_br hF (fun hc1_6 hF => ?_) (fun hc1_6 hF => ?_)
              · refine J_tsIn (pc := 1) (tgt := 98) C 6 hc1_6 dX9_count_1 (by decide) (by decide) rfl rfl ?_
                refine J_aload_n (pc := 98) C dX9_count_98 rfl ?_
                refine J_getR (pc := 99) C dX9_count_99 fg_X9_7 hF (fun r99 hF => ?_)
                refine J_iconst (pc := 102) C dX9_count_102 ic_5 ?_
                refine J_iald (pc := 103) C dX9_count_103 hF (fun v103 hF => ?_)
                exact J_iret (pc := 104) C dX9_count_104 hF (by decide) (by decide)
              · refine J_br hF (fun hc1_7 hF => ?_) (fun hc1_7 hF => ?_)
                · refine J_tsIn (pc := 1) (tgt := 105) C 7 hc1_7 dX9_count_1 (by decide) (by decide) rfl rfl ?_
                  refine J_aload_n (pc := 105) C dX9_count_105 rfl ?_
                  refine J_getR (pc := 106) C dX9_count_106 fg_X9_7 hF (fun r106 hF => ?_)
                  refine J_bipush (pc := 109) C dX9_count_109 bc_6 ?_
                  refine J_iald (pc := 111) C dX9_count_111 hF (fun v111 hF => ?_)
                  exact J_iret (pc := 112) C dX9_count_112 hF (by decide) (by decide)
                · refine J_br hF (fun hc1_8 hF => ?_) (fun hc1_8 hF => ?_)
                  · refine J_tsIn (pc := 1) (tgt := 113) C 8 hc1_8 dX9_count_1 (by decide) (by decide) rfl rfl ?_
                    refine J_aload_n (pc := 113) C dX9_count_113 rfl ?_
                    refine J_getI (pc := 114) C dX9_count_114 fg_X9_246 hF (fun v114 hF => ?_)
                    exact J_iret (pc := 117) C dX9_count_117 hF (by decide) (by decide)
                  · refine J_br hF (fun hc1_9 hF => ?_) (fun hc1_9 hF => ?_)
                    · refine J_tsIn (pc := 1) (tgt := 118) C 9 hc1_9 dX9_count_1 (by decide) (by decide) rfl rfl ?_
                      refine J_aload_n (pc := 118) C dX9_count_118 rfl ?_
                      refine J_getR (pc := 119) C dX9_count_119 fg_X9_7 hF (fun r119 hF => ?_)
                      refine J_bipush (pc := 122) C dX9_count_122 bc_7 ?_
                      refine J_iald (pc := 124) C dX9_count_124 hF (fun v124 hF => ?_)
                      exact J_iret (pc := 125) C dX9_count_125 hF (by decide) (by decide)
                    · refine J_br hF (fun hc1_10 hF => ?_) (fun hc1_10 hF => ?_)
                      · refine J_tsIn (pc := 1) (tgt := 126) C 10 hc1_10 dX9_count_1 (by decide) (by decide) rfl rfl ?_
                        refine J_aload_n (pc := 126) C dX9_count_126 rfl ?_
                        refine J_getR (pc := 127) C dX9_count_127 fg_X9_7 hF (fun r127 hF => ?_)
                        refine J_iconst (pc := 130) C dX9_count_130 ic_4 ?_
                        refine J_iald (pc := 131) C dX9_count_131 hF (fun v131 hF => ?_)
                        exact J_iret (pc := 132) C dX9_count_132 hF (by decide) (by decide)
                      · have hD : J X 0 0 0 0 133 [some (.ref a0), some (.int x1)] [] h := by
                          refine J_aload_n (pc := 133) C dX9_count_133 rfl ?_
                          refine J_iconst (pc := 134) C dX9_count_134 ic_1 ?_
                          refine J_bind hF (fun q135 hq hF => ?_)
                          refine J_callV0_i (pc := 135) (stk := [.int 1, .ref a0]) (st := []) C dX9_count_135 yw_X9_error w_MLX9_63 in_X9_error sl_X9_error ⟨_, rfl, rfl⟩ (kX9_error hq) (gO_some hq).1 rfl (by decide) rfl (Nat.le_of_ble_eq_true rfl) ?_
                          exact J_iret (pc := 138) C dX9_count_138 hF (by decide) (by decide)
                        refine J_tsOut (pc := 1) (tgt := 133) C dX9_count_1 (by have z0 := lv_neT hc1_0 (a := 0) rfl; have z1 := lv_neT hc1_1 (a := 1) rfl; have z2 := lv_neT hc1_2 (a := 2) rfl; have z3 := lv_neT hc1_3 (a := 3) rfl; have z4 := lv_neT hc1_4 (a := 4) rfl; have z5 := lv_neT hc1_5 (a := 5) rfl; have z6 := lv_neT hc1_6 (a := 6) rfl; have z7 := lv_neT hc1_7 (a := 7) rfl; have z8 := lv_neT hc1_8 (a := 8) rfl; have z9 := lv_neT hc1_9 (a := 9) rfl; have z10 := lv_neT hc1_10 (a := 10) rfl; omega) rfl hD
def fX9_fareTold (h : Hp) (a0 : Nat) (x1 : Int32) : Option (Int32 × Hp) := gO h 9 a0 (
  (fX9_hasText h a0 1).bind fun q2 =>
  if q2 = 0 then
    (fX9_its h a0 x1 1).bind fun q11 =>
    (fX9_its h a0 x1 4).bind fun q17 =>
    some (q11 + q17, h)
  else
    (getR h 9 a0 11).bind fun r23 =>
    (fX9_its h a0 x1 1).bind fun q31 =>
    (wrI h r23 109 q31).bind fun h34 =>
    (getR h34 9 a0 11).bind fun r36 =>
    (fX9_its h34 a0 x1 4).bind fun q44 =>
    (wrI h34 r36 107 q44).bind fun h47 =>
    (getR h47 9 a0 11).bind fun r49 =>
    (fX9_its h47 a0 x1 2).bind fun q57 =>
    (wrI h47 r49 98 q57).bind fun h60 =>
    (fX9_worked h60 a0 1).bind fun q63 =>
    some (q63.1, q63.2))
set_option maxRecDepth 100000 in
theorem kX9_fareTold {h : Hp} {a0 : Nat} {x1 : Int32} {z : (Int32 × Hp)} (hF : fX9_fareTold h a0 x1 = some z) : Mc yX9_fareTold cX9_fareTold 2 (some .int) 2 0 0 [.ref a0, .int x1] h (some (.int z.1), z.2) := by
  have hF := (gO_some hF).2
  refine Mc_of [some (.ref a0), some (.int x1)] plX9 rfl rfl (Nat.le_of_ble_eq_true rfl) (fun X C => ?_)
  refine J_aload_n (pc := 0) C dX9_fareTold_0 rfl ?_
  refine J_iconst (pc := 1) C dX9_fareTold_1 ic_1 ?_
  refine J_bind hF (fun q2 hq hF => ?_)
  refine J_callV0_ip (pc := 2) (stk := [.int 1, .ref a0]) (st := []) C dX9_fareTold_2 yw_X9_hasText w_MLX9_116 in_X9_hasText sl_X9_hasText ⟨_, rfl, rfl⟩ (kX9_hasText hq) (gO_some hq).1 rfl (by decide) rfl (Nat.le_of_ble_eq_true rfl) ?_
  refine J_if_ne (pc := 5) (tgt := 22) C dX9_fareTold_5 rfl hF (fun hF => ?_) (fun hF => ?_)
  · refine J_aload_n (pc := 8) C dX9_fareTold_8 rfl ?_
    refine J_iload_n (pc := 9) C dX9_fareTold_9 rfl ?_
    refine J_iconst (pc := 10) C dX9_fareTold_10 ic_1 ?_
    refine J_bind hF (fun q11 hq hF => ?_)
    refine J_callV0_ip (pc := 11) (stk := [.int 1, .int x1, .ref a0]) (st := []) C dX9_fareTold_11 yw_X9_its w_MLX9_123 in_X9_its sl_X9_its ⟨_, rfl, rfl⟩ (kX9_its hq) (gO_some hq).1 rfl (by decide) rfl (Nat.le_of_ble_eq_true rfl) ?_
    refine J_aload_n (pc := 14) C dX9_fareTold_14 rfl ?_
    refine J_iload_n (pc := 15) C dX9_fareTold_15 rfl ?_
    refine J_iconst (pc := 16) C dX9_fareTold_16 ic_4 ?_
    refine J_bind hF (fun q17 hq hF => ?_)
    refine J_callV0_ip (pc := 17) (stk := [.int 4, .int x1, .ref a0, .int q11]) (st := [.int q11]) C dX9_fareTold_17 yw_X9_its w_MLX9_123 in_X9_its sl_X9_its ⟨_, rfl, rfl⟩ (kX9_its hq) (gO_some hq).1 rfl (by decide) rfl (Nat.le_of_ble_eq_true rfl) ?_
    refine J_iadd (pc := 20) C dX9_fareTold_20 ?_
    exact J_iret (pc := 21) C dX9_fareTold_21 hF (by decide) (by decide)
  · refine J_aload_n (pc := 22) C dX9_fareTold_22 rfl ?_
    refine J_getR (pc := 23) C dX9_fareTold_23 fg_X9_28 hF (fun r23 hF => ?_)
    refine J_bipush (pc := 26) C dX9_fareTold_26 bc_109 ?_
    refine J_aload_n (pc := 28) C dX9_fareTold_28 rfl ?_
    refine J_iload_n (pc := 29) C dX9_fareTold_29 rfl ?_
    refine J_iconst (pc := 30) C dX9_fareTold_30 ic_1 ?_
    refine J_bind hF (fun q31 hq hF => ?_)
    refine J_callV0_ip (pc := 31) (stk := [.int 1, .int x1, .ref a0, .int 109, .ref r23]) (st := [.int 109, .ref r23]) C dX9_fareTold_31 yw_X9_its w_MLX9_123 in_X9_its sl_X9_its ⟨_, rfl, rfl⟩ (kX9_its hq) (gO_some hq).1 rfl (by decide) rfl (Nat.le_of_ble_eq_true rfl) ?_
    refine J_iast (pc := 34) C dX9_fareTold_34 hF (fun h34 hF => ?_)
    refine J_aload_n (pc := 35) C dX9_fareTold_35 rfl ?_
    refine J_getR (pc := 36) C dX9_fareTold_36 fg_X9_28 hF (fun r36 hF => ?_)
    refine J_bipush (pc := 39) C dX9_fareTold_39 bc_107 ?_
    refine J_aload_n (pc := 41) C dX9_fareTold_41 rfl ?_
    refine J_iload_n (pc := 42) C dX9_fareTold_42 rfl ?_
    refine J_iconst (pc := 43) C dX9_fareTold_43 ic_4 ?_
    refine J_bind hF (fun q44 hq hF => ?_)
    refine J_callV0_ip (pc := 44) (stk := [.int 4, .int x1, .ref a0, .int 107, .ref r36]) (st := [.int 107, .ref r36]) C dX9_fareTold_44 yw_X9_its w_MLX9_123 in_X9_its sl_X9_its ⟨_, rfl, rfl⟩ (kX9_its hq) (gO_some hq).1 rfl (by decide) rfl (Nat.le_of_ble_eq_true rfl) ?_
    refine J_iast (pc := 47) C dX9_fareTold_47 hF (fun h47 hF => ?_)
    refine J_aload_n (pc := 48) C dX9_fareTold_48 rfl ?_
    refine J_getR (pc := 49) C dX9_fareTold_49 fg_X9_28 hF (fun r49 hF => ?_)
    refine J_bipush (pc := 52) C dX9_fareTold_52 bc_98 ?_
    refine J_aload_n (pc := 54) C dX9_fareTold_54 rfl ?_
    refine J_iload_n (pc := 55) C dX9_fareTold_55 rfl ?_
    refine J_iconst (pc := 56) C dX9_fareTold_56 ic_2 ?_
    refine J_bind hF (fun q57 hq hF => ?_)
    refine J_callV0_ip (pc := 57) (stk := [.int 2, .int x1, .ref a0, .int 98, .ref r49]) (st := [.int 98, .ref r49]) C dX9_fareTold_57 yw_X9_its w_MLX9_123 in_X9_its sl_X9_its ⟨_, rfl, rfl⟩ (kX9_its hq) (gO_some hq).1 rfl (by decide) rfl (Nat.le_of_ble_eq_true rfl) ?_
    refine J_iast (pc := 60) C dX9_fareTold_60 hF (fun h60 hF => ?_)
    refine J_aload_n (pc := 61) C dX9_fareTold_61 rfl ?_
    refine J_iconst (pc := 62) C dX9_fareTold_62 ic_1 ?_
    refine J_bind hF (fun q63 hq hF => ?_)
    refine J_callV0_i (pc := 63) (stk := [.int 1, .ref a0]) (st := []) C dX9_fareTold_63 yw_X9_worked w_MLX9_127 in_X9_worked sl_X9_worked ⟨_, rfl, rfl⟩ (kX9_worked hq) (gO_some hq).1 rfl (by decide) rfl (Nat.le_of_ble_eq_true rfl) ?_
    exact J_iret (pc := 66) C dX9_fareTold_66 hF (by decide) (by decide)
def fX9_fare_80 (h : Hp) (x3 : Int32) : Option (Int32 × Hp) :=
  (fX9_held x3 0 99).bind fun q84 =>
  some (q84, h)
set_option maxRecDepth 100000 in
theorem kX9_fare_80 {X : Cx} {z : (Int32 × Hp)} (C : Jc X yX9_fare cX9_fare 4 (some .int) 3 0 0 (some (.int z.1), z.2)) (h : Hp) (x3 : Int32) (hF : fX9_fare_80 h x3 = some z) : J X 0 0 0 0 80 [none, none, none, some (.int x3)] [] h := by
  unfold fX9_fare_80 at hF
  refine J_iload_n (pc := 80) C dX9_fare_80 rfl ?_
  refine J_iconst (pc := 81) C dX9_fare_81 ic_0 ?_
  refine J_bipush (pc := 82) C dX9_fare_82 bc_99 ?_
  refine J_bind hF (fun q84 hq hF => ?_)
  refine J_callS0_ip (pc := 84) (stk := [.int 99, .int 0, .int x3]) (st := []) C dX9_fare_84 yw_X9_held w_MLX9_133 st_X9_held (kX9_held hq) rfl (by decide) rfl (Nat.le_of_ble_eq_true rfl) ?_
  exact J_iret (pc := 87) C dX9_fare_87 hF (by decide) (by decide)
def fX9_fare (h : Hp) (a0 : Nat) (x1 : Int32) : Option (Int32 × Hp) := gO h 9 a0 (
  (fX9_its h a0 x1 1).bind fun q4 =>
  (fX9_its h a0 x1 0).bind fun q14 =>
  if q14 = 2 then
    (dvz (2 + q4) 2).bind fun v54 =>
    fX9_fare_80 h v54
  else
    if q14 = 3 then
      fX9_fare_80 h 1
    else
      if q14 = 4 then
        fX9_fare_80 h ((2 + q4) + 1)
      else
        if q14 = 5 then
          (dvz (2 + q4) 2).bind fun v54 =>
          fX9_fare_80 h v54
        else
          if q14 = 6 then
            (fX9_fareTold h a0 x1).bind fun q73 =>
            fX9_fare_80 q73.2 q73.1
          else
            fX9_fare_80 h (2 + q4))
set_option maxRecDepth 100000 in
theorem kX9_fare {h : Hp} {a0 : Nat} {x1 : Int32} {z : (Int32 × Hp)} (hF : fX9_fare h a0 x1 = some z) : Mc yX9_fare cX9_fare 4 (some .int) 3 0 0 [.ref a0, .int x1] h (some (.int z.1), z.2) := by
  have hF := (gO_some hF).2
  refine Mc_of [some (.ref a0), some (.int x1), none, none] plX9 rfl rfl (Nat.le_of_ble_eq_true rfl) (fun X C => ?_)
  refine J_iconst (pc := 0) C dX9_fare_0 ic_2 ?_
  refine J_aload_n (pc := 1) C dX9_fare_1 rfl ?_
  refine J_iload_n (pc := 2) C dX9_fare_2 rfl ?_
  refine J_iconst (pc := 3) C dX9_fare_3 ic_1 ?_
  refine J_bind hF (fun q4 hq hF => ?_)
  refine J_callV0_ip (pc := 4) (stk := [.int 1, .int x1, .ref a0, .int 2]) (st := [.int 2]) C dX9_fare_4 yw_X9_its w_MLX9_123 in_X9_its sl_X9_its ⟨_, rfl, rfl⟩ (kX9_its hq) (gO_some hq).1 rfl (by decide) rfl (Nat.le_of_ble_eq_true rfl) ?_
  refine J_iadd (pc := 7) C dX9_fare_7 ?_
  refine J_istore_n (pc := 8) (lv' := [some (.ref a0), some (.int x1), some (.int (2 + q4)), none]) C dX9_fare_8 rfl ?_
  refine J_iload_n (pc := 9) C dX9_fare_9 rfl ?_
  refine J_istore_n (pc := 10) (lv' := [some (.ref a0), some (.int x1), some (.int (2 + q4)), some (.int (2 + q4))]) C dX9_fare_10 rfl ?_
  refine J_aload_n (pc := 11) C dX9_fare_11 rfl ?_
  refine J_iload_n (pc := 12) C dX9_fare_12 rfl ?_
  refine J_iconst (pc := 13) C dX9_fare_13 ic_0 ?_
  refine J_bind hF (fun q14 hq hF => ?_)
  refine J_callV0_ip (pc := 14) (stk := [.int 0, .int x1, .ref a0]) (st := []) C dX9_fare_14 yw_X9_its w_MLX9_123 in_X9_its sl_X9_its ⟨_, rfl, rfl⟩ (kX9_its hq) (gO_some hq).1 rfl (by decide) rfl (Nat.le_of_ble_eq_true rfl) ?_
  refine J_br hF (fun hc17_2 hF => ?_) (fun hc17_2 hF => ?_)
  · refine J_tsIn (pc := 17) (tgt := 52) C 2 hc17_2 dX9_fare_17 (by decide) (by decide) rfl rfl ?_
    refine J_iload_n (pc := 52) C dX9_fare_52 rfl ?_
    refine J_iconst (pc := 53) C dX9_fare_53 ic_2 ?_
    refine J_idiv (pc := 54) C dX9_fare_54 hF (fun v54 hF => ?_)
    refine J_istore_n (pc := 55) (lv' := [some (.ref a0), some (.int x1), some (.int (2 + q4)), some (.int v54)]) C dX9_fare_55 rfl ?_
    refine J_goto (pc := 56) (tgt := 80) C dX9_fare_56 rfl ?_
    refine J_msk (m := [false, false, false, true]) rfl ?_
    exact kX9_fare_80 C h v54 hF
  · refine J_br hF (fun hc17_3 hF => ?_) (fun hc17_3 hF => ?_)
    · refine J_tsIn (pc := 17) (tgt := 59) C 3 hc17_3 dX9_fare_17 (by decide) (by decide) rfl rfl ?_
      refine J_iconst (pc := 59) C dX9_fare_59 ic_1 ?_
      refine J_istore_n (pc := 60) (lv' := [some (.ref a0), some (.int x1), some (.int (2 + q4)), some (.int 1)]) C dX9_fare_60 rfl ?_
      refine J_goto (pc := 61) (tgt := 80) C dX9_fare_61 rfl ?_
      refine J_msk (m := [false, false, false, true]) rfl ?_
      exact kX9_fare_80 C h 1 hF
    · refine J_br hF (fun hc17_4 hF => ?_) (fun hc17_4 hF => ?_)
      · refine J_tsIn (pc := 17) (tgt := 64) C 4 hc17_4 dX9_fare_17 (by decide) (by decide) rfl rfl ?_
        refine J_iload_n (pc := 64) C dX9_fare_64 rfl ?_
        refine J_iconst (pc := 65) C dX9_fare_65 ic_1 ?_
        refine J_iadd (pc := 66) C dX9_fare_66 ?_
        refine J_istore_n (pc := 67) (lv' := [some (.ref a0), some (.int x1), some (.int (2 + q4)), some (.int ((2 + q4) + 1))]) C dX9_fare_67 rfl ?_
        refine J_goto (pc := 68) (tgt := 80) C dX9_fare_68 rfl ?_
        refine J_msk (m := [false, false, false, true]) rfl ?_
        exact kX9_fare_80 C h ((2 + q4) + 1) hF
      · refine J_br hF (fun hc17_5 hF => ?_) (fun hc17_5 hF => ?_)
        · refine J_tsIn (pc := 17) (tgt := 52) C 5 hc17_5 dX9_fare_17 (by decide) (by decide) rfl rfl ?_
          refine J_iload_n (pc := 52) C dX9_fare_52 rfl ?_
          refine J_iconst (pc := 53) C dX9_fare_53 ic_2 ?_
          refine J_idiv (pc := 54) C dX9_fare_54 hF (fun v54 hF => ?_)
          refine J_istore_n (pc := 55) (lv' := [some (.ref a0), some (.int x1), some (.int (2 + q4)), some (.int v54)]) C dX9_fare_55 rfl ?_
          refine J_goto (pc := 56) (tgt := 80) C dX9_fare_56 rfl ?_
          refine J_msk (m := [false, false, false, true]) rfl ?_
          exact kX9_fare_80 C h v54 hF
        · refine J_br hF (fun hc17_6 hF => ?_) (fun hc17_6 hF => ?_)
          · refine J_tsIn (pc := 17) (tgt := 71) C 6 hc17_6 dX9_fare_17 (by decide) (by decide) rfl rfl ?_
            refine J_aload_n (pc := 71) C dX9_fare_71 rfl ?_
            refine J_iload_n (pc := 72) C dX9_fare_72 rfl ?_
            refine J_bind hF (fun q73 hq hF => ?_)
            refine J_callV0_i (pc := 73) (stk := [.int x1, .ref a0]) (st := []) C dX9_fare_73 yw_X9_fareTold w_MLX9_136 in_X9_fareTold sl_X9_fareTold ⟨_, rfl, rfl⟩ (kX9_fareTold hq) (gO_some hq).1 rfl (by decide) rfl (Nat.le_of_ble_eq_true rfl) ?_
            refine J_istore_n (pc := 76) (lv' := [some (.ref a0), some (.int x1), some (.int (2 + q4)), some (.int q73.1)]) C dX9_fare_76 rfl ?_
            refine J_goto (pc := 77) (tgt := 80) C dX9_fare_77 rfl ?_
            refine J_msk (m := [false, false, false, true]) rfl ?_
            exact kX9_fare_80 C q73.2 q73.1 hF
          · have hD : J X 0 0 0 0 80 [some (.ref a0), some (.int x1), some (.int (2 + q4)), some (.int (2 + q4))] [] h := by
              refine J_msk (m := [false, false, false, true]) rfl ?_
              exact kX9_fare_80 C h (2 + q4) hF
            refine J_tsOut (pc := 17) (tgt := 80) C dX9_fare_17 (by have z0 := lv_neT hc17_2 (a := 2) rfl; have z1 := lv_neT hc17_3 (a := 3) rfl; have z2 := lv_neT hc17_4 (a := 4) rfl; have z3 := lv_neT hc17_5 (a := 5) rfl; have z4 := lv_neT hc17_6 (a := 6) rfl; omega) rfl hD
