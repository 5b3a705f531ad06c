def fX9_crosses_216 : Nat → Hp → Nat → Int32 → Int32 → Int32 → Int32 → Option (Int32 × Hp)
  | 0, _, _, _, _, _, _ => none
  | n216 + 1, h, a0, x1, x2, x5, x6 =>
    if x6 ≤ 0 then
      (getR h 9 a0 0).bind fun r250 =>
      (wrI h r250 100 ((10 * x1) + x2)).bind fun h261 =>
      (getR h261 9 a0 0).bind fun r263 =>
      (getR h261 9 a0 0).bind fun r268 =>
      (rdI h261 r268 4).bind fun v272 =>
      (fX9_held (v272 + 1) 0 24).bind fun q278 =>
      (wrI h261 r263 4 q278).bind fun h281 =>
      (getR h281 9 a0 0).bind fun r283 =>
      (rdI h281 r283 2).bind fun v288 =>
      (wrI h281 r283 2 (v288 + 1)).bind fun h291 =>
      some (x5, h291)
    else
      (getR h 9 a0 0).bind fun r222 =>
      (getR h 9 a0 0).bind fun r231 =>
      (rdI h r231 ((100 + x6) - 1)).bind fun v241 =>
      (wrI h r222 (100 + x6) v241).bind fun h242 =>
      fX9_crosses_216 n216 h242 a0 x1 x2 x5 (x6 + (-1))
set_option maxRecDepth 100000 in
theorem kX9_crosses_216 {X : Cx} {z : (Int32 × Hp)} (C : Jc X yX9_crosses cX9_crosses 7 (some .int) 5 0 0 (some (.int z.1), z.2)) : ∀ (n216 : Nat) (h : Hp) (a0 : Nat) (x1 : Int32) (x2 : Int32) (x5 : Int32) (x6 : Int32), fX9_crosses_216 n216 h a0 x1 x2 x5 x6 = some z → J X 0 0 0 0 216 [some (.ref a0), some (.int x1), some (.int x2), none, none, some (.int x5), some (.int x6)] [] h := by
  intro n216
  induction n216 with
  | zero => intro h a0 x1 x2 x5 x6 hF; cases hF
  | succ n216 ih =>
    intro h a0 x1 x2 x5 x6 hF
    rw [fX9_crosses_216] at hF
    refine J_iload (pc := 216) C dX9_crosses_216 rfl ?_
    refine J_if_le (pc := 218) (tgt := 249) C dX9_crosses_218 rfl hF (fun hF => ?_) (fun hF => ?_)
    · refine J_aload_n (pc := 249) C dX9_crosses_249 rfl ?_
      refine J_getR (pc := 250) C dX9_crosses_250 fg_X9_7 hF (fun r250 hF => ?_)
      refine J_bipush (pc := 253) C dX9_crosses_253 bc_100 ?_
      refine J_bipush (pc := 255) C dX9_crosses_255 bc_10 ?_
      refine J_iload_n (pc := 257) C dX9_crosses_257 rfl ?_
      refine J_imul (pc := 258) C dX9_crosses_258 ?_
      refine J_iload_n (pc := 259) C dX9_crosses_259 rfl ?_
      refine J_iadd (pc := 260) C dX9_crosses_260 ?_
      refine J_iast (pc := 261) C dX9_crosses_261 hF (fun h261 hF => ?_)
      refine J_aload_n (pc := 262) C dX9_crosses_262 rfl ?_
      refine J_getR (pc := 263) C dX9_crosses_263 fg_X9_7 hF (fun r263 hF => ?_)
      refine J_iconst (pc := 266) C dX9_crosses_266 ic_4 ?_
      refine J_aload_n (pc := 267) C dX9_crosses_267 rfl ?_
      refine J_getR (pc := 268) C dX9_crosses_268 fg_X9_7 hF (fun r268 hF => ?_)
      refine J_iconst (pc := 271) C dX9_crosses_271 ic_4 ?_
      refine J_iald (pc := 272) C dX9_crosses_272 hF (fun v272 hF => ?_)
      refine J_iconst (pc := 273) C dX9_crosses_273 ic_1 ?_
      refine J_iadd (pc := 274) C dX9_crosses_274 ?_
      refine J_iconst (pc := 275) C dX9_crosses_275 ic_0 ?_
      refine J_bipush (pc := 276) C dX9_crosses_276 bc_24 ?_
      refine J_bind hF (fun q278 hq hF => ?_)
      refine J_callS0_ip (pc := 278) (stk := [.int 24, .int 0, .int (v272 + 1), .int 4, .ref r263]) (st := [.int 4, .ref r263]) C dX9_crosses_278 yw_X9_held w_MLX9_133 st_X9_held (kX9_held hq) rfl (by decide) rfl (Nat.le_of_ble_eq_true rfl) ?_
      refine J_iast (pc := 281) C dX9_crosses_281 hF (fun h281 hF => ?_)
      refine J_aload_n (pc := 282) C dX9_crosses_282 rfl ?_
      refine J_getR (pc := 283) C dX9_crosses_283 fg_X9_7 hF (fun r283 hF => ?_)
      refine J_iconst (pc := 286) C dX9_crosses_286 ic_2 ?_
      refine J_dup2 (pc := 287) C dX9_crosses_287 rfl rfl ?_
      refine J_iald (pc := 288) C dX9_crosses_288 hF (fun v288 hF => ?_)
      refine J_iconst (pc := 289) C dX9_crosses_289 ic_1 ?_
      refine J_iadd (pc := 290) C dX9_crosses_290 ?_
      refine J_iast (pc := 291) C dX9_crosses_291 hF (fun h291 hF => ?_)
      refine J_iload (pc := 292) C dX9_crosses_292 rfl ?_
      exact J_iret (pc := 294) C dX9_crosses_294 hF (by decide) (by decide)
    · refine J_aload_n (pc := 221) C dX9_crosses_221 rfl ?_
      refine J_getR (pc := 222) C dX9_crosses_222 fg_X9_7 hF (fun r222 hF => ?_)
      refine J_bipush (pc := 225) C dX9_crosses_225 bc_100 ?_
      refine J_iload (pc := 227) C dX9_crosses_227 rfl ?_
      refine J_iadd (pc := 229) C dX9_crosses_229 ?_
      refine J_aload_n (pc := 230) C dX9_crosses_230 rfl ?_
      refine J_getR (pc := 231) C dX9_crosses_231 fg_X9_7 hF (fun r231 hF => ?_)
      refine J_bipush (pc := 234) C dX9_crosses_234 bc_100 ?_
      refine J_iload (pc := 236) C dX9_crosses_236 rfl ?_
      refine J_iadd (pc := 238) C dX9_crosses_238 ?_
      refine J_iconst (pc := 239) C dX9_crosses_239 ic_1 ?_
      refine J_isub (pc := 240) C dX9_crosses_240 ?_
      refine J_iald (pc := 241) C dX9_crosses_241 hF (fun v241 hF => ?_)
      refine J_iast (pc := 242) C dX9_crosses_242 hF (fun h242 hF => ?_)
      refine J_iinc (pc := 243) (lv' := [some (.ref a0), some (.int x1), some (.int x2), none, none, some (.int x5), some (.int (x6 + (-1)))]) C dX9_crosses_243 rfl ic_m1 rfl ?_
      refine J_goto (pc := 246) (tgt := 216) C dX9_crosses_246 rfl ?_
      exact ih h242 a0 x1 x2 x5 (x6 + (-1)) hF
def fX9_crosses_156 : Nat → Hp → Nat → Int32 → Int32 → Int32 → Int32 → Option (Int32 × Hp)
  | 0, _, _, _, _, _, _ => none
  | n156 + 1, h, a0, x1, x2, x5, x6 =>
    (getR h 9 a0 0).bind fun r159 =>
    (rdI h r159 1).bind fun v163 =>
    if v163 ≤ x6 then
      fX9_crosses_216 1000 h a0 x1 x2 x5 23
    else
      (fX9_its h a0 x1 0).bind fun q170 =>
      if q170 = 4 then
        if x6 = x1 then
          fX9_crosses_156 n156 h a0 x1 x2 x5 (x6 + 1)
        else
          (fX9_its h a0 x6 2).bind fun q187 =>
          (fX9_its h a0 x1 2).bind fun q193 =>
          if q187 = q193 then
            (fX9_comes h a0 x6 x2).bind fun q203 =>
            fX9_crosses_156 n156 q203 a0 x1 x2 x5 (x6 + 1)
          else
            fX9_crosses_156 n156 h a0 x1 x2 x5 (x6 + 1)
      else
        fX9_crosses_216 1000 h a0 x1 x2 x5 23
set_option maxRecDepth 100000 in
theorem kX9_crosses_156 {X : Cx} {z : (Int32 × Hp)} (C : Jc X yX9_crosses cX9_crosses 7 (some .int) 5 0 0 (some (.int z.1), z.2)) : ∀ (n156 : Nat) (h : Hp) (a0 : Nat) (x1 : Int32) (x2 : Int32) (x5 : Int32) (x6 : Int32), fX9_crosses_156 n156 h a0 x1 x2 x5 x6 = some z → J X 0 0 0 0 156 [some (.ref a0), some (.int x1), some (.int x2), none, none, some (.int x5), some (.int x6)] [] h := by
  intro n156
  induction n156 with
  | zero => intro h a0 x1 x2 x5 x6 hF; cases hF
  | succ n156 ih =>
    intro h a0 x1 x2 x5 x6 hF
    rw [fX9_crosses_156] at hF
    refine J_iload (pc := 156) C dX9_crosses_156 rfl ?_
    refine J_aload_n (pc := 158) C dX9_crosses_158 rfl ?_
    refine J_getR (pc := 159) C dX9_crosses_159 fg_X9_7 hF (fun r159 hF => ?_)
    refine J_iconst (pc := 162) C dX9_crosses_162 ic_1 ?_
    refine J_iald (pc := 163) C dX9_crosses_163 hF (fun v163 hF => ?_)
    refine J_icmp_ge (pc := 164) (tgt := 212) C dX9_crosses_164 rfl hF (fun hF => ?_) (fun hF => ?_)
    · refine J_bipush (pc := 212) C dX9_crosses_212 bc_23 ?_
      refine J_istore (pc := 214) (lv' := [some (.ref a0), some (.int x1), some (.int x2), none, none, some (.int x5), some (.int 23)]) C dX9_crosses_214 rfl ?_
      exact kX9_crosses_216 C 1000 h a0 x1 x2 x5 23 hF
    · refine J_aload_n (pc := 167) C dX9_crosses_167 rfl ?_
      refine J_iload_n (pc := 168) C dX9_crosses_168 rfl ?_
      refine J_iconst (pc := 169) C dX9_crosses_169 ic_0 ?_
      refine J_bind hF (fun q170 hq hF => ?_)
      refine J_callV0_ip (pc := 170) (stk := [.int 0, .int x1, .ref a0]) (st := []) C dX9_crosses_170 yw_X9_its w_MLX9_123 in_X9_its sl_X9_its ⟨_, rfl, rfl⟩ (kX9_its hq) (gO_some hq).1 rfl (by decide) rfl (Nat.le_of_ble_eq_true rfl) ?_
      refine J_iconst (pc := 173) C dX9_crosses_173 ic_4 ?_
      refine J_icmp_ne (pc := 174) (tgt := 212) C dX9_crosses_174 rfl hF (fun hF => ?_) (fun hF => ?_)
      · refine J_iload (pc := 177) C dX9_crosses_177 rfl ?_
        refine J_iload_n (pc := 179) C dX9_crosses_179 rfl ?_
        refine J_icmp_eq (pc := 180) (tgt := 206) C dX9_crosses_180 rfl hF (fun hF => ?_) (fun hF => ?_)
        · refine J_iinc (pc := 206) (lv' := [some (.ref a0), some (.int x1), some (.int x2), none, none, some (.int x5), some (.int (x6 + 1))]) C dX9_crosses_206 rfl ic_1 rfl ?_
          refine J_goto (pc := 209) (tgt := 156) C dX9_crosses_209 rfl ?_
          exact ih h a0 x1 x2 x5 (x6 + 1) hF
        · refine J_aload_n (pc := 183) C dX9_crosses_183 rfl ?_
          refine J_iload (pc := 184) C dX9_crosses_184 rfl ?_
          refine J_iconst (pc := 186) C dX9_crosses_186 ic_2 ?_
          refine J_bind hF (fun q187 hq hF => ?_)
          refine J_callV0_ip (pc := 187) (stk := [.int 2, .int x6, .ref a0]) (st := []) C dX9_crosses_187 yw_X9_its w_MLX9_123 in_X9_its sl_X9_its ⟨_, rfl, rfl⟩ (kX9_its hq) (gO_some hq).1 rfl (by decide) rfl (Nat.le_of_ble_eq_true rfl) ?_
          refine J_aload_n (pc := 190) C dX9_crosses_190 rfl ?_
          refine J_iload_n (pc := 191) C dX9_crosses_191 rfl ?_
          refine J_iconst (pc := 192) C dX9_crosses_192 ic_2 ?_
          refine J_bind hF (fun q193 hq hF => ?_)
          refine J_callV0_ip (pc := 193) (stk := [.int 2, .int x1, .ref a0, .int q187]) (st := [.int q187]) C dX9_crosses_193 yw_X9_its w_MLX9_123 in_X9_its sl_X9_its ⟨_, rfl, rfl⟩ (kX9_its hq) (gO_some hq).1 rfl (by decide) rfl (Nat.le_of_ble_eq_true rfl) ?_
          refine J_icmp_ne (pc := 196) (tgt := 206) C dX9_crosses_196 rfl hF (fun hF => ?_) (fun hF => ?_)
          · refine J_aload_n (pc := 199) C dX9_crosses_199 rfl ?_
            refine J_iload (pc := 200) C dX9_crosses_200 rfl ?_
            refine J_iload_n (pc := 202) C dX9_crosses_202 rfl ?_
            refine J_bind hF (fun q203 hq hF => ?_)
            refine J_callV0_v (pc := 203) (stk := [.int x2, .int x6, .ref a0]) (st := []) C dX9_crosses_203 yw_X9_comes w_MLX9_178 in_X9_comes sl_X9_comes ⟨_, rfl, rfl⟩ (kX9_comes hq) (gO_some hq).1 rfl (by decide) rfl (Nat.le_of_ble_eq_true rfl) ?_
            refine J_iinc (pc := 206) (lv' := [some (.ref a0), some (.int x1), some (.int x2), none, none, some (.int x5), some (.int (x6 + 1))]) C dX9_crosses_206 rfl ic_1 rfl ?_
            refine J_goto (pc := 209) (tgt := 156) C dX9_crosses_209 rfl ?_
            exact ih q203 a0 x1 x2 x5 (x6 + 1) hF
          · refine J_iinc (pc := 206) (lv' := [some (.ref a0), some (.int x1), some (.int x2), none, none, some (.int x5), some (.int (x6 + 1))]) C dX9_crosses_206 rfl ic_1 rfl ?_
            refine J_goto (pc := 209) (tgt := 156) C dX9_crosses_209 rfl ?_
            exact ih h a0 x1 x2 x5 (x6 + 1) hF
      · refine J_bipush (pc := 212) C dX9_crosses_212 bc_23 ?_
        refine J_istore (pc := 214) (lv' := [some (.ref a0), some (.int x1), some (.int x2), none, none, some (.int x5), some (.int 23)]) C dX9_crosses_214 rfl ?_
        exact kX9_crosses_216 C 1000 h a0 x1 x2 x5 23 hF
def fX9_crosses_147 (h : Hp) (a0 : Nat) (x1 : Int32) (x2 : Int32) (x5 : Int32) : Option (Int32 × Hp) :=
  (fX9_comes h a0 x1 x2).bind fun q150 =>
  fX9_crosses_156 1000 q150 a0 x1 x2 x5 0
set_option maxRecDepth 100000 in
theorem kX9_crosses_147 {X : Cx} {z : (Int32 × Hp)} (C : Jc X yX9_crosses cX9_crosses 7 (some .int) 5 0 0 (some (.int z.1), z.2)) (h : Hp) (a0 : Nat) (x1 : Int32) (x2 : Int32) (x5 : Int32) (hF : fX9_crosses_147 h a0 x1 x2 x5 = some z) : J X 0 0 0 0 147 [some (.ref a0), some (.int x1), some (.int x2), none, none, some (.int x5), none] [] h := by
  unfold fX9_crosses_147 at hF
  refine J_aload_n (pc := 147) C dX9_crosses_147 rfl ?_
  refine J_iload_n (pc := 148) C dX9_crosses_148 rfl ?_
  refine J_iload_n (pc := 149) C dX9_crosses_149 rfl ?_
  refine J_bind hF (fun q150 hq hF => ?_)
  refine J_callV0_v (pc := 150) (stk := [.int x2, .int x1, .ref a0]) (st := []) C dX9_crosses_150 yw_X9_comes w_MLX9_178 in_X9_comes sl_X9_comes ⟨_, rfl, rfl⟩ (kX9_comes hq) (gO_some hq).1 rfl (by decide) rfl (Nat.le_of_ble_eq_true rfl) ?_
  refine J_iconst (pc := 153) C dX9_crosses_153 ic_0 ?_
  refine J_istore (pc := 154) (lv' := [some (.ref a0), some (.int x1), some (.int x2), none, none, some (.int x5), some (.int 0)]) C dX9_crosses_154 rfl ?_
  exact kX9_crosses_156 C 1000 q150 a0 x1 x2 x5 0 hF
def fX9_crosses_44 (h : Hp) (a0 : Nat) (x1 : Int32) (x2 : Int32) (x4 : Int32) (y0 : Int32) : Option (Int32 × Hp) :=
  (getR h 9 a0 0).bind fun r47 =>
  (rdI h r47 ((8 + (2 * x2)) + 1)).bind fun v59 =>
  (wrI h r47 ((8 + (2 * x2)) + 1) (v59 - y0)).bind fun h63 =>
  (fX9_its h63 a0 x1 3).bind fun q70 =>
  (fX9_held (q70 + y0) 0 999999).bind fun q79 =>
  (fX9_lays1 h63 a0 x1 3 q79).bind fun q82 =>
  (getR q82 9 a0 0).bind fun r86 =>
  (fX9_of q82 a0 x2 0).bind fun q99 =>
  (wrI q82 r86 (8 + (2 * x2)) (1 - q99)).bind fun h103 =>
  (fX9_of h103 a0 x2 0).bind fun q110 =>
  (fX9_lays1 h103 a0 x1 2 q110).bind fun q113 =>
  (fX9_its q113 a0 x1 0).bind fun q119 =>
  if q119 = 5 then
    if x4 ≤ 0 then
      fX9_crosses_147 q113 a0 x1 x2 y0
    else
      if y0 = x4 then
        (fX9_forgets q113 a0 x1 x2).bind fun q141 =>
        fX9_crosses_156 1000 q141 a0 x1 x2 y0 0
      else
        fX9_crosses_147 q113 a0 x1 x2 y0
  else
    fX9_crosses_147 q113 a0 x1 x2 y0
set_option maxRecDepth 100000 in
theorem kX9_crosses_44 {X : Cx} {z : (Int32 × Hp)} (C : Jc X yX9_crosses cX9_crosses 7 (some .int) 5 0 0 (some (.int z.1), z.2)) (h : Hp) (a0 : Nat) (x1 : Int32) (x2 : Int32) (x4 : Int32) (y0 : Int32) (hF : fX9_crosses_44 h a0 x1 x2 x4 y0 = some z) : J X 0 0 0 0 44 [some (.ref a0), some (.int x1), some (.int x2), none, some (.int x4), none, none] [.int y0] h := by
  unfold fX9_crosses_44 at hF
  refine J_istore (pc := 44) (lv' := [some (.ref a0), some (.int x1), some (.int x2), none, some (.int x4), some (.int y0), none]) C dX9_crosses_44 rfl ?_
  refine J_aload_n (pc := 46) C dX9_crosses_46 rfl ?_
  refine J_getR (pc := 47) C dX9_crosses_47 fg_X9_7 hF (fun r47 hF => ?_)
  refine J_bipush (pc := 50) C dX9_crosses_50 bc_8 ?_
  refine J_iconst (pc := 52) C dX9_crosses_52 ic_2 ?_
  refine J_iload_n (pc := 53) C dX9_crosses_53 rfl ?_
  refine J_imul (pc := 54) C dX9_crosses_54 ?_
  refine J_iadd (pc := 55) C dX9_crosses_55 ?_
  refine J_iconst (pc := 56) C dX9_crosses_56 ic_1 ?_
  refine J_iadd (pc := 57) C dX9_crosses_57 ?_
  refine J_dup2 (pc := 58) C dX9_crosses_58 rfl rfl ?_
  refine J_iald (pc := 59) C dX9_crosses_59 hF (fun v59 hF => ?_)
  refine J_iload (pc := 60) C dX9_crosses_60 rfl ?_
  refine J_isub (pc := 62) C dX9_crosses_62 ?_
  refine J_iast (pc := 63) C dX9_crosses_63 hF (fun h63 hF => ?_)
  refine J_aload_n (pc := 64) C dX9_crosses_64 rfl ?_
  refine J_iload_n (pc := 65) C dX9_crosses_65 rfl ?_
  refine J_iconst (pc := 66) C dX9_crosses_66 ic_3 ?_
  refine J_aload_n (pc := 67) C dX9_crosses_67 rfl ?_
  refine J_iload_n (pc := 68) C dX9_crosses_68 rfl ?_
  refine J_iconst (pc := 69) C dX9_crosses_69 ic_3 ?_
  refine J_bind hF (fun q70 hq hF => ?_)
  refine J_callV0_ip (pc := 70) (stk := [.int 3, .int x1, .ref a0, .int 3, .int x1, .ref a0]) (st := [.int 3, .int x1, .ref a0]) C dX9_crosses_70 yw_X9_its w_MLX9_123 in_X9_its sl_X9_its ⟨_, rfl, rfl⟩ (kX9_its hq) (gO_some hq).1 rfl (by decide) rfl (Nat.le_of_ble_eq_true rfl) ?_
  refine J_iload (pc := 73) C dX9_crosses_73 rfl ?_
  refine J_iadd (pc := 75) C dX9_crosses_75 ?_
  refine J_iconst (pc := 76) C dX9_crosses_76 ic_0 ?_
  refine J_ldc (pc := 77) C dX9_crosses_77 w_KX9_177 ?_
  refine J_bind hF (fun q79 hq hF => ?_)
  refine J_callS0_ip (pc := 79) (stk := [.int 999999, .int 0, .int (q70 + y0), .int 3, .int x1, .ref a0]) (st := [.int 3, .int x1, .ref a0]) C dX9_crosses_79 yw_X9_held w_MLX9_133 st_X9_held (kX9_held hq) rfl (by decide) rfl (Nat.le_of_ble_eq_true rfl) ?_
  refine J_bind hF (fun q82 hq hF => ?_)
  refine J_callV0_v (pc := 82) (stk := [.int q79, .int 3, .int x1, .ref a0]) (st := []) C dX9_crosses_82 yw_X9_lays1 w_MLX9_142 in_X9_lays1 sl_X9_lays1 ⟨_, rfl, rfl⟩ (kX9_lays1 hq) (gO_some hq).1 rfl (by decide) rfl (Nat.le_of_ble_eq_true rfl) ?_
  refine J_aload_n (pc := 85) C dX9_crosses_85 rfl ?_
  refine J_getR (pc := 86) C dX9_crosses_86 fg_X9_7 hF (fun r86 hF => ?_)
  refine J_bipush (pc := 89) C dX9_crosses_89 bc_8 ?_
  refine J_iconst (pc := 91) C dX9_crosses_91 ic_2 ?_
  refine J_iload_n (pc := 92) C dX9_crosses_92 rfl ?_
  refine J_imul (pc := 93) C dX9_crosses_93 ?_
  refine J_iadd (pc := 94) C dX9_crosses_94 ?_
  refine J_iconst (pc := 95) C dX9_crosses_95 ic_1 ?_
  refine J_aload_n (pc := 96) C dX9_crosses_96 rfl ?_
  refine J_iload_n (pc := 97) C dX9_crosses_97 rfl ?_
  refine J_iconst (pc := 98) C dX9_crosses_98 ic_0 ?_
  refine J_bind hF (fun q99 hq hF => ?_)
  refine J_callV0_ip (pc := 99) (stk := [.int 0, .int x2, .ref a0, .int 1, .int (8 + (2 * x2)), .ref r86]) (st := [.int 1, .int (8 + (2 * x2)), .ref r86]) C dX9_crosses_99 yw_X9_of w_MLX9_162 in_X9_of sl_X9_of ⟨_, rfl, rfl⟩ (kX9_of hq) (gO_some hq).1 rfl (by decide) rfl (Nat.le_of_ble_eq_true rfl) ?_
  refine J_isub (pc := 102) C dX9_crosses_102 ?_
  refine J_iast (pc := 103) C dX9_crosses_103 hF (fun h103 hF => ?_)
  refine J_aload_n (pc := 104) C dX9_crosses_104 rfl ?_
  refine J_iload_n (pc := 105) C dX9_crosses_105 rfl ?_
  refine J_iconst (pc := 106) C dX9_crosses_106 ic_2 ?_
  refine J_aload_n (pc := 107) C dX9_crosses_107 rfl ?_
  refine J_iload_n (pc := 108) C dX9_crosses_108 rfl ?_
  refine J_iconst (pc := 109) C dX9_crosses_109 ic_0 ?_
  refine J_bind hF (fun q110 hq hF => ?_)
  refine J_callV0_ip (pc := 110) (stk := [.int 0, .int x2, .ref a0, .int 2, .int x1, .ref a0]) (st := [.int 2, .int x1, .ref a0]) C dX9_crosses_110 yw_X9_of w_MLX9_162 in_X9_of sl_X9_of ⟨_, rfl, rfl⟩ (kX9_of hq) (gO_some hq).1 rfl (by decide) rfl (Nat.le_of_ble_eq_true rfl) ?_
  refine J_bind hF (fun q113 hq hF => ?_)
  refine J_callV0_v (pc := 113) (stk := [.int q110, .int 2, .int x1, .ref a0]) (st := []) C dX9_crosses_113 yw_X9_lays1 w_MLX9_142 in_X9_lays1 sl_X9_lays1 ⟨_, rfl, rfl⟩ (kX9_lays1 hq) (gO_some hq).1 rfl (by decide) rfl (Nat.le_of_ble_eq_true rfl) ?_
  refine J_aload_n (pc := 116) C dX9_crosses_116 rfl ?_
  refine J_iload_n (pc := 117) C dX9_crosses_117 rfl ?_
  refine J_iconst (pc := 118) C dX9_crosses_118 ic_0 ?_
  refine J_bind hF (fun q119 hq hF => ?_)
  refine J_callV0_ip (pc := 119) (stk := [.int 0, .int x1, .ref a0]) (st := []) C dX9_crosses_119 yw_X9_its w_MLX9_123 in_X9_its sl_X9_its ⟨_, rfl, rfl⟩ (kX9_its hq) (gO_some hq).1 rfl (by decide) rfl (Nat.le_of_ble_eq_true rfl) ?_
  refine J_iconst (pc := 122) C dX9_crosses_122 ic_5 ?_
  refine J_icmp_ne (pc := 123) (tgt := 147) C dX9_crosses_123 rfl hF (fun hF => ?_) (fun hF => ?_)
  · refine J_iload (pc := 126) C dX9_crosses_126 rfl ?_
    refine J_if_le (pc := 128) (tgt := 147) C dX9_crosses_128 rfl hF (fun hF => ?_) (fun hF => ?_)
    · refine J_msk (m := [true, true, true, false, false, true, false]) rfl ?_
      exact kX9_crosses_147 C q113 a0 x1 x2 y0 hF
    · refine J_iload (pc := 131) C dX9_crosses_131 rfl ?_
      refine J_iload (pc := 133) C dX9_crosses_133 rfl ?_
      refine J_icmp_ne (pc := 135) (tgt := 147) C dX9_crosses_135 rfl hF (fun hF => ?_) (fun hF => ?_)
      · refine J_aload_n (pc := 138) C dX9_crosses_138 rfl ?_
        refine J_iload_n (pc := 139) C dX9_crosses_139 rfl ?_
        refine J_iload_n (pc := 140) C dX9_crosses_140 rfl ?_
        refine J_bind hF (fun q141 hq hF => ?_)
        refine J_callV0_v (pc := 141) (stk := [.int x2, .int x1, .ref a0]) (st := []) C dX9_crosses_141 yw_X9_forgets w_MLX9_149 in_X9_forgets sl_X9_forgets ⟨_, rfl, rfl⟩ (kX9_forgets hq) (gO_some hq).1 rfl (by decide) rfl (Nat.le_of_ble_eq_true rfl) ?_
        refine J_goto (pc := 144) (tgt := 153) C dX9_crosses_144 rfl ?_
        refine J_iconst (pc := 153) C dX9_crosses_153 ic_0 ?_
        refine J_istore (pc := 154) (lv' := [some (.ref a0), some (.int x1), some (.int x2), none, some (.int x4), some (.int y0), some (.int 0)]) C dX9_crosses_154 rfl ?_
        refine J_msk (m := [true, true, true, false, false, true, true]) rfl ?_
        exact kX9_crosses_156 C 1000 q141 a0 x1 x2 y0 0 hF
      · refine J_msk (m := [true, true, true, false, false, true, false]) rfl ?_
        exact kX9_crosses_147 C q113 a0 x1 x2 y0 hF
  · refine J_msk (m := [true, true, true, false, false, true, false]) rfl ?_
    exact kX9_crosses_147 C q113 a0 x1 x2 y0 hF
def fX9_crosses_20 (h : Hp) (a0 : Nat) (x1 : Int32) (x2 : Int32) (y0 : Int32) : Option (Int32 × Hp) :=
  (fX9_of h a0 x2 1).bind fun q25 =>
  if y0 ≤ q25 then
    fX9_crosses_44 h a0 x1 x2 y0 y0
  else
    (fX9_of h a0 x2 1).bind fun q36 =>
    fX9_crosses_44 h a0 x1 x2 y0 q36
set_option maxRecDepth 100000 in
theorem kX9_crosses_20 {X : Cx} {z : (Int32 × Hp)} (C : Jc X yX9_crosses cX9_crosses 7 (some .int) 5 0 0 (some (.int z.1), z.2)) (h : Hp) (a0 : Nat) (x1 : Int32) (x2 : Int32) (y0 : Int32) (hF : fX9_crosses_20 h a0 x1 x2 y0 = some z) : J X 0 0 0 0 20 [some (.ref a0), some (.int x1), some (.int x2), none, none, none, none] [.int y0] h := by
  unfold fX9_crosses_20 at hF
  refine J_istore (pc := 20) (lv' := [some (.ref a0), some (.int x1), some (.int x2), none, some (.int y0), none, none]) C dX9_crosses_20 rfl ?_
  refine J_aload_n (pc := 22) C dX9_crosses_22 rfl ?_
  refine J_iload_n (pc := 23) C dX9_crosses_23 rfl ?_
  refine J_iconst (pc := 24) C dX9_crosses_24 ic_1 ?_
  refine J_bind hF (fun q25 hq hF => ?_)
  refine J_callV0_ip (pc := 25) (stk := [.int 1, .int x2, .ref a0]) (st := []) C dX9_crosses_25 yw_X9_of w_MLX9_162 in_X9_of sl_X9_of ⟨_, rfl, rfl⟩ (kX9_of hq) (gO_some hq).1 rfl (by decide) rfl (Nat.le_of_ble_eq_true rfl) ?_
  refine J_iload (pc := 28) C dX9_crosses_28 rfl ?_
  refine J_icmp_ge (pc := 30) (tgt := 42) C dX9_crosses_30 rfl hF (fun hF => ?_) (fun hF => ?_)
  · refine J_iload (pc := 42) C dX9_crosses_42 rfl ?_
    exact kX9_crosses_44 C h a0 x1 x2 y0 y0 hF
  · refine J_aload_n (pc := 33) C dX9_crosses_33 rfl ?_
    refine J_iload_n (pc := 34) C dX9_crosses_34 rfl ?_
    refine J_iconst (pc := 35) C dX9_crosses_35 ic_1 ?_
    refine J_bind hF (fun q36 hq hF => ?_)
    refine J_callV0_ip (pc := 36) (stk := [.int 1, .int x2, .ref a0]) (st := []) C dX9_crosses_36 yw_X9_of w_MLX9_162 in_X9_of sl_X9_of ⟨_, rfl, rfl⟩ (kX9_of hq) (gO_some hq).1 rfl (by decide) rfl (Nat.le_of_ble_eq_true rfl) ?_
    refine J_goto (pc := 39) (tgt := 44) C dX9_crosses_39 rfl ?_
    exact kX9_crosses_44 C h a0 x1 x2 y0 q36 hF
def fX9_crosses (h : Hp) (a0 : Nat) (x1 : Int32) (x2 : Int32) : Option (Int32 × Hp) := gO h 9 a0 (
  (fX9_knows h a0 x1 x2).bind fun q3 =>
  if q3 = 0 then
    fX9_crosses_20 h a0 x1 x2 0
  else
    (fX9_fare h a0 x1).bind fun q13 =>
    fX9_crosses_20 q13.2 a0 x1 x2 q13.1)
set_option maxRecDepth 100000 in
theorem kX9_crosses {h : Hp} {a0 : Nat} {x1 : Int32} {x2 : Int32} {z : (Int32 × Hp)} (hF : fX9_crosses h a0 x1 x2 = some z) : Mc yX9_crosses cX9_crosses 7 (some .int) 5 0 0 [.ref a0, .int x1, .int x2] h (some (.int z.1), z.2) := by
  have hF := (gO_some hF).2
  refine Mc_of [some (.ref a0), some (.int x1), some (.int x2), none, none, none, none] plX9 rfl rfl (Nat.le_of_ble_eq_true rfl) (fun X C => ?_)
  refine J_aload_n (pc := 0) C dX9_crosses_0 rfl ?_
  refine J_iload_n (pc := 1) C dX9_crosses_1 rfl ?_
  refine J_iload_n (pc := 2) C dX9_crosses_2 rfl ?_
  refine J_bind hF (fun q3 hq hF => ?_)
  refine J_callV0_ip (pc := 3) (stk := [.int x2, .int x1, .ref a0]) (st := []) C dX9_crosses_3 yw_X9_knows w_MLX9_152 in_X9_knows sl_X9_knows ⟨_, rfl, rfl⟩ (kX9_knows hq) (gO_some hq).1 rfl (by decide) rfl (Nat.le_of_ble_eq_true rfl) ?_
  refine J_istore_n (pc := 6) (lv' := [some (.ref a0), some (.int x1), some (.int x2), some (.int q3), none, none, none]) C dX9_crosses_6 rfl ?_
  refine J_iload_n (pc := 7) C dX9_crosses_7 rfl ?_
  refine J_if_eq (pc := 8) (tgt := 19) C dX9_crosses_8 rfl hF (fun hF => ?_) (fun hF => ?_)
  · refine J_iconst (pc := 19) C dX9_crosses_19 ic_0 ?_
    refine J_msk (m := [true, true, true, false, false, false, false]) rfl ?_
    exact kX9_crosses_20 C h a0 x1 x2 0 hF
  · refine J_aload_n (pc := 11) C dX9_crosses_11 rfl ?_
    refine J_iload_n (pc := 12) C dX9_crosses_12 rfl ?_
    refine J_bind hF (fun q13 hq hF => ?_)
    refine J_callV0_i (pc := 13) (stk := [.int x1, .ref a0]) (st := []) C dX9_crosses_13 yw_X9_fare w_MLX9_171 in_X9_fare sl_X9_fare ⟨_, rfl, rfl⟩ (kX9_fare hq) (gO_some hq).1 rfl (by decide) rfl (Nat.le_of_ble_eq_true rfl) ?_
    refine J_goto (pc := 16) (tgt := 20) C dX9_crosses_16 rfl ?_
    refine J_msk (m := [true, true, true, false, false, false, false]) rfl ?_
    exact kX9_crosses_20 C q13.2 a0 x1 x2 q13.1 hF
def fX9_whyNotCross (h : Hp) (a0 : Nat) (x1 : Int32) (x2 : Int32) : Option Int32 := gO h 9 a0 (
  (fX9_isMan h a0 x1).bind fun q2 =>
  if q2 = 0 then
    some 1
  else
    (fX9_isPerson h a0 x2).bind fun q10 =>
    if q10 = 0 then
      some 1
    else
      (fX9_areTogether h a0 x1 x2).bind fun q21 =>
      if q21 = 0 then
        some 3
      else
        (getR h 9 a0 0).bind fun r28 =>
        (rdI h r28 2).bind fun v32 =>
        if v32 = 9999 then
          some 3
        else
          some 0)
set_option maxRecDepth 100000 in
theorem kX9_whyNotCross {h : Hp} {a0 : Nat} {x1 : Int32} {x2 : Int32} {z : Int32} (hF : fX9_whyNotCross h a0 x1 x2 = some z) : Mc yX9_whyNotCross cX9_whyNotCross 3 (some .int) 2 0 0 [.ref a0, .int x1, .int x2] h (some (.int z), h) := by
  have hF := (gO_some hF).2
  refine Mc_of [some (.ref a0), some (.int x1), some (.int x2)] plX9 rfl rfl (Nat.le_of_ble_eq_true rfl) (fun X C => ?_)
  refine J_aload_n (pc := 0) C dX9_whyNotCross_0 rfl ?_
  refine J_iload_n (pc := 1) C dX9_whyNotCross_1 rfl ?_
  refine J_bind hF (fun q2 hq hF => ?_)
  refine J_callV0_ip (pc := 2) (stk := [.int x1, .ref a0]) (st := []) C dX9_whyNotCross_2 yw_X9_isMan w_MLX9_168 in_X9_isMan sl_X9_isMan ⟨_, rfl, rfl⟩ (kX9_isMan hq) (gO_some hq).1 rfl (by decide) rfl (Nat.le_of_ble_eq_true rfl) ?_
  refine J_if_eq (pc := 5) (tgt := 16) C dX9_whyNotCross_5 rfl hF (fun hF => ?_) (fun hF => ?_)
  · refine J_iconst (pc := 16) C dX9_whyNotCross_16 ic_1 ?_
    exact J_iretP (pc := 17) C dX9_whyNotCross_17 hF (by decide) (by decide)
  · refine J_aload_n (pc := 8) C dX9_whyNotCross_8 rfl ?_
    refine J_iload_n (pc := 9) C dX9_whyNotCross_9 rfl ?_
    refine J_bind hF (fun q10 hq hF => ?_)
    refine J_callV0_ip (pc := 10) (stk := [.int x2, .ref a0]) (st := []) C dX9_whyNotCross_10 yw_X9_isPerson w_MLX9_156 in_X9_isPerson sl_X9_isPerson ⟨_, rfl, rfl⟩ (kX9_isPerson hq) (gO_some hq).1 rfl (by decide) rfl (Nat.le_of_ble_eq_true rfl) ?_
    refine J_if_ne (pc := 13) (tgt := 18) C dX9_whyNotCross_13 rfl hF (fun hF => ?_) (fun hF => ?_)
    · refine J_iconst (pc := 16) C dX9_whyNotCross_16 ic_1 ?_
      exact J_iretP (pc := 17) C dX9_whyNotCross_17 hF (by decide) (by decide)
    · refine J_aload_n (pc := 18) C dX9_whyNotCross_18 rfl ?_
      refine J_iload_n (pc := 19) C dX9_whyNotCross_19 rfl ?_
      refine J_iload_n (pc := 20) C dX9_whyNotCross_20 rfl ?_
      refine J_bind hF (fun q21 hq hF => ?_)
      refine J_callV0_ip (pc := 21) (stk := [.int x2, .int x1, .ref a0]) (st := []) C dX9_whyNotCross_21 yw_X9_areTogether w_MLX9_181 in_X9_areTogether sl_X9_areTogether ⟨_, rfl, rfl⟩ (kX9_areTogether hq) (gO_some hq).1 rfl (by decide) rfl (Nat.le_of_ble_eq_true rfl) ?_
      refine J_if_eq (pc := 24) (tgt := 39) C dX9_whyNotCross_24 rfl hF (fun hF => ?_) (fun hF => ?_)
      · refine J_iconst (pc := 39) C dX9_whyNotCross_39 ic_3 ?_
        refine J_goto (pc := 40) (tgt := 44) C dX9_whyNotCross_40 rfl ?_
        exact J_iretP (pc := 44) C dX9_whyNotCross_44 hF (by decide) (by decide)
      · refine J_aload_n (pc := 27) C dX9_whyNotCross_27 rfl ?_
        refine J_getR (pc := 28) C dX9_whyNotCross_28 fg_X9_7 hF (fun r28 hF => ?_)
        refine J_iconst (pc := 31) C dX9_whyNotCross_31 ic_2 ?_
        refine J_iald (pc := 32) C dX9_whyNotCross_32 hF (fun v32 hF => ?_)
        refine J_sipush (pc := 33) C dX9_whyNotCross_33 sc_9999 ?_
        refine J_icmp_ne (pc := 36) (tgt := 43) C dX9_whyNotCross_36 rfl hF (fun hF => ?_) (fun hF => ?_)
        · refine J_iconst (pc := 39) C dX9_whyNotCross_39 ic_3 ?_
          refine J_goto (pc := 40) (tgt := 44) C dX9_whyNotCross_40 rfl ?_
          exact J_iretP (pc := 44) C dX9_whyNotCross_44 hF (by decide) (by decide)
        · refine J_iconst (pc := 43) C dX9_whyNotCross_43 ic_0 ?_
          exact J_iretP (pc := 44) C dX9_whyNotCross_44 hF (by decide) (by decide)
def fX9_cross (h : Hp) (a0 : Nat) (x1 : Int32) (x2 : Int32) : Option (Int32 × Hp) := gO h 9 a0 (
  (fX9_whyNotCross h a0 x1 x2).bind fun q3 =>
  if q3 ≤ 0 then
    (fX9_crosses h a0 x1 x2).bind fun q22 =>
    some (q22.1, q22.2)
  else
    (fX9_error h a0 q3).bind fun q13 =>
    some (q13.1, q13.2))
set_option maxRecDepth 100000 in
theorem kX9_cross {h : Hp} {a0 : Nat} {x1 : Int32} {x2 : Int32} {z : (Int32 × Hp)} (hF : fX9_cross h a0 x1 x2 = some z) : Mc yX9_cross cX9_cross 4 (some .int) 6 0 0 [.ref a0, .int x1, .int x2] h (some (.int z.1), z.2) := by
  have hF := (gO_some hF).2
  refine Mc_of [some (.ref a0), some (.int x1), some (.int x2), none] plX9 rfl rfl (Nat.le_of_ble_eq_true rfl) (fun X C => ?_)
  refine J_aload_n (pc := 0) C dX9_cross_0 rfl ?_
  refine J_iload_n (pc := 1) C dX9_cross_1 rfl ?_
  refine J_iload_n (pc := 2) C dX9_cross_2 rfl ?_
  refine J_bind hF (fun q3 hq hF => ?_)
  refine J_callV0_ip (pc := 3) (stk := [.int x2, .int x1, .ref a0]) (st := []) C dX9_cross_3 yw_X9_whyNotCross w_MLX9_184 in_X9_whyNotCross sl_X9_whyNotCross ⟨_, rfl, rfl⟩ (kX9_whyNotCross hq) (gO_some hq).1 rfl (by decide) rfl (Nat.le_of_ble_eq_true rfl) ?_
  refine J_istore_n (pc := 6) (lv' := [some (.ref a0), some (.int x1), some (.int x2), some (.int q3)]) C dX9_cross_6 rfl ?_
  refine J_iload_n (pc := 7) C dX9_cross_7 rfl ?_
  refine J_if_le (pc := 8) (tgt := 19) C dX9_cross_8 rfl hF (fun hF => ?_) (fun hF => ?_)
  · refine J_aload_n (pc := 19) C dX9_cross_19 rfl ?_
    refine J_iload_n (pc := 20) C dX9_cross_20 rfl ?_
    refine J_iload_n (pc := 21) C dX9_cross_21 rfl ?_
    refine J_bind hF (fun q22 hq hF => ?_)
    refine J_callV0_i (pc := 22) (stk := [.int x2, .int x1, .ref a0]) (st := []) C dX9_cross_22 yw_X9_crosses w_MLX9_187 in_X9_crosses sl_X9_crosses ⟨_, rfl, rfl⟩ (kX9_crosses hq) (gO_some hq).1 rfl (by decide) rfl (Nat.le_of_ble_eq_true rfl) ?_
    exact J_iret (pc := 25) C dX9_cross_25 hF (by decide) (by decide)
  · refine J_aload_n (pc := 11) C dX9_cross_11 rfl ?_
    refine J_iload_n (pc := 12) C dX9_cross_12 rfl ?_
    refine J_bind hF (fun q13 hq hF => ?_)
    refine J_callV0_i (pc := 13) (stk := [.int q3, .ref a0]) (st := []) C dX9_cross_13 yw_X9_error w_MLX9_63 in_X9_error sl_X9_error ⟨_, rfl, rfl⟩ (kX9_error hq) (gO_some hq).1 rfl (by decide) rfl (Nat.le_of_ble_eq_true rfl) ?_
    refine J_goto (pc := 16) (tgt := 25) C dX9_cross_16 rfl ?_
    exact J_iret (pc := 25) C dX9_cross_25 hF (by decide) (by decide)
def fX9_draw (h : Hp) (a0 : Nat) : Option (Int32 × Hp) := gO h 9 a0 (
  (getR h 9 a0 0).bind fun r1 =>
  (getR h 9 a0 0).bind fun r7 =>
  (rdI h r7 7).bind fun v12 =>
  (wrI h r1 7 ((v12 * 1103515245) + 12345)).bind fun h20 =>
  (getR h20 9 a0 0).bind fun r22 =>
  (rdI h20 r22 7).bind fun v27 =>
  some (ushr v27 8, h20))
set_option maxRecDepth 100000 in
theorem kX9_draw {h : Hp} {a0 : Nat} {z : (Int32 × Hp)} (hF : fX9_draw h a0 = some z) : Mc yX9_draw cX9_draw 1 (some .int) 0 0 0 [.ref a0] h (some (.int z.1), z.2) := by
  have hF := (gO_some hF).2
  refine Mc_of [some (.ref a0)] plX9 rfl rfl (Nat.le_of_ble_eq_true rfl) (fun X C => ?_)
  refine J_aload_n (pc := 0) C dX9_draw_0 rfl ?_
  refine J_getR (pc := 1) C dX9_draw_1 fg_X9_7 hF (fun r1 hF => ?_)
  refine J_bipush (pc := 4) C dX9_draw_4 bc_7 ?_
  refine J_aload_n (pc := 6) C dX9_draw_6 rfl ?_
  refine J_getR (pc := 7) C dX9_draw_7 fg_X9_7 hF (fun r7 hF => ?_)
  refine J_bipush (pc := 10) C dX9_draw_10 bc_7 ?_
  refine J_iald (pc := 12) C dX9_draw_12 hF (fun v12 hF => ?_)
  refine J_ldc (pc := 13) C dX9_draw_13 w_KX9_194 ?_
  refine J_imul (pc := 15) C dX9_draw_15 ?_
  refine J_sipush (pc := 16) C dX9_draw_16 sc_12345 ?_
  refine J_iadd (pc := 19) C dX9_draw_19 ?_
  refine J_iast (pc := 20) C dX9_draw_20 hF (fun h20 hF => ?_)
  refine J_aload_n (pc := 21) C dX9_draw_21 rfl ?_
  refine J_getR (pc := 22) C dX9_draw_22 fg_X9_7 hF (fun r22 hF => ?_)
  refine J_bipush (pc := 25) C dX9_draw_25 bc_7 ?_
  refine J_iald (pc := 27) C dX9_draw_27 hF (fun v27 hF => ?_)
  refine J_bipush (pc := 28) C dX9_draw_28 bc_8 ?_
  refine J_iushr (pc := 30) C dX9_draw_30 ?_
  exact J_iret (pc := 31) C dX9_draw_31 hF (by decide) (by decide)
def fX9_crossByDraws_83 (k69 : Hp → Nat → Int32 → Int32 → Int32 → Option Hp) (h : Hp) (a0 : Nat) (x1 : Int32) (x3 : Int32) (x4 : Int32) : Option Hp :=
  (fX9_areTogether h a0 x1 x4).bind fun q88 =>
  if q88 = 0 then
    k69 h a0 x1 (x3 - 0) (x4 + 1)
  else
    k69 h a0 x1 (x3 - 1) (x4 + 1)
set_option maxRecDepth 100000 in
theorem kX9_crossByDraws_83 {X : Cx} {z : Hp} (C : Jc X yX9_crossByDraws cX9_crossByDraws 6 none 6 0 0 (none, z)) {k69 : Hp → Nat → Int32 → Int32 → Int32 → Option Hp} (hk69 : ∀ (h : Hp) (a0 : Nat) (x1 : Int32) (x3 : Int32) (x4 : Int32), k69 h a0 x1 x3 x4 = some z → J X 0 0 0 0 69 [some (.ref a0), some (.int x1), none, some (.int x3), some (.int x4), none] [] h) (h : Hp) (a0 : Nat) (x1 : Int32) (x3 : Int32) (x4 : Int32) (hF : fX9_crossByDraws_83 k69 h a0 x1 x3 x4 = some z) : J X 0 0 0 0 83 [some (.ref a0), some (.int x1), none, some (.int x3), some (.int x4), none] [] h := by
  unfold fX9_crossByDraws_83 at hF
  refine J_iload_n (pc := 83) C dX9_crossByDraws_83 rfl ?_
  refine J_aload_n (pc := 84) C dX9_crossByDraws_84 rfl ?_
  refine J_iload_n (pc := 85) C dX9_crossByDraws_85 rfl ?_
  refine J_iload (pc := 86) C dX9_crossByDraws_86 rfl ?_
  refine J_bind hF (fun q88 hq hF => ?_)
  refine J_callV0_ip (pc := 88) (stk := [.int x4, .int x1, .ref a0, .int x3]) (st := [.int x3]) C dX9_crossByDraws_88 yw_X9_areTogether w_MLX9_181 in_X9_areTogether sl_X9_areTogether ⟨_, rfl, rfl⟩ (kX9_areTogether hq) (gO_some hq).1 rfl (by decide) rfl (Nat.le_of_ble_eq_true rfl) ?_
  refine J_if_eq (pc := 91) (tgt := 98) C dX9_crossByDraws_91 rfl hF (fun hF => ?_) (fun hF => ?_)
  · refine J_iconst (pc := 98) C dX9_crossByDraws_98 ic_0 ?_
    refine J_isub (pc := 99) C dX9_crossByDraws_99 ?_
    refine J_istore_n (pc := 100) (lv' := [some (.ref a0), some (.int x1), none, some (.int (x3 - 0)), some (.int x4), none]) C dX9_crossByDraws_100 rfl ?_
    refine J_iinc (pc := 101) (lv' := [some (.ref a0), some (.int x1), none, some (.int (x3 - 0)), some (.int (x4 + 1)), none]) C dX9_crossByDraws_101 rfl ic_1 rfl ?_
    refine J_goto (pc := 104) (tgt := 69) C dX9_crossByDraws_104 rfl ?_
    exact hk69 h a0 x1 (x3 - 0) (x4 + 1) hF
  · refine J_iconst (pc := 94) C dX9_crossByDraws_94 ic_1 ?_
    refine J_goto (pc := 95) (tgt := 99) C dX9_crossByDraws_95 rfl ?_
    refine J_isub (pc := 99) C dX9_crossByDraws_99 ?_
    refine J_istore_n (pc := 100) (lv' := [some (.ref a0), some (.int x1), none, some (.int (x3 - 1)), some (.int x4), none]) C dX9_crossByDraws_100 rfl ?_
    refine J_iinc (pc := 101) (lv' := [some (.ref a0), some (.int x1), none, some (.int (x3 - 1)), some (.int (x4 + 1)), none]) C dX9_crossByDraws_101 rfl ic_1 rfl ?_
    refine J_goto (pc := 104) (tgt := 69) C dX9_crossByDraws_104 rfl ?_
    exact hk69 h a0 x1 (x3 - 1) (x4 + 1) hF
def fX9_crossByDraws_69 : Nat → Hp → Nat → Int32 → Int32 → Int32 → Option Hp
  | 0, _, _, _, _, _ => none
  | n69 + 1, h, a0, x1, x3, x4 =>
    (fX9_areTogether h a0 x1 x4).bind fun q73 =>
    if q73 = 0 then
      fX9_crossByDraws_83 (fX9_crossByDraws_69 n69) h a0 x1 x3 x4
    else
      if x3 ≤ 0 then
        (fX9_crosses h a0 x1 x4).bind fun q111 =>
        some q111.2
      else
        fX9_crossByDraws_83 (fX9_crossByDraws_69 n69) h a0 x1 x3 x4
set_option maxRecDepth 100000 in
theorem kX9_crossByDraws_69 {X : Cx} {z : Hp} (C : Jc X yX9_crossByDraws cX9_crossByDraws 6 none 6 0 0 (none, z)) : ∀ (n69 : Nat) (h : Hp) (a0 : Nat) (x1 : Int32) (x3 : Int32) (x4 : Int32), fX9_crossByDraws_69 n69 h a0 x1 x3 x4 = some z → J X 0 0 0 0 69 [some (.ref a0), some (.int x1), none, some (.int x3), some (.int x4), none] [] h := by
  intro n69
  induction n69 with
  | zero => intro h a0 x1 x3 x4 hF; cases hF
  | succ n69 ih =>
    intro h a0 x1 x3 x4 hF
    rw [fX9_crossByDraws_69] at hF
    refine J_aload_n (pc := 69) C dX9_crossByDraws_69 rfl ?_
    refine J_iload_n (pc := 70) C dX9_crossByDraws_70 rfl ?_
    refine J_iload (pc := 71) C dX9_crossByDraws_71 rfl ?_
    refine J_bind hF (fun q73 hq hF => ?_)
    refine J_callV0_ip (pc := 73) (stk := [.int x4, .int x1, .ref a0]) (st := []) C dX9_crossByDraws_73 yw_X9_areTogether w_MLX9_181 in_X9_areTogether sl_X9_areTogether ⟨_, rfl, rfl⟩ (kX9_areTogether hq) (gO_some hq).1 rfl (by decide) rfl (Nat.le_of_ble_eq_true rfl) ?_
    refine J_if_eq (pc := 76) (tgt := 83) C dX9_crossByDraws_76 rfl hF (fun hF => ?_) (fun hF => ?_)
    · exact kX9_crossByDraws_83 C ih h a0 x1 x3 x4 hF
    · refine J_iload_n (pc := 79) C dX9_crossByDraws_79 rfl ?_
      refine J_if_le (pc := 80) (tgt := 107) C dX9_crossByDraws_80 rfl hF (fun hF => ?_) (fun hF => ?_)
      · refine J_aload_n (pc := 107) C dX9_crossByDraws_107 rfl ?_
        refine J_iload_n (pc := 108) C dX9_crossByDraws_108 rfl ?_
        refine J_iload (pc := 109) C dX9_crossByDraws_109 rfl ?_
        refine J_bind hF (fun q111 hq hF => ?_)
        refine J_callV0_i (pc := 111) (stk := [.int x4, .int x1, .ref a0]) (st := []) C dX9_crossByDraws_111 yw_X9_crosses w_MLX9_187 in_X9_crosses sl_X9_crosses ⟨_, rfl, rfl⟩ (kX9_crosses hq) (gO_some hq).1 rfl (by decide) rfl (Nat.le_of_ble_eq_true rfl) ?_
        refine J_istore (pc := 114) (lv' := [some (.ref a0), some (.int x1), none, some (.int x3), some (.int x4), some (.int q111.1)]) C dX9_crossByDraws_114 rfl ?_
        exact J_vret (pc := 116) C dX9_crossByDraws_116 hF (by decide) (by decide)
      · exact kX9_crossByDraws_83 C ih h a0 x1 x3 x4 hF
def fX9_crossByDraws_16 : Nat → Hp → Nat → Int32 → Int32 → Int32 → Option Hp
  | 0, _, _, _, _, _ => none
  | n16 + 1, h, a0, x1, x2, x3 =>
    (getR h 9 a0 0).bind fun r18 =>
    (rdI h r18 0).bind fun v22 =>
    if v22 ≤ x3 then
      if x2 = 0 then
        (fX9_goesAlone h a0 x1).bind fun q55 =>
        some q55
      else
        (fX9_draw h a0).bind fun q60 =>
        (rmz q60.1 x2).bind fun v64 =>
        fX9_crossByDraws_69 1000 q60.2 a0 x1 v64 0
    else
      (fX9_areTogether h a0 x1 x3).bind fun q30 =>
      if q30 = 0 then
        fX9_crossByDraws_16 n16 h a0 x1 (x2 + 0) (x3 + 1)
      else
        fX9_crossByDraws_16 n16 h a0 x1 (x2 + 1) (x3 + 1)
set_option maxRecDepth 100000 in
theorem kX9_crossByDraws_16 {X : Cx} {z : Hp} (C : Jc X yX9_crossByDraws cX9_crossByDraws 6 none 6 0 0 (none, z)) : ∀ (n16 : Nat) (h : Hp) (a0 : Nat) (x1 : Int32) (x2 : Int32) (x3 : Int32), fX9_crossByDraws_16 n16 h a0 x1 x2 x3 = some z → J X 0 0 0 0 16 [some (.ref a0), some (.int x1), some (.int x2), some (.int x3), none, none] [] h := by
  intro n16
  induction n16 with
  | zero => intro h a0 x1 x2 x3 hF; cases hF
  | succ n16 ih =>
    intro h a0 x1 x2 x3 hF
    rw [fX9_crossByDraws_16] at hF
    refine J_iload_n (pc := 16) C dX9_crossByDraws_16 rfl ?_
    refine J_aload_n (pc := 17) C dX9_crossByDraws_17 rfl ?_
    refine J_getR (pc := 18) C dX9_crossByDraws_18 fg_X9_7 hF (fun r18 hF => ?_)
    refine J_iconst (pc := 21) C dX9_crossByDraws_21 ic_0 ?_
    refine J_iald (pc := 22) C dX9_crossByDraws_22 hF (fun v22 hF => ?_)
    refine J_icmp_ge (pc := 23) (tgt := 49) C dX9_crossByDraws_23 rfl hF (fun hF => ?_) (fun hF => ?_)
    · refine J_iload_n (pc := 49) C dX9_crossByDraws_49 rfl ?_
      refine J_if_ne (pc := 50) (tgt := 59) C dX9_crossByDraws_50 rfl hF (fun hF => ?_) (fun hF => ?_)
      · refine J_aload_n (pc := 53) C dX9_crossByDraws_53 rfl ?_
        refine J_iload_n (pc := 54) C dX9_crossByDraws_54 rfl ?_
        refine J_bind hF (fun q55 hq hF => ?_)
        refine J_callV0_v (pc := 55) (stk := [.int x1, .ref a0]) (st := []) C dX9_crossByDraws_55 yw_X9_goesAlone w_MLX9_190 in_X9_goesAlone sl_X9_goesAlone ⟨_, rfl, rfl⟩ (kX9_goesAlone hq) (gO_some hq).1 rfl (by decide) rfl (Nat.le_of_ble_eq_true rfl) ?_
        exact J_vret (pc := 58) C dX9_crossByDraws_58 hF (by decide) (by decide)
      · refine J_aload_n (pc := 59) C dX9_crossByDraws_59 rfl ?_
        refine J_bind hF (fun q60 hq hF => ?_)
        refine J_callV0_i (pc := 60) (stk := [.ref a0]) (st := []) C dX9_crossByDraws_60 yw_X9_draw w_MLX9_195 in_X9_draw sl_X9_draw ⟨_, rfl, rfl⟩ (kX9_draw hq) (gO_some hq).1 rfl (by decide) rfl (Nat.le_of_ble_eq_true rfl) ?_
        refine J_iload_n (pc := 63) C dX9_crossByDraws_63 rfl ?_
        refine J_irem (pc := 64) C dX9_crossByDraws_64 hF (fun v64 hF => ?_)
        refine J_istore_n (pc := 65) (lv' := [some (.ref a0), some (.int x1), some (.int x2), some (.int v64), none, none]) C dX9_crossByDraws_65 rfl ?_
        refine J_iconst (pc := 66) C dX9_crossByDraws_66 ic_0 ?_
        refine J_istore (pc := 67) (lv' := [some (.ref a0), some (.int x1), some (.int x2), some (.int v64), some (.int 0), none]) C dX9_crossByDraws_67 rfl ?_
        refine J_msk (m := [true, true, false, true, true, false]) rfl ?_
        exact kX9_crossByDraws_69 C 1000 q60.2 a0 x1 v64 0 hF
    · refine J_iload_n (pc := 26) C dX9_crossByDraws_26 rfl ?_
      refine J_aload_n (pc := 27) C dX9_crossByDraws_27 rfl ?_
      refine J_iload_n (pc := 28) C dX9_crossByDraws_28 rfl ?_
      refine J_iload_n (pc := 29) C dX9_crossByDraws_29 rfl ?_
      refine J_bind hF (fun q30 hq hF => ?_)
      refine J_callV0_ip (pc := 30) (stk := [.int x3, .int x1, .ref a0, .int x2]) (st := [.int x2]) C dX9_crossByDraws_30 yw_X9_areTogether w_MLX9_181 in_X9_areTogether sl_X9_areTogether ⟨_, rfl, rfl⟩ (kX9_areTogether hq) (gO_some hq).1 rfl (by decide) rfl (Nat.le_of_ble_eq_true rfl) ?_
      refine J_if_eq (pc := 33) (tgt := 40) C dX9_crossByDraws_33 rfl hF (fun hF => ?_) (fun hF => ?_)
      · refine J_iconst (pc := 40) C dX9_crossByDraws_40 ic_0 ?_
        refine J_iadd (pc := 41) C dX9_crossByDraws_41 ?_
        refine J_istore_n (pc := 42) (lv' := [some (.ref a0), some (.int x1), some (.int (x2 + 0)), some (.int x3), none, none]) C dX9_crossByDraws_42 rfl ?_
        refine J_iinc (pc := 43) (lv' := [some (.ref a0), some (.int x1), some (.int (x2 + 0)), some (.int (x3 + 1)), none, none]) C dX9_crossByDraws_43 rfl ic_1 rfl ?_
        refine J_goto (pc := 46) (tgt := 16) C dX9_crossByDraws_46 rfl ?_
        exact ih h a0 x1 (x2 + 0) (x3 + 1) hF
      · refine J_iconst (pc := 36) C dX9_crossByDraws_36 ic_1 ?_
        refine J_goto (pc := 37) (tgt := 41) C dX9_crossByDraws_37 rfl ?_
        refine J_iadd (pc := 41) C dX9_crossByDraws_41 ?_
        refine J_istore_n (pc := 42) (lv' := [some (.ref a0), some (.int x1), some (.int (x2 + 1)), some (.int x3), none, none]) C dX9_crossByDraws_42 rfl ?_
        refine J_iinc (pc := 43) (lv' := [some (.ref a0), some (.int x1), some (.int (x2 + 1)), some (.int (x3 + 1)), none, none]) C dX9_crossByDraws_43 rfl ic_1 rfl ?_
        refine J_goto (pc := 46) (tgt := 16) C dX9_crossByDraws_46 rfl ?_
        exact ih h a0 x1 (x2 + 1) (x3 + 1) hF
def fX9_crossByDraws (h : Hp) (a0 : Nat) : Option Hp := gO h 9 a0 (
  (fX9_draw h a0).bind fun q1 =>
  (getR q1.2 9 a0 0).bind fun r5 =>
  (rdI q1.2 r5 1).bind fun v9 =>
  (rmz q1.1 v9).bind fun v10 =>
  fX9_crossByDraws_16 1000 q1.2 a0 v10 0 0)
set_option maxRecDepth 100000 in
theorem kX9_crossByDraws {h : Hp} {a0 : Nat} {z : Hp} (hF : fX9_crossByDraws h a0 = some z) : Mc yX9_crossByDraws cX9_crossByDraws 6 none 6 0 0 [.ref a0] h (none, z) := by
  have hF := (gO_some hF).2
  refine Mc_of [some (.ref a0), none, none, none, none, none] plX9 rfl rfl (Nat.le_of_ble_eq_true rfl) (fun X C => ?_)
  refine J_aload_n (pc := 0) C dX9_crossByDraws_0 rfl ?_
  refine J_bind hF (fun q1 hq hF => ?_)
  refine J_callV0_i (pc := 1) (stk := [.ref a0]) (st := []) C dX9_crossByDraws_1 yw_X9_draw w_MLX9_195 in_X9_draw sl_X9_draw ⟨_, rfl, rfl⟩ (kX9_draw hq) (gO_some hq).1 rfl (by decide) rfl (Nat.le_of_ble_eq_true rfl) ?_
  refine J_aload_n (pc := 4) C dX9_crossByDraws_4 rfl ?_
  refine J_getR (pc := 5) C dX9_crossByDraws_5 fg_X9_7 hF (fun r5 hF => ?_)
  refine J_iconst (pc := 8) C dX9_crossByDraws_8 ic_1 ?_
  refine J_iald (pc := 9) C dX9_crossByDraws_9 hF (fun v9 hF => ?_)
  refine J_irem (pc := 10) C dX9_crossByDraws_10 hF (fun v10 hF => ?_)
  refine J_istore_n (pc := 11) (lv' := [some (.ref a0), some (.int v10), none, none, none, none]) C dX9_crossByDraws_11 rfl ?_
  refine J_iconst (pc := 12) C dX9_crossByDraws_12 ic_0 ?_
  refine J_istore_n (pc := 13) (lv' := [some (.ref a0), some (.int v10), some (.int 0), none, none, none]) C dX9_crossByDraws_13 rfl ?_
  refine J_iconst (pc := 14) C dX9_crossByDraws_14 ic_0 ?_
  refine J_istore_n (pc := 15) (lv' := [some (.ref a0), some (.int v10), some (.int 0), some (.int 0), none, none]) C dX9_crossByDraws_15 rfl ?_
  exact kX9_crossByDraws_16 C 1000 q1.2 a0 v10 0 0 hF
def fX9_isSheet (x0 : Int32) : Option Int32 :=
  (fX9_in x0 0 3).bind fun q3 =>
  (bz q3).bind fun b6 =>
  some b6
set_option maxRecDepth 100000 in
theorem kX9_isSheet {h : Hp} {x0 : Int32} {z : Int32} (hF : fX9_isSheet x0 = some z) : Mc yX9_isSheet cX9_isSheet 1 (some .boolean) 1 0 0 [.int x0] h (some (.int z), h) := by
  unfold fX9_isSheet at hF
  refine Mc_of [some (.int x0)] plX9 rfl rfl (Nat.le_of_ble_eq_true rfl) (fun X C => ?_)
  refine J_iload_n (pc := 0) C dX9_isSheet_0 rfl ?_
  refine J_iconst (pc := 1) C dX9_isSheet_1 ic_0 ?_
  refine J_iconst (pc := 2) C dX9_isSheet_2 ic_3 ?_
  refine J_bind hF (fun q3 hq hF => ?_)
  refine J_callS0_ip (pc := 3) (stk := [.int 3, .int 0, .int x0]) (st := []) C dX9_isSheet_3 yw_X9_in w_MLX9_59 st_X9_in (kX9_in hq) rfl (by decide) rfl (Nat.le_of_ble_eq_true rfl) ?_
  refine J_bz hF (fun b6 hnr hF => ?_)
  exact J_zretP (pc := 6) C dX9_isSheet_6 hnr hF (by decide) (by decide)
def fX9_lacks (h : Hp) (a0 : Nat) (x1 : Int32) : Option Int32 := gO h 9 a0 (
  (fX9_isSheet x1).bind fun q1 =>
  if q1 = 0 then
    some 1
  else
    (getR h 9 a0 23).bind fun r12 =>
    (rdI h r12 x1).bind fun v16 =>
    if v16 = 0 then
      some 2
    else
      some 0)
set_option maxRecDepth 100000 in
theorem kX9_lacks {h : Hp} {a0 : Nat} {x1 : Int32} {z : Int32} (hF : fX9_lacks h a0 x1 = some z) : Mc yX9_lacks cX9_lacks 2 (some .int) 2 0 0 [.ref a0, .int x1] h (some (.int z), h) := by
  have hF := (gO_some hF).2
  refine Mc_of [some (.ref a0), some (.int x1)] plX9 rfl rfl (Nat.le_of_ble_eq_true rfl) (fun X C => ?_)
  refine J_iload_n (pc := 0) C dX9_lacks_0 rfl ?_
  refine J_bind hF (fun q1 hq hF => ?_)
  refine J_callS0_ip (pc := 1) (stk := [.int x1]) (st := []) C dX9_lacks_1 yw_X9_isSheet w_MLX9_280 st_X9_isSheet (kX9_isSheet hq) rfl (by decide) rfl (Nat.le_of_ble_eq_true rfl) ?_
  refine J_if_ne (pc := 4) (tgt := 11) C dX9_lacks_4 rfl hF (fun hF => ?_) (fun hF => ?_)
  · refine J_iconst (pc := 7) C dX9_lacks_7 ic_1 ?_
    refine J_goto (pc := 8) (tgt := 25) C dX9_lacks_8 rfl ?_
    exact J_iretP (pc := 25) C dX9_lacks_25 hF (by decide) (by decide)
  · refine J_aload_n (pc := 11) C dX9_lacks_11 rfl ?_
    refine J_getR (pc := 12) C dX9_lacks_12 fg_X9_46 hF (fun r12 hF => ?_)
    refine J_iload_n (pc := 15) C dX9_lacks_15 rfl ?_
    refine J_iald (pc := 16) C dX9_lacks_16 hF (fun v16 hF => ?_)
    refine J_if_ne (pc := 17) (tgt := 24) C dX9_lacks_17 rfl hF (fun hF => ?_) (fun hF => ?_)
    · refine J_iconst (pc := 20) C dX9_lacks_20 ic_2 ?_
      refine J_goto (pc := 21) (tgt := 25) C dX9_lacks_21 rfl ?_
      exact J_iretP (pc := 25) C dX9_lacks_25 hF (by decide) (by decide)
    · refine J_iconst (pc := 24) C dX9_lacks_24 ic_0 ?_
      exact J_iretP (pc := 25) C dX9_lacks_25 hF (by decide) (by decide)
def fX9_crossings_24 : Nat → Hp → Nat → Int32 → Int32 → Int32 → Option (Int32 × Hp)
  | 0, _, _, _, _, _ => none
  | n24 + 1, h, a0, x1, x3, x4 =>
    (getR h 9 a0 24).bind fun r30 =>
    (rdI h r30 x1).bind fun v34 =>
    if v34 ≤ ((2 * x3) + 1) then
      some (x3, h)
    else
      (getR h 9 a0 25).bind fun r40 =>
      (rdI h r40 (x4 + (2 * x3))).bind fun v49 =>
      (getR h 9 a0 25).bind fun r51 =>
      (rdI h r51 ((x4 + (2 * x3)) + 1)).bind fun v62 =>
      (fX9_whyNotCross h a0 v49 v62).bind fun q63 =>
      if q63 = 0 then
        (getR h 9 a0 25).bind fun r71 =>
        (rdI h r71 (x4 + (2 * x3))).bind fun v80 =>
        (getR h 9 a0 25).bind fun r82 =>
        (rdI h r82 ((x4 + (2 * x3)) + 1)).bind fun v93 =>
        (fX9_crosses h a0 v80 v93).bind fun q94 =>
        fX9_crossings_24 n24 q94.2 a0 x1 (x3 + 1) x4
      else
        some (x3, h)
set_option maxRecDepth 100000 in
theorem kX9_crossings_24 {X : Cx} {z : (Int32 × Hp)} (C : Jc X yX9_crossings cX9_crossings 6 (some .int) 6 0 0 (some (.int z.1), z.2)) : ∀ (n24 : Nat) (h : Hp) (a0 : Nat) (x1 : Int32) (x3 : Int32) (x4 : Int32), fX9_crossings_24 n24 h a0 x1 x3 x4 = some z → J X 0 0 0 0 24 [some (.ref a0), some (.int x1), none, some (.int x3), some (.int x4), none] [] h := by
  intro n24
  induction n24 with
  | zero => intro h a0 x1 x3 x4 hF; cases hF
  | succ n24 ih =>
    intro h a0 x1 x3 x4 hF
    rw [fX9_crossings_24] at hF
    refine J_iconst (pc := 24) C dX9_crossings_24 ic_2 ?_
    refine J_iload_n (pc := 25) C dX9_crossings_25 rfl ?_
    refine J_imul (pc := 26) C dX9_crossings_26 ?_
    refine J_iconst (pc := 27) C dX9_crossings_27 ic_1 ?_
    refine J_iadd (pc := 28) C dX9_crossings_28 ?_
    refine J_aload_n (pc := 29) C dX9_crossings_29 rfl ?_
    refine J_getR (pc := 30) C dX9_crossings_30 fg_X9_49 hF (fun r30 hF => ?_)
    refine J_iload_n (pc := 33) C dX9_crossings_33 rfl ?_
    refine J_iald (pc := 34) C dX9_crossings_34 hF (fun v34 hF => ?_)
    refine J_icmp_ge (pc := 35) (tgt := 105) C dX9_crossings_35 rfl hF (fun hF => ?_) (fun hF => ?_)
    · refine J_iload_n (pc := 105) C dX9_crossings_105 rfl ?_
      exact J_iret (pc := 106) C dX9_crossings_106 hF (by decide) (by decide)
    · refine J_aload_n (pc := 38) C dX9_crossings_38 rfl ?_
      refine J_aload_n (pc := 39) C dX9_crossings_39 rfl ?_
      refine J_getR (pc := 40) C dX9_crossings_40 fg_X9_52 hF (fun r40 hF => ?_)
      refine J_iload (pc := 43) C dX9_crossings_43 rfl ?_
      refine J_iconst (pc := 45) C dX9_crossings_45 ic_2 ?_
      refine J_iload_n (pc := 46) C dX9_crossings_46 rfl ?_
      refine J_imul (pc := 47) C dX9_crossings_47 ?_
      refine J_iadd (pc := 48) C dX9_crossings_48 ?_
      refine J_iald (pc := 49) C dX9_crossings_49 hF (fun v49 hF => ?_)
      refine J_aload_n (pc := 50) C dX9_crossings_50 rfl ?_
      refine J_getR (pc := 51) C dX9_crossings_51 fg_X9_52 hF (fun r51 hF => ?_)
      refine J_iload (pc := 54) C dX9_crossings_54 rfl ?_
      refine J_iconst (pc := 56) C dX9_crossings_56 ic_2 ?_
      refine J_iload_n (pc := 57) C dX9_crossings_57 rfl ?_
      refine J_imul (pc := 58) C dX9_crossings_58 ?_
      refine J_iadd (pc := 59) C dX9_crossings_59 ?_
      refine J_iconst (pc := 60) C dX9_crossings_60 ic_1 ?_
      refine J_iadd (pc := 61) C dX9_crossings_61 ?_
      refine J_iald (pc := 62) C dX9_crossings_62 hF (fun v62 hF => ?_)
      refine J_bind hF (fun q63 hq hF => ?_)
      refine J_callV0_ip (pc := 63) (stk := [.int v62, .int v49, .ref a0]) (st := []) C dX9_crossings_63 yw_X9_whyNotCross w_MLX9_184 in_X9_whyNotCross sl_X9_whyNotCross ⟨_, rfl, rfl⟩ (kX9_whyNotCross hq) (gO_some hq).1 rfl (by decide) rfl (Nat.le_of_ble_eq_true rfl) ?_
      refine J_if_ne (pc := 66) (tgt := 105) C dX9_crossings_66 rfl hF (fun hF => ?_) (fun hF => ?_)
      · refine J_aload_n (pc := 69) C dX9_crossings_69 rfl ?_
        refine J_aload_n (pc := 70) C dX9_crossings_70 rfl ?_
        refine J_getR (pc := 71) C dX9_crossings_71 fg_X9_52 hF (fun r71 hF => ?_)
        refine J_iload (pc := 74) C dX9_crossings_74 rfl ?_
        refine J_iconst (pc := 76) C dX9_crossings_76 ic_2 ?_
        refine J_iload_n (pc := 77) C dX9_crossings_77 rfl ?_
        refine J_imul (pc := 78) C dX9_crossings_78 ?_
        refine J_iadd (pc := 79) C dX9_crossings_79 ?_
        refine J_iald (pc := 80) C dX9_crossings_80 hF (fun v80 hF => ?_)
        refine J_aload_n (pc := 81) C dX9_crossings_81 rfl ?_
        refine J_getR (pc := 82) C dX9_crossings_82 fg_X9_52 hF (fun r82 hF => ?_)
        refine J_iload (pc := 85) C dX9_crossings_85 rfl ?_
        refine J_iconst (pc := 87) C dX9_crossings_87 ic_2 ?_
        refine J_iload_n (pc := 88) C dX9_crossings_88 rfl ?_
        refine J_imul (pc := 89) C dX9_crossings_89 ?_
        refine J_iadd (pc := 90) C dX9_crossings_90 ?_
        refine J_iconst (pc := 91) C dX9_crossings_91 ic_1 ?_
        refine J_iadd (pc := 92) C dX9_crossings_92 ?_
        refine J_iald (pc := 93) C dX9_crossings_93 hF (fun v93 hF => ?_)
        refine J_bind hF (fun q94 hq hF => ?_)
        refine J_callV0_i (pc := 94) (stk := [.int v93, .int v80, .ref a0]) (st := []) C dX9_crossings_94 yw_X9_crosses w_MLX9_187 in_X9_crosses sl_X9_crosses ⟨_, rfl, rfl⟩ (kX9_crosses hq) (gO_some hq).1 rfl (by decide) rfl (Nat.le_of_ble_eq_true rfl) ?_
        refine J_istore (pc := 97) (lv' := [some (.ref a0), some (.int x1), none, some (.int x3), some (.int x4), some (.int q94.1)]) C dX9_crossings_97 rfl ?_
        refine J_iinc (pc := 99) (lv' := [some (.ref a0), some (.int x1), none, some (.int (x3 + 1)), some (.int x4), some (.int q94.1)]) C dX9_crossings_99 rfl ic_1 rfl ?_
        refine J_goto (pc := 102) (tgt := 24) C dX9_crossings_102 rfl ?_
        refine J_msk (m := [true, true, false, true, true, false]) rfl ?_
        exact ih q94.2 a0 x1 (x3 + 1) x4 hF
      · refine J_iload_n (pc := 105) C dX9_crossings_105 rfl ?_
        exact J_iret (pc := 106) C dX9_crossings_106 hF (by decide) (by decide)
def fX9_crossings (h : Hp) (a0 : Nat) (x1 : Int32) : Option (Int32 × Hp) := gO h 9 a0 (
  (fX9_lacks h a0 x1).bind fun q2 =>
  if q2 ≤ 0 then
    fX9_crossings_24 1000 h a0 x1 0 (24 * x1)
  else
    (fX9_error h a0 q2).bind fun q12 =>
    some (q12.1, q12.2))
set_option maxRecDepth 100000 in
theorem kX9_crossings {h : Hp} {a0 : Nat} {x1 : Int32} {z : (Int32 × Hp)} (hF : fX9_crossings h a0 x1 = some z) : Mc yX9_crossings cX9_crossings 6 (some .int) 6 0 0 [.ref a0, .int x1] h (some (.int z.1), z.2) := by
  have hF := (gO_some hF).2
  refine Mc_of [some (.ref a0), some (.int x1), none, none, none, none] plX9 rfl rfl (Nat.le_of_ble_eq_true rfl) (fun X C => ?_)
  refine J_aload_n (pc := 0) C dX9_crossings_0 rfl ?_
  refine J_iload_n (pc := 1) C dX9_crossings_1 rfl ?_
  refine J_bind hF (fun q2 hq hF => ?_)
  refine J_callV0_ip (pc := 2) (stk := [.int x1, .ref a0]) (st := []) C dX9_crossings_2 yw_X9_lacks w_MLX9_283 in_X9_lacks sl_X9_lacks ⟨_, rfl, rfl⟩ (kX9_lacks hq) (gO_some hq).1 rfl (by decide) rfl (Nat.le_of_ble_eq_true rfl) ?_
  refine J_istore_n (pc := 5) (lv' := [some (.ref a0), some (.int x1), some (.int q2), none, none, none]) C dX9_crossings_5 rfl ?_
  refine J_iload_n (pc := 6) C dX9_crossings_6 rfl ?_
  refine J_if_le (pc := 7) (tgt := 16) C dX9_crossings_7 rfl hF (fun hF => ?_) (fun hF => ?_)
  · refine J_iconst (pc := 16) C dX9_crossings_16 ic_0 ?_
    refine J_istore_n (pc := 17) (lv' := [some (.ref a0), some (.int x1), some (.int q2), some (.int 0), none, none]) C dX9_crossings_17 rfl ?_
    refine J_bipush (pc := 18) C dX9_crossings_18 bc_24 ?_
    refine J_iload_n (pc := 20) C dX9_crossings_20 rfl ?_
    refine J_imul (pc := 21) C dX9_crossings_21 ?_
    refine J_istore (pc := 22) (lv' := [some (.ref a0), some (.int x1), some (.int q2), some (.int 0), some (.int (24 * x1)), none]) C dX9_crossings_22 rfl ?_
    refine J_msk (m := [true, true, false, true, true, false]) rfl ?_
    exact kX9_crossings_24 C 1000 h a0 x1 0 (24 * x1) hF
  · refine J_aload_n (pc := 10) C dX9_crossings_10 rfl ?_
    refine J_iload_n (pc := 11) C dX9_crossings_11 rfl ?_
    refine J_bind hF (fun q12 hq hF => ?_)
    refine J_callV0_i (pc := 12) (stk := [.int q2, .ref a0]) (st := []) C dX9_crossings_12 yw_X9_error w_MLX9_63 in_X9_error sl_X9_error ⟨_, rfl, rfl⟩ (kX9_error hq) (gO_some hq).1 rfl (by decide) rfl (Nat.le_of_ble_eq_true rfl) ?_
    exact J_iret (pc := 15) C dX9_crossings_15 hF (by decide) (by decide)
def fX9_debt (h : Hp) (a0 : Nat) (x1 : Int32) (x2 : Int32) (x3 : Int32) : Option (Int32 × Hp) := gO h 9 a0 (
  (fX9_isPerson h a0 x1).bind fun q2 =>
  if q2 = 0 then
    (fX9_error h a0 1).bind fun q34 =>
    some (q34.1, q34.2)
  else
    (fX9_isPerson h a0 x2).bind fun q10 =>
    if q10 = 0 then
      (fX9_error h a0 1).bind fun q34 =>
      some (q34.1, q34.2)
    else
      if x1 = x2 then
        (fX9_error h a0 1).bind fun q34 =>
        some (q34.1, q34.2)
      else
        (fX9_in x3 1 999).bind fun q26 =>
        if q26 = 0 then
          (fX9_error h a0 1).bind fun q34 =>
          some (q34.1, q34.2)
        else
          (getR h 9 a0 0).bind fun r39 =>
          (rdI h r39 3).bind fun v43 =>
          if v43 = 8 then
            (fX9_error h a0 4).bind fun q51 =>
            some (q51.1, q51.2)
          else
            (getR h 9 a0 0).bind fun r59 =>
            (rdI h r59 3).bind fun v63 =>
            (getR h 9 a0 0).bind fun r69 =>
            (wrI h r69 (76 + (3 * v63)) x1).bind fun h75 =>
            (getR h75 9 a0 0).bind fun r77 =>
            (wrI h75 r77 ((76 + (3 * v63)) + 1) x2).bind fun h85 =>
            (getR h85 9 a0 0).bind fun r87 =>
            (wrI h85 r87 ((76 + (3 * v63)) + 2) x3).bind fun h95 =>
            (getR h95 9 a0 0).bind fun r97 =>
            (rdI h95 r97 3).bind fun v102 =>
            (wrI h95 r97 3 (v102 + 1)).bind fun h105 =>
            (getR h105 9 a0 0).bind fun r107 =>
            (rdI h105 r107 3).bind fun v111 =>
            some (v111 - 1, h105))
set_option maxRecDepth 100000 in
theorem kX9_debt {h : Hp} {a0 : Nat} {x1 : Int32} {x2 : Int32} {x3 : Int32} {z : (Int32 × Hp)} (hF : fX9_debt h a0 x1 x2 x3 = some z) : Mc yX9_debt cX9_debt 5 (some .int) 2 0 0 [.ref a0, .int x1, .int x2, .int x3] h (some (.int z.1), z.2) := by
  have hF := (gO_some hF).2
  refine Mc_of [some (.ref a0), some (.int x1), some (.int x2), some (.int x3), none] plX9 rfl rfl (Nat.le_of_ble_eq_true rfl) (fun X C => ?_)
  refine J_aload_n (pc := 0) C dX9_debt_0 rfl ?_
  refine J_iload_n (pc := 1) C dX9_debt_1 rfl ?_
  refine J_bind hF (fun q2 hq hF => ?_)
  refine J_callV0_ip (pc := 2) (stk := [.int x1, .ref a0]) (st := []) C dX9_debt_2 yw_X9_isPerson w_MLX9_156 in_X9_isPerson sl_X9_isPerson ⟨_, rfl, rfl⟩ (kX9_isPerson hq) (gO_some hq).1 rfl (by decide) rfl (Nat.le_of_ble_eq_true rfl) ?_
  refine J_if_eq (pc := 5) (tgt := 32) C dX9_debt_5 rfl hF (fun hF => ?_) (fun hF => ?_)
  · refine J_aload_n (pc := 32) C dX9_debt_32 rfl ?_
    refine J_iconst (pc := 33) C dX9_debt_33 ic_1 ?_
    refine J_bind hF (fun q34 hq hF => ?_)
    refine J_callV0_i (pc := 34) (stk := [.int 1, .ref a0]) (st := []) C dX9_debt_34 yw_X9_error w_MLX9_63 in_X9_error sl_X9_error ⟨_, rfl, rfl⟩ (kX9_error hq) (gO_some hq).1 rfl (by decide) rfl (Nat.le_of_ble_eq_true rfl) ?_
    exact J_iret (pc := 37) C dX9_debt_37 hF (by decide) (by decide)
  · refine J_aload_n (pc := 8) C dX9_debt_8 rfl ?_
    refine J_iload_n (pc := 9) C dX9_debt_9 rfl ?_
    refine J_bind hF (fun q10 hq hF => ?_)
    refine J_callV0_ip (pc := 10) (stk := [.int x2, .ref a0]) (st := []) C dX9_debt_10 yw_X9_isPerson w_MLX9_156 in_X9_isPerson sl_X9_isPerson ⟨_, rfl, rfl⟩ (kX9_isPerson hq) (gO_some hq).1 rfl (by decide) rfl (Nat.le_of_ble_eq_true rfl) ?_
    refine J_if_eq (pc := 13) (tgt := 32) C dX9_debt_13 rfl hF (fun hF => ?_) (fun hF => ?_)
    · refine J_aload_n (pc := 32) C dX9_debt_32 rfl ?_
      refine J_iconst (pc := 33) C dX9_debt_33 ic_1 ?_
      refine J_bind hF (fun q34 hq hF => ?_)
      refine J_callV0_i (pc := 34) (stk := [.int 1, .ref a0]) (st := []) C dX9_debt_34 yw_X9_error w_MLX9_63 in_X9_error sl_X9_error ⟨_, rfl, rfl⟩ (kX9_error hq) (gO_some hq).1 rfl (by decide) rfl (Nat.le_of_ble_eq_true rfl) ?_
      exact J_iret (pc := 37) C dX9_debt_37 hF (by decide) (by decide)
    · refine J_iload_n (pc := 16) C dX9_debt_16 rfl ?_
      refine J_iload_n (pc := 17) C dX9_debt_17 rfl ?_
      refine J_icmp_eq (pc := 18) (tgt := 32) C dX9_debt_18 rfl hF (fun hF => ?_) (fun hF => ?_)
      · refine J_aload_n (pc := 32) C dX9_debt_32 rfl ?_
        refine J_iconst (pc := 33) C dX9_debt_33 ic_1 ?_
        refine J_bind hF (fun q34 hq hF => ?_)
        refine J_callV0_i (pc := 34) (stk := [.int 1, .ref a0]) (st := []) C dX9_debt_34 yw_X9_error w_MLX9_63 in_X9_error sl_X9_error ⟨_, rfl, rfl⟩ (kX9_error hq) (gO_some hq).1 rfl (by decide) rfl (Nat.le_of_ble_eq_true rfl) ?_
        exact J_iret (pc := 37) C dX9_debt_37 hF (by decide) (by decide)
      · refine J_iload_n (pc := 21) C dX9_debt_21 rfl ?_
        refine J_iconst (pc := 22) C dX9_debt_22 ic_1 ?_
        refine J_sipush (pc := 23) C dX9_debt_23 sc_999 ?_
        refine J_bind hF (fun q26 hq hF => ?_)
        refine J_callS0_ip (pc := 26) (stk := [.int 999, .int 1, .int x3]) (st := []) C dX9_debt_26 yw_X9_in w_MLX9_59 st_X9_in (kX9_in hq) rfl (by decide) rfl (Nat.le_of_ble_eq_true rfl) ?_
        refine J_if_ne (pc := 29) (tgt := 38) C dX9_debt_29 rfl hF (fun hF => ?_) (fun hF => ?_)
        · refine J_aload_n (pc := 32) C dX9_debt_32 rfl ?_
          refine J_iconst (pc := 33) C dX9_debt_33 ic_1 ?_
          refine J_bind hF (fun q34 hq hF => ?_)
          refine J_callV0_i (pc := 34) (stk := [.int 1, .ref a0]) (st := []) C dX9_debt_34 yw_X9_error w_MLX9_63 in_X9_error sl_X9_error ⟨_, rfl, rfl⟩ (kX9_error hq) (gO_some hq).1 rfl (by decide) rfl (Nat.le_of_ble_eq_true rfl) ?_
          exact J_iret (pc := 37) C dX9_debt_37 hF (by decide) (by decide)
        · refine J_aload_n (pc := 38) C dX9_debt_38 rfl ?_
          refine J_getR (pc := 39) C dX9_debt_39 fg_X9_7 hF (fun r39 hF => ?_)
          refine J_iconst (pc := 42) C dX9_debt_42 ic_3 ?_
          refine J_iald (pc := 43) C dX9_debt_43 hF (fun v43 hF => ?_)
          refine J_bipush (pc := 44) C dX9_debt_44 bc_8 ?_
          refine J_icmp_ne (pc := 46) (tgt := 55) C dX9_debt_46 rfl hF (fun hF => ?_) (fun hF => ?_)
          · refine J_aload_n (pc := 49) C dX9_debt_49 rfl ?_
            refine J_iconst (pc := 50) C dX9_debt_50 ic_4 ?_
            refine J_bind hF (fun q51 hq hF => ?_)
            refine J_callV0_i (pc := 51) (stk := [.int 4, .ref a0]) (st := []) C dX9_debt_51 yw_X9_error w_MLX9_63 in_X9_error sl_X9_error ⟨_, rfl, rfl⟩ (kX9_error hq) (gO_some hq).1 rfl (by decide) rfl (Nat.le_of_ble_eq_true rfl) ?_
            exact J_iret (pc := 54) C dX9_debt_54 hF (by decide) (by decide)
          · refine J_bipush (pc := 55) C dX9_debt_55 bc_76 ?_
            refine J_iconst (pc := 57) C dX9_debt_57 ic_3 ?_
            refine J_aload_n (pc := 58) C dX9_debt_58 rfl ?_
            refine J_getR (pc := 59) C dX9_debt_59 fg_X9_7 hF (fun r59 hF => ?_)
            refine J_iconst (pc := 62) C dX9_debt_62 ic_3 ?_
            refine J_iald (pc := 63) C dX9_debt_63 hF (fun v63 hF => ?_)
            refine J_imul (pc := 64) C dX9_debt_64 ?_
            refine J_iadd (pc := 65) C dX9_debt_65 ?_
            refine J_istore (pc := 66) (lv' := [some (.ref a0), some (.int x1), some (.int x2), some (.int x3), some (.int (76 + (3 * v63)))]) C dX9_debt_66 rfl ?_
            refine J_aload_n (pc := 68) C dX9_debt_68 rfl ?_
            refine J_getR (pc := 69) C dX9_debt_69 fg_X9_7 hF (fun r69 hF => ?_)
            refine J_iload (pc := 72) C dX9_debt_72 rfl ?_
            refine J_iload_n (pc := 74) C dX9_debt_74 rfl ?_
            refine J_iast (pc := 75) C dX9_debt_75 hF (fun h75 hF => ?_)
            refine J_aload_n (pc := 76) C dX9_debt_76 rfl ?_
            refine J_getR (pc := 77) C dX9_debt_77 fg_X9_7 hF (fun r77 hF => ?_)
            refine J_iload (pc := 80) C dX9_debt_80 rfl ?_
            refine J_iconst (pc := 82) C dX9_debt_82 ic_1 ?_
            refine J_iadd (pc := 83) C dX9_debt_83 ?_
            refine J_iload_n (pc := 84) C dX9_debt_84 rfl ?_
            refine J_iast (pc := 85) C dX9_debt_85 hF (fun h85 hF => ?_)
            refine J_aload_n (pc := 86) C dX9_debt_86 rfl ?_
            refine J_getR (pc := 87) C dX9_debt_87 fg_X9_7 hF (fun r87 hF => ?_)
            refine J_iload (pc := 90) C dX9_debt_90 rfl ?_
            refine J_iconst (pc := 92) C dX9_debt_92 ic_2 ?_
            refine J_iadd (pc := 93) C dX9_debt_93 ?_
            refine J_iload_n (pc := 94) C dX9_debt_94 rfl ?_
            refine J_iast (pc := 95) C dX9_debt_95 hF (fun h95 hF => ?_)
            refine J_aload_n (pc := 96) C dX9_debt_96 rfl ?_
            refine J_getR (pc := 97) C dX9_debt_97 fg_X9_7 hF (fun r97 hF => ?_)
            refine J_iconst (pc := 100) C dX9_debt_100 ic_3 ?_
            refine J_dup2 (pc := 101) C dX9_debt_101 rfl rfl ?_
            refine J_iald (pc := 102) C dX9_debt_102 hF (fun v102 hF => ?_)
            refine J_iconst (pc := 103) C dX9_debt_103 ic_1 ?_
            refine J_iadd (pc := 104) C dX9_debt_104 ?_
            refine J_iast (pc := 105) C dX9_debt_105 hF (fun h105 hF => ?_)
            refine J_aload_n (pc := 106) C dX9_debt_106 rfl ?_
            refine J_getR (pc := 107) C dX9_debt_107 fg_X9_7 hF (fun r107 hF => ?_)
            refine J_iconst (pc := 110) C dX9_debt_110 ic_3 ?_
            refine J_iald (pc := 111) C dX9_debt_111 hF (fun v111 hF => ?_)
            refine J_iconst (pc := 112) C dX9_debt_112 ic_1 ?_
            refine J_isub (pc := 113) C dX9_debt_113 ?_
            exact J_iret (pc := 114) C dX9_debt_114 hF (by decide) (by decide)
def fX9_debtIs (h : Hp) (a0 : Nat) (x1 : Int32) (x2 : Int32) : Option (Int32 × Hp) := gO h 9 a0 (
  (getR h 9 a0 0).bind fun r3 =>
  (rdI h r3 3).bind fun v7 =>
  (fX9_in x1 0 (v7 - 1)).bind fun q10 =>
  if q10 = 0 then
    (fX9_error h a0 1).bind fun q27 =>
    some (q27.1, q27.2)
  else
    (fX9_in x2 0 3).bind fun q19 =>
    if q19 = 0 then
      (fX9_error h a0 1).bind fun q27 =>
      some (q27.1, q27.2)
    else
      (fX9_findHeaps h a0).bind fun q32 =>
      if x2 = 3 then
        (fX9_holds q32 a0 x1).bind fun q42 =>
        if q42 = 0 then
          some (0, q32)
        else
          some (1, q32)
      else
        (fX9_owed q32 a0 x1 x2).bind fun q59 =>
        some (q59, q32))
set_option maxRecDepth 100000 in
theorem kX9_debtIs {h : Hp} {a0 : Nat} {x1 : Int32} {x2 : Int32} {z : (Int32 × Hp)} (hF : fX9_debtIs h a0 x1 x2 = some z) : Mc yX9_debtIs cX9_debtIs 3 (some .int) 2 0 0 [.ref a0, .int x1, .int x2] h (some (.int z.1), z.2) := by
  have hF := (gO_some hF).2
  refine Mc_of [some (.ref a0), some (.int x1), some (.int x2)] plX9 rfl rfl (Nat.le_of_ble_eq_true rfl) (fun X C => ?_)
  refine J_iload_n (pc := 0) C dX9_debtIs_0 rfl ?_
  refine J_iconst (pc := 1) C dX9_debtIs_1 ic_0 ?_
  refine J_aload_n (pc := 2) C dX9_debtIs_2 rfl ?_
  refine J_getR (pc := 3) C dX9_debtIs_3 fg_X9_7 hF (fun r3 hF => ?_)
  refine J_iconst (pc := 6) C dX9_debtIs_6 ic_3 ?_
  refine J_iald (pc := 7) C dX9_debtIs_7 hF (fun v7 hF => ?_)
  refine J_iconst (pc := 8) C dX9_debtIs_8 ic_1 ?_
  refine J_isub (pc := 9) C dX9_debtIs_9 ?_
  refine J_bind hF (fun q10 hq hF => ?_)
  refine J_callS0_ip (pc := 10) (stk := [.int (v7 - 1), .int 0, .int x1]) (st := []) C dX9_debtIs_10 yw_X9_in w_MLX9_59 st_X9_in (kX9_in hq) rfl (by decide) rfl (Nat.le_of_ble_eq_true rfl) ?_
  refine J_if_eq (pc := 13) (tgt := 25) C dX9_debtIs_13 rfl hF (fun hF => ?_) (fun hF => ?_)
  · refine J_aload_n (pc := 25) C dX9_debtIs_25 rfl ?_
    refine J_iconst (pc := 26) C dX9_debtIs_26 ic_1 ?_
    refine J_bind hF (fun q27 hq hF => ?_)
    refine J_callV0_i (pc := 27) (stk := [.int 1, .ref a0]) (st := []) C dX9_debtIs_27 yw_X9_error w_MLX9_63 in_X9_error sl_X9_error ⟨_, rfl, rfl⟩ (kX9_error hq) (gO_some hq).1 rfl (by decide) rfl (Nat.le_of_ble_eq_true rfl) ?_
    exact J_iret (pc := 30) C dX9_debtIs_30 hF (by decide) (by decide)
  · refine J_iload_n (pc := 16) C dX9_debtIs_16 rfl ?_
    refine J_iconst (pc := 17) C dX9_debtIs_17 ic_0 ?_
    refine J_iconst (pc := 18) C dX9_debtIs_18 ic_3 ?_
    refine J_bind hF (fun q19 hq hF => ?_)
    refine J_callS0_ip (pc := 19) (stk := [.int 3, .int 0, .int x2]) (st := []) C dX9_debtIs_19 yw_X9_in w_MLX9_59 st_X9_in (kX9_in hq) rfl (by decide) rfl (Nat.le_of_ble_eq_true rfl) ?_
    refine J_if_ne (pc := 22) (tgt := 31) C dX9_debtIs_22 rfl hF (fun hF => ?_) (fun hF => ?_)
    · refine J_aload_n (pc := 25) C dX9_debtIs_25 rfl ?_
      refine J_iconst (pc := 26) C dX9_debtIs_26 ic_1 ?_
      refine J_bind hF (fun q27 hq hF => ?_)
      refine J_callV0_i (pc := 27) (stk := [.int 1, .ref a0]) (st := []) C dX9_debtIs_27 yw_X9_error w_MLX9_63 in_X9_error sl_X9_error ⟨_, rfl, rfl⟩ (kX9_error hq) (gO_some hq).1 rfl (by decide) rfl (Nat.le_of_ble_eq_true rfl) ?_
      exact J_iret (pc := 30) C dX9_debtIs_30 hF (by decide) (by decide)
    · refine J_aload_n (pc := 31) C dX9_debtIs_31 rfl ?_
      refine J_bind hF (fun q32 hq hF => ?_)
      refine J_callV0_v (pc := 32) (stk := [.ref a0]) (st := []) C dX9_debtIs_32 yw_X9_findHeaps w_MLX9_159 in_X9_findHeaps sl_X9_findHeaps ⟨_, rfl, rfl⟩ (kX9_findHeaps hq) (gO_some hq).1 rfl (by decide) rfl (Nat.le_of_ble_eq_true rfl) ?_
      refine J_iload_n (pc := 35) C dX9_debtIs_35 rfl ?_
      refine J_iconst (pc := 36) C dX9_debtIs_36 ic_3 ?_
      refine J_icmp_ne (pc := 37) (tgt := 56) C dX9_debtIs_37 rfl hF (fun hF => ?_) (fun hF => ?_)
      · refine J_aload_n (pc := 40) C dX9_debtIs_40 rfl ?_
        refine J_iload_n (pc := 41) C dX9_debtIs_41 rfl ?_
        refine J_bind hF (fun q42 hq hF => ?_)
        refine J_callV0_ip (pc := 42) (stk := [.int x1, .ref a0]) (st := []) C dX9_debtIs_42 yw_X9_holds w_MLX9_204 in_X9_holds sl_X9_holds ⟨_, rfl, rfl⟩ (kX9_holds hq) (gO_some hq).1 rfl (by decide) rfl (Nat.le_of_ble_eq_true rfl) ?_
        refine J_if_eq (pc := 45) (tgt := 52) C dX9_debtIs_45 rfl hF (fun hF => ?_) (fun hF => ?_)
        · refine J_iconst (pc := 52) C dX9_debtIs_52 ic_0 ?_
          refine J_goto (pc := 53) (tgt := 62) C dX9_debtIs_53 rfl ?_
          exact J_iret (pc := 62) C dX9_debtIs_62 hF (by decide) (by decide)
        · refine J_iconst (pc := 48) C dX9_debtIs_48 ic_1 ?_
          refine J_goto (pc := 49) (tgt := 62) C dX9_debtIs_49 rfl ?_
          exact J_iret (pc := 62) C dX9_debtIs_62 hF (by decide) (by decide)
      · refine J_aload_n (pc := 56) C dX9_debtIs_56 rfl ?_
        refine J_iload_n (pc := 57) C dX9_debtIs_57 rfl ?_
        refine J_iload_n (pc := 58) C dX9_debtIs_58 rfl ?_
        refine J_bind hF (fun q59 hq hF => ?_)
        refine J_callV0_ip (pc := 59) (stk := [.int x2, .int x1, .ref a0]) (st := []) C dX9_debtIs_59 yw_X9_owed w_MLX9_201 in_X9_owed sl_X9_owed ⟨_, rfl, rfl⟩ (kX9_owed hq) (gO_some hq).1 rfl (by decide) rfl (Nat.le_of_ble_eq_true rfl) ?_
        exact J_iret (pc := 62) C dX9_debtIs_62 hF (by decide) (by decide)
def fX9_draws_47 : Nat → Hp → Nat → Int32 → Int32 → Option (Int32 × Hp)
  | 0, _, _, _, _ => none
  | n47 + 1, h, a0, x1, x2 =>
    if x1 ≤ x2 then
      (getR h 9 a0 0).bind fun r63 =>
      (rdI h r63 2).bind fun v67 =>
      some (v67, h)
    else
      (fX9_crossByDraws h a0).bind fun q53 =>
      fX9_draws_47 n47 q53 a0 x1 (x2 + 1)
set_option maxRecDepth 100000 in
theorem kX9_draws_47 {X : Cx} {z : (Int32 × Hp)} (C : Jc X yX9_draws cX9_draws 3 (some .int) 7 0 0 (some (.int z.1), z.2)) : ∀ (n47 : Nat) (h : Hp) (a0 : Nat) (x1 : Int32) (x2 : Int32), fX9_draws_47 n47 h a0 x1 x2 = some z → J X 0 0 0 0 47 [some (.ref a0), some (.int x1), some (.int x2)] [] h := by
  intro n47
  induction n47 with
  | zero => intro h a0 x1 x2 hF; cases hF
  | succ n47 ih =>
    intro h a0 x1 x2 hF
    rw [fX9_draws_47] at hF
    refine J_iload_n (pc := 47) C dX9_draws_47 rfl ?_
    refine J_iload_n (pc := 48) C dX9_draws_48 rfl ?_
    refine J_icmp_ge (pc := 49) (tgt := 62) C dX9_draws_49 rfl hF (fun hF => ?_) (fun hF => ?_)
    · refine J_aload_n (pc := 62) C dX9_draws_62 rfl ?_
      refine J_getR (pc := 63) C dX9_draws_63 fg_X9_7 hF (fun r63 hF => ?_)
      refine J_iconst (pc := 66) C dX9_draws_66 ic_2 ?_
      refine J_iald (pc := 67) C dX9_draws_67 hF (fun v67 hF => ?_)
      exact J_iret (pc := 68) C dX9_draws_68 hF (by decide) (by decide)
    · refine J_aload_n (pc := 52) C dX9_draws_52 rfl ?_
      refine J_bind hF (fun q53 hq hF => ?_)
      refine J_callV0_v (pc := 53) (stk := [.ref a0]) (st := []) C dX9_draws_53 yw_X9_crossByDraws w_MLX9_198 in_X9_crossByDraws sl_X9_crossByDraws ⟨_, rfl, rfl⟩ (kX9_crossByDraws hq) (gO_some hq).1 rfl (by decide) rfl (Nat.le_of_ble_eq_true rfl) ?_
      refine J_iinc (pc := 56) (lv' := [some (.ref a0), some (.int x1), some (.int (x2 + 1))]) C dX9_draws_56 rfl ic_1 rfl ?_
      refine J_goto (pc := 59) (tgt := 47) C dX9_draws_59 rfl ?_
      exact ih q53 a0 x1 (x2 + 1) hF
def fX9_draws (h : Hp) (a0 : Nat) (x1 : Int32) : Option (Int32 × Hp) := gO h 9 a0 (
  (fX9_in x1 1 60).bind fun q4 =>
  if q4 = 0 then
    (fX9_error h a0 1).bind fun q12 =>
    some (q12.1, q12.2)
  else
    (getR h 9 a0 0).bind fun r17 =>
    (rdI h r17 1).bind fun v21 =>
    if v21 = 0 then
      (fX9_error h a0 3).bind fun q41 =>
      some (q41.1, q41.2)
    else
      (getR h 9 a0 0).bind fun r26 =>
      (rdI h r26 2).bind fun v30 =>
      if (v30 + x1) ≤ 9999 then
        fX9_draws_47 1000 h a0 x1 0
      else
        (fX9_error h a0 3).bind fun q41 =>
        some (q41.1, q41.2))
set_option maxRecDepth 100000 in
theorem kX9_draws {h : Hp} {a0 : Nat} {x1 : Int32} {z : (Int32 × Hp)} (hF : fX9_draws h a0 x1 = some z) : Mc yX9_draws cX9_draws 3 (some .int) 7 0 0 [.ref a0, .int x1] h (some (.int z.1), z.2) := by
  have hF := (gO_some hF).2
  refine Mc_of [some (.ref a0), some (.int x1), none] plX9 rfl rfl (Nat.le_of_ble_eq_true rfl) (fun X C => ?_)
  refine J_iload_n (pc := 0) C dX9_draws_0 rfl ?_
  refine J_iconst (pc := 1) C dX9_draws_1 ic_1 ?_
  refine J_bipush (pc := 2) C dX9_draws_2 bc_60 ?_
  refine J_bind hF (fun q4 hq hF => ?_)
  refine J_callS0_ip (pc := 4) (stk := [.int 60, .int 1, .int x1]) (st := []) C dX9_draws_4 yw_X9_in w_MLX9_59 st_X9_in (kX9_in hq) rfl (by decide) rfl (Nat.le_of_ble_eq_true rfl) ?_
  refine J_if_ne (pc := 7) (tgt := 16) C dX9_draws_7 rfl hF (fun hF => ?_) (fun hF => ?_)
  · refine J_aload_n (pc := 10) C dX9_draws_10 rfl ?_
    refine J_iconst (pc := 11) C dX9_draws_11 ic_1 ?_
    refine J_bind hF (fun q12 hq hF => ?_)
    refine J_callV0_i (pc := 12) (stk := [.int 1, .ref a0]) (st := []) C dX9_draws_12 yw_X9_error w_MLX9_63 in_X9_error sl_X9_error ⟨_, rfl, rfl⟩ (kX9_error hq) (gO_some hq).1 rfl (by decide) rfl (Nat.le_of_ble_eq_true rfl) ?_
    exact J_iret (pc := 15) C dX9_draws_15 hF (by decide) (by decide)
  · refine J_aload_n (pc := 16) C dX9_draws_16 rfl ?_
    refine J_getR (pc := 17) C dX9_draws_17 fg_X9_7 hF (fun r17 hF => ?_)
    refine J_iconst (pc := 20) C dX9_draws_20 ic_1 ?_
    refine J_iald (pc := 21) C dX9_draws_21 hF (fun v21 hF => ?_)
    refine J_if_eq (pc := 22) (tgt := 39) C dX9_draws_22 rfl hF (fun hF => ?_) (fun hF => ?_)
    · refine J_aload_n (pc := 39) C dX9_draws_39 rfl ?_
      refine J_iconst (pc := 40) C dX9_draws_40 ic_3 ?_
      refine J_bind hF (fun q41 hq hF => ?_)
      refine J_callV0_i (pc := 41) (stk := [.int 3, .ref a0]) (st := []) C dX9_draws_41 yw_X9_error w_MLX9_63 in_X9_error sl_X9_error ⟨_, rfl, rfl⟩ (kX9_error hq) (gO_some hq).1 rfl (by decide) rfl (Nat.le_of_ble_eq_true rfl) ?_
      exact J_iret (pc := 44) C dX9_draws_44 hF (by decide) (by decide)
    · refine J_aload_n (pc := 25) C dX9_draws_25 rfl ?_
      refine J_getR (pc := 26) C dX9_draws_26 fg_X9_7 hF (fun r26 hF => ?_)
      refine J_iconst (pc := 29) C dX9_draws_29 ic_2 ?_
      refine J_iald (pc := 30) C dX9_draws_30 hF (fun v30 hF => ?_)
      refine J_iload_n (pc := 31) C dX9_draws_31 rfl ?_
      refine J_iadd (pc := 32) C dX9_draws_32 ?_
      refine J_sipush (pc := 33) C dX9_draws_33 sc_9999 ?_
      refine J_icmp_le (pc := 36) (tgt := 45) C dX9_draws_36 rfl hF (fun hF => ?_) (fun hF => ?_)
      · refine J_iconst (pc := 45) C dX9_draws_45 ic_0 ?_
        refine J_istore_n (pc := 46) (lv' := [some (.ref a0), some (.int x1), some (.int 0)]) C dX9_draws_46 rfl ?_
        exact kX9_draws_47 C 1000 h a0 x1 0 hF
      · refine J_aload_n (pc := 39) C dX9_draws_39 rfl ?_
        refine J_iconst (pc := 40) C dX9_draws_40 ic_3 ?_
        refine J_bind hF (fun q41 hq hF => ?_)
        refine J_callV0_i (pc := 41) (stk := [.int 3, .ref a0]) (st := []) C dX9_draws_41 yw_X9_error w_MLX9_63 in_X9_error sl_X9_error ⟨_, rfl, rfl⟩ (kX9_error hq) (gO_some hq).1 rfl (by decide) rfl (Nat.le_of_ble_eq_true rfl) ?_
        exact J_iret (pc := 44) C dX9_draws_44 hF (by decide) (by decide)
def fX9_layBack_2 : Nat → Hp → Nat → Int32 → Int32 → Option Hp
  | 0, _, _, _, _ => none
  | n2 + 1, h, a0, x1, x2 =>
    if (124 : Int32) ≤ x2 then
      some h
    else
      (getR h 9 a0 0).bind fun r9 =>
      (getR h 9 a0 3).bind fun r14 =>
      (rdI h r14 ((124 * x1) + x2)).bind fun v23 =>
      (wrI h r9 x2 v23).bind fun h24 =>
      fX9_layBack_2 n2 h24 a0 x1 (x2 + 1)
set_option maxRecDepth 100000 in
theorem kX9_layBack_2 {X : Cx} {z : Hp} (C : Jc X yX9_layBack cX9_layBack 3 none 0 0 0 (none, z)) : ∀ (n2 : Nat) (h : Hp) (a0 : Nat) (x1 : Int32) (x2 : Int32), fX9_layBack_2 n2 h a0 x1 x2 = some z → J X 0 0 0 0 2 [some (.ref a0), some (.int x1), some (.int x2)] [] h := by
  intro n2
  induction n2 with
  | zero => intro h a0 x1 x2 hF; cases hF
  | succ n2 ih =>
    intro h a0 x1 x2 hF
    rw [fX9_layBack_2] at hF
    refine J_iload_n (pc := 2) C dX9_layBack_2 rfl ?_
    refine J_bipush (pc := 3) C dX9_layBack_3 bc_124 ?_
    refine J_icmp_ge (pc := 5) (tgt := 31) C dX9_layBack_5 rfl hF (fun hF => ?_) (fun hF => ?_)
    · exact J_vret (pc := 31) C dX9_layBack_31 hF (by decide) (by decide)
    · refine J_aload_n (pc := 8) C dX9_layBack_8 rfl ?_
      refine J_getR (pc := 9) C dX9_layBack_9 fg_X9_7 hF (fun r9 hF => ?_)
      refine J_iload_n (pc := 12) C dX9_layBack_12 rfl ?_
      refine J_aload_n (pc := 13) C dX9_layBack_13 rfl ?_
      refine J_getR (pc := 14) C dX9_layBack_14 fg_X9_19 hF (fun r14 hF => ?_)
      refine J_bipush (pc := 17) C dX9_layBack_17 bc_124 ?_
      refine J_iload_n (pc := 19) C dX9_layBack_19 rfl ?_
      refine J_imul (pc := 20) C dX9_layBack_20 ?_
      refine J_iload_n (pc := 21) C dX9_layBack_21 rfl ?_
      refine J_iadd (pc := 22) C dX9_layBack_22 ?_
      refine J_iald (pc := 23) C dX9_layBack_23 hF (fun v23 hF => ?_)
      refine J_iast (pc := 24) C dX9_layBack_24 hF (fun h24 hF => ?_)
      refine J_iinc (pc := 25) (lv' := [some (.ref a0), some (.int x1), some (.int (x2 + 1))]) C dX9_layBack_25 rfl ic_1 rfl ?_
      refine J_goto (pc := 28) (tgt := 2) C dX9_layBack_28 rfl ?_
      exact ih h24 a0 x1 (x2 + 1) hF
def fX9_layBack (h : Hp) (a0 : Nat) (x1 : Int32) : Option Hp := gO h 9 a0 (
  fX9_layBack_2 1000 h a0 x1 0)
set_option maxRecDepth 100000 in
theorem kX9_layBack {h : Hp} {a0 : Nat} {x1 : Int32} {z : Hp} (hF : fX9_layBack h a0 x1 = some z) : Mc yX9_layBack cX9_layBack 3 none 0 0 0 [.ref a0, .int x1] h (none, z) := by
  have hF := (gO_some hF).2
  refine Mc_of [some (.ref a0), some (.int x1), none] plX9 rfl rfl (Nat.le_of_ble_eq_true rfl) (fun X C => ?_)
  refine J_iconst (pc := 0) C dX9_layBack_0 ic_0 ?_
  refine J_istore_n (pc := 1) (lv' := [some (.ref a0), some (.int x1), some (.int 0)]) C dX9_layBack_1 rfl ?_
  exact kX9_layBack_2 C 1000 h a0 x1 0 hF
def fX9_layDown_2 : Nat → Hp → Nat → Int32 → Int32 → Option Hp
  | 0, _, _, _, _ => none
  | n2 + 1, h, a0, x1, x2 =>
    if (124 : Int32) ≤ x2 then
      some h
    else
      (getR h 9 a0 3).bind fun r9 =>
      (getR h 9 a0 0).bind fun r19 =>
      (rdI h r19 x2).bind fun v23 =>
      (wrI h r9 ((124 * x1) + x2) v23).bind fun h24 =>
      fX9_layDown_2 n2 h24 a0 x1 (x2 + 1)
set_option maxRecDepth 100000 in
theorem kX9_layDown_2 {X : Cx} {z : Hp} (C : Jc X yX9_layDown cX9_layDown 3 none 0 0 0 (none, z)) : ∀ (n2 : Nat) (h : Hp) (a0 : Nat) (x1 : Int32) (x2 : Int32), fX9_layDown_2 n2 h a0 x1 x2 = some z → J X 0 0 0 0 2 [some (.ref a0), some (.int x1), some (.int x2)] [] h := by
  intro n2
  induction n2 with
  | zero => intro h a0 x1 x2 hF; cases hF
  | succ n2 ih =>
    intro h a0 x1 x2 hF
    rw [fX9_layDown_2] at hF
    refine J_iload_n (pc := 2) C dX9_layDown_2 rfl ?_
    refine J_bipush (pc := 3) C dX9_layDown_3 bc_124 ?_
    refine J_icmp_ge (pc := 5) (tgt := 31) C dX9_layDown_5 rfl hF (fun hF => ?_) (fun hF => ?_)
    · exact J_vret (pc := 31) C dX9_layDown_31 hF (by decide) (by decide)
    · refine J_aload_n (pc := 8) C dX9_layDown_8 rfl ?_
      refine J_getR (pc := 9) C dX9_layDown_9 fg_X9_19 hF (fun r9 hF => ?_)
      refine J_bipush (pc := 12) C dX9_layDown_12 bc_124 ?_
      refine J_iload_n (pc := 14) C dX9_layDown_14 rfl ?_
      refine J_imul (pc := 15) C dX9_layDown_15 ?_
      refine J_iload_n (pc := 16) C dX9_layDown_16 rfl ?_
      refine J_iadd (pc := 17) C dX9_layDown_17 ?_
      refine J_aload_n (pc := 18) C dX9_layDown_18 rfl ?_
      refine J_getR (pc := 19) C dX9_layDown_19 fg_X9_7 hF (fun r19 hF => ?_)
      refine J_iload_n (pc := 22) C dX9_layDown_22 rfl ?_
      refine J_iald (pc := 23) C dX9_layDown_23 hF (fun v23 hF => ?_)
      refine J_iast (pc := 24) C dX9_layDown_24 hF (fun h24 hF => ?_)
      refine J_iinc (pc := 25) (lv' := [some (.ref a0), some (.int x1), some (.int (x2 + 1))]) C dX9_layDown_25 rfl ic_1 rfl ?_
      refine J_goto (pc := 28) (tgt := 2) C dX9_layDown_28 rfl ?_
      exact ih h24 a0 x1 (x2 + 1) hF
def fX9_layDown (h : Hp) (a0 : Nat) (x1 : Int32) : Option Hp := gO h 9 a0 (
  fX9_layDown_2 1000 h a0 x1 0)
set_option maxRecDepth 100000 in
theorem kX9_layDown {h : Hp} {a0 : Nat} {x1 : Int32} {z : Hp} (hF : fX9_layDown h a0 x1 = some z) : Mc yX9_layDown cX9_layDown 3 none 0 0 0 [.ref a0, .int x1] h (none, z) := by
  have hF := (gO_some hF).2
  refine Mc_of [some (.ref a0), some (.int x1), none] plX9 rfl rfl (Nat.le_of_ble_eq_true rfl) (fun X C => ?_)
  refine J_iconst (pc := 0) C dX9_layDown_0 ic_0 ?_
  refine J_istore_n (pc := 1) (lv' := [some (.ref a0), some (.int x1), some (.int 0)]) C dX9_layDown_1 rfl ?_
  exact kX9_layDown_2 C 1000 h a0 x1 0 hF
def fX9_estranges_114 (oX9_estranges : Hp → Nat → Int32 → Int32 → Int32 → Int32 → Option (Int32 × Hp)) (k32 : Hp → Nat → Int32 → Int32 → Int32 → Int32 → Int32 → Int32 → Option (Int32 × Hp)) (h : Hp) (a0 : Nat) (x1 : Int32) (x2 : Int32) (x3 : Int32) (x4 : Int32) (x6 : Int32) (x8 : Int32) : Option (Int32 × Hp) :=
  k32 h a0 x1 x2 x3 x4 (x8 + 1) (x6 + 1)
set_option maxRecDepth 100000 in
theorem kX9_estranges_114 {X : Cx} {z : (Int32 × Hp)} {n : Nat} {oX9_estranges : Hp → Nat → Int32 → Int32 → Int32 → Int32 → Option (Int32 × Hp)} (C : Jc X yX9_estranges cX9_estranges 9 (some .int) (n + 1 + 6) 0 0 (some (.int z.1), z.2)) (hO : (∀ (h : Hp) (a0 : Nat) (x1 : Int32) (x2 : Int32) (x3 : Int32) (x4 : Int32) (z : (Int32 × Hp)), oX9_estranges h a0 x1 x2 x3 x4 = some z → Mc yX9_estranges cX9_estranges 9 (some .int) (n + 6) 0 0 [.ref a0, .int x1, .int x2, .int x3, .int x4] h (some (.int z.1), z.2))) {k32 : Hp → Nat → Int32 → Int32 → Int32 → Int32 → Int32 → Int32 → Option (Int32 × Hp)} (hk32 : ∀ (h : Hp) (a0 : Nat) (x1 : Int32) (x2 : Int32) (x3 : Int32) (x4 : Int32) (x5 : Int32) (x6 : Int32), k32 h a0 x1 x2 x3 x4 x5 x6 = some z → J X 0 0 0 0 32 [some (.ref a0), some (.int x1), some (.int x2), some (.int x3), some (.int x4), some (.int x5), some (.int x6), none, none] [] h) (h : Hp) (a0 : Nat) (x1 : Int32) (x2 : Int32) (x3 : Int32) (x4 : Int32) (x6 : Int32) (x8 : Int32) (hF : fX9_estranges_114 oX9_estranges k32 h a0 x1 x2 x3 x4 x6 x8 = some z) : J X 0 0 0 0 114 [some (.ref a0), some (.int x1), some (.int x2), some (.int x3), some (.int x4), none, some (.int x6), none, some (.int x8)] [] h := by
  unfold fX9_estranges_114 at hF
  refine J_iload (pc := 114) C dX9_estranges_114 rfl ?_
  refine J_iconst (pc := 116) C dX9_estranges_116 ic_1 ?_
  refine J_iadd (pc := 117) C dX9_estranges_117 ?_
  refine J_goto (pc := 118) (tgt := 123) C dX9_estranges_118 rfl ?_
  refine J_istore (pc := 123) (lv' := [some (.ref a0), some (.int x1), some (.int x2), some (.int x3), some (.int x4), some (.int (x8 + 1)), some (.int x6), none, some (.int x8)]) C dX9_estranges_123 rfl ?_
  refine J_iinc (pc := 125) (lv' := [some (.ref a0), some (.int x1), some (.int x2), some (.int x3), some (.int x4), some (.int (x8 + 1)), some (.int (x6 + 1)), none, some (.int x8)]) C dX9_estranges_125 rfl ic_1 rfl ?_
  refine J_goto (pc := 128) (tgt := 32) C dX9_estranges_128 rfl ?_
  refine J_msk (m := [true, true, true, true, true, true, true, false, false]) rfl ?_
  exact hk32 h a0 x1 x2 x3 x4 (x8 + 1) (x6 + 1) hF
def fX9_estranges_32 (oX9_estranges : Hp → Nat → Int32 → Int32 → Int32 → Int32 → Option (Int32 × Hp)) : Nat → Hp → Nat → Int32 → Int32 → Int32 → Int32 → Int32 → Int32 → Option (Int32 × Hp)
  | 0, _, _, _, _, _, _, _, _ => none
  | n32 + 1, h, a0, x1, x2, x3, x4, x5, x6 =>
    (getR h 9 a0 0).bind fun r35 =>
    (rdI h r35 0).bind fun v39 =>
    if v39 ≤ x6 then
      some (x5, h)
    else
      if x3 ≤ 0 then
        some (x5, h)
      else
        if x6 = x1 then
          fX9_estranges_32 oX9_estranges n32 h a0 x1 x2 x3 x4 x5 (x6 + 1)
        else
          (fX9_areTogether h a0 x2 x6).bind fun q57 =>
          if q57 = 0 then
            fX9_estranges_32 oX9_estranges n32 h a0 x1 x2 x3 x4 x5 (x6 + 1)
          else
            (fX9_crosses h a0 x2 x6).bind fun q67 =>
            (gO q67.2 9 a0 (oX9_estranges q67.2 a0 x1 x2 (x3 - 1) (x4 + 1))).bind fun q82 =>
            (fX9_layBack q82.2 a0 x4).bind fun q90 =>
            if q82.1 = ((-1)) then
              fX9_estranges_32 oX9_estranges n32 q90 a0 x1 x2 x3 x4 x5 (x6 + 1)
            else
              if x5 = ((-1)) then
                fX9_estranges_114 oX9_estranges (fX9_estranges_32 oX9_estranges n32) q90 a0 x1 x2 x3 x4 x6 q82.1
              else
                if x5 ≤ (q82.1 + 1) then
                  fX9_estranges_32 oX9_estranges n32 q90 a0 x1 x2 x3 x4 x5 (x6 + 1)
                else
                  fX9_estranges_114 oX9_estranges (fX9_estranges_32 oX9_estranges n32) q90 a0 x1 x2 x3 x4 x6 q82.1
set_option maxRecDepth 100000 in
theorem kX9_estranges_32 {X : Cx} {z : (Int32 × Hp)} {n : Nat} {oX9_estranges : Hp → Nat → Int32 → Int32 → Int32 → Int32 → Option (Int32 × Hp)} (C : Jc X yX9_estranges cX9_estranges 9 (some .int) (n + 1 + 6) 0 0 (some (.int z.1), z.2)) (hO : (∀ (h : Hp) (a0 : Nat) (x1 : Int32) (x2 : Int32) (x3 : Int32) (x4 : Int32) (z : (Int32 × Hp)), oX9_estranges h a0 x1 x2 x3 x4 = some z → Mc yX9_estranges cX9_estranges 9 (some .int) (n + 6) 0 0 [.ref a0, .int x1, .int x2, .int x3, .int x4] h (some (.int z.1), z.2))) : ∀ (n32 : Nat) (h : Hp) (a0 : Nat) (x1 : Int32) (x2 : Int32) (x3 : Int32) (x4 : Int32) (x5 : Int32) (x6 : Int32), fX9_estranges_32 oX9_estranges n32 h a0 x1 x2 x3 x4 x5 x6 = some z → J X 0 0 0 0 32 [some (.ref a0), some (.int x1), some (.int x2), some (.int x3), some (.int x4), some (.int x5), some (.int x6), none, none] [] h := by
  intro n32
  induction n32 with
  | zero => intro h a0 x1 x2 x3 x4 x5 x6 hF; cases hF
  | succ n32 ih =>
    intro h a0 x1 x2 x3 x4 x5 x6 hF
    rw [fX9_estranges_32] at hF
    refine J_iload (pc := 32) C dX9_estranges_32 rfl ?_
    refine J_aload_n (pc := 34) C dX9_estranges_34 rfl ?_
    refine J_getR (pc := 35) C dX9_estranges_35 fg_X9_7 hF (fun r35 hF => ?_)
    refine J_iconst (pc := 38) C dX9_estranges_38 ic_0 ?_
    refine J_iald (pc := 39) C dX9_estranges_39 hF (fun v39 hF => ?_)
    refine J_icmp_ge (pc := 40) (tgt := 131) C dX9_estranges_40 rfl hF (fun hF => ?_) (fun hF => ?_)
    · refine J_iload (pc := 131) C dX9_estranges_131 rfl ?_
      exact J_iret (pc := 133) C dX9_estranges_133 hF (by decide) (by decide)
    · refine J_iload_n (pc := 43) C dX9_estranges_43 rfl ?_
      refine J_if_le (pc := 44) (tgt := 131) C dX9_estranges_44 rfl hF (fun hF => ?_) (fun hF => ?_)
      · refine J_iload (pc := 131) C dX9_estranges_131 rfl ?_
        exact J_iret (pc := 133) C dX9_estranges_133 hF (by decide) (by decide)
      · refine J_iload (pc := 47) C dX9_estranges_47 rfl ?_
        refine J_iload_n (pc := 49) C dX9_estranges_49 rfl ?_
        refine J_icmp_eq (pc := 50) (tgt := 125) C dX9_estranges_50 rfl hF (fun hF => ?_) (fun hF => ?_)
        · refine J_iinc (pc := 125) (lv' := [some (.ref a0), some (.int x1), some (.int x2), some (.int x3), some (.int x4), some (.int x5), some (.int (x6 + 1)), none, none]) C dX9_estranges_125 rfl ic_1 rfl ?_
          refine J_goto (pc := 128) (tgt := 32) C dX9_estranges_128 rfl ?_
          exact ih h a0 x1 x2 x3 x4 x5 (x6 + 1) hF
        · refine J_aload_n (pc := 53) C dX9_estranges_53 rfl ?_
          refine J_iload_n (pc := 54) C dX9_estranges_54 rfl ?_
          refine J_iload (pc := 55) C dX9_estranges_55 rfl ?_
          refine J_bind hF (fun q57 hq hF => ?_)
          refine J_callV0_ip (pc := 57) (stk := [.int x6, .int x2, .ref a0]) (st := []) C dX9_estranges_57 yw_X9_areTogether w_MLX9_181 in_X9_areTogether sl_X9_areTogether ⟨_, rfl, rfl⟩ (kX9_areTogether hq) (gO_some hq).1 rfl (by omega) rfl (Nat.le_of_ble_eq_true rfl) ?_
          refine J_if_eq (pc := 60) (tgt := 125) C dX9_estranges_60 rfl hF (fun hF => ?_) (fun hF => ?_)
          · refine J_iinc (pc := 125) (lv' := [some (.ref a0), some (.int x1), some (.int x2), some (.int x3), some (.int x4), some (.int x5), some (.int (x6 + 1)), none, none]) C dX9_estranges_125 rfl ic_1 rfl ?_
            refine J_goto (pc := 128) (tgt := 32) C dX9_estranges_128 rfl ?_
            exact ih h a0 x1 x2 x3 x4 x5 (x6 + 1) hF
          · refine J_aload_n (pc := 63) C dX9_estranges_63 rfl ?_
            refine J_iload_n (pc := 64) C dX9_estranges_64 rfl ?_
            refine J_iload (pc := 65) C dX9_estranges_65 rfl ?_
            refine J_bind hF (fun q67 hq hF => ?_)
            refine J_callV0_i (pc := 67) (stk := [.int x6, .int x2, .ref a0]) (st := []) C dX9_estranges_67 yw_X9_crosses w_MLX9_187 in_X9_crosses sl_X9_crosses ⟨_, rfl, rfl⟩ (kX9_crosses hq) (gO_some hq).1 rfl (by omega) rfl (Nat.le_of_ble_eq_true rfl) ?_
            refine J_istore (pc := 70) (lv' := [some (.ref a0), some (.int x1), some (.int x2), some (.int x3), some (.int x4), some (.int x5), some (.int x6), some (.int q67.1), none]) C dX9_estranges_70 rfl ?_
            refine J_aload_n (pc := 72) C dX9_estranges_72 rfl ?_
            refine J_iload_n (pc := 73) C dX9_estranges_73 rfl ?_
            refine J_iload_n (pc := 74) C dX9_estranges_74 rfl ?_
            refine J_iload_n (pc := 75) C dX9_estranges_75 rfl ?_
            refine J_iconst (pc := 76) C dX9_estranges_76 ic_1 ?_
            refine J_isub (pc := 77) C dX9_estranges_77 ?_
            refine J_iload (pc := 78) C dX9_estranges_78 rfl ?_
            refine J_iconst (pc := 80) C dX9_estranges_80 ic_1 ?_
            refine J_iadd (pc := 81) C dX9_estranges_81 ?_
            refine J_bind hF (fun q82 hq hF => ?_)
            have hq := gO_some hq
            refine J_callV0_i (pc := 82) (stk := [.int (x4 + 1), .int (x3 - 1), .int x2, .int x1, .ref a0]) (st := []) C dX9_estranges_82 yw_X9_estranges w_MLX9_216 in_X9_estranges sl_X9_estranges ⟨_, rfl, rfl⟩ (hO _ _ _ _ _ _ _ hq.2) hq.1 rfl (by omega) rfl (Nat.le_of_ble_eq_true rfl) ?_
            refine J_istore (pc := 85) (lv' := [some (.ref a0), some (.int x1), some (.int x2), some (.int x3), some (.int x4), some (.int x5), some (.int x6), some (.int q67.1), some (.int q82.1)]) C dX9_estranges_85 rfl ?_
            refine J_aload_n (pc := 87) C dX9_estranges_87 rfl ?_
            refine J_iload (pc := 88) C dX9_estranges_88 rfl ?_
            refine J_bind hF (fun q90 hq hF => ?_)
            refine J_callV0_v (pc := 90) (stk := [.int x4, .ref a0]) (st := []) C dX9_estranges_90 yw_X9_layBack w_MLX9_213 in_X9_layBack sl_X9_layBack ⟨_, rfl, rfl⟩ (kX9_layBack hq) (gO_some hq).1 rfl (by omega) rfl (Nat.le_of_ble_eq_true rfl) ?_
            refine J_iload (pc := 93) C dX9_estranges_93 rfl ?_
            refine J_iconst (pc := 95) C dX9_estranges_95 ic_m1 ?_
            refine J_icmp_eq (pc := 96) (tgt := 121) C dX9_estranges_96 rfl hF (fun hF => ?_) (fun hF => ?_)
            · refine J_iload (pc := 121) C dX9_estranges_121 rfl ?_
              refine J_istore (pc := 123) (lv' := [some (.ref a0), some (.int x1), some (.int x2), some (.int x3), some (.int x4), some (.int x5), some (.int x6), some (.int q67.1), some (.int q82.1)]) C dX9_estranges_123 rfl ?_
              refine J_iinc (pc := 125) (lv' := [some (.ref a0), some (.int x1), some (.int x2), some (.int x3), some (.int x4), some (.int x5), some (.int (x6 + 1)), some (.int q67.1), some (.int q82.1)]) C dX9_estranges_125 rfl ic_1 rfl ?_
              refine J_goto (pc := 128) (tgt := 32) C dX9_estranges_128 rfl ?_
              refine J_msk (m := [true, true, true, true, true, true, true, false, false]) rfl ?_
              exact ih q90 a0 x1 x2 x3 x4 x5 (x6 + 1) hF
            · refine J_iload (pc := 99) C dX9_estranges_99 rfl ?_
              refine J_iconst (pc := 101) C dX9_estranges_101 ic_m1 ?_
              refine J_icmp_eq (pc := 102) (tgt := 114) C dX9_estranges_102 rfl hF (fun hF => ?_) (fun hF => ?_)
              · refine J_msk (m := [true, true, true, true, true, false, true, false, true]) rfl ?_
                exact kX9_estranges_114 C hO ih q90 a0 x1 x2 x3 x4 x6 q82.1 hF
              · refine J_iload (pc := 105) C dX9_estranges_105 rfl ?_
                refine J_iconst (pc := 107) C dX9_estranges_107 ic_1 ?_
                refine J_iadd (pc := 108) C dX9_estranges_108 ?_
                refine J_iload (pc := 109) C dX9_estranges_109 rfl ?_
                refine J_icmp_ge (pc := 111) (tgt := 121) C dX9_estranges_111 rfl hF (fun hF => ?_) (fun hF => ?_)
                · refine J_iload (pc := 121) C dX9_estranges_121 rfl ?_
                  refine J_istore (pc := 123) (lv' := [some (.ref a0), some (.int x1), some (.int x2), some (.int x3), some (.int x4), some (.int x5), some (.int x6), some (.int q67.1), some (.int q82.1)]) C dX9_estranges_123 rfl ?_
                  refine J_iinc (pc := 125) (lv' := [some (.ref a0), some (.int x1), some (.int x2), some (.int x3), some (.int x4), some (.int x5), some (.int (x6 + 1)), some (.int q67.1), some (.int q82.1)]) C dX9_estranges_125 rfl ic_1 rfl ?_
                  refine J_goto (pc := 128) (tgt := 32) C dX9_estranges_128 rfl ?_
                  refine J_msk (m := [true, true, true, true, true, true, true, false, false]) rfl ?_
                  exact ih q90 a0 x1 x2 x3 x4 x5 (x6 + 1) hF
                · refine J_msk (m := [true, true, true, true, true, false, true, false, true]) rfl ?_
                  exact kX9_estranges_114 C hO ih q90 a0 x1 x2 x3 x4 x6 q82.1 hF
def fX9_estranges_20 (oX9_estranges : Hp → Nat → Int32 → Int32 → Int32 → Int32 → Option (Int32 × Hp)) (h : Hp) (a0 : Nat) (x1 : Int32) (x2 : Int32) (x3 : Int32) (x4 : Int32) : Option (Int32 × Hp) :=
  (fX9_layDown h a0 x4).bind fun q26 =>
  fX9_estranges_32 oX9_estranges 1000 q26 a0 x1 x2 x3 x4 ((-1)) 0
set_option maxRecDepth 100000 in
theorem kX9_estranges_20 {X : Cx} {z : (Int32 × Hp)} {n : Nat} {oX9_estranges : Hp → Nat → Int32 → Int32 → Int32 → Int32 → Option (Int32 × Hp)} (C : Jc X yX9_estranges cX9_estranges 9 (some .int) (n + 1 + 6) 0 0 (some (.int z.1), z.2)) (hO : (∀ (h : Hp) (a0 : Nat) (x1 : Int32) (x2 : Int32) (x3 : Int32) (x4 : Int32) (z : (Int32 × Hp)), oX9_estranges h a0 x1 x2 x3 x4 = some z → Mc yX9_estranges cX9_estranges 9 (some .int) (n + 6) 0 0 [.ref a0, .int x1, .int x2, .int x3, .int x4] h (some (.int z.1), z.2))) (h : Hp) (a0 : Nat) (x1 : Int32) (x2 : Int32) (x3 : Int32) (x4 : Int32) (hF : fX9_estranges_20 oX9_estranges h a0 x1 x2 x3 x4 = some z) : J X 0 0 0 0 20 [some (.ref a0), some (.int x1), some (.int x2), some (.int x3), some (.int x4), none, none, none, none] [] h := by
  unfold fX9_estranges_20 at hF
  refine J_iconst (pc := 20) C dX9_estranges_20 ic_m1 ?_
  refine J_istore (pc := 21) (lv' := [some (.ref a0), some (.int x1), some (.int x2), some (.int x3), some (.int x4), some (.int ((-1))), none, none, none]) C dX9_estranges_21 rfl ?_
  refine J_aload_n (pc := 23) C dX9_estranges_23 rfl ?_
  refine J_iload (pc := 24) C dX9_estranges_24 rfl ?_
  refine J_bind hF (fun q26 hq hF => ?_)
  refine J_callV0_v (pc := 26) (stk := [.int x4, .ref a0]) (st := []) C dX9_estranges_26 yw_X9_layDown w_MLX9_210 in_X9_layDown sl_X9_layDown ⟨_, rfl, rfl⟩ (kX9_layDown hq) (gO_some hq).1 rfl (by omega) rfl (Nat.le_of_ble_eq_true rfl) ?_
  refine J_iconst (pc := 29) C dX9_estranges_29 ic_0 ?_
  refine J_istore (pc := 30) (lv' := [some (.ref a0), some (.int x1), some (.int x2), some (.int x3), some (.int x4), some (.int ((-1))), some (.int 0), none, none]) C dX9_estranges_30 rfl ?_
  exact kX9_estranges_32 C hO 1000 q26 a0 x1 x2 x3 x4 ((-1)) 0 hF
def bX9_estranges (oX9_estranges : Hp → Nat → Int32 → Int32 → Int32 → Int32 → Option (Int32 × Hp)) (h : Hp) (a0 : Nat) (x1 : Int32) (x2 : Int32) (x3 : Int32) (x4 : Int32) : Option (Int32 × Hp) :=
  (fX9_knows h a0 x2 x1).bind fun q3 =>
  if q3 = 0 then
    (fX9_areTogether h a0 x2 x1).bind fun q12 =>
    if q12 = 0 then
      fX9_estranges_20 oX9_estranges h a0 x1 x2 x3 x4
    else
      some (0, h)
  else
    fX9_estranges_20 oX9_estranges h a0 x1 x2 x3 x4
set_option maxRecDepth 100000 in
theorem bkX9_estranges {n : Nat} {oX9_estranges : Hp → Nat → Int32 → Int32 → Int32 → Int32 → Option (Int32 × Hp)} (hO : (∀ (h : Hp) (a0 : Nat) (x1 : Int32) (x2 : Int32) (x3 : Int32) (x4 : Int32) (z : (Int32 × Hp)), oX9_estranges h a0 x1 x2 x3 x4 = some z → Mc yX9_estranges cX9_estranges 9 (some .int) (n + 6) 0 0 [.ref a0, .int x1, .int x2, .int x3, .int x4] h (some (.int z.1), z.2))) {h : Hp} {a0 : Nat} {x1 : Int32} {x2 : Int32} {x3 : Int32} {x4 : Int32} {z : (Int32 × Hp)} (hF : bX9_estranges oX9_estranges h a0 x1 x2 x3 x4 = some z) : Mc yX9_estranges cX9_estranges 9 (some .int) (n + 1 + 6) 0 0 [.ref a0, .int x1, .int x2, .int x3, .int x4] h (some (.int z.1), z.2) := by
  unfold bX9_estranges at hF
  refine Mc_of [some (.ref a0), some (.int x1), some (.int x2), some (.int x3), some (.int x4), none, none, none, none] plX9 rfl rfl (Nat.le_of_ble_eq_true rfl) (fun X C => ?_)
  refine J_aload_n (pc := 0) C dX9_estranges_0 rfl ?_
  refine J_iload_n (pc := 1) C dX9_estranges_1 rfl ?_
  refine J_iload_n (pc := 2) C dX9_estranges_2 rfl ?_
  refine J_bind hF (fun q3 hq hF => ?_)
  refine J_callV0_ip (pc := 3) (stk := [.int x1, .int x2, .ref a0]) (st := []) C dX9_estranges_3 yw_X9_knows w_MLX9_152 in_X9_knows sl_X9_knows ⟨_, rfl, rfl⟩ (kX9_knows hq) (gO_some hq).1 rfl (by omega) rfl (Nat.le_of_ble_eq_true rfl) ?_
  refine J_if_ne (pc := 6) (tgt := 20) C dX9_estranges_6 rfl hF (fun hF => ?_) (fun hF => ?_)
  · refine J_aload_n (pc := 9) C dX9_estranges_9 rfl ?_
    refine J_iload_n (pc := 10) C dX9_estranges_10 rfl ?_
    refine J_iload_n (pc := 11) C dX9_estranges_11 rfl ?_
    refine J_bind hF (fun q12 hq hF => ?_)
    refine J_callV0_ip (pc := 12) (stk := [.int x1, .int x2, .ref a0]) (st := []) C dX9_estranges_12 yw_X9_areTogether w_MLX9_181 in_X9_areTogether sl_X9_areTogether ⟨_, rfl, rfl⟩ (kX9_areTogether hq) (gO_some hq).1 rfl (by omega) rfl (Nat.le_of_ble_eq_true rfl) ?_
    refine J_if_eq (pc := 15) (tgt := 20) C dX9_estranges_15 rfl hF (fun hF => ?_) (fun hF => ?_)
    · exact kX9_estranges_20 C hO h a0 x1 x2 x3 x4 hF
    · refine J_iconst (pc := 18) C dX9_estranges_18 ic_0 ?_
      exact J_iret (pc := 19) C dX9_estranges_19 hF (by decide) (by decide)
  · exact kX9_estranges_20 C hO h a0 x1 x2 x3 x4 hF
def gX9_estranges : Nat → Hp → Nat → Int32 → Int32 → Int32 → Int32 → Option (Int32 × Hp)
  | 0, _, _, _, _, _, _ => none
  | n + 1, h, a0, x1, x2, x3, x4 => bX9_estranges (gX9_estranges n) h a0 x1 x2 x3 x4
theorem gkX9_estranges : ∀ n : Nat, (∀ (h : Hp) (a0 : Nat) (x1 : Int32) (x2 : Int32) (x3 : Int32) (x4 : Int32) (z : (Int32 × Hp)), gX9_estranges n h a0 x1 x2 x3 x4 = some z → Mc yX9_estranges cX9_estranges 9 (some .int) (n + 6) 0 0 [.ref a0, .int x1, .int x2, .int x3, .int x4] h (some (.int z.1), z.2)) := by
  intro n
  induction n with
  | zero => intro h a0 x1 x2 x3 x4 z hF; cases hF
  | succ n ih => intro h a0 x1 x2 x3 x4 z hF; exact bkX9_estranges (n := n) ih hF
def fX9_estranges (h : Hp) (a0 : Nat) (x1 : Int32) (x2 : Int32) (x3 : Int32) (x4 : Int32) : Option (Int32 × Hp) := gO h 9 a0 (gX9_estranges 8 h a0 x1 x2 x3 x4)
theorem kX9_estranges {h : Hp} {a0 : Nat} {x1 : Int32} {x2 : Int32} {x3 : Int32} {x4 : Int32} {z : (Int32 × Hp)} (hF : fX9_estranges h a0 x1 x2 x3 x4 = some z) : Mc yX9_estranges cX9_estranges 9 (some .int) 14 0 0 [.ref a0, .int x1, .int x2, .int x3, .int x4] h (some (.int z.1), z.2) := (gkX9_estranges 8) h a0 x1 x2 x3 x4 _ (gO_some hF).2
def fX9_feed_38 : Nat → Hp → Nat → Int64 → Int32 → Int32 → Option (Int32 × Hp)
  | 0, _, _, _, _, _ => none
  | n38 + 1, h, a0, l1, x3, x4 =>
    if x3 ≤ x4 then
      (getR h 9 a0 0).bind fun r88 =>
      (rdI h r88 5).bind fun v92 =>
      some (v92, h)
    else
      (getR h 9 a0 0).bind fun r45 =>
      (getR h 9 a0 0).bind fun r52 =>
      (rdI h r52 5).bind fun v56 =>
      (wrI h r45 (374 + v56) (((lshr l1 (8 * x4)) &&& 255).toInt32)).bind fun h70 =>
      (getR h70 9 a0 0).bind fun r72 =>
      (rdI h70 r72 5).bind fun v77 =>
      (wrI h70 r72 5 (v77 + 1)).bind fun h80 =>
      fX9_feed_38 n38 h80 a0 l1 x3 (x4 + 1)
set_option maxRecDepth 100000 in
theorem kX9_feed_38 {X : Cx} {z : (Int32 × Hp)} (C : Jc X yX9_feed cX9_feed 5 (some .int) 1 0 0 (some (.int z.1), z.2)) : ∀ (n38 : Nat) (h : Hp) (a0 : Nat) (l1 : Int64) (x3 : Int32) (x4 : Int32), fX9_feed_38 n38 h a0 l1 x3 x4 = some z → J X 0 0 0 0 38 [some (.ref a0), some (.long l1), none, some (.int x3), some (.int x4)] [] h := by
  intro n38
  induction n38 with
  | zero => intro h a0 l1 x3 x4 hF; cases hF
  | succ n38 ih =>
    intro h a0 l1 x3 x4 hF
    rw [fX9_feed_38] at hF
    refine J_iload (pc := 38) C dX9_feed_38 rfl ?_
    refine J_iload_n (pc := 40) C dX9_feed_40 rfl ?_
    refine J_icmp_ge (pc := 41) (tgt := 87) C dX9_feed_41 rfl hF (fun hF => ?_) (fun hF => ?_)
    · refine J_aload_n (pc := 87) C dX9_feed_87 rfl ?_
      refine J_getR (pc := 88) C dX9_feed_88 fg_X9_7 hF (fun r88 hF => ?_)
      refine J_iconst (pc := 91) C dX9_feed_91 ic_5 ?_
      refine J_iald (pc := 92) C dX9_feed_92 hF (fun v92 hF => ?_)
      exact J_iret (pc := 93) C dX9_feed_93 hF (by decide) (by decide)
    · refine J_aload_n (pc := 44) C dX9_feed_44 rfl ?_
      refine J_getR (pc := 45) C dX9_feed_45 fg_X9_7 hF (fun r45 hF => ?_)
      refine J_sipush (pc := 48) C dX9_feed_48 sc_374 ?_
      refine J_aload_n (pc := 51) C dX9_feed_51 rfl ?_
      refine J_getR (pc := 52) C dX9_feed_52 fg_X9_7 hF (fun r52 hF => ?_)
      refine J_iconst (pc := 55) C dX9_feed_55 ic_5 ?_
      refine J_iald (pc := 56) C dX9_feed_56 hF (fun v56 hF => ?_)
      refine J_iadd (pc := 57) C dX9_feed_57 ?_
      refine J_lload_n (pc := 58) C dX9_feed_58 rfl ?_
      refine J_bipush (pc := 59) C dX9_feed_59 bc_8 ?_
      refine J_iload (pc := 61) C dX9_feed_61 rfl ?_
      refine J_imul (pc := 63) C dX9_feed_63 ?_
      refine J_lshr (pc := 64) C dX9_feed_64 ?_
      refine J_ldc2 (pc := 65) C dX9_feed_65 w_KLX9_67 ?_
      refine J_land (pc := 68) C dX9_feed_68 ?_
      refine J_l2i (pc := 69) C dX9_feed_69 ?_
      refine J_iast (pc := 70) C dX9_feed_70 hF (fun h70 hF => ?_)
      refine J_aload_n (pc := 71) C dX9_feed_71 rfl ?_
      refine J_getR (pc := 72) C dX9_feed_72 fg_X9_7 hF (fun r72 hF => ?_)
      refine J_iconst (pc := 75) C dX9_feed_75 ic_5 ?_
      refine J_dup2 (pc := 76) C dX9_feed_76 rfl rfl ?_
      refine J_iald (pc := 77) C dX9_feed_77 hF (fun v77 hF => ?_)
      refine J_iconst (pc := 78) C dX9_feed_78 ic_1 ?_
      refine J_iadd (pc := 79) C dX9_feed_79 ?_
      refine J_iast (pc := 80) C dX9_feed_80 hF (fun h80 hF => ?_)
      refine J_iinc (pc := 81) (lv' := [some (.ref a0), some (.long l1), none, some (.int x3), some (.int (x4 + 1))]) C dX9_feed_81 rfl ic_1 rfl ?_
      refine J_goto (pc := 84) (tgt := 38) C dX9_feed_84 rfl ?_
      exact ih h80 a0 l1 x3 (x4 + 1) hF
def fX9_feed (h : Hp) (a0 : Nat) (l1 : Int64) (x3 : Int32) : Option (Int32 × Hp) := gO h 9 a0 (
  (fX9_in x3 1 8).bind fun q4 =>
  if q4 = 0 then
    (fX9_error h a0 1).bind fun q12 =>
    some (q12.1, q12.2)
  else
    (getR h 9 a0 0).bind fun r17 =>
    (rdI h r17 5).bind fun v21 =>
    if (v21 + x3) ≤ 60 then
      fX9_feed_38 1000 h a0 l1 x3 0
    else
      (fX9_error h a0 4).bind fun q31 =>
      some (q31.1, q31.2))
set_option maxRecDepth 100000 in
theorem kX9_feed {h : Hp} {a0 : Nat} {l1 : Int64} {x3 : Int32} {z : (Int32 × Hp)} (hF : fX9_feed h a0 l1 x3 = some z) : Mc yX9_feed cX9_feed 5 (some .int) 1 0 0 [.ref a0, .long l1, .int x3] h (some (.int z.1), z.2) := by
  have hF := (gO_some hF).2
  refine Mc_of [some (.ref a0), some (.long l1), none, some (.int x3), none] plX9 rfl rfl (Nat.le_of_ble_eq_true rfl) (fun X C => ?_)
  refine J_iload_n (pc := 0) C dX9_feed_0 rfl ?_
  refine J_iconst (pc := 1) C dX9_feed_1 ic_1 ?_
  refine J_bipush (pc := 2) C dX9_feed_2 bc_8 ?_
  refine J_bind hF (fun q4 hq hF => ?_)
  refine J_callS0_ip (pc := 4) (stk := [.int 8, .int 1, .int x3]) (st := []) C dX9_feed_4 yw_X9_in w_MLX9_59 st_X9_in (kX9_in hq) rfl (by decide) rfl (Nat.le_of_ble_eq_true rfl) ?_
  refine J_if_ne (pc := 7) (tgt := 16) C dX9_feed_7 rfl hF (fun hF => ?_) (fun hF => ?_)
  · refine J_aload_n (pc := 10) C dX9_feed_10 rfl ?_
    refine J_iconst (pc := 11) C dX9_feed_11 ic_1 ?_
    refine J_bind hF (fun q12 hq hF => ?_)
    refine J_callV0_i (pc := 12) (stk := [.int 1, .ref a0]) (st := []) C dX9_feed_12 yw_X9_error w_MLX9_63 in_X9_error sl_X9_error ⟨_, rfl, rfl⟩ (kX9_error hq) (gO_some hq).1 rfl (by decide) rfl (Nat.le_of_ble_eq_true rfl) ?_
    exact J_iret (pc := 15) C dX9_feed_15 hF (by decide) (by decide)
  · refine J_aload_n (pc := 16) C dX9_feed_16 rfl ?_
    refine J_getR (pc := 17) C dX9_feed_17 fg_X9_7 hF (fun r17 hF => ?_)
    refine J_iconst (pc := 20) C dX9_feed_20 ic_5 ?_
    refine J_iald (pc := 21) C dX9_feed_21 hF (fun v21 hF => ?_)
    refine J_iload_n (pc := 22) C dX9_feed_22 rfl ?_
    refine J_iadd (pc := 23) C dX9_feed_23 ?_
    refine J_bipush (pc := 24) C dX9_feed_24 bc_60 ?_
    refine J_icmp_le (pc := 26) (tgt := 35) C dX9_feed_26 rfl hF (fun hF => ?_) (fun hF => ?_)
    · refine J_iconst (pc := 35) C dX9_feed_35 ic_0 ?_
      refine J_istore (pc := 36) (lv' := [some (.ref a0), some (.long l1), none, some (.int x3), some (.int 0)]) C dX9_feed_36 rfl ?_
      exact kX9_feed_38 C 1000 h a0 l1 x3 0 hF
    · refine J_aload_n (pc := 29) C dX9_feed_29 rfl ?_
      refine J_iconst (pc := 30) C dX9_feed_30 ic_4 ?_
      refine J_bind hF (fun q31 hq hF => ?_)
      refine J_callV0_i (pc := 31) (stk := [.int 4, .ref a0]) (st := []) C dX9_feed_31 yw_X9_error w_MLX9_63 in_X9_error sl_X9_error ⟨_, rfl, rfl⟩ (kX9_error hq) (gO_some hq).1 rfl (by decide) rfl (Nat.le_of_ble_eq_true rfl) ?_
      exact J_iret (pc := 34) C dX9_feed_34 hF (by decide) (by decide)
