def fX6_follow_113 (oX6_follow : Hp → Nat → Nat → Int32 → Int32 → Int32 → Option Hp) (k66 : Hp → Nat → Nat → Int32 → Int32 → Int32 → Nat → Int32 → Nat → Int32 → Option Hp) : Nat → Hp → Nat → Nat → Int32 → Int32 → Int32 → Nat → Int32 → Nat → Int32 → Int32 → Option Hp
  | 0, _, _, _, _, _, _, _, _, _, _, _ => none
  | n113 + 1, h, a0, a1, x2, x3, x4, a5, x6, a7, x8, x10 =>
    (getI h 7 a5 1).bind fun v117 =>
    if v117 ≤ x10 then
      k66 h a0 a1 x2 x3 x4 a5 x6 a7 (x8 + 1)
    else
      (fX7_meet h a5 x8 x10).bind fun q129 =>
      if q129 = 0 then
        fX6_follow_113 oX6_follow k66 n113 h a0 a1 x2 x3 x4 a5 x6 a7 x8 (x10 + 1)
      else
        (fX7_copyFrom h a7 a5).bind fun q139 =>
        (fX7_carry q139 a7 x8 x10).bind fun q148 =>
        (oX6_follow q148.2 a0 a1 x2 (x3 + 1) (x4 ||| ((1 : Int32) <<< (x10 &&& 31)))).bind fun q165 =>
        fX6_follow_113 oX6_follow k66 n113 q165 a0 a1 x2 x3 x4 a5 x6 a7 x8 (x10 + 1)
set_option maxRecDepth 100000 in
theorem kX6_follow_113 {X : Cx} {z : Hp} {n : Nat} {oX6_follow : Hp → Nat → Nat → Int32 → Int32 → Int32 → Option Hp} (C : Jc X yX6_follow cX6_follow 11 none (n + 1 + 5) 0 0 (none, z)) (hO : (∀ (h : Hp) (a0 : Nat) (a1 : Nat) (x2 : Int32) (x3 : Int32) (x4 : Int32) (z : Hp), oX6_follow h a0 a1 x2 x3 x4 = some z → Mc yX6_follow cX6_follow 11 none (n + 5) 0 0 [.ref a0, .ref a1, .int x2, .int x3, .int x4] h (none, z))) {k66 : Hp → Nat → Nat → Int32 → Int32 → Int32 → Nat → Int32 → Nat → Int32 → Option Hp} (hk66 : ∀ (h : Hp) (a0 : Nat) (a1 : Nat) (x2 : Int32) (x3 : Int32) (x4 : Int32) (a5 : Nat) (x6 : Int32) (a7 : Nat) (x8 : Int32), k66 h a0 a1 x2 x3 x4 a5 x6 a7 x8 = some z → J X 0 0 0 0 66 [some (.ref a0), some (.ref a1), some (.int x2), some (.int x3), some (.int x4), some (.ref a5), some (.int x6), some (.ref a7), some (.int x8), none, none] [] h) : ∀ (n113 : Nat) (h : Hp) (a0 : Nat) (a1 : Nat) (x2 : Int32) (x3 : Int32) (x4 : Int32) (a5 : Nat) (x6 : Int32) (a7 : Nat) (x8 : Int32) (x10 : Int32), fX6_follow_113 oX6_follow k66 n113 h a0 a1 x2 x3 x4 a5 x6 a7 x8 x10 = some z → J X 0 0 0 0 113 [some (.ref a0), some (.ref a1), some (.int x2), some (.int x3), some (.int x4), some (.ref a5), some (.int x6), some (.ref a7), some (.int x8), none, some (.int x10)] [] h := by
  intro n113
  induction n113 with
  | zero => intro h a0 a1 x2 x3 x4 a5 x6 a7 x8 x10 hF; cases hF
  | succ n113 ih =>
    intro h a0 a1 x2 x3 x4 a5 x6 a7 x8 x10 hF
    rw [fX6_follow_113] at hF
    refine J_iload (pc := 113) C dX6_follow_113 rfl ?_
    refine J_aload (pc := 115) C dX6_follow_115 rfl ?_
    refine J_getI (pc := 117) C dX6_follow_117 fg_X6_50 hF (fun v117 hF => ?_)
    refine J_icmp_ge (pc := 120) (tgt := 174) C dX6_follow_120 rfl hF (fun hF => ?_) (fun hF => ?_)
    · refine J_iinc (pc := 174) (lv' := [some (.ref a0), some (.ref a1), some (.int x2), some (.int x3), some (.int x4), some (.ref a5), some (.int x6), some (.ref a7), some (.int (x8 + 1)), none, some (.int x10)]) C dX6_follow_174 rfl ic_1 rfl ?_
      refine J_goto (pc := 177) (tgt := 66) C dX6_follow_177 rfl ?_
      refine J_msk (m := [true, true, true, true, true, true, true, true, true, false, false]) rfl ?_
      exact hk66 h a0 a1 x2 x3 x4 a5 x6 a7 (x8 + 1) hF
    · refine J_aload (pc := 123) C dX6_follow_123 rfl ?_
      refine J_iload (pc := 125) C dX6_follow_125 rfl ?_
      refine J_iload (pc := 127) C dX6_follow_127 rfl ?_
      refine J_bind hF (fun q129 hq hF => ?_)
      refine J_callV0_ip (pc := 129) (stk := [.int x10, .int x8, .ref a5]) (st := []) C dX6_follow_129 yw_X7_meet w_MLX6_43 in_X7_meet sl_X7_meet ⟨_, rfl, rfl⟩ (kX7_meet hq) (gO_some hq).1 rfl (by omega) rfl (Nat.le_of_ble_eq_true rfl) ?_
      refine J_if_eq (pc := 132) (tgt := 168) C dX6_follow_132 rfl hF (fun hF => ?_) (fun hF => ?_)
      · refine J_iinc (pc := 168) (lv' := [some (.ref a0), some (.ref a1), some (.int x2), some (.int x3), some (.int x4), some (.ref a5), some (.int x6), some (.ref a7), some (.int x8), none, some (.int (x10 + 1))]) C dX6_follow_168 rfl ic_1 rfl ?_
        refine J_goto (pc := 171) (tgt := 113) C dX6_follow_171 rfl ?_
        exact ih h a0 a1 x2 x3 x4 a5 x6 a7 x8 (x10 + 1) hF
      · refine J_aload (pc := 135) C dX6_follow_135 rfl ?_
        refine J_aload (pc := 137) C dX6_follow_137 rfl ?_
        refine J_bind hF (fun q139 hq hF => ?_)
        refine J_callV0_v (pc := 139) (stk := [.ref a5, .ref a7]) (st := []) C dX6_follow_139 yw_X7_copyFrom w_MLX6_27 in_X7_copyFrom sl_X7_copyFrom ⟨_, rfl, rfl⟩ (kX7_copyFrom hq) (gO_some hq).1 rfl (by omega) rfl (Nat.le_of_ble_eq_true rfl) ?_
        refine J_aload (pc := 142) C dX6_follow_142 rfl ?_
        refine J_iload (pc := 144) C dX6_follow_144 rfl ?_
        refine J_iload (pc := 146) C dX6_follow_146 rfl ?_
        refine J_bind hF (fun q148 hq hF => ?_)
        refine J_callV0_i (pc := 148) (stk := [.int x10, .int x8, .ref a7]) (st := []) C dX6_follow_148 yw_X7_carry w_MLX6_31 in_X7_carry sl_X7_carry ⟨_, rfl, rfl⟩ (kX7_carry hq) (gO_some hq).1 rfl (by omega) rfl (Nat.le_of_ble_eq_true rfl) ?_
        refine J_pop (pc := 151) C dX6_follow_151 rfl ?_
        refine J_aload_n (pc := 152) C dX6_follow_152 rfl ?_
        refine J_aload_n (pc := 153) C dX6_follow_153 rfl ?_
        refine J_iload_n (pc := 154) C dX6_follow_154 rfl ?_
        refine J_iload_n (pc := 155) C dX6_follow_155 rfl ?_
        refine J_iconst (pc := 156) C dX6_follow_156 ic_1 ?_
        refine J_iadd (pc := 157) C dX6_follow_157 ?_
        refine J_iload (pc := 158) C dX6_follow_158 rfl ?_
        refine J_iconst (pc := 160) C dX6_follow_160 ic_1 ?_
        refine J_iload (pc := 161) C dX6_follow_161 rfl ?_
        refine J_ishl (pc := 163) C dX6_follow_163 ?_
        refine J_ior (pc := 164) C dX6_follow_164 ?_
        refine J_bind hF (fun q165 hq hF => ?_)
        refine J_callS0_v (pc := 165) (stk := [.int (x4 ||| ((1 : Int32) <<< (x10 &&& 31))), .int (x3 + 1), .int x2, .ref a1, .ref a0]) (st := []) C dX6_follow_165 yw_X6_follow w_MLX6_87 st_X6_follow (hO _ _ _ _ _ _ _ hq) rfl (by omega) rfl (Nat.le_of_ble_eq_true rfl) ?_
        refine J_iinc (pc := 168) (lv' := [some (.ref a0), some (.ref a1), some (.int x2), some (.int x3), some (.int x4), some (.ref a5), some (.int x6), some (.ref a7), some (.int x8), none, some (.int (x10 + 1))]) C dX6_follow_168 rfl ic_1 rfl ?_
        refine J_goto (pc := 171) (tgt := 113) C dX6_follow_171 rfl ?_
        exact ih q165 a0 a1 x2 x3 x4 a5 x6 a7 x8 (x10 + 1) hF
def fX6_follow_66 (oX6_follow : Hp → Nat → Nat → Int32 → Int32 → Int32 → Option Hp) : Nat → Hp → Nat → Nat → Int32 → Int32 → Int32 → Nat → Int32 → Nat → Int32 → Option Hp
  | 0, _, _, _, _, _, _, _, _, _, _ => none
  | n66 + 1, h, a0, a1, x2, x3, x4, a5, x6, a7, x8 =>
    (getI h 7 a5 2).bind fun v70 =>
    if v70 ≤ x8 then
      some h
    else
      (fJ6_bitCount_0f7a4 (x6 &&& (((1 : Int32) <<< (x8 &&& 31)) ^^^ ((-1))))).bind fun q85 =>
      (getI h 6 a0 5).bind fun v91 =>
      if v91 = 0 then
        if q85 ≤ ((x2 - x3) - 1) then
          fX6_follow_113 oX6_follow (fX6_follow_66 oX6_follow n66) 1000 h a0 a1 x2 x3 x4 a5 x6 a7 x8 0
        else
          fX6_follow_66 oX6_follow n66 h a0 a1 x2 x3 x4 a5 x6 a7 (x8 + 1)
      else
        fX6_follow_113 oX6_follow (fX6_follow_66 oX6_follow n66) 1000 h a0 a1 x2 x3 x4 a5 x6 a7 x8 0
set_option maxRecDepth 100000 in
theorem kX6_follow_66 {X : Cx} {z : Hp} {n : Nat} {oX6_follow : Hp → Nat → Nat → Int32 → Int32 → Int32 → Option Hp} (C : Jc X yX6_follow cX6_follow 11 none (n + 1 + 5) 0 0 (none, z)) (hO : (∀ (h : Hp) (a0 : Nat) (a1 : Nat) (x2 : Int32) (x3 : Int32) (x4 : Int32) (z : Hp), oX6_follow h a0 a1 x2 x3 x4 = some z → Mc yX6_follow cX6_follow 11 none (n + 5) 0 0 [.ref a0, .ref a1, .int x2, .int x3, .int x4] h (none, z))) : ∀ (n66 : Nat) (h : Hp) (a0 : Nat) (a1 : Nat) (x2 : Int32) (x3 : Int32) (x4 : Int32) (a5 : Nat) (x6 : Int32) (a7 : Nat) (x8 : Int32), fX6_follow_66 oX6_follow n66 h a0 a1 x2 x3 x4 a5 x6 a7 x8 = some z → J X 0 0 0 0 66 [some (.ref a0), some (.ref a1), some (.int x2), some (.int x3), some (.int x4), some (.ref a5), some (.int x6), some (.ref a7), some (.int x8), none, none] [] h := by
  intro n66
  induction n66 with
  | zero => intro h a0 a1 x2 x3 x4 a5 x6 a7 x8 hF; cases hF
  | succ n66 ih =>
    intro h a0 a1 x2 x3 x4 a5 x6 a7 x8 hF
    rw [fX6_follow_66] at hF
    refine J_iload (pc := 66) C dX6_follow_66 rfl ?_
    refine J_aload (pc := 68) C dX6_follow_68 rfl ?_
    refine J_getI (pc := 70) C dX6_follow_70 fg_X6_70 hF (fun v70 hF => ?_)
    refine J_icmp_ge (pc := 73) (tgt := 180) C dX6_follow_73 rfl hF (fun hF => ?_) (fun hF => ?_)
    · exact J_vret (pc := 180) C dX6_follow_180 hF (by decide) (by decide)
    · refine J_iload (pc := 76) C dX6_follow_76 rfl ?_
      refine J_iconst (pc := 78) C dX6_follow_78 ic_1 ?_
      refine J_iload (pc := 79) C dX6_follow_79 rfl ?_
      refine J_ishl (pc := 81) C dX6_follow_81 ?_
      refine J_iconst (pc := 82) C dX6_follow_82 ic_m1 ?_
      refine J_ixor (pc := 83) C dX6_follow_83 ?_
      refine J_iand (pc := 84) C dX6_follow_84 ?_
      refine J_bind hF (fun q85 hq hF => ?_)
      refine J_callS0_ip (pc := 85) (stk := [.int (x6 &&& (((1 : Int32) <<< (x8 &&& 31)) ^^^ ((-1))))]) (st := []) C dX6_follow_85 yw_J6_bitCount_0f7a4 w_MLX6_95 st_J6_bitCount_0f7a4 (kJ6_bitCount_0f7a4 hq) rfl (by omega) rfl (Nat.le_of_ble_eq_true rfl) ?_
      refine J_istore (pc := 88) (lv' := [some (.ref a0), some (.ref a1), some (.int x2), some (.int x3), some (.int x4), some (.ref a5), some (.int x6), some (.ref a7), some (.int x8), some (.int q85), none]) C dX6_follow_88 rfl ?_
      refine J_aload_n (pc := 90) C dX6_follow_90 rfl ?_
      refine J_getI (pc := 91) C dX6_follow_91 fg_X6_83 hF (fun v91 hF => ?_)
      refine J_if_ne (pc := 94) (tgt := 110) C dX6_follow_94 rfl hF (fun hF => ?_) (fun hF => ?_)
      · refine J_iload (pc := 97) C dX6_follow_97 rfl ?_
        refine J_iload_n (pc := 99) C dX6_follow_99 rfl ?_
        refine J_iload_n (pc := 100) C dX6_follow_100 rfl ?_
        refine J_isub (pc := 101) C dX6_follow_101 ?_
        refine J_iconst (pc := 102) C dX6_follow_102 ic_1 ?_
        refine J_isub (pc := 103) C dX6_follow_103 ?_
        refine J_icmp_le (pc := 104) (tgt := 110) C dX6_follow_104 rfl hF (fun hF => ?_) (fun hF => ?_)
        · refine J_iconst (pc := 110) C dX6_follow_110 ic_0 ?_
          refine J_istore (pc := 111) (lv' := [some (.ref a0), some (.ref a1), some (.int x2), some (.int x3), some (.int x4), some (.ref a5), some (.int x6), some (.ref a7), some (.int x8), some (.int q85), some (.int 0)]) C dX6_follow_111 rfl ?_
          refine J_msk (m := [true, true, true, true, true, true, true, true, true, false, true]) rfl ?_
          exact kX6_follow_113 C hO ih 1000 h a0 a1 x2 x3 x4 a5 x6 a7 x8 0 hF
        · refine J_goto (pc := 107) (tgt := 174) C dX6_follow_107 rfl ?_
          refine J_iinc (pc := 174) (lv' := [some (.ref a0), some (.ref a1), some (.int x2), some (.int x3), some (.int x4), some (.ref a5), some (.int x6), some (.ref a7), some (.int (x8 + 1)), some (.int q85), none]) C dX6_follow_174 rfl ic_1 rfl ?_
          refine J_goto (pc := 177) (tgt := 66) C dX6_follow_177 rfl ?_
          refine J_msk (m := [true, true, true, true, true, true, true, true, true, false, false]) rfl ?_
          exact ih h a0 a1 x2 x3 x4 a5 x6 a7 (x8 + 1) hF
      · refine J_iconst (pc := 110) C dX6_follow_110 ic_0 ?_
        refine J_istore (pc := 111) (lv' := [some (.ref a0), some (.ref a1), some (.int x2), some (.int x3), some (.int x4), some (.ref a5), some (.int x6), some (.ref a7), some (.int x8), some (.int q85), some (.int 0)]) C dX6_follow_111 rfl ?_
        refine J_msk (m := [true, true, true, true, true, true, true, true, true, false, true]) rfl ?_
        exact kX6_follow_113 C hO ih 1000 h a0 a1 x2 x3 x4 a5 x6 a7 x8 0 hF
def fX6_follow_26 (oX6_follow : Hp → Nat → Nat → Int32 → Int32 → Int32 → Option Hp) (h : Hp) (a0 : Nat) (x4 : Int32) (x6 : Int32) : Option Hp :=
  if x6 = 0 then
    (getI h 6 a0 6).bind fun v33 =>
    (putV h 6 a0 6 (.int (v33 + 1))).bind fun h38 =>
    (getI h38 6 a0 7).bind fun v43 =>
    (putV h38 6 a0 7 (.int (v43 ||| x4))).bind fun h49 =>
    some h49
  else
    some h
set_option maxRecDepth 100000 in
theorem kX6_follow_26 {X : Cx} {z : Hp} {n : Nat} {oX6_follow : Hp → Nat → Nat → Int32 → Int32 → Int32 → Option Hp} (C : Jc X yX6_follow cX6_follow 11 none (n + 1 + 5) 0 0 (none, z)) (hO : (∀ (h : Hp) (a0 : Nat) (a1 : Nat) (x2 : Int32) (x3 : Int32) (x4 : Int32) (z : Hp), oX6_follow h a0 a1 x2 x3 x4 = some z → Mc yX6_follow cX6_follow 11 none (n + 5) 0 0 [.ref a0, .ref a1, .int x2, .int x3, .int x4] h (none, z))) (h : Hp) (a0 : Nat) (x4 : Int32) (x6 : Int32) (hF : fX6_follow_26 oX6_follow h a0 x4 x6 = some z) : J X 0 0 0 0 26 [some (.ref a0), none, none, none, some (.int x4), none, some (.int x6), none, none, none, none] [] h := by
  unfold fX6_follow_26 at hF
  refine J_iload (pc := 26) C dX6_follow_26 rfl ?_
  refine J_if_ne (pc := 28) (tgt := 52) C dX6_follow_28 rfl hF (fun hF => ?_) (fun hF => ?_)
  · refine J_aload_n (pc := 31) C dX6_follow_31 rfl ?_
    refine J_dup (pc := 32) C dX6_follow_32 rfl ?_
    refine J_getI (pc := 33) C dX6_follow_33 fg_X6_73 hF (fun v33 hF => ?_)
    refine J_iconst (pc := 36) C dX6_follow_36 ic_1 ?_
    refine J_iadd (pc := 37) C dX6_follow_37 ?_
    refine J_put (pc := 38) C dX6_follow_38 (fp_X6_73 _) hF rfl rfl (fun h38 hF => ?_)
    refine J_aload_n (pc := 41) C dX6_follow_41 rfl ?_
    refine J_dup (pc := 42) C dX6_follow_42 rfl ?_
    refine J_getI (pc := 43) C dX6_follow_43 fg_X6_76 hF (fun v43 hF => ?_)
    refine J_iload (pc := 46) C dX6_follow_46 rfl ?_
    refine J_ior (pc := 48) C dX6_follow_48 ?_
    refine J_put (pc := 49) C dX6_follow_49 (fp_X6_76 _) hF rfl rfl (fun h49 hF => ?_)
    exact J_vret (pc := 52) C dX6_follow_52 hF (by decide) (by decide)
  · exact J_vret (pc := 52) C dX6_follow_52 hF (by decide) (by decide)
def bX6_follow (oX6_follow : Hp → Nat → Nat → Int32 → Int32 → Int32 → Option Hp) (h : Hp) (a0 : Nat) (a1 : Nat) (x2 : Int32) (x3 : Int32) (x4 : Int32) : Option Hp :=
  (getR h 6 a0 0).bind fun r1 =>
  (rdR h r1 x3).bind fun r5 =>
  (fX7_bitsOfUnlikeMinds h r5 a1).bind fun q11 =>
  if x2 ≤ x3 then
    fX6_follow_26 oX6_follow h a0 x4 q11
  else
    if x3 < 3 then
      (getR h 6 a0 0).bind fun r54 =>
      (rdR h r54 (x3 + 1)).bind fun r60 =>
      fX6_follow_66 oX6_follow 1000 h a0 a1 x2 x3 x4 r5 q11 r60 0
    else
      fX6_follow_26 oX6_follow h a0 x4 q11
set_option maxRecDepth 100000 in
theorem bkX6_follow {n : Nat} {oX6_follow : Hp → Nat → Nat → Int32 → Int32 → Int32 → Option Hp} (hO : (∀ (h : Hp) (a0 : Nat) (a1 : Nat) (x2 : Int32) (x3 : Int32) (x4 : Int32) (z : Hp), oX6_follow h a0 a1 x2 x3 x4 = some z → Mc yX6_follow cX6_follow 11 none (n + 5) 0 0 [.ref a0, .ref a1, .int x2, .int x3, .int x4] h (none, z))) {h : Hp} {a0 : Nat} {a1 : Nat} {x2 : Int32} {x3 : Int32} {x4 : Int32} {z : Hp} (hF : bX6_follow oX6_follow h a0 a1 x2 x3 x4 = some z) : Mc yX6_follow cX6_follow 11 none (n + 1 + 5) 0 0 [.ref a0, .ref a1, .int x2, .int x3, .int x4] h (none, z) := by
  unfold bX6_follow at hF
  refine Mc_of [some (.ref a0), some (.ref a1), some (.int x2), some (.int x3), some (.int x4), none, none, none, none, none, none] plX6 rfl rfl (Nat.le_of_ble_eq_true rfl) (fun X C => ?_)
  refine J_aload_n (pc := 0) C dX6_follow_0 rfl ?_
  refine J_getR (pc := 1) C dX6_follow_1 fg_X6_13 hF (fun r1 hF => ?_)
  refine J_iload_n (pc := 4) C dX6_follow_4 rfl ?_
  refine J_aald (pc := 5) C dX6_follow_5 hF (fun r5 hF => ?_)
  refine J_astore (pc := 6) (lv' := [some (.ref a0), some (.ref a1), some (.int x2), some (.int x3), some (.int x4), some (.ref r5), none, none, none, none, none]) C dX6_follow_6 rfl ?_
  refine J_aload (pc := 8) C dX6_follow_8 rfl ?_
  refine J_aload_n (pc := 10) C dX6_follow_10 rfl ?_
  refine J_bind hF (fun q11 hq hF => ?_)
  refine J_callV0_ip (pc := 11) (stk := [.ref a1, .ref r5]) (st := []) C dX6_follow_11 yw_X7_bitsOfUnlikeMinds w_MLX6_91 in_X7_bitsOfUnlikeMinds sl_X7_bitsOfUnlikeMinds ⟨_, rfl, rfl⟩ (kX7_bitsOfUnlikeMinds hq) (gO_some hq).1 rfl (by omega) rfl (Nat.le_of_ble_eq_true rfl) ?_
  refine J_istore (pc := 14) (lv' := [some (.ref a0), some (.ref a1), some (.int x2), some (.int x3), some (.int x4), some (.ref r5), some (.int q11), none, none, none, none]) C dX6_follow_14 rfl ?_
  refine J_iload_n (pc := 16) C dX6_follow_16 rfl ?_
  refine J_iload_n (pc := 17) C dX6_follow_17 rfl ?_
  refine J_icmp_ge (pc := 18) (tgt := 26) C dX6_follow_18 rfl hF (fun hF => ?_) (fun hF => ?_)
  · refine J_msk (m := [true, false, false, false, true, false, true, false, false, false, false]) rfl ?_
    exact kX6_follow_26 C hO h a0 x4 q11 hF
  · refine J_iload_n (pc := 21) C dX6_follow_21 rfl ?_
    refine J_iconst (pc := 22) C dX6_follow_22 ic_3 ?_
    refine J_icmp_lt (pc := 23) (tgt := 53) C dX6_follow_23 rfl hF (fun hF => ?_) (fun hF => ?_)
    · refine J_aload_n (pc := 53) C dX6_follow_53 rfl ?_
      refine J_getR (pc := 54) C dX6_follow_54 fg_X6_13 hF (fun r54 hF => ?_)
      refine J_iload_n (pc := 57) C dX6_follow_57 rfl ?_
      refine J_iconst (pc := 58) C dX6_follow_58 ic_1 ?_
      refine J_iadd (pc := 59) C dX6_follow_59 ?_
      refine J_aald (pc := 60) C dX6_follow_60 hF (fun r60 hF => ?_)
      refine J_astore (pc := 61) (lv' := [some (.ref a0), some (.ref a1), some (.int x2), some (.int x3), some (.int x4), some (.ref r5), some (.int q11), some (.ref r60), none, none, none]) C dX6_follow_61 rfl ?_
      refine J_iconst (pc := 63) C dX6_follow_63 ic_0 ?_
      refine J_istore (pc := 64) (lv' := [some (.ref a0), some (.ref a1), some (.int x2), some (.int x3), some (.int x4), some (.ref r5), some (.int q11), some (.ref r60), some (.int 0), none, none]) C dX6_follow_64 rfl ?_
      exact kX6_follow_66 C hO 1000 h a0 a1 x2 x3 x4 r5 q11 r60 0 hF
    · refine J_msk (m := [true, false, false, false, true, false, true, false, false, false, false]) rfl ?_
      exact kX6_follow_26 C hO h a0 x4 q11 hF
def gX6_follow : Nat → Hp → Nat → Nat → Int32 → Int32 → Int32 → Option Hp
  | 0, _, _, _, _, _, _ => none
  | n + 1, h, a0, a1, x2, x3, x4 => bX6_follow (gX6_follow n) h a0 a1 x2 x3 x4
theorem gkX6_follow : ∀ n : Nat, (∀ (h : Hp) (a0 : Nat) (a1 : Nat) (x2 : Int32) (x3 : Int32) (x4 : Int32) (z : Hp), gX6_follow n h a0 a1 x2 x3 x4 = some z → Mc yX6_follow cX6_follow 11 none (n + 5) 0 0 [.ref a0, .ref a1, .int x2, .int x3, .int x4] h (none, z)) := by
  intro n
  induction n with
  | zero => intro h a0 a1 x2 x3 x4 z hF; cases hF
  | succ n ih => intro h a0 a1 x2 x3 x4 z hF; exact bkX6_follow (n := n) ih hF
def fX6_follow (h : Hp) (a0 : Nat) (a1 : Nat) (x2 : Int32) (x3 : Int32) (x4 : Int32) : Option Hp := gX6_follow 8 h a0 a1 x2 x3 x4
theorem kX6_follow {h : Hp} {a0 : Nat} {a1 : Nat} {x2 : Int32} {x3 : Int32} {x4 : Int32} {z : Hp} (hF : fX6_follow h a0 a1 x2 x3 x4 = some z) : Mc yX6_follow cX6_follow 11 none 13 0 0 [.ref a0, .ref a1, .int x2, .int x3, .int x4] h (none, z) := (gkX6_follow 8) h a0 a1 x2 x3 x4 _ hF
def fX7_hasGossip_2 (h : Hp) : Nat → Nat → Int32 → Option Int32
  | 0, _, _ => none
  | n2 + 1, a0, x1 =>
    (getI h 7 a0 2).bind fun v4 =>
    if v4 ≤ x1 then
      some 0
    else
      (getR h 7 a0 5).bind fun r11 =>
      (rdI h r11 x1).bind fun v15 =>
      (fX8_isUnder h v15 4).bind fun q17 =>
      if q17 = 0 then
        fX7_hasGossip_2 h n2 a0 (x1 + 1)
      else
        some 1
set_option maxRecDepth 100000 in
theorem kX7_hasGossip_2 {X : Cx} {z : Int32} {h : Hp} (C : Jc X yX7_hasGossip cX7_hasGossip 2 (some .boolean) 1 0 0 (some (.int z), h)) : ∀ (n2 : Nat) (a0 : Nat) (x1 : Int32), fX7_hasGossip_2 h n2 a0 x1 = some z → J X 0 0 0 0 2 [some (.ref a0), some (.int x1)] [] h := by
  intro n2
  induction n2 with
  | zero => intro a0 x1 hF; cases hF
  | succ n2 ih =>
    intro a0 x1 hF
    rw [fX7_hasGossip_2] at hF
    refine J_iload_n (pc := 2) C dX7_hasGossip_2 rfl ?_
    refine J_aload_n (pc := 3) C dX7_hasGossip_3 rfl ?_
    refine J_getI (pc := 4) C dX7_hasGossip_4 fg_X7_50 hF (fun v4 hF => ?_)
    refine J_icmp_ge (pc := 7) (tgt := 31) C dX7_hasGossip_7 rfl hF (fun hF => ?_) (fun hF => ?_)
    · refine J_iconst (pc := 31) C dX7_hasGossip_31 ic_0 ?_
      exact J_zretP (pc := 32) C dX7_hasGossip_32 rfl hF (by decide) (by decide)
    · refine J_aload_n (pc := 10) C dX7_hasGossip_10 rfl ?_
      refine J_getR (pc := 11) C dX7_hasGossip_11 fg_X7_18 hF (fun r11 hF => ?_)
      refine J_iload_n (pc := 14) C dX7_hasGossip_14 rfl ?_
      refine J_iald (pc := 15) C dX7_hasGossip_15 hF (fun v15 hF => ?_)
      refine J_iconst (pc := 16) C dX7_hasGossip_16 ic_4 ?_
      refine J_bind hF (fun q17 hq hF => ?_)
      refine J_callSN0_ip (pc := 17) (stk := [.int 4, .int v15]) (st := []) C dX7_hasGossip_17 yw_X8_isUnder (by decide +kernel) st_X8_isUnder (kX8_isUnder hq) rfl (by decide) rfl (Nat.le_of_ble_eq_true rfl) ?_
      refine J_if_eq (pc := 20) (tgt := 25) C dX7_hasGossip_20 rfl hF (fun hF => ?_) (fun hF => ?_)
      · refine J_iinc (pc := 25) (lv' := [some (.ref a0), some (.int (x1 + 1))]) C dX7_hasGossip_25 rfl ic_1 rfl ?_
        refine J_goto (pc := 28) (tgt := 2) C dX7_hasGossip_28 rfl ?_
        exact ih a0 (x1 + 1) hF
      · refine J_iconst (pc := 23) C dX7_hasGossip_23 ic_1 ?_
        exact J_zretP (pc := 24) C dX7_hasGossip_24 rfl hF (by decide) (by decide)
def fX7_hasGossip (h : Hp) (a0 : Nat) : Option Int32 := gO h 7 a0 (
  fX7_hasGossip_2 h 1000 a0 0)
set_option maxRecDepth 100000 in
theorem kX7_hasGossip {h : Hp} {a0 : Nat} {z : Int32} (hF : fX7_hasGossip h a0 = some z) : Mc yX7_hasGossip cX7_hasGossip 2 (some .boolean) 1 0 0 [.ref a0] h (some (.int z), h) := by
  have hF := (gO_some hF).2
  refine Mc_of [some (.ref a0), none] plX7 rfl rfl (Nat.le_of_ble_eq_true rfl) (fun X C => ?_)
  refine J_iconst (pc := 0) C dX7_hasGossip_0 ic_0 ?_
  refine J_istore_n (pc := 1) (lv' := [some (.ref a0), some (.int 0)]) C dX7_hasGossip_1 rfl ?_
  exact kX7_hasGossip_2 C 1000 a0 0 hF
def fX6_findRows (h : Hp) (a0 : Nat) (a1 : Nat) (a2 : Nat) (x3 : Int32) : Option Hp := gO h 6 a0 (
  (putV h 6 a0 6 (.int 0)).bind fun h2 =>
  (putV h2 6 a0 7 (.int 0)).bind fun h7 =>
  (getI h7 7 a1 2).bind fun v11 =>
  (getI h7 7 a2 2).bind fun v15 =>
  if v11 = v15 then
    (getR h7 6 a0 0).bind fun r23 =>
    (rdR h7 r23 0).bind fun r27 =>
    (fX7_copyFrom h7 r27 a1).bind fun q29 =>
    (fX7_hasGossip q29 a1).bind fun q34 =>
    (bz q34).bind fun b37 => (putV q29 6 a0 5 (.int b37)).bind fun h37 =>
    (fX6_follow h37 a0 a2 x3 0 0).bind fun q45 =>
    some q45
  else
    some h7)
set_option maxRecDepth 100000 in
theorem kX6_findRows {h : Hp} {a0 : Nat} {a1 : Nat} {a2 : Nat} {x3 : Int32} {z : Hp} (hF : fX6_findRows h a0 a1 a2 x3 = some z) : Mc yX6_findRows cX6_findRows 4 none 14 0 0 [.ref a0, .ref a1, .ref a2, .int x3] h (none, z) := by
  have hF := (gO_some hF).2
  refine Mc_of [some (.ref a0), some (.ref a1), some (.ref a2), some (.int x3)] plX6 rfl rfl (Nat.le_of_ble_eq_true rfl) (fun X C => ?_)
  refine J_aload_n (pc := 0) C dX6_findRows_0 rfl ?_
  refine J_iconst (pc := 1) C dX6_findRows_1 ic_0 ?_
  refine J_put (pc := 2) C dX6_findRows_2 (fp_X6_73 _) hF rfl rfl (fun h2 hF => ?_)
  refine J_aload_n (pc := 5) C dX6_findRows_5 rfl ?_
  refine J_iconst (pc := 6) C dX6_findRows_6 ic_0 ?_
  refine J_put (pc := 7) C dX6_findRows_7 (fp_X6_76 _) hF rfl rfl (fun h7 hF => ?_)
  refine J_aload_n (pc := 10) C dX6_findRows_10 rfl ?_
  refine J_getI (pc := 11) C dX6_findRows_11 fg_X6_70 hF (fun v11 hF => ?_)
  refine J_aload_n (pc := 14) C dX6_findRows_14 rfl ?_
  refine J_getI (pc := 15) C dX6_findRows_15 fg_X6_70 hF (fun v15 hF => ?_)
  refine J_icmp_eq (pc := 18) (tgt := 22) C dX6_findRows_18 rfl hF (fun hF => ?_) (fun hF => ?_)
  · refine J_aload_n (pc := 22) C dX6_findRows_22 rfl ?_
    refine J_getR (pc := 23) C dX6_findRows_23 fg_X6_13 hF (fun r23 hF => ?_)
    refine J_iconst (pc := 26) C dX6_findRows_26 ic_0 ?_
    refine J_aald (pc := 27) C dX6_findRows_27 hF (fun r27 hF => ?_)
    refine J_aload_n (pc := 28) C dX6_findRows_28 rfl ?_
    refine J_bind hF (fun q29 hq hF => ?_)
    refine J_callV0_v (pc := 29) (stk := [.ref a1, .ref r27]) (st := []) C dX6_findRows_29 yw_X7_copyFrom w_MLX6_27 in_X7_copyFrom sl_X7_copyFrom ⟨_, rfl, rfl⟩ (kX7_copyFrom hq) (gO_some hq).1 rfl (by decide) rfl (Nat.le_of_ble_eq_true rfl) ?_
    refine J_aload_n (pc := 32) C dX6_findRows_32 rfl ?_
    refine J_aload_n (pc := 33) C dX6_findRows_33 rfl ?_
    refine J_bind hF (fun q34 hq hF => ?_)
    refine J_callV0_ip (pc := 34) (stk := [.ref a1, .ref a0]) (st := [.ref a0]) C dX6_findRows_34 yw_X7_hasGossip w_MLX6_79 in_X7_hasGossip sl_X7_hasGossip ⟨_, rfl, rfl⟩ (kX7_hasGossip hq) (gO_some hq).1 rfl (by decide) rfl (Nat.le_of_ble_eq_true rfl) ?_
    refine J_putB (pc := 37) C dX6_findRows_37 (fp_X6_83 _) hF (fun h37 hF => ?_)
    refine J_aload_n (pc := 40) C dX6_findRows_40 rfl ?_
    refine J_aload_n (pc := 41) C dX6_findRows_41 rfl ?_
    refine J_iload_n (pc := 42) C dX6_findRows_42 rfl ?_
    refine J_iconst (pc := 43) C dX6_findRows_43 ic_0 ?_
    refine J_iconst (pc := 44) C dX6_findRows_44 ic_0 ?_
    refine J_bind hF (fun q45 hq hF => ?_)
    refine J_callS0_v (pc := 45) (stk := [.int 0, .int 0, .int x3, .ref a2, .ref a0]) (st := []) C dX6_findRows_45 yw_X6_follow w_MLX6_87 st_X6_follow (kX6_follow hq) rfl (by decide) rfl (Nat.le_of_ble_eq_true rfl) ?_
    exact J_vret (pc := 48) C dX6_findRows_48 hF (by decide) (by decide)
  · exact J_vret (pc := 21) C dX6_findRows_21 hF (by decide) (by decide)
def fX6_ride_64 (oX6_ride : Hp → Nat → Int32 → Int32 → Int32 → Int32 → Option Hp) : Nat → Hp → Nat → Int32 → Int32 → Int32 → Int32 → Nat → Nat → Int32 → Option Hp
  | 0, _, _, _, _, _, _, _, _, _ => none
  | n64 + 1, h, a0, x1, x2, x3, x4, a5, a6, x7 =>
    (getI h 7 a5 2).bind fun v68 =>
    if v68 ≤ x7 then
      some h
    else
      (fX7_meet h a5 x7 x1).bind fun q79 =>
      if q79 = 0 then
        fX6_ride_64 oX6_ride n64 h a0 x1 x2 x3 x4 a5 a6 (x7 + 1)
      else
        (fX7_copyFrom h a6 a5).bind fun q89 =>
        (fX7_carry q89 a6 x7 x1).bind fun q97 =>
        (getR q97.2 6 a0 4).bind fun r103 =>
        (wrI q97.2 r103 x3 x7).bind fun h109 =>
        (oX6_ride h109 a0 x1 x2 (x3 + 1) (x4 + q97.1)).bind fun q121 =>
        fX6_ride_64 oX6_ride n64 q121 a0 x1 x2 x3 x4 a5 a6 (x7 + 1)
set_option maxRecDepth 100000 in
theorem kX6_ride_64 {X : Cx} {z : Hp} {n : Nat} {oX6_ride : Hp → Nat → Int32 → Int32 → Int32 → Int32 → Option Hp} (C : Jc X yX6_ride cX6_ride 9 none (n + 1 + 5) 0 0 (none, z)) (hO : (∀ (h : Hp) (a0 : Nat) (x1 : Int32) (x2 : Int32) (x3 : Int32) (x4 : Int32) (z : Hp), oX6_ride h a0 x1 x2 x3 x4 = some z → Mc yX6_ride cX6_ride 9 none (n + 5) 0 0 [.ref a0, .int x1, .int x2, .int x3, .int x4] h (none, z))) : ∀ (n64 : Nat) (h : Hp) (a0 : Nat) (x1 : Int32) (x2 : Int32) (x3 : Int32) (x4 : Int32) (a5 : Nat) (a6 : Nat) (x7 : Int32), fX6_ride_64 oX6_ride n64 h a0 x1 x2 x3 x4 a5 a6 x7 = some z → J X 0 0 0 0 64 [some (.ref a0), some (.int x1), some (.int x2), some (.int x3), some (.int x4), some (.ref a5), some (.ref a6), some (.int x7), none] [] h := by
  intro n64
  induction n64 with
  | zero => intro h a0 x1 x2 x3 x4 a5 a6 x7 hF; cases hF
  | succ n64 ih =>
    intro h a0 x1 x2 x3 x4 a5 a6 x7 hF
    rw [fX6_ride_64] at hF
    refine J_iload (pc := 64) C dX6_ride_64 rfl ?_
    refine J_aload (pc := 66) C dX6_ride_66 rfl ?_
    refine J_getI (pc := 68) C dX6_ride_68 fg_X6_70 hF (fun v68 hF => ?_)
    refine J_icmp_ge (pc := 71) (tgt := 130) C dX6_ride_71 rfl hF (fun hF => ?_) (fun hF => ?_)
    · exact J_vret (pc := 130) C dX6_ride_130 hF (by decide) (by decide)
    · refine J_aload (pc := 74) C dX6_ride_74 rfl ?_
      refine J_iload (pc := 76) C dX6_ride_76 rfl ?_
      refine J_iload_n (pc := 78) C dX6_ride_78 rfl ?_
      refine J_bind hF (fun q79 hq hF => ?_)
      refine J_callV0_ip (pc := 79) (stk := [.int x1, .int x7, .ref a5]) (st := []) C dX6_ride_79 yw_X7_meet w_MLX6_43 in_X7_meet sl_X7_meet ⟨_, rfl, rfl⟩ (kX7_meet hq) (gO_some hq).1 rfl (by omega) rfl (Nat.le_of_ble_eq_true rfl) ?_
      refine J_if_eq (pc := 82) (tgt := 124) C dX6_ride_82 rfl hF (fun hF => ?_) (fun hF => ?_)
      · refine J_iinc (pc := 124) (lv' := [some (.ref a0), some (.int x1), some (.int x2), some (.int x3), some (.int x4), some (.ref a5), some (.ref a6), some (.int (x7 + 1)), none]) C dX6_ride_124 rfl ic_1 rfl ?_
        refine J_goto (pc := 127) (tgt := 64) C dX6_ride_127 rfl ?_
        exact ih h a0 x1 x2 x3 x4 a5 a6 (x7 + 1) hF
      · refine J_aload (pc := 85) C dX6_ride_85 rfl ?_
        refine J_aload (pc := 87) C dX6_ride_87 rfl ?_
        refine J_bind hF (fun q89 hq hF => ?_)
        refine J_callV0_v (pc := 89) (stk := [.ref a5, .ref a6]) (st := []) C dX6_ride_89 yw_X7_copyFrom w_MLX6_27 in_X7_copyFrom sl_X7_copyFrom ⟨_, rfl, rfl⟩ (kX7_copyFrom hq) (gO_some hq).1 rfl (by omega) rfl (Nat.le_of_ble_eq_true rfl) ?_
        refine J_aload (pc := 92) C dX6_ride_92 rfl ?_
        refine J_iload (pc := 94) C dX6_ride_94 rfl ?_
        refine J_iload_n (pc := 96) C dX6_ride_96 rfl ?_
        refine J_bind hF (fun q97 hq hF => ?_)
        refine J_callV0_i (pc := 97) (stk := [.int x1, .int x7, .ref a6]) (st := []) C dX6_ride_97 yw_X7_carry w_MLX6_31 in_X7_carry sl_X7_carry ⟨_, rfl, rfl⟩ (kX7_carry hq) (gO_some hq).1 rfl (by omega) rfl (Nat.le_of_ble_eq_true rfl) ?_
        refine J_istore (pc := 100) (lv' := [some (.ref a0), some (.int x1), some (.int x2), some (.int x3), some (.int x4), some (.ref a5), some (.ref a6), some (.int x7), some (.int q97.1)]) C dX6_ride_100 rfl ?_
        refine J_aload_n (pc := 102) C dX6_ride_102 rfl ?_
        refine J_getR (pc := 103) C dX6_ride_103 fg_X6_21 hF (fun r103 hF => ?_)
        refine J_iload_n (pc := 106) C dX6_ride_106 rfl ?_
        refine J_iload (pc := 107) C dX6_ride_107 rfl ?_
        refine J_iast (pc := 109) C dX6_ride_109 hF (fun h109 hF => ?_)
        refine J_aload_n (pc := 110) C dX6_ride_110 rfl ?_
        refine J_iload_n (pc := 111) C dX6_ride_111 rfl ?_
        refine J_iload_n (pc := 112) C dX6_ride_112 rfl ?_
        refine J_iload_n (pc := 113) C dX6_ride_113 rfl ?_
        refine J_iconst (pc := 114) C dX6_ride_114 ic_1 ?_
        refine J_iadd (pc := 115) C dX6_ride_115 ?_
        refine J_iload (pc := 116) C dX6_ride_116 rfl ?_
        refine J_iload (pc := 118) C dX6_ride_118 rfl ?_
        refine J_iadd (pc := 120) C dX6_ride_120 ?_
        refine J_bind hF (fun q121 hq hF => ?_)
        refine J_callS0_v (pc := 121) (stk := [.int (x4 + q97.1), .int (x3 + 1), .int x2, .int x1, .ref a0]) (st := []) C dX6_ride_121 yw_X6_ride w_MLX6_60 st_X6_ride (hO _ _ _ _ _ _ _ hq) rfl (by omega) rfl (Nat.le_of_ble_eq_true rfl) ?_
        refine J_iinc (pc := 124) (lv' := [some (.ref a0), some (.int x1), some (.int x2), some (.int x3), some (.int x4), some (.ref a5), some (.ref a6), some (.int (x7 + 1)), some (.int q97.1)]) C dX6_ride_124 rfl ic_1 rfl ?_
        refine J_goto (pc := 127) (tgt := 64) C dX6_ride_127 rfl ?_
        refine J_msk (m := [true, true, true, true, true, true, true, true, false]) rfl ?_
        exact ih q121 a0 x1 x2 x3 x4 a5 a6 (x7 + 1) hF
def fX6_ride_21 (oX6_ride : Hp → Nat → Int32 → Int32 → Int32 → Int32 → Option Hp) (h : Hp) (a0 : Nat) (x4 : Int32) : Option Hp :=
  (putV h 6 a0 2 (.int x4)).bind fun h24 =>
  (getR h24 6 a0 4).bind fun r28 =>
  (getR h24 6 a0 3).bind fun r33 =>
  (acopy h24 r28 0 r33 0 6).bind fun h39 =>
  some h39
set_option maxRecDepth 100000 in
theorem kX6_ride_21 {X : Cx} {z : Hp} {n : Nat} {oX6_ride : Hp → Nat → Int32 → Int32 → Int32 → Int32 → Option Hp} (C : Jc X yX6_ride cX6_ride 9 none (n + 1 + 5) 0 0 (none, z)) (hO : (∀ (h : Hp) (a0 : Nat) (x1 : Int32) (x2 : Int32) (x3 : Int32) (x4 : Int32) (z : Hp), oX6_ride h a0 x1 x2 x3 x4 = some z → Mc yX6_ride cX6_ride 9 none (n + 5) 0 0 [.ref a0, .int x1, .int x2, .int x3, .int x4] h (none, z))) (h : Hp) (a0 : Nat) (x4 : Int32) (hF : fX6_ride_21 oX6_ride h a0 x4 = some z) : J X 0 0 0 0 21 [some (.ref a0), none, none, none, some (.int x4), none, none, none, none] [] h := by
  unfold fX6_ride_21 at hF
  refine J_aload_n (pc := 21) C dX6_ride_21 rfl ?_
  refine J_iload (pc := 22) C dX6_ride_22 rfl ?_
  refine J_put (pc := 24) C dX6_ride_24 (fp_X6_57 _) hF rfl rfl (fun h24 hF => ?_)
  refine J_aload_n (pc := 27) C dX6_ride_27 rfl ?_
  refine J_getR (pc := 28) C dX6_ride_28 fg_X6_21 hF (fun r28 hF => ?_)
  refine J_iconst (pc := 31) C dX6_ride_31 ic_0 ?_
  refine J_aload_n (pc := 32) C dX6_ride_32 rfl ?_
  refine J_getR (pc := 33) C dX6_ride_33 fg_X6_17 hF (fun r33 hF => ?_)
  refine J_iconst (pc := 36) C dX6_ride_36 ic_0 ?_
  refine J_bipush (pc := 37) C dX6_ride_37 bc_6 ?_
  refine J_acopy (pc := 39) C dX6_ride_39 w_MLX6_64 w_ac1 w_ac2 w_ac3 (by omega) (Nat.le_of_ble_eq_true rfl) hF (fun h39 hF => ?_)
  exact J_vret (pc := 42) C dX6_ride_42 hF (by decide) (by decide)
def bX6_ride (oX6_ride : Hp → Nat → Int32 → Int32 → Int32 → Int32 → Option Hp) (h : Hp) (a0 : Nat) (x1 : Int32) (x2 : Int32) (x3 : Int32) (x4 : Int32) : Option Hp :=
  (getI h 6 a0 2).bind fun v3 =>
  if x4 < v3 then
    if x2 ≤ x3 then
      fX6_ride_21 oX6_ride h a0 x4
    else
      if x3 < 6 then
        (getR h 6 a0 0).bind fun r44 =>
        (rdR h r44 x3).bind fun r48 =>
        (getR h 6 a0 0).bind fun r52 =>
        (rdR h r52 (x3 + 1)).bind fun r58 =>
        fX6_ride_64 oX6_ride 1000 h a0 x1 x2 x3 x4 r48 r58 0
      else
        fX6_ride_21 oX6_ride h a0 x4
  else
    some h
set_option maxRecDepth 100000 in
theorem bkX6_ride {n : Nat} {oX6_ride : Hp → Nat → Int32 → Int32 → Int32 → Int32 → Option Hp} (hO : (∀ (h : Hp) (a0 : Nat) (x1 : Int32) (x2 : Int32) (x3 : Int32) (x4 : Int32) (z : Hp), oX6_ride h a0 x1 x2 x3 x4 = some z → Mc yX6_ride cX6_ride 9 none (n + 5) 0 0 [.ref a0, .int x1, .int x2, .int x3, .int x4] h (none, z))) {h : Hp} {a0 : Nat} {x1 : Int32} {x2 : Int32} {x3 : Int32} {x4 : Int32} {z : Hp} (hF : bX6_ride oX6_ride h a0 x1 x2 x3 x4 = some z) : Mc yX6_ride cX6_ride 9 none (n + 1 + 5) 0 0 [.ref a0, .int x1, .int x2, .int x3, .int x4] h (none, z) := by
  unfold bX6_ride at hF
  refine Mc_of [some (.ref a0), some (.int x1), some (.int x2), some (.int x3), some (.int x4), none, none, none, none] plX6 rfl rfl (Nat.le_of_ble_eq_true rfl) (fun X C => ?_)
  refine J_iload (pc := 0) C dX6_ride_0 rfl ?_
  refine J_aload_n (pc := 2) C dX6_ride_2 rfl ?_
  refine J_getI (pc := 3) C dX6_ride_3 fg_X6_57 hF (fun v3 hF => ?_)
  refine J_icmp_lt (pc := 6) (tgt := 10) C dX6_ride_6 rfl hF (fun hF => ?_) (fun hF => ?_)
  · refine J_iload_n (pc := 10) C dX6_ride_10 rfl ?_
    refine J_iload_n (pc := 11) C dX6_ride_11 rfl ?_
    refine J_icmp_ge (pc := 12) (tgt := 21) C dX6_ride_12 rfl hF (fun hF => ?_) (fun hF => ?_)
    · refine J_msk (m := [true, false, false, false, true, false, false, false, false]) rfl ?_
      exact kX6_ride_21 C hO h a0 x4 hF
    · refine J_iload_n (pc := 15) C dX6_ride_15 rfl ?_
      refine J_bipush (pc := 16) C dX6_ride_16 bc_6 ?_
      refine J_icmp_lt (pc := 18) (tgt := 43) C dX6_ride_18 rfl hF (fun hF => ?_) (fun hF => ?_)
      · refine J_aload_n (pc := 43) C dX6_ride_43 rfl ?_
        refine J_getR (pc := 44) C dX6_ride_44 fg_X6_13 hF (fun r44 hF => ?_)
        refine J_iload_n (pc := 47) C dX6_ride_47 rfl ?_
        refine J_aald (pc := 48) C dX6_ride_48 hF (fun r48 hF => ?_)
        refine J_astore (pc := 49) (lv' := [some (.ref a0), some (.int x1), some (.int x2), some (.int x3), some (.int x4), some (.ref r48), none, none, none]) C dX6_ride_49 rfl ?_
        refine J_aload_n (pc := 51) C dX6_ride_51 rfl ?_
        refine J_getR (pc := 52) C dX6_ride_52 fg_X6_13 hF (fun r52 hF => ?_)
        refine J_iload_n (pc := 55) C dX6_ride_55 rfl ?_
        refine J_iconst (pc := 56) C dX6_ride_56 ic_1 ?_
        refine J_iadd (pc := 57) C dX6_ride_57 ?_
        refine J_aald (pc := 58) C dX6_ride_58 hF (fun r58 hF => ?_)
        refine J_astore (pc := 59) (lv' := [some (.ref a0), some (.int x1), some (.int x2), some (.int x3), some (.int x4), some (.ref r48), some (.ref r58), none, none]) C dX6_ride_59 rfl ?_
        refine J_iconst (pc := 61) C dX6_ride_61 ic_0 ?_
        refine J_istore (pc := 62) (lv' := [some (.ref a0), some (.int x1), some (.int x2), some (.int x3), some (.int x4), some (.ref r48), some (.ref r58), some (.int 0), none]) C dX6_ride_62 rfl ?_
        exact kX6_ride_64 C hO 1000 h a0 x1 x2 x3 x4 r48 r58 0 hF
      · refine J_msk (m := [true, false, false, false, true, false, false, false, false]) rfl ?_
        exact kX6_ride_21 C hO h a0 x4 hF
  · exact J_vret (pc := 9) C dX6_ride_9 hF (by decide) (by decide)
def gX6_ride : Nat → Hp → Nat → Int32 → Int32 → Int32 → Int32 → Option Hp
  | 0, _, _, _, _, _, _ => none
  | n + 1, h, a0, x1, x2, x3, x4 => bX6_ride (gX6_ride n) h a0 x1 x2 x3 x4
theorem gkX6_ride : ∀ n : Nat, (∀ (h : Hp) (a0 : Nat) (x1 : Int32) (x2 : Int32) (x3 : Int32) (x4 : Int32) (z : Hp), gX6_ride n h a0 x1 x2 x3 x4 = some z → Mc yX6_ride cX6_ride 9 none (n + 5) 0 0 [.ref a0, .int x1, .int x2, .int x3, .int x4] h (none, z)) := by
  intro n
  induction n with
  | zero => intro h a0 x1 x2 x3 x4 z hF; cases hF
  | succ n ih => intro h a0 x1 x2 x3 x4 z hF; exact bkX6_ride (n := n) ih hF
def fX6_ride (h : Hp) (a0 : Nat) (x1 : Int32) (x2 : Int32) (x3 : Int32) (x4 : Int32) : Option Hp := gX6_ride 10 h a0 x1 x2 x3 x4
theorem kX6_ride {h : Hp} {a0 : Nat} {x1 : Int32} {x2 : Int32} {x3 : Int32} {x4 : Int32} {z : Hp} (hF : fX6_ride h a0 x1 x2 x3 x4 = some z) : Mc yX6_ride cX6_ride 9 none 15 0 0 [.ref a0, .int x1, .int x2, .int x3, .int x4] h (none, z) := (gkX6_ride 10) h a0 x1 x2 x3 x4 _ hF
def fX6_findsWay (h : Hp) (a0 : Nat) (a1 : Nat) (x2 : Int32) (x3 : Int32) : Option (Int32 × Hp) := gO h 6 a0 (
  (getR h 6 a0 0).bind fun r1 =>
  (rdR h r1 0).bind fun r5 =>
  (fX7_copyFrom h r5 a1).bind fun q7 =>
  (getR q7 6 a0 0).bind fun r11 =>
  (rdR q7 r11 0).bind fun r15 =>
  (getR q7 7 r15 4).bind fun r16 =>
  (wrI q7 r16 x2 9999).bind fun h23 =>
  (putV h23 6 a0 2 (.int 1000000)).bind fun h27 =>
  (fX6_ride h27 a0 x2 x3 0 0).bind fun q35 =>
  (getI q35 6 a0 2).bind fun v39 =>
  if (1000000 : Int32) ≤ v39 then
    some (0, q35)
  else
    some (1, q35))
set_option maxRecDepth 100000 in
theorem kX6_findsWay {h : Hp} {a0 : Nat} {a1 : Nat} {x2 : Int32} {x3 : Int32} {z : (Int32 × Hp)} (hF : fX6_findsWay h a0 a1 x2 x3 = some z) : Mc yX6_findsWay cX6_findsWay 4 (some .boolean) 16 0 0 [.ref a0, .ref a1, .int x2, .int x3] h (some (.int z.1), z.2) := by
  have hF := (gO_some hF).2
  refine Mc_of [some (.ref a0), some (.ref a1), some (.int x2), some (.int x3)] plX6 rfl rfl (Nat.le_of_ble_eq_true rfl) (fun X C => ?_)
  refine J_aload_n (pc := 0) C dX6_findsWay_0 rfl ?_
  refine J_getR (pc := 1) C dX6_findsWay_1 fg_X6_13 hF (fun r1 hF => ?_)
  refine J_iconst (pc := 4) C dX6_findsWay_4 ic_0 ?_
  refine J_aald (pc := 5) C dX6_findsWay_5 hF (fun r5 hF => ?_)
  refine J_aload_n (pc := 6) C dX6_findsWay_6 rfl ?_
  refine J_bind hF (fun q7 hq hF => ?_)
  refine J_callV0_v (pc := 7) (stk := [.ref a1, .ref r5]) (st := []) C dX6_findsWay_7 yw_X7_copyFrom w_MLX6_27 in_X7_copyFrom sl_X7_copyFrom ⟨_, rfl, rfl⟩ (kX7_copyFrom hq) (gO_some hq).1 rfl (by decide) rfl (Nat.le_of_ble_eq_true rfl) ?_
  refine J_aload_n (pc := 10) C dX6_findsWay_10 rfl ?_
  refine J_getR (pc := 11) C dX6_findsWay_11 fg_X6_13 hF (fun r11 hF => ?_)
  refine J_iconst (pc := 14) C dX6_findsWay_14 ic_0 ?_
  refine J_aald (pc := 15) C dX6_findsWay_15 hF (fun r15 hF => ?_)
  refine J_getR (pc := 16) C dX6_findsWay_16 fg_X6_53 hF (fun r16 hF => ?_)
  refine J_iload_n (pc := 19) C dX6_findsWay_19 rfl ?_
  refine J_sipush (pc := 20) C dX6_findsWay_20 sc_9999 ?_
  refine J_iast (pc := 23) C dX6_findsWay_23 hF (fun h23 hF => ?_)
  refine J_aload_n (pc := 24) C dX6_findsWay_24 rfl ?_
  refine J_ldc (pc := 25) C dX6_findsWay_25 w_KX6_56 ?_
  refine J_put (pc := 27) C dX6_findsWay_27 (fp_X6_57 _) hF rfl rfl (fun h27 hF => ?_)
  refine J_aload_n (pc := 30) C dX6_findsWay_30 rfl ?_
  refine J_iload_n (pc := 31) C dX6_findsWay_31 rfl ?_
  refine J_iload_n (pc := 32) C dX6_findsWay_32 rfl ?_
  refine J_iconst (pc := 33) C dX6_findsWay_33 ic_0 ?_
  refine J_iconst (pc := 34) C dX6_findsWay_34 ic_0 ?_
  refine J_bind hF (fun q35 hq hF => ?_)
  refine J_callS0_v (pc := 35) (stk := [.int 0, .int 0, .int x3, .int x2, .ref a0]) (st := []) C dX6_findsWay_35 yw_X6_ride w_MLX6_60 st_X6_ride (kX6_ride hq) rfl (by decide) rfl (Nat.le_of_ble_eq_true rfl) ?_
  refine J_aload_n (pc := 38) C dX6_findsWay_38 rfl ?_
  refine J_getI (pc := 39) C dX6_findsWay_39 fg_X6_57 hF (fun v39 hF => ?_)
  refine J_ldc (pc := 42) C dX6_findsWay_42 w_KX6_56 ?_
  refine J_icmp_ge (pc := 44) (tgt := 51) C dX6_findsWay_44 rfl hF (fun hF => ?_) (fun hF => ?_)
  · refine J_iconst (pc := 51) C dX6_findsWay_51 ic_0 ?_
    exact J_zret (pc := 52) C dX6_findsWay_52 rfl hF (by decide) (by decide)
  · refine J_iconst (pc := 47) C dX6_findsWay_47 ic_1 ?_
    refine J_goto (pc := 48) (tgt := 52) C dX6_findsWay_48 rfl ?_
    exact J_zret (pc := 52) C dX6_findsWay_52 rfl hF (by decide) (by decide)
def fX7_addMan (h : Hp) (a0 : Nat) (x1 : Int32) (x2 : Int32) (x3 : Int32) : Option (Int32 × Hp) := gO h 7 a0 (
  (getI h 7 a0 2).bind fun v1 =>
  (getR h 7 a0 5).bind fun r7 =>
  (wrI h r7 v1 x1).bind fun h13 =>
  (getR h13 7 a0 6).bind fun r15 =>
  (wrI h13 r15 v1 x2).bind fun h21 =>
  (getR h21 7 a0 7).bind fun r23 =>
  (wrI h21 r23 v1 x3).bind fun h29 =>
  (getR h29 7 a0 8).bind fun r31 =>
  (wrI h29 r31 v1 0).bind fun h37 =>
  (getR h37 7 a0 9).bind fun r39 =>
  (wrI h37 r39 v1 0).bind fun h45 =>
  (getI h45 7 a0 2).bind fun v48 =>
  (putV h45 7 a0 2 (.int (v48 + 1))).bind fun h53 =>
  some (v1, h53))
set_option maxRecDepth 100000 in
theorem kX7_addMan {h : Hp} {a0 : Nat} {x1 : Int32} {x2 : Int32} {x3 : Int32} {z : (Int32 × Hp)} (hF : fX7_addMan h a0 x1 x2 x3 = some z) : Mc yX7_addMan cX7_addMan 5 (some .int) 0 0 0 [.ref a0, .int x1, .int x2, .int x3] h (some (.int z.1), z.2) := by
  have hF := (gO_some hF).2
  refine Mc_of [some (.ref a0), some (.int x1), some (.int x2), some (.int x3), none] plX7 rfl rfl (Nat.le_of_ble_eq_true rfl) (fun X C => ?_)
  refine J_aload_n (pc := 0) C dX7_addMan_0 rfl ?_
  refine J_getI (pc := 1) C dX7_addMan_1 fg_X7_50 hF (fun v1 hF => ?_)
  refine J_istore (pc := 4) (lv' := [some (.ref a0), some (.int x1), some (.int x2), some (.int x3), some (.int v1)]) C dX7_addMan_4 rfl ?_
  refine J_aload_n (pc := 6) C dX7_addMan_6 rfl ?_
  refine J_getR (pc := 7) C dX7_addMan_7 fg_X7_18 hF (fun r7 hF => ?_)
  refine J_iload (pc := 10) C dX7_addMan_10 rfl ?_
  refine J_iload_n (pc := 12) C dX7_addMan_12 rfl ?_
  refine J_iast (pc := 13) C dX7_addMan_13 hF (fun h13 hF => ?_)
  refine J_aload_n (pc := 14) C dX7_addMan_14 rfl ?_
  refine J_getR (pc := 15) C dX7_addMan_15 fg_X7_21 hF (fun r15 hF => ?_)
  refine J_iload (pc := 18) C dX7_addMan_18 rfl ?_
  refine J_iload_n (pc := 20) C dX7_addMan_20 rfl ?_
  refine J_iast (pc := 21) C dX7_addMan_21 hF (fun h21 hF => ?_)
  refine J_aload_n (pc := 22) C dX7_addMan_22 rfl ?_
  refine J_getR (pc := 23) C dX7_addMan_23 fg_X7_24 hF (fun r23 hF => ?_)
  refine J_iload (pc := 26) C dX7_addMan_26 rfl ?_
  refine J_iload_n (pc := 28) C dX7_addMan_28 rfl ?_
  refine J_iast (pc := 29) C dX7_addMan_29 hF (fun h29 hF => ?_)
  refine J_aload_n (pc := 30) C dX7_addMan_30 rfl ?_
  refine J_getR (pc := 31) C dX7_addMan_31 fg_X7_27 hF (fun r31 hF => ?_)
  refine J_iload (pc := 34) C dX7_addMan_34 rfl ?_
  refine J_iconst (pc := 36) C dX7_addMan_36 ic_0 ?_
  refine J_iast (pc := 37) C dX7_addMan_37 hF (fun h37 hF => ?_)
  refine J_aload_n (pc := 38) C dX7_addMan_38 rfl ?_
  refine J_getR (pc := 39) C dX7_addMan_39 fg_X7_30 hF (fun r39 hF => ?_)
  refine J_iload (pc := 42) C dX7_addMan_42 rfl ?_
  refine J_iconst (pc := 44) C dX7_addMan_44 ic_0 ?_
  refine J_iast (pc := 45) C dX7_addMan_45 hF (fun h45 hF => ?_)
  refine J_aload_n (pc := 46) C dX7_addMan_46 rfl ?_
  refine J_dup (pc := 47) C dX7_addMan_47 rfl ?_
  refine J_getI (pc := 48) C dX7_addMan_48 fg_X7_50 hF (fun v48 hF => ?_)
  refine J_iconst (pc := 51) C dX7_addMan_51 ic_1 ?_
  refine J_iadd (pc := 52) C dX7_addMan_52 ?_
  refine J_put (pc := 53) C dX7_addMan_53 (fp_X7_50 _) hF rfl rfl (fun h53 hF => ?_)
  refine J_iload (pc := 56) C dX7_addMan_56 rfl ?_
  exact J_iret (pc := 58) C dX7_addMan_58 hF (by decide) (by decide)
def fX7_addPerson (h : Hp) (a0 : Nat) (x1 : Int32) : Option (Int32 × Hp) := gO h 7 a0 (
  (getI h 7 a0 1).bind fun v1 =>
  (getR h 7 a0 3).bind fun r6 =>
  (wrI h r6 v1 x1).bind fun h11 =>
  (getR h11 7 a0 4).bind fun r13 =>
  (wrI h11 r13 v1 20).bind fun h19 =>
  (getI h19 7 a0 1).bind fun v22 =>
  (putV h19 7 a0 1 (.int (v22 + 1))).bind fun h27 =>
  some (v1, h27))
set_option maxRecDepth 100000 in
theorem kX7_addPerson {h : Hp} {a0 : Nat} {x1 : Int32} {z : (Int32 × Hp)} (hF : fX7_addPerson h a0 x1 = some z) : Mc yX7_addPerson cX7_addPerson 3 (some .int) 0 0 0 [.ref a0, .int x1] h (some (.int z.1), z.2) := by
  have hF := (gO_some hF).2
  refine Mc_of [some (.ref a0), some (.int x1), none] plX7 rfl rfl (Nat.le_of_ble_eq_true rfl) (fun X C => ?_)
  refine J_aload_n (pc := 0) C dX7_addPerson_0 rfl ?_
  refine J_getI (pc := 1) C dX7_addPerson_1 fg_X7_47 hF (fun v1 hF => ?_)
  refine J_istore_n (pc := 4) (lv' := [some (.ref a0), some (.int x1), some (.int v1)]) C dX7_addPerson_4 rfl ?_
  refine J_aload_n (pc := 5) C dX7_addPerson_5 rfl ?_
  refine J_getR (pc := 6) C dX7_addPerson_6 fg_X7_9 hF (fun r6 hF => ?_)
  refine J_iload_n (pc := 9) C dX7_addPerson_9 rfl ?_
  refine J_iload_n (pc := 10) C dX7_addPerson_10 rfl ?_
  refine J_iast (pc := 11) C dX7_addPerson_11 hF (fun h11 hF => ?_)
  refine J_aload_n (pc := 12) C dX7_addPerson_12 rfl ?_
  refine J_getR (pc := 13) C dX7_addPerson_13 fg_X7_15 hF (fun r13 hF => ?_)
  refine J_iload_n (pc := 16) C dX7_addPerson_16 rfl ?_
  refine J_bipush (pc := 17) C dX7_addPerson_17 bc_20 ?_
  refine J_iast (pc := 19) C dX7_addPerson_19 hF (fun h19 hF => ?_)
  refine J_aload_n (pc := 20) C dX7_addPerson_20 rfl ?_
  refine J_dup (pc := 21) C dX7_addPerson_21 rfl ?_
  refine J_getI (pc := 22) C dX7_addPerson_22 fg_X7_47 hF (fun v22 hF => ?_)
  refine J_iconst (pc := 25) C dX7_addPerson_25 ic_1 ?_
  refine J_iadd (pc := 26) C dX7_addPerson_26 ?_
  refine J_put (pc := 27) C dX7_addPerson_27 (fp_X7_47 _) hF rfl rfl (fun h27 hF => ?_)
  refine J_iload_n (pc := 30) C dX7_addPerson_30 rfl ?_
  exact J_iret (pc := 31) C dX7_addPerson_31 hF (by decide) (by decide)
def fX7_allCoins_29 (h : Hp) : Nat → Nat → Int32 → Int32 → Option Int32
  | 0, _, _, _ => none
  | n29 + 1, a0, x1, x2 =>
    (getI h 7 a0 2).bind fun v31 =>
    if v31 ≤ x2 then
      some x1
    else
      (getR h 7 a0 8).bind fun r39 =>
      (rdI h r39 x2).bind fun v43 =>
      fX7_allCoins_29 h n29 a0 (x1 + v43) (x2 + 1)
set_option maxRecDepth 100000 in
theorem kX7_allCoins_29 {X : Cx} {z : Int32} {h : Hp} (C : Jc X yX7_allCoins cX7_allCoins 3 (some .int) 0 0 0 (some (.int z), h)) : ∀ (n29 : Nat) (a0 : Nat) (x1 : Int32) (x2 : Int32), fX7_allCoins_29 h n29 a0 x1 x2 = some z → J X 0 0 0 0 29 [some (.ref a0), some (.int x1), some (.int x2)] [] h := by
  intro n29
  induction n29 with
  | zero => intro a0 x1 x2 hF; cases hF
  | succ n29 ih =>
    intro a0 x1 x2 hF
    rw [fX7_allCoins_29] at hF
    refine J_iload_n (pc := 29) C dX7_allCoins_29 rfl ?_
    refine J_aload_n (pc := 30) C dX7_allCoins_30 rfl ?_
    refine J_getI (pc := 31) C dX7_allCoins_31 fg_X7_50 hF (fun v31 hF => ?_)
    refine J_icmp_ge (pc := 34) (tgt := 52) C dX7_allCoins_34 rfl hF (fun hF => ?_) (fun hF => ?_)
    · refine J_iload_n (pc := 52) C dX7_allCoins_52 rfl ?_
      exact J_iretP (pc := 53) C dX7_allCoins_53 hF (by decide) (by decide)
    · refine J_iload_n (pc := 37) C dX7_allCoins_37 rfl ?_
      refine J_aload_n (pc := 38) C dX7_allCoins_38 rfl ?_
      refine J_getR (pc := 39) C dX7_allCoins_39 fg_X7_27 hF (fun r39 hF => ?_)
      refine J_iload_n (pc := 42) C dX7_allCoins_42 rfl ?_
      refine J_iald (pc := 43) C dX7_allCoins_43 hF (fun v43 hF => ?_)
      refine J_iadd (pc := 44) C dX7_allCoins_44 ?_
      refine J_istore_n (pc := 45) (lv' := [some (.ref a0), some (.int (x1 + v43)), some (.int x2)]) C dX7_allCoins_45 rfl ?_
      refine J_iinc (pc := 46) (lv' := [some (.ref a0), some (.int (x1 + v43)), some (.int (x2 + 1))]) C dX7_allCoins_46 rfl ic_1 rfl ?_
      refine J_goto (pc := 49) (tgt := 29) C dX7_allCoins_49 rfl ?_
      exact ih a0 (x1 + v43) (x2 + 1) hF
def fX7_allCoins_4 (h : Hp) : Nat → Nat → Int32 → Int32 → Option Int32
  | 0, _, _, _ => none
  | n4 + 1, a0, x1, x2 =>
    (getI h 7 a0 1).bind fun v6 =>
    if v6 ≤ x2 then
      fX7_allCoins_29 h 1000 a0 x1 0
    else
      (getR h 7 a0 4).bind fun r14 =>
      (rdI h r14 x2).bind fun v18 =>
      fX7_allCoins_4 h n4 a0 (x1 + v18) (x2 + 1)
set_option maxRecDepth 100000 in
theorem kX7_allCoins_4 {X : Cx} {z : Int32} {h : Hp} (C : Jc X yX7_allCoins cX7_allCoins 3 (some .int) 0 0 0 (some (.int z), h)) : ∀ (n4 : Nat) (a0 : Nat) (x1 : Int32) (x2 : Int32), fX7_allCoins_4 h n4 a0 x1 x2 = some z → J X 0 0 0 0 4 [some (.ref a0), some (.int x1), some (.int x2)] [] h := by
  intro n4
  induction n4 with
  | zero => intro a0 x1 x2 hF; cases hF
  | succ n4 ih =>
    intro a0 x1 x2 hF
    rw [fX7_allCoins_4] at hF
    refine J_iload_n (pc := 4) C dX7_allCoins_4 rfl ?_
    refine J_aload_n (pc := 5) C dX7_allCoins_5 rfl ?_
    refine J_getI (pc := 6) C dX7_allCoins_6 fg_X7_47 hF (fun v6 hF => ?_)
    refine J_icmp_ge (pc := 9) (tgt := 27) C dX7_allCoins_9 rfl hF (fun hF => ?_) (fun hF => ?_)
    · refine J_iconst (pc := 27) C dX7_allCoins_27 ic_0 ?_
      refine J_istore_n (pc := 28) (lv' := [some (.ref a0), some (.int x1), some (.int 0)]) C dX7_allCoins_28 rfl ?_
      exact kX7_allCoins_29 C 1000 a0 x1 0 hF
    · refine J_iload_n (pc := 12) C dX7_allCoins_12 rfl ?_
      refine J_aload_n (pc := 13) C dX7_allCoins_13 rfl ?_
      refine J_getR (pc := 14) C dX7_allCoins_14 fg_X7_15 hF (fun r14 hF => ?_)
      refine J_iload_n (pc := 17) C dX7_allCoins_17 rfl ?_
      refine J_iald (pc := 18) C dX7_allCoins_18 hF (fun v18 hF => ?_)
      refine J_iadd (pc := 19) C dX7_allCoins_19 ?_
      refine J_istore_n (pc := 20) (lv' := [some (.ref a0), some (.int (x1 + v18)), some (.int x2)]) C dX7_allCoins_20 rfl ?_
      refine J_iinc (pc := 21) (lv' := [some (.ref a0), some (.int (x1 + v18)), some (.int (x2 + 1))]) C dX7_allCoins_21 rfl ic_1 rfl ?_
      refine J_goto (pc := 24) (tgt := 4) C dX7_allCoins_24 rfl ?_
      exact ih a0 (x1 + v18) (x2 + 1) hF
def fX7_allCoins (h : Hp) (a0 : Nat) : Option Int32 := gO h 7 a0 (
  fX7_allCoins_4 h 1000 a0 0 0)
set_option maxRecDepth 100000 in
theorem kX7_allCoins {h : Hp} {a0 : Nat} {z : Int32} (hF : fX7_allCoins h a0 = some z) : Mc yX7_allCoins cX7_allCoins 3 (some .int) 0 0 0 [.ref a0] h (some (.int z), h) := by
  have hF := (gO_some hF).2
  refine Mc_of [some (.ref a0), none, none] plX7 rfl rfl (Nat.le_of_ble_eq_true rfl) (fun X C => ?_)
  refine J_iconst (pc := 0) C dX7_allCoins_0 ic_0 ?_
  refine J_istore_n (pc := 1) (lv' := [some (.ref a0), some (.int 0), none]) C dX7_allCoins_1 rfl ?_
  refine J_iconst (pc := 2) C dX7_allCoins_2 ic_0 ?_
  refine J_istore_n (pc := 3) (lv' := [some (.ref a0), some (.int 0), some (.int 0)]) C dX7_allCoins_3 rfl ?_
  exact kX7_allCoins_4 C 1000 a0 0 0 hF
def fX7_bitsOfKnowers_4 (h : Hp) : Nat → Nat → Int32 → Int32 → Int32 → Option Int32
  | 0, _, _, _, _ => none
  | n4 + 1, a0, x1, x2, x3 =>
    (getI h 7 a0 2).bind fun v6 =>
    if v6 ≤ x3 then
      some x2
    else
      (fX7_knows h a0 x3 x1).bind fun q15 =>
      if q15 = 0 then
        fX7_bitsOfKnowers_4 h n4 a0 x1 x2 (x3 + 1)
      else
        fX7_bitsOfKnowers_4 h n4 a0 x1 (x2 ||| ((1 : Int32) <<< (x3 &&& 31))) (x3 + 1)
set_option maxRecDepth 100000 in
theorem kX7_bitsOfKnowers_4 {X : Cx} {z : Int32} {h : Hp} (C : Jc X yX7_bitsOfKnowers cX7_bitsOfKnowers 4 (some .int) 2 0 0 (some (.int z), h)) : ∀ (n4 : Nat) (a0 : Nat) (x1 : Int32) (x2 : Int32) (x3 : Int32), fX7_bitsOfKnowers_4 h n4 a0 x1 x2 x3 = some z → J X 0 0 0 0 4 [some (.ref a0), some (.int x1), some (.int x2), some (.int x3)] [] h := by
  intro n4
  induction n4 with
  | zero => intro a0 x1 x2 x3 hF; cases hF
  | succ n4 ih =>
    intro a0 x1 x2 x3 hF
    rw [fX7_bitsOfKnowers_4] at hF
    refine J_iload_n (pc := 4) C dX7_bitsOfKnowers_4 rfl ?_
    refine J_aload_n (pc := 5) C dX7_bitsOfKnowers_5 rfl ?_
    refine J_getI (pc := 6) C dX7_bitsOfKnowers_6 fg_X7_50 hF (fun v6 hF => ?_)
    refine J_icmp_ge (pc := 9) (tgt := 33) C dX7_bitsOfKnowers_9 rfl hF (fun hF => ?_) (fun hF => ?_)
    · refine J_iload_n (pc := 33) C dX7_bitsOfKnowers_33 rfl ?_
      exact J_iretP (pc := 34) C dX7_bitsOfKnowers_34 hF (by decide) (by decide)
    · refine J_aload_n (pc := 12) C dX7_bitsOfKnowers_12 rfl ?_
      refine J_iload_n (pc := 13) C dX7_bitsOfKnowers_13 rfl ?_
      refine J_iload_n (pc := 14) C dX7_bitsOfKnowers_14 rfl ?_
      refine J_bind hF (fun q15 hq hF => ?_)
      refine J_callV0_ip (pc := 15) (stk := [.int x1, .int x3, .ref a0]) (st := []) C dX7_bitsOfKnowers_15 yw_X7_knows w_MLX7_76 in_X7_knows sl_X7_knows ⟨_, rfl, rfl⟩ (kX7_knows hq) (gO_some hq).1 rfl (by decide) rfl (Nat.le_of_ble_eq_true rfl) ?_
      refine J_if_eq (pc := 18) (tgt := 27) C dX7_bitsOfKnowers_18 rfl hF (fun hF => ?_) (fun hF => ?_)
      · refine J_iinc (pc := 27) (lv' := [some (.ref a0), some (.int x1), some (.int x2), some (.int (x3 + 1))]) C dX7_bitsOfKnowers_27 rfl ic_1 rfl ?_
        refine J_goto (pc := 30) (tgt := 4) C dX7_bitsOfKnowers_30 rfl ?_
        exact ih a0 x1 x2 (x3 + 1) hF
      · refine J_iload_n (pc := 21) C dX7_bitsOfKnowers_21 rfl ?_
        refine J_iconst (pc := 22) C dX7_bitsOfKnowers_22 ic_1 ?_
        refine J_iload_n (pc := 23) C dX7_bitsOfKnowers_23 rfl ?_
        refine J_ishl (pc := 24) C dX7_bitsOfKnowers_24 ?_
        refine J_ior (pc := 25) C dX7_bitsOfKnowers_25 ?_
        refine J_istore_n (pc := 26) (lv' := [some (.ref a0), some (.int x1), some (.int (x2 ||| ((1 : Int32) <<< (x3 &&& 31)))), some (.int x3)]) C dX7_bitsOfKnowers_26 rfl ?_
        refine J_iinc (pc := 27) (lv' := [some (.ref a0), some (.int x1), some (.int (x2 ||| ((1 : Int32) <<< (x3 &&& 31)))), some (.int (x3 + 1))]) C dX7_bitsOfKnowers_27 rfl ic_1 rfl ?_
        refine J_goto (pc := 30) (tgt := 4) C dX7_bitsOfKnowers_30 rfl ?_
        exact ih a0 x1 (x2 ||| ((1 : Int32) <<< (x3 &&& 31))) (x3 + 1) hF
def fX7_bitsOfKnowers (h : Hp) (a0 : Nat) (x1 : Int32) : Option Int32 := gO h 7 a0 (
  fX7_bitsOfKnowers_4 h 1000 a0 x1 0 0)
set_option maxRecDepth 100000 in
theorem kX7_bitsOfKnowers {h : Hp} {a0 : Nat} {x1 : Int32} {z : Int32} (hF : fX7_bitsOfKnowers h a0 x1 = some z) : Mc yX7_bitsOfKnowers cX7_bitsOfKnowers 4 (some .int) 2 0 0 [.ref a0, .int x1] h (some (.int z), h) := by
  have hF := (gO_some hF).2
  refine Mc_of [some (.ref a0), some (.int x1), none, none] plX7 rfl rfl (Nat.le_of_ble_eq_true rfl) (fun X C => ?_)
  refine J_iconst (pc := 0) C dX7_bitsOfKnowers_0 ic_0 ?_
  refine J_istore_n (pc := 1) (lv' := [some (.ref a0), some (.int x1), some (.int 0), none]) C dX7_bitsOfKnowers_1 rfl ?_
  refine J_iconst (pc := 2) C dX7_bitsOfKnowers_2 ic_0 ?_
  refine J_istore_n (pc := 3) (lv' := [some (.ref a0), some (.int x1), some (.int 0), some (.int 0)]) C dX7_bitsOfKnowers_3 rfl ?_
  exact kX7_bitsOfKnowers_4 C 1000 a0 x1 0 0 hF
def fX7_hasMan (h : Hp) (a0 : Nat) (x1 : Int32) : Option Int32 := gO h 7 a0 (
  if x1 < 0 then
    some 0
  else
    (getI h 7 a0 2).bind fun v6 =>
    if v6 ≤ x1 then
      some 0
    else
      some 1)
set_option maxRecDepth 100000 in
theorem kX7_hasMan {h : Hp} {a0 : Nat} {x1 : Int32} {z : Int32} (hF : fX7_hasMan h a0 x1 = some z) : Mc yX7_hasMan cX7_hasMan 2 (some .boolean) 0 0 0 [.ref a0, .int x1] h (some (.int z), h) := by
  have hF := (gO_some hF).2
  refine Mc_of [some (.ref a0), some (.int x1)] plX7 rfl rfl (Nat.le_of_ble_eq_true rfl) (fun X C => ?_)
  refine J_iload_n (pc := 0) C dX7_hasMan_0 rfl ?_
  refine J_if_lt (pc := 1) (tgt := 16) C dX7_hasMan_1 rfl hF (fun hF => ?_) (fun hF => ?_)
  · refine J_iconst (pc := 16) C dX7_hasMan_16 ic_0 ?_
    exact J_zretP (pc := 17) C dX7_hasMan_17 rfl hF (by decide) (by decide)
  · refine J_iload_n (pc := 4) C dX7_hasMan_4 rfl ?_
    refine J_aload_n (pc := 5) C dX7_hasMan_5 rfl ?_
    refine J_getI (pc := 6) C dX7_hasMan_6 fg_X7_50 hF (fun v6 hF => ?_)
    refine J_icmp_ge (pc := 9) (tgt := 16) C dX7_hasMan_9 rfl hF (fun hF => ?_) (fun hF => ?_)
    · refine J_iconst (pc := 16) C dX7_hasMan_16 ic_0 ?_
      exact J_zretP (pc := 17) C dX7_hasMan_17 rfl hF (by decide) (by decide)
    · refine J_iconst (pc := 12) C dX7_hasMan_12 ic_1 ?_
      refine J_goto (pc := 13) (tgt := 17) C dX7_hasMan_13 rfl ?_
      exact J_zretP (pc := 17) C dX7_hasMan_17 rfl hF (by decide) (by decide)
def fX7_hasPerson (h : Hp) (a0 : Nat) (x1 : Int32) : Option Int32 := gO h 7 a0 (
  if x1 < 0 then
    some 0
  else
    (getI h 7 a0 1).bind fun v6 =>
    if v6 ≤ x1 then
      some 0
    else
      some 1)
set_option maxRecDepth 100000 in
theorem kX7_hasPerson {h : Hp} {a0 : Nat} {x1 : Int32} {z : Int32} (hF : fX7_hasPerson h a0 x1 = some z) : Mc yX7_hasPerson cX7_hasPerson 2 (some .boolean) 0 0 0 [.ref a0, .int x1] h (some (.int z), h) := by
  have hF := (gO_some hF).2
  refine Mc_of [some (.ref a0), some (.int x1)] plX7 rfl rfl (Nat.le_of_ble_eq_true rfl) (fun X C => ?_)
  refine J_iload_n (pc := 0) C dX7_hasPerson_0 rfl ?_
  refine J_if_lt (pc := 1) (tgt := 16) C dX7_hasPerson_1 rfl hF (fun hF => ?_) (fun hF => ?_)
  · refine J_iconst (pc := 16) C dX7_hasPerson_16 ic_0 ?_
    exact J_zretP (pc := 17) C dX7_hasPerson_17 rfl hF (by decide) (by decide)
  · refine J_iload_n (pc := 4) C dX7_hasPerson_4 rfl ?_
    refine J_aload_n (pc := 5) C dX7_hasPerson_5 rfl ?_
    refine J_getI (pc := 6) C dX7_hasPerson_6 fg_X7_47 hF (fun v6 hF => ?_)
    refine J_icmp_ge (pc := 9) (tgt := 16) C dX7_hasPerson_9 rfl hF (fun hF => ?_) (fun hF => ?_)
    · refine J_iconst (pc := 16) C dX7_hasPerson_16 ic_0 ?_
      exact J_zretP (pc := 17) C dX7_hasPerson_17 rfl hF (by decide) (by decide)
    · refine J_iconst (pc := 12) C dX7_hasPerson_12 ic_1 ?_
      refine J_goto (pc := 13) (tgt := 17) C dX7_hasPerson_13 rfl ?_
      exact J_zretP (pc := 17) C dX7_hasPerson_17 rfl hF (by decide) (by decide)
def fX7_law (h : Hp) (a0 : Nat) (x1 : Int32) : Option Nat := gO h 7 a0 (
  if x1 = 0 then
    (getR h 7 a0 11).bind fun r5 =>
    some r5
  else
    (getR h 7 a0 12).bind fun r12 =>
    some r12)
set_option maxRecDepth 100000 in
theorem kX7_law {h : Hp} {a0 : Nat} {x1 : Int32} {z : Nat} (hF : fX7_law h a0 x1 = some z) : Mc yX7_law cX7_law 2 (some (.object "FourthFace$Law")) 0 0 0 [.ref a0, .int x1] h (some (.ref z), h) := by
  have hF := (gO_some hF).2
  refine Mc_of [some (.ref a0), some (.int x1)] plX7 rfl rfl (Nat.le_of_ble_eq_true rfl) (fun X C => ?_)
  refine J_iload_n (pc := 0) C dX7_law_0 rfl ?_
  refine J_if_ne (pc := 1) (tgt := 11) C dX7_law_1 rfl hF (fun hF => ?_) (fun hF => ?_)
  · refine J_aload_n (pc := 4) C dX7_law_4 rfl ?_
    refine J_getR (pc := 5) C dX7_law_5 fg_X7_36 hF (fun r5 hF => ?_)
    refine J_goto (pc := 8) (tgt := 15) C dX7_law_8 rfl ?_
    exact J_aretP (pc := 15) C dX7_law_15 (Or.inl ⟨_, rfl⟩) hF (by decide) (by decide)
  · refine J_aload_n (pc := 11) C dX7_law_11 rfl ?_
    refine J_getR (pc := 12) C dX7_law_12 fg_X7_40 hF (fun r12 hF => ?_)
    exact J_aretP (pc := 15) C dX7_law_15 (Or.inl ⟨_, rfl⟩) hF (by decide) (by decide)
def fX7_leastOfHeap_8 (h : Hp) : Nat → Int32 → Int32 → Int32 → Option Int32
  | 0, _, _, _ => none
  | n8 + 1, x1, x2, x3 =>
    if x1 ≤ x3 then
      some x1
    else
      if ((x2 >>> (x3 &&& 31)) &&& 1) = 1 then
        some x3
      else
        fX7_leastOfHeap_8 h n8 x1 x2 (x3 + 1)
set_option maxRecDepth 100000 in
theorem kX7_leastOfHeap_8 {X : Cx} {z : Int32} {h : Hp} (C : Jc X yX7_leastOfHeap cX7_leastOfHeap 4 (some .int) 2 0 0 (some (.int z), h)) : ∀ (n8 : Nat) (x1 : Int32) (x2 : Int32) (x3 : Int32), fX7_leastOfHeap_8 h n8 x1 x2 x3 = some z → J X 0 0 0 0 8 [none, some (.int x1), some (.int x2), some (.int x3)] [] h := by
  intro n8
  induction n8 with
  | zero => intro x1 x2 x3 hF; cases hF
  | succ n8 ih =>
    intro x1 x2 x3 hF
    rw [fX7_leastOfHeap_8] at hF
    refine J_iload_n (pc := 8) C dX7_leastOfHeap_8 rfl ?_
    refine J_iload_n (pc := 9) C dX7_leastOfHeap_9 rfl ?_
    refine J_icmp_ge (pc := 10) (tgt := 30) C dX7_leastOfHeap_10 rfl hF (fun hF => ?_) (fun hF => ?_)
    · refine J_iload_n (pc := 30) C dX7_leastOfHeap_30 rfl ?_
      exact J_iretP (pc := 31) C dX7_leastOfHeap_31 hF (by decide) (by decide)
    · refine J_iload_n (pc := 13) C dX7_leastOfHeap_13 rfl ?_
      refine J_iload_n (pc := 14) C dX7_leastOfHeap_14 rfl ?_
      refine J_ishr (pc := 15) C dX7_leastOfHeap_15 ?_
      refine J_iconst (pc := 16) C dX7_leastOfHeap_16 ic_1 ?_
      refine J_iand (pc := 17) C dX7_leastOfHeap_17 ?_
      refine J_iconst (pc := 18) C dX7_leastOfHeap_18 ic_1 ?_
      refine J_icmp_ne (pc := 19) (tgt := 24) C dX7_leastOfHeap_19 rfl hF (fun hF => ?_) (fun hF => ?_)
      · refine J_iload_n (pc := 22) C dX7_leastOfHeap_22 rfl ?_
        exact J_iretP (pc := 23) C dX7_leastOfHeap_23 hF (by decide) (by decide)
      · refine J_iinc (pc := 24) (lv' := [none, some (.int x1), some (.int x2), some (.int (x3 + 1))]) C dX7_leastOfHeap_24 rfl ic_1 rfl ?_
        refine J_goto (pc := 27) (tgt := 8) C dX7_leastOfHeap_27 rfl ?_
        exact ih x1 x2 (x3 + 1) hF
def fX7_leastOfHeap (h : Hp) (a0 : Nat) (x1 : Int32) : Option Int32 := gO h 7 a0 (
  (fX7_bitsOfHeap h a0 x1).bind fun q2 =>
  fX7_leastOfHeap_8 h 1000 x1 q2 0)
set_option maxRecDepth 100000 in
theorem kX7_leastOfHeap {h : Hp} {a0 : Nat} {x1 : Int32} {z : Int32} (hF : fX7_leastOfHeap h a0 x1 = some z) : Mc yX7_leastOfHeap cX7_leastOfHeap 4 (some .int) 2 0 0 [.ref a0, .int x1] h (some (.int z), h) := by
  have hF := (gO_some hF).2
  refine Mc_of [some (.ref a0), some (.int x1), none, none] plX7 rfl rfl (Nat.le_of_ble_eq_true rfl) (fun X C => ?_)
  refine J_aload_n (pc := 0) C dX7_leastOfHeap_0 rfl ?_
  refine J_iload_n (pc := 1) C dX7_leastOfHeap_1 rfl ?_
  refine J_bind hF (fun q2 hq hF => ?_)
  refine J_callV0_ip (pc := 2) (stk := [.int x1, .ref a0]) (st := []) C dX7_leastOfHeap_2 yw_X7_bitsOfHeap w_MLX7_84 in_X7_bitsOfHeap sl_X7_bitsOfHeap ⟨_, rfl, rfl⟩ (kX7_bitsOfHeap hq) (gO_some hq).1 rfl (by decide) rfl (Nat.le_of_ble_eq_true rfl) ?_
  refine J_istore_n (pc := 5) (lv' := [some (.ref a0), some (.int x1), some (.int q2), none]) C dX7_leastOfHeap_5 rfl ?_
  refine J_iconst (pc := 6) C dX7_leastOfHeap_6 ic_0 ?_
  refine J_istore_n (pc := 7) (lv' := [some (.ref a0), some (.int x1), some (.int q2), some (.int 0)]) C dX7_leastOfHeap_7 rfl ?_
  refine J_msk (m := [false, true, true, true]) rfl ?_
  exact kX7_leastOfHeap_8 C 1000 x1 q2 0 hF
def fX7_setLaw (h : Hp) (a0 : Nat) (x1 : Int32) (a2 : Nat) : Option Hp := gO h 7 a0 (
  if x1 = 0 then
    (putV h 7 a0 11 (.ref a2)).bind fun h6 =>
    some h6
  else
    (putV h 7 a0 12 (.ref a2)).bind fun h14 =>
    some h14)
set_option maxRecDepth 100000 in
theorem kX7_setLaw {h : Hp} {a0 : Nat} {x1 : Int32} {a2 : Nat} {z : Hp} (hF : fX7_setLaw h a0 x1 a2 = some z) : Mc yX7_setLaw cX7_setLaw 3 none 0 0 0 [.ref a0, .int x1, .ref a2] h (none, z) := by
  have hF := (gO_some hF).2
  refine Mc_of [some (.ref a0), some (.int x1), some (.ref a2)] plX7 rfl rfl (Nat.le_of_ble_eq_true rfl) (fun X C => ?_)
  refine J_iload_n (pc := 0) C dX7_setLaw_0 rfl ?_
  refine J_if_ne (pc := 1) (tgt := 12) C dX7_setLaw_1 rfl hF (fun hF => ?_) (fun hF => ?_)
  · refine J_aload_n (pc := 4) C dX7_setLaw_4 rfl ?_
    refine J_aload_n (pc := 5) C dX7_setLaw_5 rfl ?_
    refine J_put (pc := 6) C dX7_setLaw_6 (fp_X7_36 _) hF rfl rfl (fun h6 hF => ?_)
    refine J_goto (pc := 9) (tgt := 17) C dX7_setLaw_9 rfl ?_
    exact J_vret (pc := 17) C dX7_setLaw_17 hF (by decide) (by decide)
  · refine J_aload_n (pc := 12) C dX7_setLaw_12 rfl ?_
    refine J_aload_n (pc := 13) C dX7_setLaw_13 rfl ?_
    refine J_put (pc := 14) C dX7_setLaw_14 (fp_X7_40 _) hF rfl rfl (fun h14 hF => ?_)
    exact J_vret (pc := 17) C dX7_setLaw_17 hF (by decide) (by decide)
def fX8_refuse (h : Hp) (a0 : Nat) (x1 : Int32) : Option (Int32 × Hp) := gO h 8 a0 (
  (getR h 8 a0 6).bind fun r1 =>
  (rdI h r1 x1).bind fun v6 =>
  (wrI h r1 x1 (v6 + 1)).bind fun h9 =>
  some (((-1000000000)) - x1, h9))
set_option maxRecDepth 100000 in
theorem kX8_refuse {h : Hp} {a0 : Nat} {x1 : Int32} {z : (Int32 × Hp)} (hF : fX8_refuse h a0 x1 = some z) : Mc yX8_refuse cX8_refuse 2 (some .int) 0 0 0 [.ref a0, .int x1] h (some (.int z.1), z.2) := by
  have hF := (gO_some hF).2
  refine Mc_of [some (.ref a0), some (.int x1)] plX8 rfl rfl (Nat.le_of_ble_eq_true rfl) (fun X C => ?_)
  refine J_aload_n (pc := 0) C dX8_refuse_0 rfl ?_
  refine J_getR (pc := 1) C dX8_refuse_1 fg_X8_51 hF (fun r1 hF => ?_)
  refine J_iload_n (pc := 4) C dX8_refuse_4 rfl ?_
  refine J_dup2 (pc := 5) C dX8_refuse_5 rfl rfl ?_
  refine J_iald (pc := 6) C dX8_refuse_6 hF (fun v6 hF => ?_)
  refine J_iconst (pc := 7) C dX8_refuse_7 ic_1 ?_
  refine J_iadd (pc := 8) C dX8_refuse_8 ?_
  refine J_iast (pc := 9) C dX8_refuse_9 hF (fun h9 hF => ?_)
  refine J_ldcw (pc := 10) C dX8_refuse_10 w_KX8_343 ?_
  refine J_iload_n (pc := 13) C dX8_refuse_13 rfl ?_
  refine J_isub (pc := 14) C dX8_refuse_14 ?_
  exact J_iret (pc := 15) C dX8_refuse_15 hF (by decide) (by decide)
def fX8_alone (h : Hp) (a0 : Nat) (x1 : Int32) : Option (Int32 × Hp) := gO h 8 a0 (
  (getR h 8 a0 1).bind fun r1 =>
  (getR h 1 r1 0).bind fun r4 =>
  (fX7_hasMan h r4 x1).bind fun q8 =>
  if q8 = 0 then
    (fX8_refuse h a0 1).bind fun q16 =>
    some (q16.1, q16.2)
  else
    (getR h 8 a0 1).bind fun r21 =>
    (getR h 1 r21 0).bind fun r24 =>
    (getI h 7 r24 0).bind fun v27 =>
    if v27 < 9999 then
      (getR h 8 a0 1).bind fun r43 =>
      (getR h 1 r43 0).bind fun r46 =>
      (fX7_rowOver h r46 x1).bind fun q50 =>
      (getR q50 8 a0 1).bind fun r54 =>
      (getR q50 1 r54 0).bind fun r57 =>
      (getR q50 7 r57 7).bind fun r60 =>
      (rdI q50 r60 x1).bind fun v64 =>
      some (v64, q50)
    else
      (fX8_refuse h a0 3).bind fun q38 =>
      some (q38.1, q38.2))
set_option maxRecDepth 100000 in
theorem kX8_alone {h : Hp} {a0 : Nat} {x1 : Int32} {z : (Int32 × Hp)} (hF : fX8_alone h a0 x1 = some z) : Mc yX8_alone cX8_alone 2 (some .int) 1 0 0 [.ref a0, .int x1] h (some (.int z.1), z.2) := by
  have hF := (gO_some hF).2
  refine Mc_of [some (.ref a0), some (.int x1)] plX8 rfl rfl (Nat.le_of_ble_eq_true rfl) (fun X C => ?_)
  refine J_aload_n (pc := 0) C dX8_alone_0 rfl ?_
  refine J_getR (pc := 1) C dX8_alone_1 fg_X8_23 hF (fun r1 hF => ?_)
  refine J_getR (pc := 4) C dX8_alone_4 fg_X8_63 hF (fun r4 hF => ?_)
  refine J_iload_n (pc := 7) C dX8_alone_7 rfl ?_
  refine J_bind hF (fun q8 hq hF => ?_)
  refine J_callV0_ip (pc := 8) (stk := [.int x1, .ref r4]) (st := []) C dX8_alone_8 yw_X7_hasMan w_MLX8_103 in_X7_hasMan sl_X7_hasMan ⟨_, rfl, rfl⟩ (kX7_hasMan hq) (gO_some hq).1 rfl (by decide) rfl (Nat.le_of_ble_eq_true rfl) ?_
  refine J_if_ne (pc := 11) (tgt := 20) C dX8_alone_11 rfl hF (fun hF => ?_) (fun hF => ?_)
  · refine J_aload_n (pc := 14) C dX8_alone_14 rfl ?_
    refine J_iconst (pc := 15) C dX8_alone_15 ic_1 ?_
    refine J_bind hF (fun q16 hq hF => ?_)
    refine J_callV0_i (pc := 16) (stk := [.int 1, .ref a0]) (st := []) C dX8_alone_16 yw_X8_refuse w_MLX8_59 in_X8_refuse sl_X8_refuse ⟨_, rfl, rfl⟩ (kX8_refuse hq) (gO_some hq).1 rfl (by decide) rfl (Nat.le_of_ble_eq_true rfl) ?_
    exact J_iret (pc := 19) C dX8_alone_19 hF (by decide) (by decide)
  · refine J_aload_n (pc := 20) C dX8_alone_20 rfl ?_
    refine J_getR (pc := 21) C dX8_alone_21 fg_X8_23 hF (fun r21 hF => ?_)
    refine J_getR (pc := 24) C dX8_alone_24 fg_X8_63 hF (fun r24 hF => ?_)
    refine J_getI (pc := 27) C dX8_alone_27 fg_X8_184 hF (fun v27 hF => ?_)
    refine J_sipush (pc := 30) C dX8_alone_30 sc_9999 ?_
    refine J_icmp_lt (pc := 33) (tgt := 42) C dX8_alone_33 rfl hF (fun hF => ?_) (fun hF => ?_)
    · refine J_aload_n (pc := 42) C dX8_alone_42 rfl ?_
      refine J_getR (pc := 43) C dX8_alone_43 fg_X8_23 hF (fun r43 hF => ?_)
      refine J_getR (pc := 46) C dX8_alone_46 fg_X8_63 hF (fun r46 hF => ?_)
      refine J_iload_n (pc := 49) C dX8_alone_49 rfl ?_
      refine J_bind hF (fun q50 hq hF => ?_)
      refine J_callV0_v (pc := 50) (stk := [.int x1, .ref r46]) (st := []) C dX8_alone_50 yw_X7_rowOver w_MLX8_187 in_X7_rowOver sl_X7_rowOver ⟨_, rfl, rfl⟩ (kX7_rowOver hq) (gO_some hq).1 rfl (by decide) rfl (Nat.le_of_ble_eq_true rfl) ?_
      refine J_aload_n (pc := 53) C dX8_alone_53 rfl ?_
      refine J_getR (pc := 54) C dX8_alone_54 fg_X8_23 hF (fun r54 hF => ?_)
      refine J_getR (pc := 57) C dX8_alone_57 fg_X8_63 hF (fun r57 hF => ?_)
      refine J_getR (pc := 60) C dX8_alone_60 fg_X8_112 hF (fun r60 hF => ?_)
      refine J_iload_n (pc := 63) C dX8_alone_63 rfl ?_
      refine J_iald (pc := 64) C dX8_alone_64 hF (fun v64 hF => ?_)
      exact J_iret (pc := 65) C dX8_alone_65 hF (by decide) (by decide)
    · refine J_aload_n (pc := 36) C dX8_alone_36 rfl ?_
      refine J_iconst (pc := 37) C dX8_alone_37 ic_3 ?_
      refine J_bind hF (fun q38 hq hF => ?_)
      refine J_callV0_i (pc := 38) (stk := [.int 3, .ref a0]) (st := []) C dX8_alone_38 yw_X8_refuse w_MLX8_59 in_X8_refuse sl_X8_refuse ⟨_, rfl, rfl⟩ (kX8_refuse hq) (gO_some hq).1 rfl (by decide) rfl (Nat.le_of_ble_eq_true rfl) ?_
      exact J_iret (pc := 41) C dX8_alone_41 hF (by decide) (by decide)
def fX8_isKind (x0 : Int32) : Option Int32 :=
  if x0 < 0 then
    some 0
  else
    if (7 : Int32) ≤ x0 then
      some 0
    else
      some 1
set_option maxRecDepth 100000 in
theorem kX8_isKind {h : Hp} {x0 : Int32} {z : Int32} (hF : fX8_isKind x0 = some z) : Mc yX8_isKind cX8_isKind 1 (some .boolean) 0 0 0 [.int x0] h (some (.int z), h) := by
  unfold fX8_isKind at hF
  refine Mc_of [some (.int x0)] plX8 rfl rfl (Nat.le_of_ble_eq_true rfl) (fun X C => ?_)
  refine J_iload_n (pc := 0) C dX8_isKind_0 rfl ?_
  refine J_if_lt (pc := 1) (tgt := 14) C dX8_isKind_1 rfl hF (fun hF => ?_) (fun hF => ?_)
  · refine J_iconst (pc := 14) C dX8_isKind_14 ic_0 ?_
    exact J_zretP (pc := 15) C dX8_isKind_15 rfl hF (by decide) (by decide)
  · refine J_iload_n (pc := 4) C dX8_isKind_4 rfl ?_
    refine J_bipush (pc := 5) C dX8_isKind_5 bc_7 ?_
    refine J_icmp_ge (pc := 7) (tgt := 14) C dX8_isKind_7 rfl hF (fun hF => ?_) (fun hF => ?_)
    · refine J_iconst (pc := 14) C dX8_isKind_14 ic_0 ?_
      exact J_zretP (pc := 15) C dX8_isKind_15 rfl hF (by decide) (by decide)
    · refine J_iconst (pc := 10) C dX8_isKind_10 ic_1 ?_
      refine J_goto (pc := 11) (tgt := 15) C dX8_isKind_11 rfl ?_
      exact J_zretP (pc := 15) C dX8_isKind_15 rfl hF (by decide) (by decide)
def fX8_as (h : Hp) (a0 : Nat) (x1 : Int32) (x2 : Int32) : Option (Int32 × Hp) := gO h 8 a0 (
  (getR h 8 a0 1).bind fun r1 =>
  (getR h 1 r1 0).bind fun r4 =>
  (fX7_hasMan h r4 x1).bind fun q8 =>
  if q8 = 0 then
    (fX8_refuse h a0 1).bind fun q23 =>
    some (q23.1, q23.2)
  else
    (fX8_isKind x2).bind fun q15 =>
    if q15 = 0 then
      (fX8_refuse h a0 1).bind fun q23 =>
      some (q23.1, q23.2)
    else
      (getR h 8 a0 1).bind fun r28 =>
      (getR h 1 r28 0).bind fun r31 =>
      (getR h 7 r31 5).bind fun r34 =>
      (rdI h r34 x1).bind fun v38 =>
      (fX8_isUnder h v38 x2).bind fun q40 =>
      if q40 = 0 then
        (fX8_refuse h a0 5).bind fun q48 =>
        some (q48.1, q48.2)
      else
        (getR h 8 a0 1).bind fun r53 =>
        (getR h 1 r53 0).bind fun r56 =>
        (getR h 7 r56 8).bind fun r59 =>
        (rdI h r59 x1).bind fun v63 =>
        some (v63, h))
set_option maxRecDepth 100000 in
theorem kX8_as {h : Hp} {a0 : Nat} {x1 : Int32} {x2 : Int32} {z : (Int32 × Hp)} (hF : fX8_as h a0 x1 x2 = some z) : Mc yX8_as cX8_as 3 (some .int) 1 0 0 [.ref a0, .int x1, .int x2] h (some (.int z.1), z.2) := by
  have hF := (gO_some hF).2
  refine Mc_of [some (.ref a0), some (.int x1), some (.int x2)] plX8 rfl rfl (Nat.le_of_ble_eq_true rfl) (fun X C => ?_)
  refine J_aload_n (pc := 0) C dX8_as_0 rfl ?_
  refine J_getR (pc := 1) C dX8_as_1 fg_X8_23 hF (fun r1 hF => ?_)
  refine J_getR (pc := 4) C dX8_as_4 fg_X8_63 hF (fun r4 hF => ?_)
  refine J_iload_n (pc := 7) C dX8_as_7 rfl ?_
  refine J_bind hF (fun q8 hq hF => ?_)
  refine J_callV0_ip (pc := 8) (stk := [.int x1, .ref r4]) (st := []) C dX8_as_8 yw_X7_hasMan w_MLX8_103 in_X7_hasMan sl_X7_hasMan ⟨_, rfl, rfl⟩ (kX7_hasMan hq) (gO_some hq).1 rfl (by decide) rfl (Nat.le_of_ble_eq_true rfl) ?_
  refine J_if_eq (pc := 11) (tgt := 21) C dX8_as_11 rfl hF (fun hF => ?_) (fun hF => ?_)
  · refine J_aload_n (pc := 21) C dX8_as_21 rfl ?_
    refine J_iconst (pc := 22) C dX8_as_22 ic_1 ?_
    refine J_bind hF (fun q23 hq hF => ?_)
    refine J_callV0_i (pc := 23) (stk := [.int 1, .ref a0]) (st := []) C dX8_as_23 yw_X8_refuse w_MLX8_59 in_X8_refuse sl_X8_refuse ⟨_, rfl, rfl⟩ (kX8_refuse hq) (gO_some hq).1 rfl (by decide) rfl (Nat.le_of_ble_eq_true rfl) ?_
    exact J_iret (pc := 26) C dX8_as_26 hF (by decide) (by decide)
  · refine J_iload_n (pc := 14) C dX8_as_14 rfl ?_
    refine J_bind hF (fun q15 hq hF => ?_)
    refine J_callS0_ip (pc := 15) (stk := [.int x2]) (st := []) C dX8_as_15 yw_X8_isKind w_MLX8_131 st_X8_isKind (kX8_isKind hq) rfl (by decide) rfl (Nat.le_of_ble_eq_true rfl) ?_
    refine J_if_ne (pc := 18) (tgt := 27) C dX8_as_18 rfl hF (fun hF => ?_) (fun hF => ?_)
    · refine J_aload_n (pc := 21) C dX8_as_21 rfl ?_
      refine J_iconst (pc := 22) C dX8_as_22 ic_1 ?_
      refine J_bind hF (fun q23 hq hF => ?_)
      refine J_callV0_i (pc := 23) (stk := [.int 1, .ref a0]) (st := []) C dX8_as_23 yw_X8_refuse w_MLX8_59 in_X8_refuse sl_X8_refuse ⟨_, rfl, rfl⟩ (kX8_refuse hq) (gO_some hq).1 rfl (by decide) rfl (Nat.le_of_ble_eq_true rfl) ?_
      exact J_iret (pc := 26) C dX8_as_26 hF (by decide) (by decide)
    · refine J_aload_n (pc := 27) C dX8_as_27 rfl ?_
      refine J_getR (pc := 28) C dX8_as_28 fg_X8_23 hF (fun r28 hF => ?_)
      refine J_getR (pc := 31) C dX8_as_31 fg_X8_63 hF (fun r31 hF => ?_)
      refine J_getR (pc := 34) C dX8_as_34 fg_X8_106 hF (fun r34 hF => ?_)
      refine J_iload_n (pc := 37) C dX8_as_37 rfl ?_
      refine J_iald (pc := 38) C dX8_as_38 hF (fun v38 hF => ?_)
      refine J_iload_n (pc := 39) C dX8_as_39 rfl ?_
      refine J_bind hF (fun q40 hq hF => ?_)
      refine J_callS0_ip (pc := 40) (stk := [.int x2, .int v38]) (st := []) C dX8_as_40 yw_X8_isUnder w_MLX8_134 st_X8_isUnder (kX8_isUnder hq) rfl (by decide) rfl (Nat.le_of_ble_eq_true rfl) ?_
      refine J_if_ne (pc := 43) (tgt := 52) C dX8_as_43 rfl hF (fun hF => ?_) (fun hF => ?_)
      · refine J_aload_n (pc := 46) C dX8_as_46 rfl ?_
        refine J_iconst (pc := 47) C dX8_as_47 ic_5 ?_
        refine J_bind hF (fun q48 hq hF => ?_)
        refine J_callV0_i (pc := 48) (stk := [.int 5, .ref a0]) (st := []) C dX8_as_48 yw_X8_refuse w_MLX8_59 in_X8_refuse sl_X8_refuse ⟨_, rfl, rfl⟩ (kX8_refuse hq) (gO_some hq).1 rfl (by decide) rfl (Nat.le_of_ble_eq_true rfl) ?_
        exact J_iret (pc := 51) C dX8_as_51 hF (by decide) (by decide)
      · refine J_aload_n (pc := 52) C dX8_as_52 rfl ?_
        refine J_getR (pc := 53) C dX8_as_53 fg_X8_23 hF (fun r53 hF => ?_)
        refine J_getR (pc := 56) C dX8_as_56 fg_X8_63 hF (fun r56 hF => ?_)
        refine J_getR (pc := 59) C dX8_as_59 fg_X8_115 hF (fun r59 hF => ?_)
        refine J_iload_n (pc := 62) C dX8_as_62 rfl ?_
        refine J_iald (pc := 63) C dX8_as_63 hF (fun v63 hF => ?_)
        exact J_iret (pc := 64) C dX8_as_64 hF (by decide) (by decide)
def fX8_body (h : Hp) (a0 : Nat) (x1 : Int32) : Option (Int32 × Hp) := gO h 8 a0 (
  if x1 < 0 then
    (fX8_refuse h a0 2).bind fun q17 =>
    some (q17.1, q17.2)
  else
    (getR h 8 a0 5).bind fun r6 =>
    (getI h 5 r6 1).bind fun v9 =>
    if x1 < v9 then
      (getR h 8 a0 5).bind fun r22 =>
      (getR h 5 r22 0).bind fun r25 =>
      (rdI h r25 x1).bind fun v29 =>
      some (v29, h)
    else
      (fX8_refuse h a0 2).bind fun q17 =>
      some (q17.1, q17.2))
set_option maxRecDepth 100000 in
theorem kX8_body {h : Hp} {a0 : Nat} {x1 : Int32} {z : (Int32 × Hp)} (hF : fX8_body h a0 x1 = some z) : Mc yX8_body cX8_body 2 (some .int) 1 0 0 [.ref a0, .int x1] h (some (.int z.1), z.2) := by
  have hF := (gO_some hF).2
  refine Mc_of [some (.ref a0), some (.int x1)] plX8 rfl rfl (Nat.le_of_ble_eq_true rfl) (fun X C => ?_)
  refine J_iload_n (pc := 0) C dX8_body_0 rfl ?_
  refine J_if_lt (pc := 1) (tgt := 15) C dX8_body_1 rfl hF (fun hF => ?_) (fun hF => ?_)
  · refine J_aload_n (pc := 15) C dX8_body_15 rfl ?_
    refine J_iconst (pc := 16) C dX8_body_16 ic_2 ?_
    refine J_bind hF (fun q17 hq hF => ?_)
    refine J_callV0_i (pc := 17) (stk := [.int 2, .ref a0]) (st := []) C dX8_body_17 yw_X8_refuse w_MLX8_59 in_X8_refuse sl_X8_refuse ⟨_, rfl, rfl⟩ (kX8_refuse hq) (gO_some hq).1 rfl (by decide) rfl (Nat.le_of_ble_eq_true rfl) ?_
    exact J_iret (pc := 20) C dX8_body_20 hF (by decide) (by decide)
  · refine J_iload_n (pc := 4) C dX8_body_4 rfl ?_
    refine J_aload_n (pc := 5) C dX8_body_5 rfl ?_
    refine J_getR (pc := 6) C dX8_body_6 fg_X8_47 hF (fun r6 hF => ?_)
    refine J_getI (pc := 9) C dX8_body_9 fg_X8_286 hF (fun v9 hF => ?_)
    refine J_icmp_lt (pc := 12) (tgt := 21) C dX8_body_12 rfl hF (fun hF => ?_) (fun hF => ?_)
    · refine J_aload_n (pc := 21) C dX8_body_21 rfl ?_
      refine J_getR (pc := 22) C dX8_body_22 fg_X8_47 hF (fun r22 hF => ?_)
      refine J_getR (pc := 25) C dX8_body_25 fg_X8_289 hF (fun r25 hF => ?_)
      refine J_iload_n (pc := 28) C dX8_body_28 rfl ?_
      refine J_iald (pc := 29) C dX8_body_29 hF (fun v29 hF => ?_)
      exact J_iret (pc := 30) C dX8_body_30 hF (by decide) (by decide)
    · refine J_aload_n (pc := 15) C dX8_body_15 rfl ?_
      refine J_iconst (pc := 16) C dX8_body_16 ic_2 ?_
      refine J_bind hF (fun q17 hq hF => ?_)
      refine J_callV0_i (pc := 17) (stk := [.int 2, .ref a0]) (st := []) C dX8_body_17 yw_X8_refuse w_MLX8_59 in_X8_refuse sl_X8_refuse ⟨_, rfl, rfl⟩ (kX8_refuse hq) (gO_some hq).1 rfl (by decide) rfl (Nat.le_of_ble_eq_true rfl) ?_
      exact J_iret (pc := 20) C dX8_body_20 hF (by decide) (by decide)
def fX8_book (h : Hp) (a0 : Nat) (x1 : Int32) : Option (Int32 × Hp) := gO h 8 a0 (
  if x1 < 0 then
    (fX8_refuse h a0 2).bind fun q17 =>
    some (q17.1, q17.2)
  else
    (getR h 8 a0 1).bind fun r6 =>
    (getI h 1 r6 7).bind fun v9 =>
    if x1 < v9 then
      (getR h 8 a0 1).bind fun r22 =>
      (getR h 1 r22 6).bind fun r25 =>
      (rdI h r25 x1).bind fun v29 =>
      some (v29, h)
    else
      (fX8_refuse h a0 2).bind fun q17 =>
      some (q17.1, q17.2))
set_option maxRecDepth 100000 in
theorem kX8_book {h : Hp} {a0 : Nat} {x1 : Int32} {z : (Int32 × Hp)} (hF : fX8_book h a0 x1 = some z) : Mc yX8_book cX8_book 2 (some .int) 1 0 0 [.ref a0, .int x1] h (some (.int z.1), z.2) := by
  have hF := (gO_some hF).2
  refine Mc_of [some (.ref a0), some (.int x1)] plX8 rfl rfl (Nat.le_of_ble_eq_true rfl) (fun X C => ?_)
  refine J_iload_n (pc := 0) C dX8_book_0 rfl ?_
  refine J_if_lt (pc := 1) (tgt := 15) C dX8_book_1 rfl hF (fun hF => ?_) (fun hF => ?_)
  · refine J_aload_n (pc := 15) C dX8_book_15 rfl ?_
    refine J_iconst (pc := 16) C dX8_book_16 ic_2 ?_
    refine J_bind hF (fun q17 hq hF => ?_)
    refine J_callV0_i (pc := 17) (stk := [.int 2, .ref a0]) (st := []) C dX8_book_17 yw_X8_refuse w_MLX8_59 in_X8_refuse sl_X8_refuse ⟨_, rfl, rfl⟩ (kX8_refuse hq) (gO_some hq).1 rfl (by decide) rfl (Nat.le_of_ble_eq_true rfl) ?_
    exact J_iret (pc := 20) C dX8_book_20 hF (by decide) (by decide)
  · refine J_iload_n (pc := 4) C dX8_book_4 rfl ?_
    refine J_aload_n (pc := 5) C dX8_book_5 rfl ?_
    refine J_getR (pc := 6) C dX8_book_6 fg_X8_23 hF (fun r6 hF => ?_)
    refine J_getI (pc := 9) C dX8_book_9 fg_X8_197 hF (fun v9 hF => ?_)
    refine J_icmp_lt (pc := 12) (tgt := 21) C dX8_book_12 rfl hF (fun hF => ?_) (fun hF => ?_)
    · refine J_aload_n (pc := 21) C dX8_book_21 rfl ?_
      refine J_getR (pc := 22) C dX8_book_22 fg_X8_23 hF (fun r22 hF => ?_)
      refine J_getR (pc := 25) C dX8_book_25 fg_X8_200 hF (fun r25 hF => ?_)
      refine J_iload_n (pc := 28) C dX8_book_28 rfl ?_
      refine J_iald (pc := 29) C dX8_book_29 hF (fun v29 hF => ?_)
      exact J_iret (pc := 30) C dX8_book_30 hF (by decide) (by decide)
    · refine J_aload_n (pc := 15) C dX8_book_15 rfl ?_
      refine J_iconst (pc := 16) C dX8_book_16 ic_2 ?_
      refine J_bind hF (fun q17 hq hF => ?_)
      refine J_callV0_i (pc := 17) (stk := [.int 2, .ref a0]) (st := []) C dX8_book_17 yw_X8_refuse w_MLX8_59 in_X8_refuse sl_X8_refuse ⟨_, rfl, rfl⟩ (kX8_refuse hq) (gO_some hq).1 rfl (by decide) rfl (Nat.le_of_ble_eq_true rfl) ?_
      exact J_iret (pc := 20) C dX8_book_20 hF (by decide) (by decide)
def fX8_check_41 : Nat → Hp → Nat → Int32 → Int32 → Int32 → Int32 → Option (Int32 × Hp)
  | 0, _, _, _, _, _, _ => none
  | n41 + 1, h, a0, x1, x2, x3, x4 =>
    if x2 ≤ x4 then
      (getR h 8 a0 1).bind fun r105 =>
      (getR h 1 r105 0).bind fun r108 =>
      (getR h 7 r108 9).bind fun r111 =>
      (rdI h r111 x1).bind fun v115 =>
      if v115 ≤ x2 then
        some (0, h)
      else
        some (x2 + 1, h)
    else
      (getR h 8 a0 1).bind fun r48 =>
      (getR h 1 r48 4).bind fun r51 =>
      (rdI h r51 x4).bind fun v56 =>
      (getR h 8 a0 1).bind fun r60 =>
      (getR h 1 r60 0).bind fun r63 =>
      (fX7_knows h r63 x1 v56).bind fun q69 =>
      if q69 = 0 then
        some (1 + x4, h)
      else
        if ((x3 >>> (v56 &&& 31)) &&& 1) = 1 then
          some (1 + x4, h)
        else
          fX8_check_41 n41 h a0 x1 x2 (x3 ||| ((1 : Int32) <<< (v56 &&& 31))) (x4 + 1)
set_option maxRecDepth 100000 in
theorem kX8_check_41 {X : Cx} {z : (Int32 × Hp)} (C : Jc X yX8_check cX8_check 6 (some .int) 2 0 0 (some (.int z.1), z.2)) : ∀ (n41 : Nat) (h : Hp) (a0 : Nat) (x1 : Int32) (x2 : Int32) (x3 : Int32) (x4 : Int32), fX8_check_41 n41 h a0 x1 x2 x3 x4 = some z → J X 0 0 0 0 41 [some (.ref a0), some (.int x1), some (.int x2), some (.int x3), some (.int x4), none] [] h := by
  intro n41
  induction n41 with
  | zero => intro h a0 x1 x2 x3 x4 hF; cases hF
  | succ n41 ih =>
    intro h a0 x1 x2 x3 x4 hF
    rw [fX8_check_41] at hF
    refine J_iload (pc := 41) C dX8_check_41 rfl ?_
    refine J_iload_n (pc := 43) C dX8_check_43 rfl ?_
    refine J_icmp_ge (pc := 44) (tgt := 103) C dX8_check_44 rfl hF (fun hF => ?_) (fun hF => ?_)
    · refine J_iload_n (pc := 103) C dX8_check_103 rfl ?_
      refine J_aload_n (pc := 104) C dX8_check_104 rfl ?_
      refine J_getR (pc := 105) C dX8_check_105 fg_X8_23 hF (fun r105 hF => ?_)
      refine J_getR (pc := 108) C dX8_check_108 fg_X8_63 hF (fun r108 hF => ?_)
      refine J_getR (pc := 111) C dX8_check_111 fg_X8_124 hF (fun r111 hF => ?_)
      refine J_iload_n (pc := 114) C dX8_check_114 rfl ?_
      refine J_iald (pc := 115) C dX8_check_115 hF (fun v115 hF => ?_)
      refine J_icmp_ge (pc := 116) (tgt := 125) C dX8_check_116 rfl hF (fun hF => ?_) (fun hF => ?_)
      · refine J_iconst (pc := 125) C dX8_check_125 ic_0 ?_
        exact J_iret (pc := 126) C dX8_check_126 hF (by decide) (by decide)
      · refine J_iload_n (pc := 119) C dX8_check_119 rfl ?_
        refine J_iconst (pc := 120) C dX8_check_120 ic_1 ?_
        refine J_iadd (pc := 121) C dX8_check_121 ?_
        refine J_goto (pc := 122) (tgt := 126) C dX8_check_122 rfl ?_
        exact J_iret (pc := 126) C dX8_check_126 hF (by decide) (by decide)
    · refine J_aload_n (pc := 47) C dX8_check_47 rfl ?_
      refine J_getR (pc := 48) C dX8_check_48 fg_X8_23 hF (fun r48 hF => ?_)
      refine J_getR (pc := 51) C dX8_check_51 fg_X8_334 hF (fun r51 hF => ?_)
      refine J_iload (pc := 54) C dX8_check_54 rfl ?_
      refine J_iald (pc := 56) C dX8_check_56 hF (fun v56 hF => ?_)
      refine J_istore (pc := 57) (lv' := [some (.ref a0), some (.int x1), some (.int x2), some (.int x3), some (.int x4), some (.int v56)]) C dX8_check_57 rfl ?_
      refine J_aload_n (pc := 59) C dX8_check_59 rfl ?_
      refine J_getR (pc := 60) C dX8_check_60 fg_X8_23 hF (fun r60 hF => ?_)
      refine J_getR (pc := 63) C dX8_check_63 fg_X8_63 hF (fun r63 hF => ?_)
      refine J_iload_n (pc := 66) C dX8_check_66 rfl ?_
      refine J_iload (pc := 67) C dX8_check_67 rfl ?_
      refine J_bind hF (fun q69 hq hF => ?_)
      refine J_callV0_ip (pc := 69) (stk := [.int v56, .int x1, .ref r63]) (st := []) C dX8_check_69 yw_X7_knows w_MLX8_337 in_X7_knows sl_X7_knows ⟨_, rfl, rfl⟩ (kX7_knows hq) (gO_some hq).1 rfl (by decide) rfl (Nat.le_of_ble_eq_true rfl) ?_
      refine J_if_eq (pc := 72) (tgt := 85) C dX8_check_72 rfl hF (fun hF => ?_) (fun hF => ?_)
      · refine J_iconst (pc := 85) C dX8_check_85 ic_1 ?_
        refine J_iload (pc := 86) C dX8_check_86 rfl ?_
        refine J_iadd (pc := 88) C dX8_check_88 ?_
        exact J_iret (pc := 89) C dX8_check_89 hF (by decide) (by decide)
      · refine J_iload_n (pc := 75) C dX8_check_75 rfl ?_
        refine J_iload (pc := 76) C dX8_check_76 rfl ?_
        refine J_ishr (pc := 78) C dX8_check_78 ?_
        refine J_iconst (pc := 79) C dX8_check_79 ic_1 ?_
        refine J_iand (pc := 80) C dX8_check_80 ?_
        refine J_iconst (pc := 81) C dX8_check_81 ic_1 ?_
        refine J_icmp_ne (pc := 82) (tgt := 90) C dX8_check_82 rfl hF (fun hF => ?_) (fun hF => ?_)
        · refine J_iconst (pc := 85) C dX8_check_85 ic_1 ?_
          refine J_iload (pc := 86) C dX8_check_86 rfl ?_
          refine J_iadd (pc := 88) C dX8_check_88 ?_
          exact J_iret (pc := 89) C dX8_check_89 hF (by decide) (by decide)
        · refine J_iload_n (pc := 90) C dX8_check_90 rfl ?_
          refine J_iconst (pc := 91) C dX8_check_91 ic_1 ?_
          refine J_iload (pc := 92) C dX8_check_92 rfl ?_
          refine J_ishl (pc := 94) C dX8_check_94 ?_
          refine J_ior (pc := 95) C dX8_check_95 ?_
          refine J_istore_n (pc := 96) (lv' := [some (.ref a0), some (.int x1), some (.int x2), some (.int (x3 ||| ((1 : Int32) <<< (v56 &&& 31)))), some (.int x4), some (.int v56)]) C dX8_check_96 rfl ?_
          refine J_iinc (pc := 97) (lv' := [some (.ref a0), some (.int x1), some (.int x2), some (.int (x3 ||| ((1 : Int32) <<< (v56 &&& 31)))), some (.int (x4 + 1)), some (.int v56)]) C dX8_check_97 rfl ic_1 rfl ?_
          refine J_goto (pc := 100) (tgt := 41) C dX8_check_100 rfl ?_
          refine J_msk (m := [true, true, true, true, true, false]) rfl ?_
          exact ih h a0 x1 x2 (x3 ||| ((1 : Int32) <<< (v56 &&& 31))) (x4 + 1) hF
def fX8_check (h : Hp) (a0 : Nat) (x1 : Int32) : Option (Int32 × Hp) := gO h 8 a0 (
  (getR h 8 a0 1).bind fun r1 =>
  (getI h 1 r1 5).bind fun v4 =>
  (getR h 8 a0 1).bind fun r9 =>
  (putV h 1 r9 5 (.int 0)).bind fun h13 =>
  (getR h13 8 a0 1).bind fun r17 =>
  (getR h13 1 r17 0).bind fun r20 =>
  (fX7_hasMan h13 r20 x1).bind fun q24 =>
  if q24 = 0 then
    (fX8_refuse h13 a0 1).bind fun q32 =>
    some (q32.1, q32.2)
  else
    fX8_check_41 1000 h13 a0 x1 v4 0 0)
set_option maxRecDepth 100000 in
theorem kX8_check {h : Hp} {a0 : Nat} {x1 : Int32} {z : (Int32 × Hp)} (hF : fX8_check h a0 x1 = some z) : Mc yX8_check cX8_check 6 (some .int) 2 0 0 [.ref a0, .int x1] h (some (.int z.1), z.2) := by
  have hF := (gO_some hF).2
  refine Mc_of [some (.ref a0), some (.int x1), none, none, none, none] plX8 rfl rfl (Nat.le_of_ble_eq_true rfl) (fun X C => ?_)
  refine J_aload_n (pc := 0) C dX8_check_0 rfl ?_
  refine J_getR (pc := 1) C dX8_check_1 fg_X8_23 hF (fun r1 hF => ?_)
  refine J_getI (pc := 4) C dX8_check_4 fg_X8_331 hF (fun v4 hF => ?_)
  refine J_istore_n (pc := 7) (lv' := [some (.ref a0), some (.int x1), some (.int v4), none, none, none]) C dX8_check_7 rfl ?_
  refine J_aload_n (pc := 8) C dX8_check_8 rfl ?_
  refine J_getR (pc := 9) C dX8_check_9 fg_X8_23 hF (fun r9 hF => ?_)
  refine J_iconst (pc := 12) C dX8_check_12 ic_0 ?_
  refine J_put (pc := 13) C dX8_check_13 (fp_X8_331 _) hF rfl rfl (fun h13 hF => ?_)
  refine J_aload_n (pc := 16) C dX8_check_16 rfl ?_
  refine J_getR (pc := 17) C dX8_check_17 fg_X8_23 hF (fun r17 hF => ?_)
  refine J_getR (pc := 20) C dX8_check_20 fg_X8_63 hF (fun r20 hF => ?_)
  refine J_iload_n (pc := 23) C dX8_check_23 rfl ?_
  refine J_bind hF (fun q24 hq hF => ?_)
  refine J_callV0_ip (pc := 24) (stk := [.int x1, .ref r20]) (st := []) C dX8_check_24 yw_X7_hasMan w_MLX8_103 in_X7_hasMan sl_X7_hasMan ⟨_, rfl, rfl⟩ (kX7_hasMan hq) (gO_some hq).1 rfl (by decide) rfl (Nat.le_of_ble_eq_true rfl) ?_
  refine J_if_ne (pc := 27) (tgt := 36) C dX8_check_27 rfl hF (fun hF => ?_) (fun hF => ?_)
  · refine J_aload_n (pc := 30) C dX8_check_30 rfl ?_
    refine J_iconst (pc := 31) C dX8_check_31 ic_1 ?_
    refine J_bind hF (fun q32 hq hF => ?_)
    refine J_callV0_i (pc := 32) (stk := [.int 1, .ref a0]) (st := []) C dX8_check_32 yw_X8_refuse w_MLX8_59 in_X8_refuse sl_X8_refuse ⟨_, rfl, rfl⟩ (kX8_refuse hq) (gO_some hq).1 rfl (by decide) rfl (Nat.le_of_ble_eq_true rfl) ?_
    exact J_iret (pc := 35) C dX8_check_35 hF (by decide) (by decide)
  · refine J_iconst (pc := 36) C dX8_check_36 ic_0 ?_
    refine J_istore_n (pc := 37) (lv' := [some (.ref a0), some (.int x1), some (.int v4), some (.int 0), none, none]) C dX8_check_37 rfl ?_
    refine J_iconst (pc := 38) C dX8_check_38 ic_0 ?_
    refine J_istore (pc := 39) (lv' := [some (.ref a0), some (.int x1), some (.int v4), some (.int 0), some (.int 0), none]) C dX8_check_39 rfl ?_
    exact kX8_check_41 C 1000 h13 a0 x1 v4 0 0 hF
def fX8_count (h : Hp) (a0 : Nat) (x1 : Int32) : Option (Int32 × Hp) := gO h 8 a0 (
  if x1 = 0 then
    (getR h 8 a0 1).bind fun r61 =>
    (getR h 1 r61 0).bind fun r64 =>
    (getI h 7 r64 1).bind fun v67 =>
    some (v67, h)
  else
    if x1 = 1 then
      (getR h 8 a0 1).bind fun r72 =>
      (getR h 1 r72 0).bind fun r75 =>
      (getI h 7 r75 2).bind fun v78 =>
      some (v78, h)
    else
      if x1 = 2 then
        (getR h 8 a0 1).bind fun r83 =>
        (getR h 1 r83 0).bind fun r86 =>
        (getI h 7 r86 0).bind fun v89 =>
        some (v89, h)
      else
        if x1 = 3 then
          (getR h 8 a0 1).bind fun r94 =>
          (getR h 1 r94 1).bind fun r97 =>
          (getI h 0 r97 0).bind fun v100 =>
          some (v100, h)
        else
          if x1 = 4 then
            (getR h 8 a0 1).bind fun r105 =>
            (getR h 1 r105 1).bind fun r108 =>
            (getR h 8 a0 1).bind fun r112 =>
            (getR h 1 r112 0).bind fun r115 =>
            (fX0_holding h r108 r115).bind fun q118 =>
            some (q118, h)
          else
            if x1 = 5 then
              (getR h 8 a0 1).bind fun r123 =>
              (getR h 1 r123 0).bind fun r126 =>
              (fX7_allCoins h r126).bind fun q129 =>
              some (q129, h)
            else
              if x1 = 6 then
                (getR h 8 a0 1).bind fun r134 =>
                (getI h 1 r134 3).bind fun v137 =>
                some (v137, h)
              else
                if x1 = 7 then
                  (getR h 8 a0 1).bind fun r142 =>
                  (getI h 1 r142 5).bind fun v145 =>
                  some (v145, h)
                else
                  if x1 = 8 then
                    (getR h 8 a0 5).bind fun r150 =>
                    (getI h 5 r150 1).bind fun v153 =>
                    some (v153, h)
                  else
                    if x1 = 9 then
                      (getR h 8 a0 1).bind fun r158 =>
                      (getI h 1 r158 8).bind fun v161 =>
                      some (v161, h)
                    else
                      if x1 = 10 then
                        (getR h 8 a0 1).bind fun r166 =>
                        (getI h 1 r166 7).bind fun v169 =>
                        some (v169, h)
                      else
                        (fX8_refuse h a0 1).bind fun q175 =>
                        some (q175.1, q175.2))
set_option maxRecDepth 100000 in
theorem kX8_count {h : Hp} {a0 : Nat} {x1 : Int32} {z : (Int32 × Hp)} (hF : fX8_count h a0 x1 = some z) : Mc yX8_count cX8_count 2 (some .int) 4 0 0 [.ref a0, .int x1] h (some (.int z.1), z.2) := by
  have hF := (gO_some hF).2
  refine Mc_of [some (.ref a0), some (.int x1)] plX8 rfl rfl (Nat.le_of_ble_eq_true rfl) (fun X C => ?_)
  refine J_iload_n (pc := 0) C dX8_count_0 rfl ?_
  refine J_br hF (fun hc1_0 hF => ?_) (fun hc1_0 hF => ?_)
  · refine J_tsIn (pc := 1) (tgt := 60) C 0 hc1_0 dX8_count_1 (by decide) (by decide) rfl rfl ?_
    refine J_aload_n (pc := 60) C dX8_count_60 rfl ?_
    refine J_getR (pc := 61) C dX8_count_61 fg_X8_23 hF (fun r61 hF => ?_)
    refine J_getR (pc := 64) C dX8_count_64 fg_X8_63 hF (fun r64 hF => ?_)
    refine J_getI (pc := 67) C dX8_count_67 fg_X8_67 hF (fun v67 hF => ?_)
    exact J_iret (pc := 70) C dX8_count_70 hF (by decide) (by decide)
  · refine J_br hF (fun hc1_1 hF => ?_) (fun hc1_1 hF => ?_)
    · refine J_tsIn (pc := 1) (tgt := 71) C 1 hc1_1 dX8_count_1 (by decide) (by decide) rfl rfl ?_
      refine J_aload_n (pc := 71) C dX8_count_71 rfl ?_
      refine J_getR (pc := 72) C dX8_count_72 fg_X8_23 hF (fun r72 hF => ?_)
      refine J_getR (pc := 75) C dX8_count_75 fg_X8_63 hF (fun r75 hF => ?_)
      refine J_getI (pc := 78) C dX8_count_78 fg_X8_96 hF (fun v78 hF => ?_)
      exact J_iret (pc := 81) C dX8_count_81 hF (by decide) (by decide)
    · refine J_br hF (fun hc1_2 hF => ?_) (fun hc1_2 hF => ?_)
      · refine J_tsIn (pc := 1) (tgt := 82) C 2 hc1_2 dX8_count_1 (by decide) (by decide) rfl rfl ?_
        refine J_aload_n (pc := 82) C dX8_count_82 rfl ?_
        refine J_getR (pc := 83) C dX8_count_83 fg_X8_23 hF (fun r83 hF => ?_)
        refine J_getR (pc := 86) C dX8_count_86 fg_X8_63 hF (fun r86 hF => ?_)
        refine J_getI (pc := 89) C dX8_count_89 fg_X8_184 hF (fun v89 hF => ?_)
        exact J_iret (pc := 92) C dX8_count_92 hF (by decide) (by decide)
      · refine J_br hF (fun hc1_3 hF => ?_) (fun hc1_3 hF => ?_)
        · refine J_tsIn (pc := 1) (tgt := 93) C 3 hc1_3 dX8_count_1 (by decide) (by decide) rfl rfl ?_
          refine J_aload_n (pc := 93) C dX8_count_93 rfl ?_
          refine J_getR (pc := 94) C dX8_count_94 fg_X8_23 hF (fun r94 hF => ?_)
          refine J_getR (pc := 97) C dX8_count_97 fg_X8_205 hF (fun r97 hF => ?_)
          refine J_getI (pc := 100) C dX8_count_100 fg_X8_209 hF (fun v100 hF => ?_)
          exact J_iret (pc := 103) C dX8_count_103 hF (by decide) (by decide)
        · refine J_br hF (fun hc1_4 hF => ?_) (fun hc1_4 hF => ?_)
          · refine J_tsIn (pc := 1) (tgt := 104) C 4 hc1_4 dX8_count_1 (by decide) (by decide) rfl rfl ?_
            refine J_aload_n (pc := 104) C dX8_count_104 rfl ?_
            refine J_getR (pc := 105) C dX8_count_105 fg_X8_23 hF (fun r105 hF => ?_)
            refine J_getR (pc := 108) C dX8_count_108 fg_X8_205 hF (fun r108 hF => ?_)
            refine J_aload_n (pc := 111) C dX8_count_111 rfl ?_
            refine J_getR (pc := 112) C dX8_count_112 fg_X8_23 hF (fun r112 hF => ?_)
            refine J_getR (pc := 115) C dX8_count_115 fg_X8_63 hF (fun r115 hF => ?_)
            refine J_bind hF (fun q118 hq hF => ?_)
            refine J_callV0_ip (pc := 118) (stk := [.ref r115, .ref r108]) (st := []) C dX8_count_118 yw_X0_holding w_MLX8_244 in_X0_holding sl_X0_holding ⟨_, rfl, rfl⟩ (kX0_holding hq) (gO_some hq).1 rfl (by decide) rfl (Nat.le_of_ble_eq_true rfl) ?_
            exact J_iret (pc := 121) C dX8_count_121 hF (by decide) (by decide)
          · refine J_br hF (fun hc1_5 hF => ?_) (fun hc1_5 hF => ?_)
            · refine J_tsIn (pc := 1) (tgt := 122) C 5 hc1_5 dX8_count_1 (by decide) (by decide) rfl rfl ?_
              refine J_aload_n (pc := 122) C dX8_count_122 rfl ?_
              refine J_getR (pc := 123) C dX8_count_123 fg_X8_23 hF (fun r123 hF => ?_)
              refine J_getR (pc := 126) C dX8_count_126 fg_X8_63 hF (fun r126 hF => ?_)
              refine J_bind hF (fun q129 hq hF => ?_)
              refine J_callV0_ip (pc := 129) (stk := [.ref r126]) (st := []) C dX8_count_129 yw_X7_allCoins w_MLX8_340 in_X7_allCoins sl_X7_allCoins ⟨_, rfl, rfl⟩ (kX7_allCoins hq) (gO_some hq).1 rfl (by decide) rfl (Nat.le_of_ble_eq_true rfl) ?_
              exact J_iret (pc := 132) C dX8_count_132 hF (by decide) (by decide)
            · refine J_br hF (fun hc1_6 hF => ?_) (fun hc1_6 hF => ?_)
              · refine J_tsIn (pc := 1) (tgt := 133) C 6 hc1_6 dX8_count_1 (by decide) (by decide) rfl rfl ?_
                refine J_aload_n (pc := 133) C dX8_count_133 rfl ?_
                refine J_getR (pc := 134) C dX8_count_134 fg_X8_23 hF (fun r134 hF => ?_)
                refine J_getI (pc := 137) C dX8_count_137 fg_X8_142 hF (fun v137 hF => ?_)
                exact J_iret (pc := 140) C dX8_count_140 hF (by decide) (by decide)
              · refine J_br hF (fun hc1_7 hF => ?_) (fun hc1_7 hF => ?_)
                · refine J_tsIn (pc := 1) (tgt := 141) C 7 hc1_7 dX8_count_1 (by decide) (by decide) rfl rfl ?_
                  refine J_aload_n (pc := 141) C dX8_count_141 rfl ?_
                  refine J_getR (pc := 142) C dX8_count_142 fg_X8_23 hF (fun r142 hF => ?_)
                  refine J_getI (pc := 145) C dX8_count_145 fg_X8_331 hF (fun v145 hF => ?_)
                  exact J_iret (pc := 148) C dX8_count_148 hF (by decide) (by decide)
                · refine J_br hF (fun hc1_8 hF => ?_) (fun hc1_8 hF => ?_)
                  · refine J_tsIn (pc := 1) (tgt := 149) C 8 hc1_8 dX8_count_1 (by decide) (by decide) rfl rfl ?_
                    refine J_aload_n (pc := 149) C dX8_count_149 rfl ?_
                    refine J_getR (pc := 150) C dX8_count_150 fg_X8_47 hF (fun r150 hF => ?_)
                    refine J_getI (pc := 153) C dX8_count_153 fg_X8_286 hF (fun v153 hF => ?_)
                    exact J_iret (pc := 156) C dX8_count_156 hF (by decide) (by decide)
                  · refine J_br hF (fun hc1_9 hF => ?_) (fun hc1_9 hF => ?_)
                    · refine J_tsIn (pc := 1) (tgt := 157) C 9 hc1_9 dX8_count_1 (by decide) (by decide) rfl rfl ?_
                      refine J_aload_n (pc := 157) C dX8_count_157 rfl ?_
                      refine J_getR (pc := 158) C dX8_count_158 fg_X8_23 hF (fun r158 hF => ?_)
                      refine J_getI (pc := 161) C dX8_count_161 fg_X8_194 hF (fun v161 hF => ?_)
                      exact J_iret (pc := 164) C dX8_count_164 hF (by decide) (by decide)
                    · refine J_br hF (fun hc1_10 hF => ?_) (fun hc1_10 hF => ?_)
                      · refine J_tsIn (pc := 1) (tgt := 165) C 10 hc1_10 dX8_count_1 (by decide) (by decide) rfl rfl ?_
                        refine J_aload_n (pc := 165) C dX8_count_165 rfl ?_
                        refine J_getR (pc := 166) C dX8_count_166 fg_X8_23 hF (fun r166 hF => ?_)
                        refine J_getI (pc := 169) C dX8_count_169 fg_X8_197 hF (fun v169 hF => ?_)
                        exact J_iret (pc := 172) C dX8_count_172 hF (by decide) (by decide)
                      · have hD : J X 0 0 0 0 173 [some (.ref a0), some (.int x1)] [] h := by
                          refine J_aload_n (pc := 173) C dX8_count_173 rfl ?_
                          refine J_iconst (pc := 174) C dX8_count_174 ic_1 ?_
                          refine J_bind hF (fun q175 hq hF => ?_)
                          refine J_callV0_i (pc := 175) (stk := [.int 1, .ref a0]) (st := []) C dX8_count_175 yw_X8_refuse w_MLX8_59 in_X8_refuse sl_X8_refuse ⟨_, rfl, rfl⟩ (kX8_refuse hq) (gO_some hq).1 rfl (by decide) rfl (Nat.le_of_ble_eq_true rfl) ?_
                          exact J_iret (pc := 178) C dX8_count_178 hF (by decide) (by decide)
                        refine J_tsOut (pc := 1) (tgt := 173) C dX8_count_1 (by have z0 := lv_neT hc1_0 (a := 0) rfl; have z1 := lv_neT hc1_1 (a := 1) rfl; have z2 := lv_neT hc1_2 (a := 2) rfl; have z3 := lv_neT hc1_3 (a := 3) rfl; have z4 := lv_neT hc1_4 (a := 4) rfl; have z5 := lv_neT hc1_5 (a := 5) rfl; have z6 := lv_neT hc1_6 (a := 6) rfl; have z7 := lv_neT hc1_7 (a := 7) rfl; have z8 := lv_neT hc1_8 (a := 8) rfl; have z9 := lv_neT hc1_9 (a := 9) rfl; have z10 := lv_neT hc1_10 (a := 10) rfl; omega) rfl hD
def fX8_refusalOfMeeting (h : Hp) (a0 : Nat) (x1 : Int32) (x2 : Int32) : Option Int32 := gO h 8 a0 (
  (getR h 8 a0 1).bind fun r1 =>
  (getR h 1 r1 0).bind fun r4 =>
  (fX7_hasMan h r4 x1).bind fun q10 =>
  if q10 = 0 then
    some 1
  else
    (fX7_hasPerson h r4 x2).bind fun q18 =>
    if q18 = 0 then
      some 1
    else
      (fX7_meet h r4 x1 x2).bind fun q29 =>
      if q29 = 0 then
        some 3
      else
        some 0)
set_option maxRecDepth 100000 in
theorem kX8_refusalOfMeeting {h : Hp} {a0 : Nat} {x1 : Int32} {x2 : Int32} {z : Int32} (hF : fX8_refusalOfMeeting h a0 x1 x2 = some z) : Mc yX8_refusalOfMeeting cX8_refusalOfMeeting 4 (some .int) 1 0 0 [.ref a0, .int x1, .int x2] h (some (.int z), h) := by
  have hF := (gO_some hF).2
  refine Mc_of [some (.ref a0), some (.int x1), some (.int x2), none] plX8 rfl rfl (Nat.le_of_ble_eq_true rfl) (fun X C => ?_)
  refine J_aload_n (pc := 0) C dX8_refusalOfMeeting_0 rfl ?_
  refine J_getR (pc := 1) C dX8_refusalOfMeeting_1 fg_X8_23 hF (fun r1 hF => ?_)
  refine J_getR (pc := 4) C dX8_refusalOfMeeting_4 fg_X8_63 hF (fun r4 hF => ?_)
  refine J_astore_n (pc := 7) (lv' := [some (.ref a0), some (.int x1), some (.int x2), some (.ref r4)]) C dX8_refusalOfMeeting_7 rfl ?_
  refine J_aload_n (pc := 8) C dX8_refusalOfMeeting_8 rfl ?_
  refine J_iload_n (pc := 9) C dX8_refusalOfMeeting_9 rfl ?_
  refine J_bind hF (fun q10 hq hF => ?_)
  refine J_callV0_ip (pc := 10) (stk := [.int x1, .ref r4]) (st := []) C dX8_refusalOfMeeting_10 yw_X7_hasMan w_MLX8_103 in_X7_hasMan sl_X7_hasMan ⟨_, rfl, rfl⟩ (kX7_hasMan hq) (gO_some hq).1 rfl (by decide) rfl (Nat.le_of_ble_eq_true rfl) ?_
  refine J_if_eq (pc := 13) (tgt := 24) C dX8_refusalOfMeeting_13 rfl hF (fun hF => ?_) (fun hF => ?_)
  · refine J_iconst (pc := 24) C dX8_refusalOfMeeting_24 ic_1 ?_
    exact J_iretP (pc := 25) C dX8_refusalOfMeeting_25 hF (by decide) (by decide)
  · refine J_aload_n (pc := 16) C dX8_refusalOfMeeting_16 rfl ?_
    refine J_iload_n (pc := 17) C dX8_refusalOfMeeting_17 rfl ?_
    refine J_bind hF (fun q18 hq hF => ?_)
    refine J_callV0_ip (pc := 18) (stk := [.int x2, .ref r4]) (st := []) C dX8_refusalOfMeeting_18 yw_X7_hasPerson w_MLX8_76 in_X7_hasPerson sl_X7_hasPerson ⟨_, rfl, rfl⟩ (kX7_hasPerson hq) (gO_some hq).1 rfl (by decide) rfl (Nat.le_of_ble_eq_true rfl) ?_
    refine J_if_ne (pc := 21) (tgt := 26) C dX8_refusalOfMeeting_21 rfl hF (fun hF => ?_) (fun hF => ?_)
    · refine J_iconst (pc := 24) C dX8_refusalOfMeeting_24 ic_1 ?_
      exact J_iretP (pc := 25) C dX8_refusalOfMeeting_25 hF (by decide) (by decide)
    · refine J_aload_n (pc := 26) C dX8_refusalOfMeeting_26 rfl ?_
      refine J_iload_n (pc := 27) C dX8_refusalOfMeeting_27 rfl ?_
      refine J_iload_n (pc := 28) C dX8_refusalOfMeeting_28 rfl ?_
      refine J_bind hF (fun q29 hq hF => ?_)
      refine J_callV0_ip (pc := 29) (stk := [.int x2, .int x1, .ref r4]) (st := []) C dX8_refusalOfMeeting_29 yw_X7_meet w_MLX8_344 in_X7_meet sl_X7_meet ⟨_, rfl, rfl⟩ (kX7_meet hq) (gO_some hq).1 rfl (by decide) rfl (Nat.le_of_ble_eq_true rfl) ?_
      refine J_if_eq (pc := 32) (tgt := 39) C dX8_refusalOfMeeting_32 rfl hF (fun hF => ?_) (fun hF => ?_)
      · refine J_iconst (pc := 39) C dX8_refusalOfMeeting_39 ic_3 ?_
        exact J_iretP (pc := 40) C dX8_refusalOfMeeting_40 hF (by decide) (by decide)
      · refine J_iconst (pc := 35) C dX8_refusalOfMeeting_35 ic_0 ?_
        refine J_goto (pc := 36) (tgt := 40) C dX8_refusalOfMeeting_36 rfl ?_
        exact J_iretP (pc := 40) C dX8_refusalOfMeeting_40 hF (by decide) (by decide)
def fX8_refusalOfCrossing (h : Hp) (a0 : Nat) (x1 : Int32) (x2 : Int32) : Option Int32 := gO h 8 a0 (
  (fX8_refusalOfMeeting h a0 x1 x2).bind fun q3 =>
  if q3 = 0 then
    (getR h 8 a0 1).bind fun r12 =>
    (getR h 1 r12 0).bind fun r15 =>
    (getI h 7 r15 0).bind fun v18 =>
    if v18 < 9999 then
      some q3
    else
      some 3
  else
    some q3)
set_option maxRecDepth 100000 in
theorem kX8_refusalOfCrossing {h : Hp} {a0 : Nat} {x1 : Int32} {x2 : Int32} {z : Int32} (hF : fX8_refusalOfCrossing h a0 x1 x2 = some z) : Mc yX8_refusalOfCrossing cX8_refusalOfCrossing 4 (some .int) 2 0 0 [.ref a0, .int x1, .int x2] h (some (.int z), h) := by
  have hF := (gO_some hF).2
  refine Mc_of [some (.ref a0), some (.int x1), some (.int x2), none] plX8 rfl rfl (Nat.le_of_ble_eq_true rfl) (fun X C => ?_)
  refine J_aload_n (pc := 0) C dX8_refusalOfCrossing_0 rfl ?_
  refine J_iload_n (pc := 1) C dX8_refusalOfCrossing_1 rfl ?_
  refine J_iload_n (pc := 2) C dX8_refusalOfCrossing_2 rfl ?_
  refine J_bind hF (fun q3 hq hF => ?_)
  refine J_callV0_ip (pc := 3) (stk := [.int x2, .int x1, .ref a0]) (st := []) C dX8_refusalOfCrossing_3 yw_X8_refusalOfMeeting w_MLX8_237 in_X8_refusalOfMeeting sl_X8_refusalOfMeeting ⟨_, rfl, rfl⟩ (kX8_refusalOfMeeting hq) (gO_some hq).1 rfl (by decide) rfl (Nat.le_of_ble_eq_true rfl) ?_
  refine J_istore_n (pc := 6) (lv' := [some (.ref a0), some (.int x1), some (.int x2), some (.int q3)]) C dX8_refusalOfCrossing_6 rfl ?_
  refine J_iload_n (pc := 7) C dX8_refusalOfCrossing_7 rfl ?_
  refine J_if_ne (pc := 8) (tgt := 29) C dX8_refusalOfCrossing_8 rfl hF (fun hF => ?_) (fun hF => ?_)
  · refine J_aload_n (pc := 11) C dX8_refusalOfCrossing_11 rfl ?_
    refine J_getR (pc := 12) C dX8_refusalOfCrossing_12 fg_X8_23 hF (fun r12 hF => ?_)
    refine J_getR (pc := 15) C dX8_refusalOfCrossing_15 fg_X8_63 hF (fun r15 hF => ?_)
    refine J_getI (pc := 18) C dX8_refusalOfCrossing_18 fg_X8_184 hF (fun v18 hF => ?_)
    refine J_sipush (pc := 21) C dX8_refusalOfCrossing_21 sc_9999 ?_
    refine J_icmp_lt (pc := 24) (tgt := 29) C dX8_refusalOfCrossing_24 rfl hF (fun hF => ?_) (fun hF => ?_)
    · refine J_iload_n (pc := 29) C dX8_refusalOfCrossing_29 rfl ?_
      exact J_iretP (pc := 30) C dX8_refusalOfCrossing_30 hF (by decide) (by decide)
    · refine J_iconst (pc := 27) C dX8_refusalOfCrossing_27 ic_3 ?_
      exact J_iretP (pc := 28) C dX8_refusalOfCrossing_28 hF (by decide) (by decide)
  · refine J_iload_n (pc := 29) C dX8_refusalOfCrossing_29 rfl ?_
    exact J_iretP (pc := 30) C dX8_refusalOfCrossing_30 hF (by decide) (by decide)
def fX8_cross (h : Hp) (a0 : Nat) (x1 : Int32) (x2 : Int32) : Option (Int32 × Hp) := gO h 8 a0 (
  (fX8_refusalOfCrossing h a0 x1 x2).bind fun q3 =>
  if q3 = 0 then
    (getR h 8 a0 1).bind fun r18 =>
    (fX1_carryAndBook h r18 x1 x2).bind fun q23 =>
    some (q23.1, q23.2)
  else
    (fX8_refuse h a0 q3).bind fun q13 =>
    some (q13.1, q13.2))
set_option maxRecDepth 100000 in
theorem kX8_cross {h : Hp} {a0 : Nat} {x1 : Int32} {x2 : Int32} {z : (Int32 × Hp)} (hF : fX8_cross h a0 x1 x2 = some z) : Mc yX8_cross cX8_cross 4 (some .int) 6 0 0 [.ref a0, .int x1, .int x2] h (some (.int z.1), z.2) := by
  have hF := (gO_some hF).2
  refine Mc_of [some (.ref a0), some (.int x1), some (.int x2), none] plX8 rfl rfl (Nat.le_of_ble_eq_true rfl) (fun X C => ?_)
  refine J_aload_n (pc := 0) C dX8_cross_0 rfl ?_
  refine J_iload_n (pc := 1) C dX8_cross_1 rfl ?_
  refine J_iload_n (pc := 2) C dX8_cross_2 rfl ?_
  refine J_bind hF (fun q3 hq hF => ?_)
  refine J_callV0_ip (pc := 3) (stk := [.int x2, .int x1, .ref a0]) (st := []) C dX8_cross_3 yw_X8_refusalOfCrossing w_MLX8_178 in_X8_refusalOfCrossing sl_X8_refusalOfCrossing ⟨_, rfl, rfl⟩ (kX8_refusalOfCrossing hq) (gO_some hq).1 rfl (by decide) rfl (Nat.le_of_ble_eq_true rfl) ?_
  refine J_istore_n (pc := 6) (lv' := [some (.ref a0), some (.int x1), some (.int x2), some (.int q3)]) C dX8_cross_6 rfl ?_
  refine J_iload_n (pc := 7) C dX8_cross_7 rfl ?_
  refine J_if_eq (pc := 8) (tgt := 17) C dX8_cross_8 rfl hF (fun hF => ?_) (fun hF => ?_)
  · refine J_aload_n (pc := 17) C dX8_cross_17 rfl ?_
    refine J_getR (pc := 18) C dX8_cross_18 fg_X8_23 hF (fun r18 hF => ?_)
    refine J_iload_n (pc := 21) C dX8_cross_21 rfl ?_
    refine J_iload_n (pc := 22) C dX8_cross_22 rfl ?_
    refine J_bind hF (fun q23 hq hF => ?_)
    refine J_callV0_i (pc := 23) (stk := [.int x2, .int x1, .ref r18]) (st := []) C dX8_cross_23 yw_X1_carryAndBook w_MLX8_181 in_X1_carryAndBook sl_X1_carryAndBook ⟨_, rfl, rfl⟩ (kX1_carryAndBook hq) (gO_some hq).1 rfl (by decide) rfl (Nat.le_of_ble_eq_true rfl) ?_
    exact J_iret (pc := 26) C dX8_cross_26 hF (by decide) (by decide)
  · refine J_aload_n (pc := 11) C dX8_cross_11 rfl ?_
    refine J_iload_n (pc := 12) C dX8_cross_12 rfl ?_
    refine J_bind hF (fun q13 hq hF => ?_)
    refine J_callV0_i (pc := 13) (stk := [.int q3, .ref a0]) (st := []) C dX8_cross_13 yw_X8_refuse w_MLX8_59 in_X8_refuse sl_X8_refuse ⟨_, rfl, rfl⟩ (kX8_refuse hq) (gO_some hq).1 rfl (by decide) rfl (Nat.le_of_ble_eq_true rfl) ?_
    exact J_iret (pc := 16) C dX8_cross_16 hF (by decide) (by decide)
