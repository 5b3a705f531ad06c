def fX9_both_9 (oX9_both : Hp → Nat → Option (Int32 × Hp)) (oX9_compared : Hp → Nat → Option (Int32 × Hp)) (oX9_one : Hp → Nat → Option (Int32 × Hp)) (oX9_product : Hp → Nat → Option (Int32 × Hp)) (oX9_sum : Hp → Nat → Option (Int32 × Hp)) (oX9_whole : Hp → Nat → Option (Int32 × Hp)) : Nat → Hp → Nat → Option (Int32 × Hp)
  | 0, _, _ => none
  | n9 + 1, h, a0 =>
    (fX9_look h a0).bind fun q10 =>
    if q10 = 38 then
      (getI h 9 a0 6).bind fun v20 =>
      (putV h 9 a0 6 (.int (v20 + 1))).bind fun h25 =>
      (gO h25 9 a0 (oX9_compared h25 a0)).bind fun q29 =>
      if q29.1 = 0 then
        some (0, q29.2)
      else
        (fX9_lays q29.2 a0 3 38).bind fun q41 =>
        fX9_both_9 oX9_both oX9_compared oX9_one oX9_product oX9_sum oX9_whole n9 q41 a0
    else
      some (1, h)
set_option maxRecDepth 100000 in
theorem kX9_both_9 {X : Cx} {z : (Int32 × Hp)} {n : Nat} {oX9_both : Hp → Nat → Option (Int32 × Hp)} {oX9_compared : Hp → Nat → Option (Int32 × Hp)} {oX9_one : Hp → Nat → Option (Int32 × Hp)} {oX9_product : Hp → Nat → Option (Int32 × Hp)} {oX9_sum : Hp → Nat → Option (Int32 × Hp)} {oX9_whole : Hp → Nat → Option (Int32 × Hp)} (C : Jc X yX9_both cX9_both 1 (some .boolean) (n + 1 + 1) 0 0 (some (.int z.1), z.2)) (hO : (∀ (h : Hp) (a0 : Nat) (z : (Int32 × Hp)), oX9_both h a0 = some z → Mc yX9_both cX9_both 1 (some .boolean) (n + 1) 0 0 [.ref a0] h (some (.int z.1), z.2)) ∧ (∀ (h : Hp) (a0 : Nat) (z : (Int32 × Hp)), oX9_compared h a0 = some z → Mc yX9_compared cX9_compared 2 (some .boolean) (n + 1) 0 0 [.ref a0] h (some (.int z.1), z.2)) ∧ (∀ (h : Hp) (a0 : Nat) (z : (Int32 × Hp)), oX9_one h a0 = some z → Mc yX9_one cX9_one 4 (some .boolean) (n + 1) 0 0 [.ref a0] h (some (.int z.1), z.2)) ∧ (∀ (h : Hp) (a0 : Nat) (z : (Int32 × Hp)), oX9_product h a0 = some z → Mc yX9_product cX9_product 2 (some .boolean) (n + 1) 0 0 [.ref a0] h (some (.int z.1), z.2)) ∧ (∀ (h : Hp) (a0 : Nat) (z : (Int32 × Hp)), oX9_sum h a0 = some z → Mc yX9_sum cX9_sum 2 (some .boolean) (n + 1) 0 0 [.ref a0] h (some (.int z.1), z.2)) ∧ (∀ (h : Hp) (a0 : Nat) (z : (Int32 × Hp)), oX9_whole h a0 = some z → Mc yX9_whole cX9_whole 1 (some .boolean) (n + 1) 0 0 [.ref a0] h (some (.int z.1), z.2))) : ∀ (n9 : Nat) (h : Hp) (a0 : Nat), fX9_both_9 oX9_both oX9_compared oX9_one oX9_product oX9_sum oX9_whole n9 h a0 = some z → J X 0 0 0 0 9 [some (.ref a0)] [] h := by
  intro n9
  induction n9 with
  | zero => intro h a0 hF; cases hF
  | succ n9 ih =>
    intro h a0 hF
    rw [fX9_both_9] at hF
    refine J_aload_n (pc := 9) C dX9_both_9 rfl ?_
    refine J_bind hF (fun q10 hq hF => ?_)
    refine J_callV0_ip (pc := 10) (stk := [.ref a0]) (st := []) C dX9_both_10 yw_X9_look w_MLX9_83 in_X9_look sl_X9_look ⟨_, rfl, rfl⟩ (kX9_look hq) (gO_some hq).1 rfl (by omega) rfl (Nat.le_of_ble_eq_true rfl) ?_
    refine J_bipush (pc := 13) C dX9_both_13 bc_38 ?_
    refine J_icmp_ne (pc := 15) (tgt := 47) C dX9_both_15 rfl hF (fun hF => ?_) (fun hF => ?_)
    · refine J_aload_n (pc := 18) C dX9_both_18 rfl ?_
      refine J_dup (pc := 19) C dX9_both_19 rfl ?_
      refine J_getI (pc := 20) C dX9_both_20 fg_X9_69 hF (fun v20 hF => ?_)
      refine J_iconst (pc := 23) C dX9_both_23 ic_1 ?_
      refine J_iadd (pc := 24) C dX9_both_24 ?_
      refine J_put (pc := 25) C dX9_both_25 (fp_X9_69 _) hF rfl rfl (fun h25 hF => ?_)
      refine J_aload_n (pc := 28) C dX9_both_28 rfl ?_
      refine J_bind hF (fun q29 hq hF => ?_)
      have hq := gO_some hq
      refine J_callV0_i (pc := 29) (stk := [.ref a0]) (st := []) C dX9_both_29 yw_X9_compared w_MLX9_91 in_X9_compared sl_X9_compared ⟨_, rfl, rfl⟩ (hO.2.1 _ _ _ hq.2) hq.1 rfl (by omega) rfl (Nat.le_of_ble_eq_true rfl) ?_
      refine J_if_ne (pc := 32) (tgt := 37) C dX9_both_32 rfl hF (fun hF => ?_) (fun hF => ?_)
      · refine J_iconst (pc := 35) C dX9_both_35 ic_0 ?_
        exact J_zret (pc := 36) C dX9_both_36 rfl hF (by decide) (by decide)
      · refine J_aload_n (pc := 37) C dX9_both_37 rfl ?_
        refine J_iconst (pc := 38) C dX9_both_38 ic_3 ?_
        refine J_bipush (pc := 39) C dX9_both_39 bc_38 ?_
        refine J_bind hF (fun q41 hq hF => ?_)
        refine J_callV0_v (pc := 41) (stk := [.int 38, .int 3, .ref a0]) (st := []) C dX9_both_41 yw_X9_lays w_MLX9_87 in_X9_lays sl_X9_lays ⟨_, rfl, rfl⟩ (kX9_lays hq) (gO_some hq).1 rfl (by omega) rfl (Nat.le_of_ble_eq_true rfl) ?_
        refine J_goto (pc := 44) (tgt := 9) C dX9_both_44 rfl ?_
        exact ih q41 a0 hF
    · refine J_iconst (pc := 47) C dX9_both_47 ic_1 ?_
      exact J_zret (pc := 48) C dX9_both_48 rfl hF (by decide) (by decide)
def bX9_both (oX9_both : Hp → Nat → Option (Int32 × Hp)) (oX9_compared : Hp → Nat → Option (Int32 × Hp)) (oX9_one : Hp → Nat → Option (Int32 × Hp)) (oX9_product : Hp → Nat → Option (Int32 × Hp)) (oX9_sum : Hp → Nat → Option (Int32 × Hp)) (oX9_whole : Hp → Nat → Option (Int32 × Hp)) (h : Hp) (a0 : Nat) : Option (Int32 × Hp) :=
  (gO h 9 a0 (oX9_compared h a0)).bind fun q1 =>
  if q1.1 = 0 then
    some (0, q1.2)
  else
    fX9_both_9 oX9_both oX9_compared oX9_one oX9_product oX9_sum oX9_whole 1000 q1.2 a0
set_option maxRecDepth 100000 in
theorem bkX9_both {n : Nat} {oX9_both : Hp → Nat → Option (Int32 × Hp)} {oX9_compared : Hp → Nat → Option (Int32 × Hp)} {oX9_one : Hp → Nat → Option (Int32 × Hp)} {oX9_product : Hp → Nat → Option (Int32 × Hp)} {oX9_sum : Hp → Nat → Option (Int32 × Hp)} {oX9_whole : Hp → Nat → Option (Int32 × Hp)} (hO : (∀ (h : Hp) (a0 : Nat) (z : (Int32 × Hp)), oX9_both h a0 = some z → Mc yX9_both cX9_both 1 (some .boolean) (n + 1) 0 0 [.ref a0] h (some (.int z.1), z.2)) ∧ (∀ (h : Hp) (a0 : Nat) (z : (Int32 × Hp)), oX9_compared h a0 = some z → Mc yX9_compared cX9_compared 2 (some .boolean) (n + 1) 0 0 [.ref a0] h (some (.int z.1), z.2)) ∧ (∀ (h : Hp) (a0 : Nat) (z : (Int32 × Hp)), oX9_one h a0 = some z → Mc yX9_one cX9_one 4 (some .boolean) (n + 1) 0 0 [.ref a0] h (some (.int z.1), z.2)) ∧ (∀ (h : Hp) (a0 : Nat) (z : (Int32 × Hp)), oX9_product h a0 = some z → Mc yX9_product cX9_product 2 (some .boolean) (n + 1) 0 0 [.ref a0] h (some (.int z.1), z.2)) ∧ (∀ (h : Hp) (a0 : Nat) (z : (Int32 × Hp)), oX9_sum h a0 = some z → Mc yX9_sum cX9_sum 2 (some .boolean) (n + 1) 0 0 [.ref a0] h (some (.int z.1), z.2)) ∧ (∀ (h : Hp) (a0 : Nat) (z : (Int32 × Hp)), oX9_whole h a0 = some z → Mc yX9_whole cX9_whole 1 (some .boolean) (n + 1) 0 0 [.ref a0] h (some (.int z.1), z.2))) {h : Hp} {a0 : Nat} {z : (Int32 × Hp)} (hF : bX9_both oX9_both oX9_compared oX9_one oX9_product oX9_sum oX9_whole h a0 = some z) : Mc yX9_both cX9_both 1 (some .boolean) (n + 1 + 1) 0 0 [.ref a0] h (some (.int z.1), z.2) := by
  unfold bX9_both at hF
  refine Mc_of [some (.ref a0)] plX9 rfl rfl (Nat.le_of_ble_eq_true rfl) (fun X C => ?_)
  refine J_aload_n (pc := 0) C dX9_both_0 rfl ?_
  refine J_bind hF (fun q1 hq hF => ?_)
  have hq := gO_some hq
  refine J_callV0_i (pc := 1) (stk := [.ref a0]) (st := []) C dX9_both_1 yw_X9_compared w_MLX9_91 in_X9_compared sl_X9_compared ⟨_, rfl, rfl⟩ (hO.2.1 _ _ _ hq.2) hq.1 rfl (by omega) rfl (Nat.le_of_ble_eq_true rfl) ?_
  refine J_if_ne (pc := 4) (tgt := 9) C dX9_both_4 rfl hF (fun hF => ?_) (fun hF => ?_)
  · refine J_iconst (pc := 7) C dX9_both_7 ic_0 ?_
    exact J_zret (pc := 8) C dX9_both_8 rfl hF (by decide) (by decide)
  · exact kX9_both_9 C hO 1000 q1.2 a0 hF
def fX9_compared_34 (oX9_both : Hp → Nat → Option (Int32 × Hp)) (oX9_compared : Hp → Nat → Option (Int32 × Hp)) (oX9_one : Hp → Nat → Option (Int32 × Hp)) (oX9_product : Hp → Nat → Option (Int32 × Hp)) (oX9_sum : Hp → Nat → Option (Int32 × Hp)) (oX9_whole : Hp → Nat → Option (Int32 × Hp)) (h : Hp) (a0 : Nat) (x1 : Int32) : Option (Int32 × Hp) :=
  (getI h 9 a0 6).bind fun v36 =>
  (putV h 9 a0 6 (.int (v36 + 1))).bind fun h41 =>
  (gO h41 9 a0 (oX9_sum h41 a0)).bind fun q45 =>
  if q45.1 = 0 then
    some (0, q45.2)
  else
    (fX9_lays q45.2 a0 3 x1).bind fun q56 =>
    some (1, q56)
set_option maxRecDepth 100000 in
theorem kX9_compared_34 {X : Cx} {z : (Int32 × Hp)} {n : Nat} {oX9_both : Hp → Nat → Option (Int32 × Hp)} {oX9_compared : Hp → Nat → Option (Int32 × Hp)} {oX9_one : Hp → Nat → Option (Int32 × Hp)} {oX9_product : Hp → Nat → Option (Int32 × Hp)} {oX9_sum : Hp → Nat → Option (Int32 × Hp)} {oX9_whole : Hp → Nat → Option (Int32 × Hp)} (C : Jc X yX9_compared cX9_compared 2 (some .boolean) (n + 1 + 1) 0 0 (some (.int z.1), z.2)) (hO : (∀ (h : Hp) (a0 : Nat) (z : (Int32 × Hp)), oX9_both h a0 = some z → Mc yX9_both cX9_both 1 (some .boolean) (n + 1) 0 0 [.ref a0] h (some (.int z.1), z.2)) ∧ (∀ (h : Hp) (a0 : Nat) (z : (Int32 × Hp)), oX9_compared h a0 = some z → Mc yX9_compared cX9_compared 2 (some .boolean) (n + 1) 0 0 [.ref a0] h (some (.int z.1), z.2)) ∧ (∀ (h : Hp) (a0 : Nat) (z : (Int32 × Hp)), oX9_one h a0 = some z → Mc yX9_one cX9_one 4 (some .boolean) (n + 1) 0 0 [.ref a0] h (some (.int z.1), z.2)) ∧ (∀ (h : Hp) (a0 : Nat) (z : (Int32 × Hp)), oX9_product h a0 = some z → Mc yX9_product cX9_product 2 (some .boolean) (n + 1) 0 0 [.ref a0] h (some (.int z.1), z.2)) ∧ (∀ (h : Hp) (a0 : Nat) (z : (Int32 × Hp)), oX9_sum h a0 = some z → Mc yX9_sum cX9_sum 2 (some .boolean) (n + 1) 0 0 [.ref a0] h (some (.int z.1), z.2)) ∧ (∀ (h : Hp) (a0 : Nat) (z : (Int32 × Hp)), oX9_whole h a0 = some z → Mc yX9_whole cX9_whole 1 (some .boolean) (n + 1) 0 0 [.ref a0] h (some (.int z.1), z.2))) (h : Hp) (a0 : Nat) (x1 : Int32) (hF : fX9_compared_34 oX9_both oX9_compared oX9_one oX9_product oX9_sum oX9_whole h a0 x1 = some z) : J X 0 0 0 0 34 [some (.ref a0), some (.int x1)] [] h := by
  unfold fX9_compared_34 at hF
  refine J_aload_n (pc := 34) C dX9_compared_34 rfl ?_
  refine J_dup (pc := 35) C dX9_compared_35 rfl ?_
  refine J_getI (pc := 36) C dX9_compared_36 fg_X9_69 hF (fun v36 hF => ?_)
  refine J_iconst (pc := 39) C dX9_compared_39 ic_1 ?_
  refine J_iadd (pc := 40) C dX9_compared_40 ?_
  refine J_put (pc := 41) C dX9_compared_41 (fp_X9_69 _) hF rfl rfl (fun h41 hF => ?_)
  refine J_aload_n (pc := 44) C dX9_compared_44 rfl ?_
  refine J_bind hF (fun q45 hq hF => ?_)
  have hq := gO_some hq
  refine J_callV0_i (pc := 45) (stk := [.ref a0]) (st := []) C dX9_compared_45 yw_X9_sum w_MLX9_94 in_X9_sum sl_X9_sum ⟨_, rfl, rfl⟩ (hO.2.2.2.2.1 _ _ _ hq.2) hq.1 rfl (by omega) rfl (Nat.le_of_ble_eq_true rfl) ?_
  refine J_if_ne (pc := 48) (tgt := 53) C dX9_compared_48 rfl hF (fun hF => ?_) (fun hF => ?_)
  · refine J_iconst (pc := 51) C dX9_compared_51 ic_0 ?_
    exact J_zret (pc := 52) C dX9_compared_52 rfl hF (by decide) (by decide)
  · refine J_aload_n (pc := 53) C dX9_compared_53 rfl ?_
    refine J_iconst (pc := 54) C dX9_compared_54 ic_3 ?_
    refine J_iload_n (pc := 55) C dX9_compared_55 rfl ?_
    refine J_bind hF (fun q56 hq hF => ?_)
    refine J_callV0_v (pc := 56) (stk := [.int x1, .int 3, .ref a0]) (st := []) C dX9_compared_56 yw_X9_lays w_MLX9_87 in_X9_lays sl_X9_lays ⟨_, rfl, rfl⟩ (kX9_lays hq) (gO_some hq).1 rfl (by omega) rfl (Nat.le_of_ble_eq_true rfl) ?_
    refine J_iconst (pc := 59) C dX9_compared_59 ic_1 ?_
    exact J_zret (pc := 60) C dX9_compared_60 rfl hF (by decide) (by decide)
def bX9_compared (oX9_both : Hp → Nat → Option (Int32 × Hp)) (oX9_compared : Hp → Nat → Option (Int32 × Hp)) (oX9_one : Hp → Nat → Option (Int32 × Hp)) (oX9_product : Hp → Nat → Option (Int32 × Hp)) (oX9_sum : Hp → Nat → Option (Int32 × Hp)) (oX9_whole : Hp → Nat → Option (Int32 × Hp)) (h : Hp) (a0 : Nat) : Option (Int32 × Hp) :=
  (gO h 9 a0 (oX9_sum h a0)).bind fun q1 =>
  if q1.1 = 0 then
    some (0, q1.2)
  else
    (fX9_look q1.2 a0).bind fun q10 =>
    if q10 = 60 then
      fX9_compared_34 oX9_both oX9_compared oX9_one oX9_product oX9_sum oX9_whole q1.2 a0 q10
    else
      if q10 = 61 then
        fX9_compared_34 oX9_both oX9_compared oX9_one oX9_product oX9_sum oX9_whole q1.2 a0 q10
      else
        if q10 = 62 then
          fX9_compared_34 oX9_both oX9_compared oX9_one oX9_product oX9_sum oX9_whole q1.2 a0 q10
        else
          some (1, q1.2)
set_option maxRecDepth 100000 in
theorem bkX9_compared {n : Nat} {oX9_both : Hp → Nat → Option (Int32 × Hp)} {oX9_compared : Hp → Nat → Option (Int32 × Hp)} {oX9_one : Hp → Nat → Option (Int32 × Hp)} {oX9_product : Hp → Nat → Option (Int32 × Hp)} {oX9_sum : Hp → Nat → Option (Int32 × Hp)} {oX9_whole : Hp → Nat → Option (Int32 × Hp)} (hO : (∀ (h : Hp) (a0 : Nat) (z : (Int32 × Hp)), oX9_both h a0 = some z → Mc yX9_both cX9_both 1 (some .boolean) (n + 1) 0 0 [.ref a0] h (some (.int z.1), z.2)) ∧ (∀ (h : Hp) (a0 : Nat) (z : (Int32 × Hp)), oX9_compared h a0 = some z → Mc yX9_compared cX9_compared 2 (some .boolean) (n + 1) 0 0 [.ref a0] h (some (.int z.1), z.2)) ∧ (∀ (h : Hp) (a0 : Nat) (z : (Int32 × Hp)), oX9_one h a0 = some z → Mc yX9_one cX9_one 4 (some .boolean) (n + 1) 0 0 [.ref a0] h (some (.int z.1), z.2)) ∧ (∀ (h : Hp) (a0 : Nat) (z : (Int32 × Hp)), oX9_product h a0 = some z → Mc yX9_product cX9_product 2 (some .boolean) (n + 1) 0 0 [.ref a0] h (some (.int z.1), z.2)) ∧ (∀ (h : Hp) (a0 : Nat) (z : (Int32 × Hp)), oX9_sum h a0 = some z → Mc yX9_sum cX9_sum 2 (some .boolean) (n + 1) 0 0 [.ref a0] h (some (.int z.1), z.2)) ∧ (∀ (h : Hp) (a0 : Nat) (z : (Int32 × Hp)), oX9_whole h a0 = some z → Mc yX9_whole cX9_whole 1 (some .boolean) (n + 1) 0 0 [.ref a0] h (some (.int z.1), z.2))) {h : Hp} {a0 : Nat} {z : (Int32 × Hp)} (hF : bX9_compared oX9_both oX9_compared oX9_one oX9_product oX9_sum oX9_whole h a0 = some z) : Mc yX9_compared cX9_compared 2 (some .boolean) (n + 1 + 1) 0 0 [.ref a0] h (some (.int z.1), z.2) := by
  unfold bX9_compared at hF
  refine Mc_of [some (.ref a0), none] plX9 rfl rfl (Nat.le_of_ble_eq_true rfl) (fun X C => ?_)
  refine J_aload_n (pc := 0) C dX9_compared_0 rfl ?_
  refine J_bind hF (fun q1 hq hF => ?_)
  have hq := gO_some hq
  refine J_callV0_i (pc := 1) (stk := [.ref a0]) (st := []) C dX9_compared_1 yw_X9_sum w_MLX9_94 in_X9_sum sl_X9_sum ⟨_, rfl, rfl⟩ (hO.2.2.2.2.1 _ _ _ hq.2) hq.1 rfl (by omega) rfl (Nat.le_of_ble_eq_true rfl) ?_
  refine J_if_ne (pc := 4) (tgt := 9) C dX9_compared_4 rfl hF (fun hF => ?_) (fun hF => ?_)
  · refine J_iconst (pc := 7) C dX9_compared_7 ic_0 ?_
    exact J_zret (pc := 8) C dX9_compared_8 rfl hF (by decide) (by decide)
  · refine J_aload_n (pc := 9) C dX9_compared_9 rfl ?_
    refine J_bind hF (fun q10 hq hF => ?_)
    refine J_callV0_ip (pc := 10) (stk := [.ref a0]) (st := []) C dX9_compared_10 yw_X9_look w_MLX9_83 in_X9_look sl_X9_look ⟨_, rfl, rfl⟩ (kX9_look hq) (gO_some hq).1 rfl (by omega) rfl (Nat.le_of_ble_eq_true rfl) ?_
    refine J_istore_n (pc := 13) (lv' := [some (.ref a0), some (.int q10)]) C dX9_compared_13 rfl ?_
    refine J_iload_n (pc := 14) C dX9_compared_14 rfl ?_
    refine J_bipush (pc := 15) C dX9_compared_15 bc_60 ?_
    refine J_icmp_eq (pc := 17) (tgt := 34) C dX9_compared_17 rfl hF (fun hF => ?_) (fun hF => ?_)
    · exact kX9_compared_34 C hO q1.2 a0 q10 hF
    · refine J_iload_n (pc := 20) C dX9_compared_20 rfl ?_
      refine J_bipush (pc := 21) C dX9_compared_21 bc_61 ?_
      refine J_icmp_eq (pc := 23) (tgt := 34) C dX9_compared_23 rfl hF (fun hF => ?_) (fun hF => ?_)
      · exact kX9_compared_34 C hO q1.2 a0 q10 hF
      · refine J_iload_n (pc := 26) C dX9_compared_26 rfl ?_
        refine J_bipush (pc := 27) C dX9_compared_27 bc_62 ?_
        refine J_icmp_eq (pc := 29) (tgt := 34) C dX9_compared_29 rfl hF (fun hF => ?_) (fun hF => ?_)
        · exact kX9_compared_34 C hO q1.2 a0 q10 hF
        · refine J_iconst (pc := 32) C dX9_compared_32 ic_1 ?_
          exact J_zret (pc := 33) C dX9_compared_33 rfl hF (by decide) (by decide)
def fX9_one_94 (oX9_both : Hp → Nat → Option (Int32 × Hp)) (oX9_compared : Hp → Nat → Option (Int32 × Hp)) (oX9_one : Hp → Nat → Option (Int32 × Hp)) (oX9_product : Hp → Nat → Option (Int32 × Hp)) (oX9_sum : Hp → Nat → Option (Int32 × Hp)) (oX9_whole : Hp → Nat → Option (Int32 × Hp)) (h : Hp) (a0 : Nat) (x2 : Int32) : Option (Int32 × Hp) :=
  (fX9_lays h a0 0 x2).bind fun q97 =>
  some (1, q97)
set_option maxRecDepth 100000 in
theorem kX9_one_94 {X : Cx} {z : (Int32 × Hp)} {n : Nat} {oX9_both : Hp → Nat → Option (Int32 × Hp)} {oX9_compared : Hp → Nat → Option (Int32 × Hp)} {oX9_one : Hp → Nat → Option (Int32 × Hp)} {oX9_product : Hp → Nat → Option (Int32 × Hp)} {oX9_sum : Hp → Nat → Option (Int32 × Hp)} {oX9_whole : Hp → Nat → Option (Int32 × Hp)} (C : Jc X yX9_one cX9_one 4 (some .boolean) (n + 1 + 1) 0 0 (some (.int z.1), z.2)) (hO : (∀ (h : Hp) (a0 : Nat) (z : (Int32 × Hp)), oX9_both h a0 = some z → Mc yX9_both cX9_both 1 (some .boolean) (n + 1) 0 0 [.ref a0] h (some (.int z.1), z.2)) ∧ (∀ (h : Hp) (a0 : Nat) (z : (Int32 × Hp)), oX9_compared h a0 = some z → Mc yX9_compared cX9_compared 2 (some .boolean) (n + 1) 0 0 [.ref a0] h (some (.int z.1), z.2)) ∧ (∀ (h : Hp) (a0 : Nat) (z : (Int32 × Hp)), oX9_one h a0 = some z → Mc yX9_one cX9_one 4 (some .boolean) (n + 1) 0 0 [.ref a0] h (some (.int z.1), z.2)) ∧ (∀ (h : Hp) (a0 : Nat) (z : (Int32 × Hp)), oX9_product h a0 = some z → Mc yX9_product cX9_product 2 (some .boolean) (n + 1) 0 0 [.ref a0] h (some (.int z.1), z.2)) ∧ (∀ (h : Hp) (a0 : Nat) (z : (Int32 × Hp)), oX9_sum h a0 = some z → Mc yX9_sum cX9_sum 2 (some .boolean) (n + 1) 0 0 [.ref a0] h (some (.int z.1), z.2)) ∧ (∀ (h : Hp) (a0 : Nat) (z : (Int32 × Hp)), oX9_whole h a0 = some z → Mc yX9_whole cX9_whole 1 (some .boolean) (n + 1) 0 0 [.ref a0] h (some (.int z.1), z.2))) (h : Hp) (a0 : Nat) (x2 : Int32) (hF : fX9_one_94 oX9_both oX9_compared oX9_one oX9_product oX9_sum oX9_whole h a0 x2 = some z) : J X 0 0 0 0 94 [some (.ref a0), none, some (.int x2), none] [] h := by
  unfold fX9_one_94 at hF
  refine J_aload_n (pc := 94) C dX9_one_94 rfl ?_
  refine J_iconst (pc := 95) C dX9_one_95 ic_0 ?_
  refine J_iload_n (pc := 96) C dX9_one_96 rfl ?_
  refine J_bind hF (fun q97 hq hF => ?_)
  refine J_callV0_v (pc := 97) (stk := [.int x2, .int 0, .ref a0]) (st := []) C dX9_one_97 yw_X9_lays w_MLX9_87 in_X9_lays sl_X9_lays ⟨_, rfl, rfl⟩ (kX9_lays hq) (gO_some hq).1 rfl (by omega) rfl (Nat.le_of_ble_eq_true rfl) ?_
  refine J_iconst (pc := 100) C dX9_one_100 ic_1 ?_
  exact J_zret (pc := 101) C dX9_one_101 rfl hF (by decide) (by decide)
def fX9_one_46 (oX9_both : Hp → Nat → Option (Int32 × Hp)) (oX9_compared : Hp → Nat → Option (Int32 × Hp)) (oX9_one : Hp → Nat → Option (Int32 × Hp)) (oX9_product : Hp → Nat → Option (Int32 × Hp)) (oX9_sum : Hp → Nat → Option (Int32 × Hp)) (oX9_whole : Hp → Nat → Option (Int32 × Hp)) : Nat → Hp → Nat → Int32 → Int32 → Option (Int32 × Hp)
  | 0, _, _, _, _ => none
  | n46 + 1, h, a0, x2, x3 =>
    if (4 : Int32) ≤ x3 then
      fX9_one_94 oX9_both oX9_compared oX9_one oX9_product oX9_sum oX9_whole h a0 x2
    else
      (fX9_look h a0).bind fun q52 =>
      (fX9_in q52 48 57).bind fun q59 =>
      if q59 = 0 then
        fX9_one_94 oX9_both oX9_compared oX9_one oX9_product oX9_sum oX9_whole h a0 x2
      else
        (fX9_look h a0).bind fun q70 =>
        (getI h 9 a0 6).bind fun v80 =>
        (putV h 9 a0 6 (.int (v80 + 1))).bind fun h85 =>
        fX9_one_46 oX9_both oX9_compared oX9_one oX9_product oX9_sum oX9_whole n46 h85 a0 (((10 * x2) + q70) - 48) (x3 + 1)
set_option maxRecDepth 100000 in
theorem kX9_one_46 {X : Cx} {z : (Int32 × Hp)} {n : Nat} {oX9_both : Hp → Nat → Option (Int32 × Hp)} {oX9_compared : Hp → Nat → Option (Int32 × Hp)} {oX9_one : Hp → Nat → Option (Int32 × Hp)} {oX9_product : Hp → Nat → Option (Int32 × Hp)} {oX9_sum : Hp → Nat → Option (Int32 × Hp)} {oX9_whole : Hp → Nat → Option (Int32 × Hp)} (C : Jc X yX9_one cX9_one 4 (some .boolean) (n + 1 + 1) 0 0 (some (.int z.1), z.2)) (hO : (∀ (h : Hp) (a0 : Nat) (z : (Int32 × Hp)), oX9_both h a0 = some z → Mc yX9_both cX9_both 1 (some .boolean) (n + 1) 0 0 [.ref a0] h (some (.int z.1), z.2)) ∧ (∀ (h : Hp) (a0 : Nat) (z : (Int32 × Hp)), oX9_compared h a0 = some z → Mc yX9_compared cX9_compared 2 (some .boolean) (n + 1) 0 0 [.ref a0] h (some (.int z.1), z.2)) ∧ (∀ (h : Hp) (a0 : Nat) (z : (Int32 × Hp)), oX9_one h a0 = some z → Mc yX9_one cX9_one 4 (some .boolean) (n + 1) 0 0 [.ref a0] h (some (.int z.1), z.2)) ∧ (∀ (h : Hp) (a0 : Nat) (z : (Int32 × Hp)), oX9_product h a0 = some z → Mc yX9_product cX9_product 2 (some .boolean) (n + 1) 0 0 [.ref a0] h (some (.int z.1), z.2)) ∧ (∀ (h : Hp) (a0 : Nat) (z : (Int32 × Hp)), oX9_sum h a0 = some z → Mc yX9_sum cX9_sum 2 (some .boolean) (n + 1) 0 0 [.ref a0] h (some (.int z.1), z.2)) ∧ (∀ (h : Hp) (a0 : Nat) (z : (Int32 × Hp)), oX9_whole h a0 = some z → Mc yX9_whole cX9_whole 1 (some .boolean) (n + 1) 0 0 [.ref a0] h (some (.int z.1), z.2))) : ∀ (n46 : Nat) (h : Hp) (a0 : Nat) (x2 : Int32) (x3 : Int32), fX9_one_46 oX9_both oX9_compared oX9_one oX9_product oX9_sum oX9_whole n46 h a0 x2 x3 = some z → J X 0 0 0 0 46 [some (.ref a0), none, some (.int x2), some (.int x3)] [] h := by
  intro n46
  induction n46 with
  | zero => intro h a0 x2 x3 hF; cases hF
  | succ n46 ih =>
    intro h a0 x2 x3 hF
    rw [fX9_one_46] at hF
    refine J_iload_n (pc := 46) C dX9_one_46 rfl ?_
    refine J_iconst (pc := 47) C dX9_one_47 ic_4 ?_
    refine J_icmp_ge (pc := 48) (tgt := 94) C dX9_one_48 rfl hF (fun hF => ?_) (fun hF => ?_)
    · refine J_msk (m := [true, false, true, false]) rfl ?_
      exact kX9_one_94 C hO h a0 x2 hF
    · refine J_aload_n (pc := 51) C dX9_one_51 rfl ?_
      refine J_bind hF (fun q52 hq hF => ?_)
      refine J_callV0_ip (pc := 52) (stk := [.ref a0]) (st := []) C dX9_one_52 yw_X9_look w_MLX9_83 in_X9_look sl_X9_look ⟨_, rfl, rfl⟩ (kX9_look hq) (gO_some hq).1 rfl (by omega) rfl (Nat.le_of_ble_eq_true rfl) ?_
      refine J_bipush (pc := 55) C dX9_one_55 bc_48 ?_
      refine J_bipush (pc := 57) C dX9_one_57 bc_57 ?_
      refine J_bind hF (fun q59 hq hF => ?_)
      refine J_callS0_ip (pc := 59) (stk := [.int 57, .int 48, .int q52]) (st := []) C dX9_one_59 yw_X9_in w_MLX9_59 st_X9_in (kX9_in hq) rfl (by omega) rfl (Nat.le_of_ble_eq_true rfl) ?_
      refine J_if_eq (pc := 62) (tgt := 94) C dX9_one_62 rfl hF (fun hF => ?_) (fun hF => ?_)
      · refine J_msk (m := [true, false, true, false]) rfl ?_
        exact kX9_one_94 C hO h a0 x2 hF
      · refine J_bipush (pc := 65) C dX9_one_65 bc_10 ?_
        refine J_iload_n (pc := 67) C dX9_one_67 rfl ?_
        refine J_imul (pc := 68) C dX9_one_68 ?_
        refine J_aload_n (pc := 69) C dX9_one_69 rfl ?_
        refine J_bind hF (fun q70 hq hF => ?_)
        refine J_callV0_ip (pc := 70) (stk := [.ref a0, .int (10 * x2)]) (st := [.int (10 * x2)]) C dX9_one_70 yw_X9_look w_MLX9_83 in_X9_look sl_X9_look ⟨_, rfl, rfl⟩ (kX9_look hq) (gO_some hq).1 rfl (by omega) rfl (Nat.le_of_ble_eq_true rfl) ?_
        refine J_iadd (pc := 73) C dX9_one_73 ?_
        refine J_bipush (pc := 74) C dX9_one_74 bc_48 ?_
        refine J_isub (pc := 76) C dX9_one_76 ?_
        refine J_istore_n (pc := 77) (lv' := [some (.ref a0), none, some (.int (((10 * x2) + q70) - 48)), some (.int x3)]) C dX9_one_77 rfl ?_
        refine J_aload_n (pc := 78) C dX9_one_78 rfl ?_
        refine J_dup (pc := 79) C dX9_one_79 rfl ?_
        refine J_getI (pc := 80) C dX9_one_80 fg_X9_69 hF (fun v80 hF => ?_)
        refine J_iconst (pc := 83) C dX9_one_83 ic_1 ?_
        refine J_iadd (pc := 84) C dX9_one_84 ?_
        refine J_put (pc := 85) C dX9_one_85 (fp_X9_69 _) hF rfl rfl (fun h85 hF => ?_)
        refine J_iinc (pc := 88) (lv' := [some (.ref a0), none, some (.int (((10 * x2) + q70) - 48)), some (.int (x3 + 1))]) C dX9_one_88 rfl ic_1 rfl ?_
        refine J_goto (pc := 91) (tgt := 46) C dX9_one_91 rfl ?_
        exact ih h85 a0 (((10 * x2) + q70) - 48) (x3 + 1) hF
def bX9_one (oX9_both : Hp → Nat → Option (Int32 × Hp)) (oX9_compared : Hp → Nat → Option (Int32 × Hp)) (oX9_one : Hp → Nat → Option (Int32 × Hp)) (oX9_product : Hp → Nat → Option (Int32 × Hp)) (oX9_sum : Hp → Nat → Option (Int32 × Hp)) (oX9_whole : Hp → Nat → Option (Int32 × Hp)) (h : Hp) (a0 : Nat) : Option (Int32 × Hp) :=
  (fX9_look h a0).bind fun q1 =>
  (fX9_isName h a0 q1).bind fun q7 =>
  if q7 = 0 then
    (fX9_in q1 48 57).bind fun q36 =>
    if q36 = 0 then
      if q1 = 33 then
        (fX9_opens h a0).bind fun q109 =>
        if q109.1 = 0 then
          some (0, q109.2)
        else
          (gO q109.2 9 a0 (oX9_one q109.2 a0)).bind fun q116 =>
          if q116.1 = 0 then
            some (0, q116.2)
          else
            (getI q116.2 9 a0 7).bind fun v126 =>
            (putV q116.2 9 a0 7 (.int (v126 - 1))).bind fun h131 =>
            (fX9_lays h131 a0 2 0).bind fun q137 =>
            some (1, q137)
      else
        if q1 = 40 then
          (fX9_opens h a0).bind fun q149 =>
          if q149.1 = 0 then
            some (0, q149.2)
          else
            (gO q149.2 9 a0 (oX9_whole q149.2 a0)).bind fun q156 =>
            if q156.1 = 0 then
              some (0, q156.2)
            else
              (fX9_look q156.2 a0).bind fun q163 =>
              if q163 = 41 then
                (getI q156.2 9 a0 6).bind fun v175 =>
                (putV q156.2 9 a0 6 (.int (v175 + 1))).bind fun h180 =>
                (getI h180 9 a0 7).bind fun v185 =>
                (putV h180 9 a0 7 (.int (v185 - 1))).bind fun h190 =>
                some (1, h190)
              else
                some (0, q156.2)
        else
          some (0, h)
    else
      fX9_one_46 oX9_both oX9_compared oX9_one oX9_product oX9_sum oX9_whole 1000 h a0 0 0
  else
    (getI h 9 a0 6).bind fun v15 =>
    (putV h 9 a0 6 (.int (v15 + 1))).bind fun h20 =>
    (fX9_lays h20 a0 1 q1).bind fun q26 =>
    some (1, q26)
set_option maxRecDepth 100000 in
theorem bkX9_one {n : Nat} {oX9_both : Hp → Nat → Option (Int32 × Hp)} {oX9_compared : Hp → Nat → Option (Int32 × Hp)} {oX9_one : Hp → Nat → Option (Int32 × Hp)} {oX9_product : Hp → Nat → Option (Int32 × Hp)} {oX9_sum : Hp → Nat → Option (Int32 × Hp)} {oX9_whole : Hp → Nat → Option (Int32 × Hp)} (hO : (∀ (h : Hp) (a0 : Nat) (z : (Int32 × Hp)), oX9_both h a0 = some z → Mc yX9_both cX9_both 1 (some .boolean) (n + 1) 0 0 [.ref a0] h (some (.int z.1), z.2)) ∧ (∀ (h : Hp) (a0 : Nat) (z : (Int32 × Hp)), oX9_compared h a0 = some z → Mc yX9_compared cX9_compared 2 (some .boolean) (n + 1) 0 0 [.ref a0] h (some (.int z.1), z.2)) ∧ (∀ (h : Hp) (a0 : Nat) (z : (Int32 × Hp)), oX9_one h a0 = some z → Mc yX9_one cX9_one 4 (some .boolean) (n + 1) 0 0 [.ref a0] h (some (.int z.1), z.2)) ∧ (∀ (h : Hp) (a0 : Nat) (z : (Int32 × Hp)), oX9_product h a0 = some z → Mc yX9_product cX9_product 2 (some .boolean) (n + 1) 0 0 [.ref a0] h (some (.int z.1), z.2)) ∧ (∀ (h : Hp) (a0 : Nat) (z : (Int32 × Hp)), oX9_sum h a0 = some z → Mc yX9_sum cX9_sum 2 (some .boolean) (n + 1) 0 0 [.ref a0] h (some (.int z.1), z.2)) ∧ (∀ (h : Hp) (a0 : Nat) (z : (Int32 × Hp)), oX9_whole h a0 = some z → Mc yX9_whole cX9_whole 1 (some .boolean) (n + 1) 0 0 [.ref a0] h (some (.int z.1), z.2))) {h : Hp} {a0 : Nat} {z : (Int32 × Hp)} (hF : bX9_one oX9_both oX9_compared oX9_one oX9_product oX9_sum oX9_whole h a0 = some z) : Mc yX9_one cX9_one 4 (some .boolean) (n + 1 + 1) 0 0 [.ref a0] h (some (.int z.1), z.2) := by
  unfold bX9_one at hF
  refine Mc_of [some (.ref a0), none, none, none] plX9 rfl rfl (Nat.le_of_ble_eq_true rfl) (fun X C => ?_)
  refine J_aload_n (pc := 0) C dX9_one_0 rfl ?_
  refine J_bind hF (fun q1 hq hF => ?_)
  refine J_callV0_ip (pc := 1) (stk := [.ref a0]) (st := []) C dX9_one_1 yw_X9_look w_MLX9_83 in_X9_look sl_X9_look ⟨_, rfl, rfl⟩ (kX9_look hq) (gO_some hq).1 rfl (by omega) rfl (Nat.le_of_ble_eq_true rfl) ?_
  refine J_istore_n (pc := 4) (lv' := [some (.ref a0), some (.int q1), none, none]) C dX9_one_4 rfl ?_
  refine J_aload_n (pc := 5) C dX9_one_5 rfl ?_
  refine J_iload_n (pc := 6) C dX9_one_6 rfl ?_
  refine J_bind hF (fun q7 hq hF => ?_)
  refine J_callV0_ip (pc := 7) (stk := [.int q1, .ref a0]) (st := []) C dX9_one_7 yw_X9_isName w_MLX9_106 in_X9_isName sl_X9_isName ⟨_, rfl, rfl⟩ (kX9_isName hq) (gO_some hq).1 rfl (by omega) rfl (Nat.le_of_ble_eq_true rfl) ?_
  refine J_if_eq (pc := 10) (tgt := 31) C dX9_one_10 rfl hF (fun hF => ?_) (fun hF => ?_)
  · refine J_iload_n (pc := 31) C dX9_one_31 rfl ?_
    refine J_bipush (pc := 32) C dX9_one_32 bc_48 ?_
    refine J_bipush (pc := 34) C dX9_one_34 bc_57 ?_
    refine J_bind hF (fun q36 hq hF => ?_)
    refine J_callS0_ip (pc := 36) (stk := [.int 57, .int 48, .int q1]) (st := []) C dX9_one_36 yw_X9_in w_MLX9_59 st_X9_in (kX9_in hq) rfl (by omega) rfl (Nat.le_of_ble_eq_true rfl) ?_
    refine J_if_eq (pc := 39) (tgt := 102) C dX9_one_39 rfl hF (fun hF => ?_) (fun hF => ?_)
    · refine J_iload_n (pc := 102) C dX9_one_102 rfl ?_
      refine J_bipush (pc := 103) C dX9_one_103 bc_33 ?_
      refine J_icmp_ne (pc := 105) (tgt := 142) C dX9_one_105 rfl hF (fun hF => ?_) (fun hF => ?_)
      · refine J_aload_n (pc := 108) C dX9_one_108 rfl ?_
        refine J_bind hF (fun q109 hq hF => ?_)
        refine J_callV0_i (pc := 109) (stk := [.ref a0]) (st := []) C dX9_one_109 yw_X9_opens w_MLX9_110 in_X9_opens sl_X9_opens ⟨_, rfl, rfl⟩ (kX9_opens hq) (gO_some hq).1 rfl (by omega) rfl (Nat.le_of_ble_eq_true rfl) ?_
        refine J_if_eq (pc := 112) (tgt := 122) C dX9_one_112 rfl hF (fun hF => ?_) (fun hF => ?_)
        · refine J_iconst (pc := 122) C dX9_one_122 ic_0 ?_
          exact J_zret (pc := 123) C dX9_one_123 rfl hF (by decide) (by decide)
        · refine J_aload_n (pc := 115) C dX9_one_115 rfl ?_
          refine J_bind hF (fun q116 hq hF => ?_)
          have hq := gO_some hq
          refine J_callV0_i (pc := 116) (stk := [.ref a0]) (st := []) C dX9_one_116 yw_X9_one w_MLX9_100 in_X9_one sl_X9_one ⟨_, rfl, rfl⟩ (hO.2.2.1 _ _ _ hq.2) hq.1 rfl (by omega) rfl (Nat.le_of_ble_eq_true rfl) ?_
          refine J_if_ne (pc := 119) (tgt := 124) C dX9_one_119 rfl hF (fun hF => ?_) (fun hF => ?_)
          · refine J_iconst (pc := 122) C dX9_one_122 ic_0 ?_
            exact J_zret (pc := 123) C dX9_one_123 rfl hF (by decide) (by decide)
          · refine J_aload_n (pc := 124) C dX9_one_124 rfl ?_
            refine J_dup (pc := 125) C dX9_one_125 rfl ?_
            refine J_getI (pc := 126) C dX9_one_126 fg_X9_103 hF (fun v126 hF => ?_)
            refine J_iconst (pc := 129) C dX9_one_129 ic_1 ?_
            refine J_isub (pc := 130) C dX9_one_130 ?_
            refine J_put (pc := 131) C dX9_one_131 (fp_X9_103 _) hF rfl rfl (fun h131 hF => ?_)
            refine J_aload_n (pc := 134) C dX9_one_134 rfl ?_
            refine J_iconst (pc := 135) C dX9_one_135 ic_2 ?_
            refine J_iconst (pc := 136) C dX9_one_136 ic_0 ?_
            refine J_bind hF (fun q137 hq hF => ?_)
            refine J_callV0_v (pc := 137) (stk := [.int 0, .int 2, .ref a0]) (st := []) C dX9_one_137 yw_X9_lays w_MLX9_87 in_X9_lays sl_X9_lays ⟨_, rfl, rfl⟩ (kX9_lays hq) (gO_some hq).1 rfl (by omega) rfl (Nat.le_of_ble_eq_true rfl) ?_
            refine J_iconst (pc := 140) C dX9_one_140 ic_1 ?_
            exact J_zret (pc := 141) C dX9_one_141 rfl hF (by decide) (by decide)
      · refine J_iload_n (pc := 142) C dX9_one_142 rfl ?_
        refine J_bipush (pc := 143) C dX9_one_143 bc_40 ?_
        refine J_icmp_ne (pc := 145) (tgt := 171) C dX9_one_145 rfl hF (fun hF => ?_) (fun hF => ?_)
        · refine J_aload_n (pc := 148) C dX9_one_148 rfl ?_
          refine J_bind hF (fun q149 hq hF => ?_)
          refine J_callV0_i (pc := 149) (stk := [.ref a0]) (st := []) C dX9_one_149 yw_X9_opens w_MLX9_110 in_X9_opens sl_X9_opens ⟨_, rfl, rfl⟩ (kX9_opens hq) (gO_some hq).1 rfl (by omega) rfl (Nat.le_of_ble_eq_true rfl) ?_
          refine J_if_eq (pc := 152) (tgt := 171) C dX9_one_152 rfl hF (fun hF => ?_) (fun hF => ?_)
          · refine J_iconst (pc := 171) C dX9_one_171 ic_0 ?_
            exact J_zret (pc := 172) C dX9_one_172 rfl hF (by decide) (by decide)
          · refine J_aload_n (pc := 155) C dX9_one_155 rfl ?_
            refine J_bind hF (fun q156 hq hF => ?_)
            have hq := gO_some hq
            refine J_callV0_i (pc := 156) (stk := [.ref a0]) (st := []) C dX9_one_156 yw_X9_whole w_MLX9_113 in_X9_whole sl_X9_whole ⟨_, rfl, rfl⟩ (hO.2.2.2.2.2 _ _ _ hq.2) hq.1 rfl (by omega) rfl (Nat.le_of_ble_eq_true rfl) ?_
            refine J_if_eq (pc := 159) (tgt := 171) C dX9_one_159 rfl hF (fun hF => ?_) (fun hF => ?_)
            · refine J_iconst (pc := 171) C dX9_one_171 ic_0 ?_
              exact J_zret (pc := 172) C dX9_one_172 rfl hF (by decide) (by decide)
            · refine J_aload_n (pc := 162) C dX9_one_162 rfl ?_
              refine J_bind hF (fun q163 hq hF => ?_)
              refine J_callV0_ip (pc := 163) (stk := [.ref a0]) (st := []) C dX9_one_163 yw_X9_look w_MLX9_83 in_X9_look sl_X9_look ⟨_, rfl, rfl⟩ (kX9_look hq) (gO_some hq).1 rfl (by omega) rfl (Nat.le_of_ble_eq_true rfl) ?_
              refine J_bipush (pc := 166) C dX9_one_166 bc_41 ?_
              refine J_icmp_eq (pc := 168) (tgt := 173) C dX9_one_168 rfl hF (fun hF => ?_) (fun hF => ?_)
              · refine J_aload_n (pc := 173) C dX9_one_173 rfl ?_
                refine J_dup (pc := 174) C dX9_one_174 rfl ?_
                refine J_getI (pc := 175) C dX9_one_175 fg_X9_69 hF (fun v175 hF => ?_)
                refine J_iconst (pc := 178) C dX9_one_178 ic_1 ?_
                refine J_iadd (pc := 179) C dX9_one_179 ?_
                refine J_put (pc := 180) C dX9_one_180 (fp_X9_69 _) hF rfl rfl (fun h180 hF => ?_)
                refine J_aload_n (pc := 183) C dX9_one_183 rfl ?_
                refine J_dup (pc := 184) C dX9_one_184 rfl ?_
                refine J_getI (pc := 185) C dX9_one_185 fg_X9_103 hF (fun v185 hF => ?_)
                refine J_iconst (pc := 188) C dX9_one_188 ic_1 ?_
                refine J_isub (pc := 189) C dX9_one_189 ?_
                refine J_put (pc := 190) C dX9_one_190 (fp_X9_103 _) hF rfl rfl (fun h190 hF => ?_)
                refine J_iconst (pc := 193) C dX9_one_193 ic_1 ?_
                exact J_zret (pc := 194) C dX9_one_194 rfl hF (by decide) (by decide)
              · refine J_iconst (pc := 171) C dX9_one_171 ic_0 ?_
                exact J_zret (pc := 172) C dX9_one_172 rfl hF (by decide) (by decide)
        · refine J_iconst (pc := 171) C dX9_one_171 ic_0 ?_
          exact J_zret (pc := 172) C dX9_one_172 rfl hF (by decide) (by decide)
    · refine J_iconst (pc := 42) C dX9_one_42 ic_0 ?_
      refine J_istore_n (pc := 43) (lv' := [some (.ref a0), some (.int q1), some (.int 0), none]) C dX9_one_43 rfl ?_
      refine J_iconst (pc := 44) C dX9_one_44 ic_0 ?_
      refine J_istore_n (pc := 45) (lv' := [some (.ref a0), some (.int q1), some (.int 0), some (.int 0)]) C dX9_one_45 rfl ?_
      refine J_msk (m := [true, false, true, true]) rfl ?_
      exact kX9_one_46 C hO 1000 h a0 0 0 hF
  · refine J_aload_n (pc := 13) C dX9_one_13 rfl ?_
    refine J_dup (pc := 14) C dX9_one_14 rfl ?_
    refine J_getI (pc := 15) C dX9_one_15 fg_X9_69 hF (fun v15 hF => ?_)
    refine J_iconst (pc := 18) C dX9_one_18 ic_1 ?_
    refine J_iadd (pc := 19) C dX9_one_19 ?_
    refine J_put (pc := 20) C dX9_one_20 (fp_X9_69 _) hF rfl rfl (fun h20 hF => ?_)
    refine J_aload_n (pc := 23) C dX9_one_23 rfl ?_
    refine J_iconst (pc := 24) C dX9_one_24 ic_1 ?_
    refine J_iload_n (pc := 25) C dX9_one_25 rfl ?_
    refine J_bind hF (fun q26 hq hF => ?_)
    refine J_callV0_v (pc := 26) (stk := [.int q1, .int 1, .ref a0]) (st := []) C dX9_one_26 yw_X9_lays w_MLX9_87 in_X9_lays sl_X9_lays ⟨_, rfl, rfl⟩ (kX9_lays hq) (gO_some hq).1 rfl (by omega) rfl (Nat.le_of_ble_eq_true rfl) ?_
    refine J_iconst (pc := 29) C dX9_one_29 ic_1 ?_
    exact J_zret (pc := 30) C dX9_one_30 rfl hF (by decide) (by decide)
def fX9_product_36 (oX9_both : Hp → Nat → Option (Int32 × Hp)) (oX9_compared : Hp → Nat → Option (Int32 × Hp)) (oX9_one : Hp → Nat → Option (Int32 × Hp)) (oX9_product : Hp → Nat → Option (Int32 × Hp)) (oX9_sum : Hp → Nat → Option (Int32 × Hp)) (oX9_whole : Hp → Nat → Option (Int32 × Hp)) (k9 : Hp → Nat → Option (Int32 × Hp)) (h : Hp) (a0 : Nat) : Option (Int32 × Hp) :=
  (fX9_look h a0).bind fun q37 =>
  (getI h 9 a0 6).bind fun v43 =>
  (putV h 9 a0 6 (.int (v43 + 1))).bind fun h48 =>
  (gO h48 9 a0 (oX9_one h48 a0)).bind fun q52 =>
  if q52.1 = 0 then
    some (0, q52.2)
  else
    (fX9_lays q52.2 a0 3 q37).bind fun q63 =>
    k9 q63 a0
set_option maxRecDepth 100000 in
theorem kX9_product_36 {X : Cx} {z : (Int32 × Hp)} {n : Nat} {oX9_both : Hp → Nat → Option (Int32 × Hp)} {oX9_compared : Hp → Nat → Option (Int32 × Hp)} {oX9_one : Hp → Nat → Option (Int32 × Hp)} {oX9_product : Hp → Nat → Option (Int32 × Hp)} {oX9_sum : Hp → Nat → Option (Int32 × Hp)} {oX9_whole : Hp → Nat → Option (Int32 × Hp)} (C : Jc X yX9_product cX9_product 2 (some .boolean) (n + 1 + 1) 0 0 (some (.int z.1), z.2)) (hO : (∀ (h : Hp) (a0 : Nat) (z : (Int32 × Hp)), oX9_both h a0 = some z → Mc yX9_both cX9_both 1 (some .boolean) (n + 1) 0 0 [.ref a0] h (some (.int z.1), z.2)) ∧ (∀ (h : Hp) (a0 : Nat) (z : (Int32 × Hp)), oX9_compared h a0 = some z → Mc yX9_compared cX9_compared 2 (some .boolean) (n + 1) 0 0 [.ref a0] h (some (.int z.1), z.2)) ∧ (∀ (h : Hp) (a0 : Nat) (z : (Int32 × Hp)), oX9_one h a0 = some z → Mc yX9_one cX9_one 4 (some .boolean) (n + 1) 0 0 [.ref a0] h (some (.int z.1), z.2)) ∧ (∀ (h : Hp) (a0 : Nat) (z : (Int32 × Hp)), oX9_product h a0 = some z → Mc yX9_product cX9_product 2 (some .boolean) (n + 1) 0 0 [.ref a0] h (some (.int z.1), z.2)) ∧ (∀ (h : Hp) (a0 : Nat) (z : (Int32 × Hp)), oX9_sum h a0 = some z → Mc yX9_sum cX9_sum 2 (some .boolean) (n + 1) 0 0 [.ref a0] h (some (.int z.1), z.2)) ∧ (∀ (h : Hp) (a0 : Nat) (z : (Int32 × Hp)), oX9_whole h a0 = some z → Mc yX9_whole cX9_whole 1 (some .boolean) (n + 1) 0 0 [.ref a0] h (some (.int z.1), z.2))) {k9 : Hp → Nat → Option (Int32 × Hp)} (hk9 : ∀ (h : Hp) (a0 : Nat), k9 h a0 = some z → J X 0 0 0 0 9 [some (.ref a0), none] [] h) (h : Hp) (a0 : Nat) (hF : fX9_product_36 oX9_both oX9_compared oX9_one oX9_product oX9_sum oX9_whole k9 h a0 = some z) : J X 0 0 0 0 36 [some (.ref a0), none] [] h := by
  unfold fX9_product_36 at hF
  refine J_aload_n (pc := 36) C dX9_product_36 rfl ?_
  refine J_bind hF (fun q37 hq hF => ?_)
  refine J_callV0_ip (pc := 37) (stk := [.ref a0]) (st := []) C dX9_product_37 yw_X9_look w_MLX9_83 in_X9_look sl_X9_look ⟨_, rfl, rfl⟩ (kX9_look hq) (gO_some hq).1 rfl (by omega) rfl (Nat.le_of_ble_eq_true rfl) ?_
  refine J_istore_n (pc := 40) (lv' := [some (.ref a0), some (.int q37)]) C dX9_product_40 rfl ?_
  refine J_aload_n (pc := 41) C dX9_product_41 rfl ?_
  refine J_dup (pc := 42) C dX9_product_42 rfl ?_
  refine J_getI (pc := 43) C dX9_product_43 fg_X9_69 hF (fun v43 hF => ?_)
  refine J_iconst (pc := 46) C dX9_product_46 ic_1 ?_
  refine J_iadd (pc := 47) C dX9_product_47 ?_
  refine J_put (pc := 48) C dX9_product_48 (fp_X9_69 _) hF rfl rfl (fun h48 hF => ?_)
  refine J_aload_n (pc := 51) C dX9_product_51 rfl ?_
  refine J_bind hF (fun q52 hq hF => ?_)
  have hq := gO_some hq
  refine J_callV0_i (pc := 52) (stk := [.ref a0]) (st := []) C dX9_product_52 yw_X9_one w_MLX9_100 in_X9_one sl_X9_one ⟨_, rfl, rfl⟩ (hO.2.2.1 _ _ _ hq.2) hq.1 rfl (by omega) rfl (Nat.le_of_ble_eq_true rfl) ?_
  refine J_if_ne (pc := 55) (tgt := 60) C dX9_product_55 rfl hF (fun hF => ?_) (fun hF => ?_)
  · refine J_iconst (pc := 58) C dX9_product_58 ic_0 ?_
    exact J_zret (pc := 59) C dX9_product_59 rfl hF (by decide) (by decide)
  · refine J_aload_n (pc := 60) C dX9_product_60 rfl ?_
    refine J_iconst (pc := 61) C dX9_product_61 ic_3 ?_
    refine J_iload_n (pc := 62) C dX9_product_62 rfl ?_
    refine J_bind hF (fun q63 hq hF => ?_)
    refine J_callV0_v (pc := 63) (stk := [.int q37, .int 3, .ref a0]) (st := []) C dX9_product_63 yw_X9_lays w_MLX9_87 in_X9_lays sl_X9_lays ⟨_, rfl, rfl⟩ (kX9_lays hq) (gO_some hq).1 rfl (by omega) rfl (Nat.le_of_ble_eq_true rfl) ?_
    refine J_goto (pc := 66) (tgt := 9) C dX9_product_66 rfl ?_
    refine J_msk (m := [true, false]) rfl ?_
    exact hk9 q63 a0 hF
def fX9_product_9 (oX9_both : Hp → Nat → Option (Int32 × Hp)) (oX9_compared : Hp → Nat → Option (Int32 × Hp)) (oX9_one : Hp → Nat → Option (Int32 × Hp)) (oX9_product : Hp → Nat → Option (Int32 × Hp)) (oX9_sum : Hp → Nat → Option (Int32 × Hp)) (oX9_whole : Hp → Nat → Option (Int32 × Hp)) : Nat → Hp → Nat → Option (Int32 × Hp)
  | 0, _, _ => none
  | n9 + 1, h, a0 =>
    (fX9_look h a0).bind fun q10 =>
    if q10 = 42 then
      fX9_product_36 oX9_both oX9_compared oX9_one oX9_product oX9_sum oX9_whole (fX9_product_9 oX9_both oX9_compared oX9_one oX9_product oX9_sum oX9_whole n9) h a0
    else
      (fX9_look h a0).bind fun q19 =>
      if q19 = 47 then
        fX9_product_36 oX9_both oX9_compared oX9_one oX9_product oX9_sum oX9_whole (fX9_product_9 oX9_both oX9_compared oX9_one oX9_product oX9_sum oX9_whole n9) h a0
      else
        (fX9_look h a0).bind fun q28 =>
        if q28 = 37 then
          fX9_product_36 oX9_both oX9_compared oX9_one oX9_product oX9_sum oX9_whole (fX9_product_9 oX9_both oX9_compared oX9_one oX9_product oX9_sum oX9_whole n9) h a0
        else
          some (1, h)
set_option maxRecDepth 100000 in
theorem kX9_product_9 {X : Cx} {z : (Int32 × Hp)} {n : Nat} {oX9_both : Hp → Nat → Option (Int32 × Hp)} {oX9_compared : Hp → Nat → Option (Int32 × Hp)} {oX9_one : Hp → Nat → Option (Int32 × Hp)} {oX9_product : Hp → Nat → Option (Int32 × Hp)} {oX9_sum : Hp → Nat → Option (Int32 × Hp)} {oX9_whole : Hp → Nat → Option (Int32 × Hp)} (C : Jc X yX9_product cX9_product 2 (some .boolean) (n + 1 + 1) 0 0 (some (.int z.1), z.2)) (hO : (∀ (h : Hp) (a0 : Nat) (z : (Int32 × Hp)), oX9_both h a0 = some z → Mc yX9_both cX9_both 1 (some .boolean) (n + 1) 0 0 [.ref a0] h (some (.int z.1), z.2)) ∧ (∀ (h : Hp) (a0 : Nat) (z : (Int32 × Hp)), oX9_compared h a0 = some z → Mc yX9_compared cX9_compared 2 (some .boolean) (n + 1) 0 0 [.ref a0] h (some (.int z.1), z.2)) ∧ (∀ (h : Hp) (a0 : Nat) (z : (Int32 × Hp)), oX9_one h a0 = some z → Mc yX9_one cX9_one 4 (some .boolean) (n + 1) 0 0 [.ref a0] h (some (.int z.1), z.2)) ∧ (∀ (h : Hp) (a0 : Nat) (z : (Int32 × Hp)), oX9_product h a0 = some z → Mc yX9_product cX9_product 2 (some .boolean) (n + 1) 0 0 [.ref a0] h (some (.int z.1), z.2)) ∧ (∀ (h : Hp) (a0 : Nat) (z : (Int32 × Hp)), oX9_sum h a0 = some z → Mc yX9_sum cX9_sum 2 (some .boolean) (n + 1) 0 0 [.ref a0] h (some (.int z.1), z.2)) ∧ (∀ (h : Hp) (a0 : Nat) (z : (Int32 × Hp)), oX9_whole h a0 = some z → Mc yX9_whole cX9_whole 1 (some .boolean) (n + 1) 0 0 [.ref a0] h (some (.int z.1), z.2))) : ∀ (n9 : Nat) (h : Hp) (a0 : Nat), fX9_product_9 oX9_both oX9_compared oX9_one oX9_product oX9_sum oX9_whole n9 h a0 = some z → J X 0 0 0 0 9 [some (.ref a0), none] [] h := by
  intro n9
  induction n9 with
  | zero => intro h a0 hF; cases hF
  | succ n9 ih =>
    intro h a0 hF
    rw [fX9_product_9] at hF
    refine J_aload_n (pc := 9) C dX9_product_9 rfl ?_
    refine J_bind hF (fun q10 hq hF => ?_)
    refine J_callV0_ip (pc := 10) (stk := [.ref a0]) (st := []) C dX9_product_10 yw_X9_look w_MLX9_83 in_X9_look sl_X9_look ⟨_, rfl, rfl⟩ (kX9_look hq) (gO_some hq).1 rfl (by omega) rfl (Nat.le_of_ble_eq_true rfl) ?_
    refine J_bipush (pc := 13) C dX9_product_13 bc_42 ?_
    refine J_icmp_eq (pc := 15) (tgt := 36) C dX9_product_15 rfl hF (fun hF => ?_) (fun hF => ?_)
    · exact kX9_product_36 C hO ih h a0 hF
    · refine J_aload_n (pc := 18) C dX9_product_18 rfl ?_
      refine J_bind hF (fun q19 hq hF => ?_)
      refine J_callV0_ip (pc := 19) (stk := [.ref a0]) (st := []) C dX9_product_19 yw_X9_look w_MLX9_83 in_X9_look sl_X9_look ⟨_, rfl, rfl⟩ (kX9_look hq) (gO_some hq).1 rfl (by omega) rfl (Nat.le_of_ble_eq_true rfl) ?_
      refine J_bipush (pc := 22) C dX9_product_22 bc_47 ?_
      refine J_icmp_eq (pc := 24) (tgt := 36) C dX9_product_24 rfl hF (fun hF => ?_) (fun hF => ?_)
      · exact kX9_product_36 C hO ih h a0 hF
      · refine J_aload_n (pc := 27) C dX9_product_27 rfl ?_
        refine J_bind hF (fun q28 hq hF => ?_)
        refine J_callV0_ip (pc := 28) (stk := [.ref a0]) (st := []) C dX9_product_28 yw_X9_look w_MLX9_83 in_X9_look sl_X9_look ⟨_, rfl, rfl⟩ (kX9_look hq) (gO_some hq).1 rfl (by omega) rfl (Nat.le_of_ble_eq_true rfl) ?_
        refine J_bipush (pc := 31) C dX9_product_31 bc_37 ?_
        refine J_icmp_ne (pc := 33) (tgt := 69) C dX9_product_33 rfl hF (fun hF => ?_) (fun hF => ?_)
        · exact kX9_product_36 C hO ih h a0 hF
        · refine J_iconst (pc := 69) C dX9_product_69 ic_1 ?_
          exact J_zret (pc := 70) C dX9_product_70 rfl hF (by decide) (by decide)
def bX9_product (oX9_both : Hp → Nat → Option (Int32 × Hp)) (oX9_compared : Hp → Nat → Option (Int32 × Hp)) (oX9_one : Hp → Nat → Option (Int32 × Hp)) (oX9_product : Hp → Nat → Option (Int32 × Hp)) (oX9_sum : Hp → Nat → Option (Int32 × Hp)) (oX9_whole : Hp → Nat → Option (Int32 × Hp)) (h : Hp) (a0 : Nat) : Option (Int32 × Hp) :=
  (gO h 9 a0 (oX9_one h a0)).bind fun q1 =>
  if q1.1 = 0 then
    some (0, q1.2)
  else
    fX9_product_9 oX9_both oX9_compared oX9_one oX9_product oX9_sum oX9_whole 1000 q1.2 a0
set_option maxRecDepth 100000 in
theorem bkX9_product {n : Nat} {oX9_both : Hp → Nat → Option (Int32 × Hp)} {oX9_compared : Hp → Nat → Option (Int32 × Hp)} {oX9_one : Hp → Nat → Option (Int32 × Hp)} {oX9_product : Hp → Nat → Option (Int32 × Hp)} {oX9_sum : Hp → Nat → Option (Int32 × Hp)} {oX9_whole : Hp → Nat → Option (Int32 × Hp)} (hO : (∀ (h : Hp) (a0 : Nat) (z : (Int32 × Hp)), oX9_both h a0 = some z → Mc yX9_both cX9_both 1 (some .boolean) (n + 1) 0 0 [.ref a0] h (some (.int z.1), z.2)) ∧ (∀ (h : Hp) (a0 : Nat) (z : (Int32 × Hp)), oX9_compared h a0 = some z → Mc yX9_compared cX9_compared 2 (some .boolean) (n + 1) 0 0 [.ref a0] h (some (.int z.1), z.2)) ∧ (∀ (h : Hp) (a0 : Nat) (z : (Int32 × Hp)), oX9_one h a0 = some z → Mc yX9_one cX9_one 4 (some .boolean) (n + 1) 0 0 [.ref a0] h (some (.int z.1), z.2)) ∧ (∀ (h : Hp) (a0 : Nat) (z : (Int32 × Hp)), oX9_product h a0 = some z → Mc yX9_product cX9_product 2 (some .boolean) (n + 1) 0 0 [.ref a0] h (some (.int z.1), z.2)) ∧ (∀ (h : Hp) (a0 : Nat) (z : (Int32 × Hp)), oX9_sum h a0 = some z → Mc yX9_sum cX9_sum 2 (some .boolean) (n + 1) 0 0 [.ref a0] h (some (.int z.1), z.2)) ∧ (∀ (h : Hp) (a0 : Nat) (z : (Int32 × Hp)), oX9_whole h a0 = some z → Mc yX9_whole cX9_whole 1 (some .boolean) (n + 1) 0 0 [.ref a0] h (some (.int z.1), z.2))) {h : Hp} {a0 : Nat} {z : (Int32 × Hp)} (hF : bX9_product oX9_both oX9_compared oX9_one oX9_product oX9_sum oX9_whole h a0 = some z) : Mc yX9_product cX9_product 2 (some .boolean) (n + 1 + 1) 0 0 [.ref a0] h (some (.int z.1), z.2) := by
  unfold bX9_product at hF
  refine Mc_of [some (.ref a0), none] plX9 rfl rfl (Nat.le_of_ble_eq_true rfl) (fun X C => ?_)
  refine J_aload_n (pc := 0) C dX9_product_0 rfl ?_
  refine J_bind hF (fun q1 hq hF => ?_)
  have hq := gO_some hq
  refine J_callV0_i (pc := 1) (stk := [.ref a0]) (st := []) C dX9_product_1 yw_X9_one w_MLX9_100 in_X9_one sl_X9_one ⟨_, rfl, rfl⟩ (hO.2.2.1 _ _ _ hq.2) hq.1 rfl (by omega) rfl (Nat.le_of_ble_eq_true rfl) ?_
  refine J_if_ne (pc := 4) (tgt := 9) C dX9_product_4 rfl hF (fun hF => ?_) (fun hF => ?_)
  · refine J_iconst (pc := 7) C dX9_product_7 ic_0 ?_
    exact J_zret (pc := 8) C dX9_product_8 rfl hF (by decide) (by decide)
  · exact kX9_product_9 C hO 1000 q1.2 a0 hF
def fX9_sum_27 (oX9_both : Hp → Nat → Option (Int32 × Hp)) (oX9_compared : Hp → Nat → Option (Int32 × Hp)) (oX9_one : Hp → Nat → Option (Int32 × Hp)) (oX9_product : Hp → Nat → Option (Int32 × Hp)) (oX9_sum : Hp → Nat → Option (Int32 × Hp)) (oX9_whole : Hp → Nat → Option (Int32 × Hp)) (k9 : Hp → Nat → Option (Int32 × Hp)) (h : Hp) (a0 : Nat) : Option (Int32 × Hp) :=
  (fX9_look h a0).bind fun q28 =>
  (getI h 9 a0 6).bind fun v34 =>
  (putV h 9 a0 6 (.int (v34 + 1))).bind fun h39 =>
  (gO h39 9 a0 (oX9_product h39 a0)).bind fun q43 =>
  if q43.1 = 0 then
    some (0, q43.2)
  else
    (fX9_lays q43.2 a0 3 q28).bind fun q54 =>
    k9 q54 a0
set_option maxRecDepth 100000 in
theorem kX9_sum_27 {X : Cx} {z : (Int32 × Hp)} {n : Nat} {oX9_both : Hp → Nat → Option (Int32 × Hp)} {oX9_compared : Hp → Nat → Option (Int32 × Hp)} {oX9_one : Hp → Nat → Option (Int32 × Hp)} {oX9_product : Hp → Nat → Option (Int32 × Hp)} {oX9_sum : Hp → Nat → Option (Int32 × Hp)} {oX9_whole : Hp → Nat → Option (Int32 × Hp)} (C : Jc X yX9_sum cX9_sum 2 (some .boolean) (n + 1 + 1) 0 0 (some (.int z.1), z.2)) (hO : (∀ (h : Hp) (a0 : Nat) (z : (Int32 × Hp)), oX9_both h a0 = some z → Mc yX9_both cX9_both 1 (some .boolean) (n + 1) 0 0 [.ref a0] h (some (.int z.1), z.2)) ∧ (∀ (h : Hp) (a0 : Nat) (z : (Int32 × Hp)), oX9_compared h a0 = some z → Mc yX9_compared cX9_compared 2 (some .boolean) (n + 1) 0 0 [.ref a0] h (some (.int z.1), z.2)) ∧ (∀ (h : Hp) (a0 : Nat) (z : (Int32 × Hp)), oX9_one h a0 = some z → Mc yX9_one cX9_one 4 (some .boolean) (n + 1) 0 0 [.ref a0] h (some (.int z.1), z.2)) ∧ (∀ (h : Hp) (a0 : Nat) (z : (Int32 × Hp)), oX9_product h a0 = some z → Mc yX9_product cX9_product 2 (some .boolean) (n + 1) 0 0 [.ref a0] h (some (.int z.1), z.2)) ∧ (∀ (h : Hp) (a0 : Nat) (z : (Int32 × Hp)), oX9_sum h a0 = some z → Mc yX9_sum cX9_sum 2 (some .boolean) (n + 1) 0 0 [.ref a0] h (some (.int z.1), z.2)) ∧ (∀ (h : Hp) (a0 : Nat) (z : (Int32 × Hp)), oX9_whole h a0 = some z → Mc yX9_whole cX9_whole 1 (some .boolean) (n + 1) 0 0 [.ref a0] h (some (.int z.1), z.2))) {k9 : Hp → Nat → Option (Int32 × Hp)} (hk9 : ∀ (h : Hp) (a0 : Nat), k9 h a0 = some z → J X 0 0 0 0 9 [some (.ref a0), none] [] h) (h : Hp) (a0 : Nat) (hF : fX9_sum_27 oX9_both oX9_compared oX9_one oX9_product oX9_sum oX9_whole k9 h a0 = some z) : J X 0 0 0 0 27 [some (.ref a0), none] [] h := by
  unfold fX9_sum_27 at hF
  refine J_aload_n (pc := 27) C dX9_sum_27 rfl ?_
  refine J_bind hF (fun q28 hq hF => ?_)
  refine J_callV0_ip (pc := 28) (stk := [.ref a0]) (st := []) C dX9_sum_28 yw_X9_look w_MLX9_83 in_X9_look sl_X9_look ⟨_, rfl, rfl⟩ (kX9_look hq) (gO_some hq).1 rfl (by omega) rfl (Nat.le_of_ble_eq_true rfl) ?_
  refine J_istore_n (pc := 31) (lv' := [some (.ref a0), some (.int q28)]) C dX9_sum_31 rfl ?_
  refine J_aload_n (pc := 32) C dX9_sum_32 rfl ?_
  refine J_dup (pc := 33) C dX9_sum_33 rfl ?_
  refine J_getI (pc := 34) C dX9_sum_34 fg_X9_69 hF (fun v34 hF => ?_)
  refine J_iconst (pc := 37) C dX9_sum_37 ic_1 ?_
  refine J_iadd (pc := 38) C dX9_sum_38 ?_
  refine J_put (pc := 39) C dX9_sum_39 (fp_X9_69 _) hF rfl rfl (fun h39 hF => ?_)
  refine J_aload_n (pc := 42) C dX9_sum_42 rfl ?_
  refine J_bind hF (fun q43 hq hF => ?_)
  have hq := gO_some hq
  refine J_callV0_i (pc := 43) (stk := [.ref a0]) (st := []) C dX9_sum_43 yw_X9_product w_MLX9_97 in_X9_product sl_X9_product ⟨_, rfl, rfl⟩ (hO.2.2.2.1 _ _ _ hq.2) hq.1 rfl (by omega) rfl (Nat.le_of_ble_eq_true rfl) ?_
  refine J_if_ne (pc := 46) (tgt := 51) C dX9_sum_46 rfl hF (fun hF => ?_) (fun hF => ?_)
  · refine J_iconst (pc := 49) C dX9_sum_49 ic_0 ?_
    exact J_zret (pc := 50) C dX9_sum_50 rfl hF (by decide) (by decide)
  · refine J_aload_n (pc := 51) C dX9_sum_51 rfl ?_
    refine J_iconst (pc := 52) C dX9_sum_52 ic_3 ?_
    refine J_iload_n (pc := 53) C dX9_sum_53 rfl ?_
    refine J_bind hF (fun q54 hq hF => ?_)
    refine J_callV0_v (pc := 54) (stk := [.int q28, .int 3, .ref a0]) (st := []) C dX9_sum_54 yw_X9_lays w_MLX9_87 in_X9_lays sl_X9_lays ⟨_, rfl, rfl⟩ (kX9_lays hq) (gO_some hq).1 rfl (by omega) rfl (Nat.le_of_ble_eq_true rfl) ?_
    refine J_goto (pc := 57) (tgt := 9) C dX9_sum_57 rfl ?_
    refine J_msk (m := [true, false]) rfl ?_
    exact hk9 q54 a0 hF
def fX9_sum_9 (oX9_both : Hp → Nat → Option (Int32 × Hp)) (oX9_compared : Hp → Nat → Option (Int32 × Hp)) (oX9_one : Hp → Nat → Option (Int32 × Hp)) (oX9_product : Hp → Nat → Option (Int32 × Hp)) (oX9_sum : Hp → Nat → Option (Int32 × Hp)) (oX9_whole : Hp → Nat → Option (Int32 × Hp)) : Nat → Hp → Nat → Option (Int32 × Hp)
  | 0, _, _ => none
  | n9 + 1, h, a0 =>
    (fX9_look h a0).bind fun q10 =>
    if q10 = 43 then
      fX9_sum_27 oX9_both oX9_compared oX9_one oX9_product oX9_sum oX9_whole (fX9_sum_9 oX9_both oX9_compared oX9_one oX9_product oX9_sum oX9_whole n9) h a0
    else
      (fX9_look h a0).bind fun q19 =>
      if q19 = 45 then
        fX9_sum_27 oX9_both oX9_compared oX9_one oX9_product oX9_sum oX9_whole (fX9_sum_9 oX9_both oX9_compared oX9_one oX9_product oX9_sum oX9_whole n9) h a0
      else
        some (1, h)
set_option maxRecDepth 100000 in
theorem kX9_sum_9 {X : Cx} {z : (Int32 × Hp)} {n : Nat} {oX9_both : Hp → Nat → Option (Int32 × Hp)} {oX9_compared : Hp → Nat → Option (Int32 × Hp)} {oX9_one : Hp → Nat → Option (Int32 × Hp)} {oX9_product : Hp → Nat → Option (Int32 × Hp)} {oX9_sum : Hp → Nat → Option (Int32 × Hp)} {oX9_whole : Hp → Nat → Option (Int32 × Hp)} (C : Jc X yX9_sum cX9_sum 2 (some .boolean) (n + 1 + 1) 0 0 (some (.int z.1), z.2)) (hO : (∀ (h : Hp) (a0 : Nat) (z : (Int32 × Hp)), oX9_both h a0 = some z → Mc yX9_both cX9_both 1 (some .boolean) (n + 1) 0 0 [.ref a0] h (some (.int z.1), z.2)) ∧ (∀ (h : Hp) (a0 : Nat) (z : (Int32 × Hp)), oX9_compared h a0 = some z → Mc yX9_compared cX9_compared 2 (some .boolean) (n + 1) 0 0 [.ref a0] h (some (.int z.1), z.2)) ∧ (∀ (h : Hp) (a0 : Nat) (z : (Int32 × Hp)), oX9_one h a0 = some z → Mc yX9_one cX9_one 4 (some .boolean) (n + 1) 0 0 [.ref a0] h (some (.int z.1), z.2)) ∧ (∀ (h : Hp) (a0 : Nat) (z : (Int32 × Hp)), oX9_product h a0 = some z → Mc yX9_product cX9_product 2 (some .boolean) (n + 1) 0 0 [.ref a0] h (some (.int z.1), z.2)) ∧ (∀ (h : Hp) (a0 : Nat) (z : (Int32 × Hp)), oX9_sum h a0 = some z → Mc yX9_sum cX9_sum 2 (some .boolean) (n + 1) 0 0 [.ref a0] h (some (.int z.1), z.2)) ∧ (∀ (h : Hp) (a0 : Nat) (z : (Int32 × Hp)), oX9_whole h a0 = some z → Mc yX9_whole cX9_whole 1 (some .boolean) (n + 1) 0 0 [.ref a0] h (some (.int z.1), z.2))) : ∀ (n9 : Nat) (h : Hp) (a0 : Nat), fX9_sum_9 oX9_both oX9_compared oX9_one oX9_product oX9_sum oX9_whole n9 h a0 = some z → J X 0 0 0 0 9 [some (.ref a0), none] [] h := by
  intro n9
  induction n9 with
  | zero => intro h a0 hF; cases hF
  | succ n9 ih =>
    intro h a0 hF
    rw [fX9_sum_9] at hF
    refine J_aload_n (pc := 9) C dX9_sum_9 rfl ?_
    refine J_bind hF (fun q10 hq hF => ?_)
    refine J_callV0_ip (pc := 10) (stk := [.ref a0]) (st := []) C dX9_sum_10 yw_X9_look w_MLX9_83 in_X9_look sl_X9_look ⟨_, rfl, rfl⟩ (kX9_look hq) (gO_some hq).1 rfl (by omega) rfl (Nat.le_of_ble_eq_true rfl) ?_
    refine J_bipush (pc := 13) C dX9_sum_13 bc_43 ?_
    refine J_icmp_eq (pc := 15) (tgt := 27) C dX9_sum_15 rfl hF (fun hF => ?_) (fun hF => ?_)
    · exact kX9_sum_27 C hO ih h a0 hF
    · refine J_aload_n (pc := 18) C dX9_sum_18 rfl ?_
      refine J_bind hF (fun q19 hq hF => ?_)
      refine J_callV0_ip (pc := 19) (stk := [.ref a0]) (st := []) C dX9_sum_19 yw_X9_look w_MLX9_83 in_X9_look sl_X9_look ⟨_, rfl, rfl⟩ (kX9_look hq) (gO_some hq).1 rfl (by omega) rfl (Nat.le_of_ble_eq_true rfl) ?_
      refine J_bipush (pc := 22) C dX9_sum_22 bc_45 ?_
      refine J_icmp_ne (pc := 24) (tgt := 60) C dX9_sum_24 rfl hF (fun hF => ?_) (fun hF => ?_)
      · exact kX9_sum_27 C hO ih h a0 hF
      · refine J_iconst (pc := 60) C dX9_sum_60 ic_1 ?_
        exact J_zret (pc := 61) C dX9_sum_61 rfl hF (by decide) (by decide)
def bX9_sum (oX9_both : Hp → Nat → Option (Int32 × Hp)) (oX9_compared : Hp → Nat → Option (Int32 × Hp)) (oX9_one : Hp → Nat → Option (Int32 × Hp)) (oX9_product : Hp → Nat → Option (Int32 × Hp)) (oX9_sum : Hp → Nat → Option (Int32 × Hp)) (oX9_whole : Hp → Nat → Option (Int32 × Hp)) (h : Hp) (a0 : Nat) : Option (Int32 × Hp) :=
  (gO h 9 a0 (oX9_product h a0)).bind fun q1 =>
  if q1.1 = 0 then
    some (0, q1.2)
  else
    fX9_sum_9 oX9_both oX9_compared oX9_one oX9_product oX9_sum oX9_whole 1000 q1.2 a0
set_option maxRecDepth 100000 in
theorem bkX9_sum {n : Nat} {oX9_both : Hp → Nat → Option (Int32 × Hp)} {oX9_compared : Hp → Nat → Option (Int32 × Hp)} {oX9_one : Hp → Nat → Option (Int32 × Hp)} {oX9_product : Hp → Nat → Option (Int32 × Hp)} {oX9_sum : Hp → Nat → Option (Int32 × Hp)} {oX9_whole : Hp → Nat → Option (Int32 × Hp)} (hO : (∀ (h : Hp) (a0 : Nat) (z : (Int32 × Hp)), oX9_both h a0 = some z → Mc yX9_both cX9_both 1 (some .boolean) (n + 1) 0 0 [.ref a0] h (some (.int z.1), z.2)) ∧ (∀ (h : Hp) (a0 : Nat) (z : (Int32 × Hp)), oX9_compared h a0 = some z → Mc yX9_compared cX9_compared 2 (some .boolean) (n + 1) 0 0 [.ref a0] h (some (.int z.1), z.2)) ∧ (∀ (h : Hp) (a0 : Nat) (z : (Int32 × Hp)), oX9_one h a0 = some z → Mc yX9_one cX9_one 4 (some .boolean) (n + 1) 0 0 [.ref a0] h (some (.int z.1), z.2)) ∧ (∀ (h : Hp) (a0 : Nat) (z : (Int32 × Hp)), oX9_product h a0 = some z → Mc yX9_product cX9_product 2 (some .boolean) (n + 1) 0 0 [.ref a0] h (some (.int z.1), z.2)) ∧ (∀ (h : Hp) (a0 : Nat) (z : (Int32 × Hp)), oX9_sum h a0 = some z → Mc yX9_sum cX9_sum 2 (some .boolean) (n + 1) 0 0 [.ref a0] h (some (.int z.1), z.2)) ∧ (∀ (h : Hp) (a0 : Nat) (z : (Int32 × Hp)), oX9_whole h a0 = some z → Mc yX9_whole cX9_whole 1 (some .boolean) (n + 1) 0 0 [.ref a0] h (some (.int z.1), z.2))) {h : Hp} {a0 : Nat} {z : (Int32 × Hp)} (hF : bX9_sum oX9_both oX9_compared oX9_one oX9_product oX9_sum oX9_whole h a0 = some z) : Mc yX9_sum cX9_sum 2 (some .boolean) (n + 1 + 1) 0 0 [.ref a0] h (some (.int z.1), z.2) := by
  unfold bX9_sum at hF
  refine Mc_of [some (.ref a0), none] plX9 rfl rfl (Nat.le_of_ble_eq_true rfl) (fun X C => ?_)
  refine J_aload_n (pc := 0) C dX9_sum_0 rfl ?_
  refine J_bind hF (fun q1 hq hF => ?_)
  have hq := gO_some hq
  refine J_callV0_i (pc := 1) (stk := [.ref a0]) (st := []) C dX9_sum_1 yw_X9_product w_MLX9_97 in_X9_product sl_X9_product ⟨_, rfl, rfl⟩ (hO.2.2.2.1 _ _ _ hq.2) hq.1 rfl (by omega) rfl (Nat.le_of_ble_eq_true rfl) ?_
  refine J_if_ne (pc := 4) (tgt := 9) C dX9_sum_4 rfl hF (fun hF => ?_) (fun hF => ?_)
  · refine J_iconst (pc := 7) C dX9_sum_7 ic_0 ?_
    exact J_zret (pc := 8) C dX9_sum_8 rfl hF (by decide) (by decide)
  · exact kX9_sum_9 C hO 1000 q1.2 a0 hF
def fX9_whole_9 (oX9_both : Hp → Nat → Option (Int32 × Hp)) (oX9_compared : Hp → Nat → Option (Int32 × Hp)) (oX9_one : Hp → Nat → Option (Int32 × Hp)) (oX9_product : Hp → Nat → Option (Int32 × Hp)) (oX9_sum : Hp → Nat → Option (Int32 × Hp)) (oX9_whole : Hp → Nat → Option (Int32 × Hp)) : Nat → Hp → Nat → Option (Int32 × Hp)
  | 0, _, _ => none
  | n9 + 1, h, a0 =>
    (fX9_look h a0).bind fun q10 =>
    if q10 = 124 then
      (getI h 9 a0 6).bind fun v20 =>
      (putV h 9 a0 6 (.int (v20 + 1))).bind fun h25 =>
      (gO h25 9 a0 (oX9_both h25 a0)).bind fun q29 =>
      if q29.1 = 0 then
        some (0, q29.2)
      else
        (fX9_lays q29.2 a0 3 124).bind fun q41 =>
        fX9_whole_9 oX9_both oX9_compared oX9_one oX9_product oX9_sum oX9_whole n9 q41 a0
    else
      some (1, h)
set_option maxRecDepth 100000 in
theorem kX9_whole_9 {X : Cx} {z : (Int32 × Hp)} {n : Nat} {oX9_both : Hp → Nat → Option (Int32 × Hp)} {oX9_compared : Hp → Nat → Option (Int32 × Hp)} {oX9_one : Hp → Nat → Option (Int32 × Hp)} {oX9_product : Hp → Nat → Option (Int32 × Hp)} {oX9_sum : Hp → Nat → Option (Int32 × Hp)} {oX9_whole : Hp → Nat → Option (Int32 × Hp)} (C : Jc X yX9_whole cX9_whole 1 (some .boolean) (n + 1 + 1) 0 0 (some (.int z.1), z.2)) (hO : (∀ (h : Hp) (a0 : Nat) (z : (Int32 × Hp)), oX9_both h a0 = some z → Mc yX9_both cX9_both 1 (some .boolean) (n + 1) 0 0 [.ref a0] h (some (.int z.1), z.2)) ∧ (∀ (h : Hp) (a0 : Nat) (z : (Int32 × Hp)), oX9_compared h a0 = some z → Mc yX9_compared cX9_compared 2 (some .boolean) (n + 1) 0 0 [.ref a0] h (some (.int z.1), z.2)) ∧ (∀ (h : Hp) (a0 : Nat) (z : (Int32 × Hp)), oX9_one h a0 = some z → Mc yX9_one cX9_one 4 (some .boolean) (n + 1) 0 0 [.ref a0] h (some (.int z.1), z.2)) ∧ (∀ (h : Hp) (a0 : Nat) (z : (Int32 × Hp)), oX9_product h a0 = some z → Mc yX9_product cX9_product 2 (some .boolean) (n + 1) 0 0 [.ref a0] h (some (.int z.1), z.2)) ∧ (∀ (h : Hp) (a0 : Nat) (z : (Int32 × Hp)), oX9_sum h a0 = some z → Mc yX9_sum cX9_sum 2 (some .boolean) (n + 1) 0 0 [.ref a0] h (some (.int z.1), z.2)) ∧ (∀ (h : Hp) (a0 : Nat) (z : (Int32 × Hp)), oX9_whole h a0 = some z → Mc yX9_whole cX9_whole 1 (some .boolean) (n + 1) 0 0 [.ref a0] h (some (.int z.1), z.2))) : ∀ (n9 : Nat) (h : Hp) (a0 : Nat), fX9_whole_9 oX9_both oX9_compared oX9_one oX9_product oX9_sum oX9_whole n9 h a0 = some z → J X 0 0 0 0 9 [some (.ref a0)] [] h := by
  intro n9
  induction n9 with
  | zero => intro h a0 hF; cases hF
  | succ n9 ih =>
    intro h a0 hF
    rw [fX9_whole_9] at hF
    refine J_aload_n (pc := 9) C dX9_whole_9 rfl ?_
    refine J_bind hF (fun q10 hq hF => ?_)
    refine J_callV0_ip (pc := 10) (stk := [.ref a0]) (st := []) C dX9_whole_10 yw_X9_look w_MLX9_83 in_X9_look sl_X9_look ⟨_, rfl, rfl⟩ (kX9_look hq) (gO_some hq).1 rfl (by omega) rfl (Nat.le_of_ble_eq_true rfl) ?_
    refine J_bipush (pc := 13) C dX9_whole_13 bc_124 ?_
    refine J_icmp_ne (pc := 15) (tgt := 47) C dX9_whole_15 rfl hF (fun hF => ?_) (fun hF => ?_)
    · refine J_aload_n (pc := 18) C dX9_whole_18 rfl ?_
      refine J_dup (pc := 19) C dX9_whole_19 rfl ?_
      refine J_getI (pc := 20) C dX9_whole_20 fg_X9_69 hF (fun v20 hF => ?_)
      refine J_iconst (pc := 23) C dX9_whole_23 ic_1 ?_
      refine J_iadd (pc := 24) C dX9_whole_24 ?_
      refine J_put (pc := 25) C dX9_whole_25 (fp_X9_69 _) hF rfl rfl (fun h25 hF => ?_)
      refine J_aload_n (pc := 28) C dX9_whole_28 rfl ?_
      refine J_bind hF (fun q29 hq hF => ?_)
      have hq := gO_some hq
      refine J_callV0_i (pc := 29) (stk := [.ref a0]) (st := []) C dX9_whole_29 yw_X9_both w_MLX9_79 in_X9_both sl_X9_both ⟨_, rfl, rfl⟩ (hO.1 _ _ _ hq.2) hq.1 rfl (by omega) rfl (Nat.le_of_ble_eq_true rfl) ?_
      refine J_if_ne (pc := 32) (tgt := 37) C dX9_whole_32 rfl hF (fun hF => ?_) (fun hF => ?_)
      · refine J_iconst (pc := 35) C dX9_whole_35 ic_0 ?_
        exact J_zret (pc := 36) C dX9_whole_36 rfl hF (by decide) (by decide)
      · refine J_aload_n (pc := 37) C dX9_whole_37 rfl ?_
        refine J_iconst (pc := 38) C dX9_whole_38 ic_3 ?_
        refine J_bipush (pc := 39) C dX9_whole_39 bc_124 ?_
        refine J_bind hF (fun q41 hq hF => ?_)
        refine J_callV0_v (pc := 41) (stk := [.int 124, .int 3, .ref a0]) (st := []) C dX9_whole_41 yw_X9_lays w_MLX9_87 in_X9_lays sl_X9_lays ⟨_, rfl, rfl⟩ (kX9_lays hq) (gO_some hq).1 rfl (by omega) rfl (Nat.le_of_ble_eq_true rfl) ?_
        refine J_goto (pc := 44) (tgt := 9) C dX9_whole_44 rfl ?_
        exact ih q41 a0 hF
    · refine J_iconst (pc := 47) C dX9_whole_47 ic_1 ?_
      exact J_zret (pc := 48) C dX9_whole_48 rfl hF (by decide) (by decide)
def bX9_whole (oX9_both : Hp → Nat → Option (Int32 × Hp)) (oX9_compared : Hp → Nat → Option (Int32 × Hp)) (oX9_one : Hp → Nat → Option (Int32 × Hp)) (oX9_product : Hp → Nat → Option (Int32 × Hp)) (oX9_sum : Hp → Nat → Option (Int32 × Hp)) (oX9_whole : Hp → Nat → Option (Int32 × Hp)) (h : Hp) (a0 : Nat) : Option (Int32 × Hp) :=
  (gO h 9 a0 (oX9_both h a0)).bind fun q1 =>
  if q1.1 = 0 then
    some (0, q1.2)
  else
    fX9_whole_9 oX9_both oX9_compared oX9_one oX9_product oX9_sum oX9_whole 1000 q1.2 a0
set_option maxRecDepth 100000 in
theorem bkX9_whole {n : Nat} {oX9_both : Hp → Nat → Option (Int32 × Hp)} {oX9_compared : Hp → Nat → Option (Int32 × Hp)} {oX9_one : Hp → Nat → Option (Int32 × Hp)} {oX9_product : Hp → Nat → Option (Int32 × Hp)} {oX9_sum : Hp → Nat → Option (Int32 × Hp)} {oX9_whole : Hp → Nat → Option (Int32 × Hp)} (hO : (∀ (h : Hp) (a0 : Nat) (z : (Int32 × Hp)), oX9_both h a0 = some z → Mc yX9_both cX9_both 1 (some .boolean) (n + 1) 0 0 [.ref a0] h (some (.int z.1), z.2)) ∧ (∀ (h : Hp) (a0 : Nat) (z : (Int32 × Hp)), oX9_compared h a0 = some z → Mc yX9_compared cX9_compared 2 (some .boolean) (n + 1) 0 0 [.ref a0] h (some (.int z.1), z.2)) ∧ (∀ (h : Hp) (a0 : Nat) (z : (Int32 × Hp)), oX9_one h a0 = some z → Mc yX9_one cX9_one 4 (some .boolean) (n + 1) 0 0 [.ref a0] h (some (.int z.1), z.2)) ∧ (∀ (h : Hp) (a0 : Nat) (z : (Int32 × Hp)), oX9_product h a0 = some z → Mc yX9_product cX9_product 2 (some .boolean) (n + 1) 0 0 [.ref a0] h (some (.int z.1), z.2)) ∧ (∀ (h : Hp) (a0 : Nat) (z : (Int32 × Hp)), oX9_sum h a0 = some z → Mc yX9_sum cX9_sum 2 (some .boolean) (n + 1) 0 0 [.ref a0] h (some (.int z.1), z.2)) ∧ (∀ (h : Hp) (a0 : Nat) (z : (Int32 × Hp)), oX9_whole h a0 = some z → Mc yX9_whole cX9_whole 1 (some .boolean) (n + 1) 0 0 [.ref a0] h (some (.int z.1), z.2))) {h : Hp} {a0 : Nat} {z : (Int32 × Hp)} (hF : bX9_whole oX9_both oX9_compared oX9_one oX9_product oX9_sum oX9_whole h a0 = some z) : Mc yX9_whole cX9_whole 1 (some .boolean) (n + 1 + 1) 0 0 [.ref a0] h (some (.int z.1), z.2) := by
  unfold bX9_whole at hF
  refine Mc_of [some (.ref a0)] plX9 rfl rfl (Nat.le_of_ble_eq_true rfl) (fun X C => ?_)
  refine J_aload_n (pc := 0) C dX9_whole_0 rfl ?_
  refine J_bind hF (fun q1 hq hF => ?_)
  have hq := gO_some hq
  refine J_callV0_i (pc := 1) (stk := [.ref a0]) (st := []) C dX9_whole_1 yw_X9_both w_MLX9_79 in_X9_both sl_X9_both ⟨_, rfl, rfl⟩ (hO.1 _ _ _ hq.2) hq.1 rfl (by omega) rfl (Nat.le_of_ble_eq_true rfl) ?_
  refine J_if_ne (pc := 4) (tgt := 9) C dX9_whole_4 rfl hF (fun hF => ?_) (fun hF => ?_)
  · refine J_iconst (pc := 7) C dX9_whole_7 ic_0 ?_
    exact J_zret (pc := 8) C dX9_whole_8 rfl hF (by decide) (by decide)
  · exact kX9_whole_9 C hO 1000 q1.2 a0 hF
def gX9_both : Nat → Nat → Hp → Nat → Option (Int32 × Hp)
  | 0, _, _, _ => none
  | n + 1, i, h, a0 =>
    if i = 0 then bX9_both (fun h a0 => gX9_both n 0 h a0 ) (fun h a0 => gX9_both n 1 h a0 ) (fun h a0 => gX9_both n 2 h a0 ) (fun h a0 => gX9_both n 3 h a0 ) (fun h a0 => gX9_both n 4 h a0 ) (fun h a0 => gX9_both n 5 h a0 ) h a0  else
    if i = 1 then bX9_compared (fun h a0 => gX9_both n 0 h a0 ) (fun h a0 => gX9_both n 1 h a0 ) (fun h a0 => gX9_both n 2 h a0 ) (fun h a0 => gX9_both n 3 h a0 ) (fun h a0 => gX9_both n 4 h a0 ) (fun h a0 => gX9_both n 5 h a0 ) h a0  else
    if i = 2 then bX9_one (fun h a0 => gX9_both n 0 h a0 ) (fun h a0 => gX9_both n 1 h a0 ) (fun h a0 => gX9_both n 2 h a0 ) (fun h a0 => gX9_both n 3 h a0 ) (fun h a0 => gX9_both n 4 h a0 ) (fun h a0 => gX9_both n 5 h a0 ) h a0  else
    if i = 3 then bX9_product (fun h a0 => gX9_both n 0 h a0 ) (fun h a0 => gX9_both n 1 h a0 ) (fun h a0 => gX9_both n 2 h a0 ) (fun h a0 => gX9_both n 3 h a0 ) (fun h a0 => gX9_both n 4 h a0 ) (fun h a0 => gX9_both n 5 h a0 ) h a0  else
    if i = 4 then bX9_sum (fun h a0 => gX9_both n 0 h a0 ) (fun h a0 => gX9_both n 1 h a0 ) (fun h a0 => gX9_both n 2 h a0 ) (fun h a0 => gX9_both n 3 h a0 ) (fun h a0 => gX9_both n 4 h a0 ) (fun h a0 => gX9_both n 5 h a0 ) h a0  else
    bX9_whole (fun h a0 => gX9_both n 0 h a0 ) (fun h a0 => gX9_both n 1 h a0 ) (fun h a0 => gX9_both n 2 h a0 ) (fun h a0 => gX9_both n 3 h a0 ) (fun h a0 => gX9_both n 4 h a0 ) (fun h a0 => gX9_both n 5 h a0 ) h a0 
theorem gkX9_both : ∀ n : Nat, (∀ (h : Hp) (a0 : Nat) (z : (Int32 × Hp)), gX9_both n 0 h a0  = some z → Mc yX9_both cX9_both 1 (some .boolean) (n + 1) 0 0 [.ref a0] h (some (.int z.1), z.2)) ∧ (∀ (h : Hp) (a0 : Nat) (z : (Int32 × Hp)), gX9_both n 1 h a0  = some z → Mc yX9_compared cX9_compared 2 (some .boolean) (n + 1) 0 0 [.ref a0] h (some (.int z.1), z.2)) ∧ (∀ (h : Hp) (a0 : Nat) (z : (Int32 × Hp)), gX9_both n 2 h a0  = some z → Mc yX9_one cX9_one 4 (some .boolean) (n + 1) 0 0 [.ref a0] h (some (.int z.1), z.2)) ∧ (∀ (h : Hp) (a0 : Nat) (z : (Int32 × Hp)), gX9_both n 3 h a0  = some z → Mc yX9_product cX9_product 2 (some .boolean) (n + 1) 0 0 [.ref a0] h (some (.int z.1), z.2)) ∧ (∀ (h : Hp) (a0 : Nat) (z : (Int32 × Hp)), gX9_both n 4 h a0  = some z → Mc yX9_sum cX9_sum 2 (some .boolean) (n + 1) 0 0 [.ref a0] h (some (.int z.1), z.2)) ∧ (∀ (h : Hp) (a0 : Nat) (z : (Int32 × Hp)), gX9_both n 5 h a0  = some z → Mc yX9_whole cX9_whole 1 (some .boolean) (n + 1) 0 0 [.ref a0] h (some (.int z.1), z.2)) := by
  intro n
  induction n with
  | zero => exact ⟨fun _ _ _ hF => (by cases hF), fun _ _ _ hF => (by cases hF), fun _ _ _ hF => (by cases hF), fun _ _ _ hF => (by cases hF), fun _ _ _ hF => (by cases hF), fun _ _ _ hF => (by cases hF)⟩
  | succ n ih => exact ⟨fun _ _ _ hF => bkX9_both (n := n) ih hF, fun _ _ _ hF => bkX9_compared (n := n) ih hF, fun _ _ _ hF => bkX9_one (n := n) ih hF, fun _ _ _ hF => bkX9_product (n := n) ih hF, fun _ _ _ hF => bkX9_sum (n := n) ih hF, fun _ _ _ hF => bkX9_whole (n := n) ih hF⟩
def fX9_both (h : Hp) (a0 : Nat) : Option (Int32 × Hp) := gO h 9 a0 (gX9_both 64 0 h a0 )
theorem kX9_both {h : Hp} {a0 : Nat} {z : (Int32 × Hp)} (hF : fX9_both h a0 = some z) : Mc yX9_both cX9_both 1 (some .boolean) 65 0 0 [.ref a0] h (some (.int z.1), z.2) := (gkX9_both 64).1 h a0 _ (gO_some hF).2
def fX9_compared (h : Hp) (a0 : Nat) : Option (Int32 × Hp) := gO h 9 a0 (gX9_both 64 1 h a0 )
theorem kX9_compared {h : Hp} {a0 : Nat} {z : (Int32 × Hp)} (hF : fX9_compared h a0 = some z) : Mc yX9_compared cX9_compared 2 (some .boolean) 65 0 0 [.ref a0] h (some (.int z.1), z.2) := (gkX9_both 64).2.1 h a0 _ (gO_some hF).2
def fX9_one (h : Hp) (a0 : Nat) : Option (Int32 × Hp) := gO h 9 a0 (gX9_both 64 2 h a0 )
theorem kX9_one {h : Hp} {a0 : Nat} {z : (Int32 × Hp)} (hF : fX9_one h a0 = some z) : Mc yX9_one cX9_one 4 (some .boolean) 65 0 0 [.ref a0] h (some (.int z.1), z.2) := (gkX9_both 64).2.2.1 h a0 _ (gO_some hF).2
def fX9_product (h : Hp) (a0 : Nat) : Option (Int32 × Hp) := gO h 9 a0 (gX9_both 64 3 h a0 )
theorem kX9_product {h : Hp} {a0 : Nat} {z : (Int32 × Hp)} (hF : fX9_product h a0 = some z) : Mc yX9_product cX9_product 2 (some .boolean) 65 0 0 [.ref a0] h (some (.int z.1), z.2) := (gkX9_both 64).2.2.2.1 h a0 _ (gO_some hF).2
def fX9_sum (h : Hp) (a0 : Nat) : Option (Int32 × Hp) := gO h 9 a0 (gX9_both 64 4 h a0 )
theorem kX9_sum {h : Hp} {a0 : Nat} {z : (Int32 × Hp)} (hF : fX9_sum h a0 = some z) : Mc yX9_sum cX9_sum 2 (some .boolean) 65 0 0 [.ref a0] h (some (.int z.1), z.2) := (gkX9_both 64).2.2.2.2.1 h a0 _ (gO_some hF).2
def fX9_whole (h : Hp) (a0 : Nat) : Option (Int32 × Hp) := gO h 9 a0 (gX9_both 64 5 h a0 )
theorem kX9_whole {h : Hp} {a0 : Nat} {z : (Int32 × Hp)} (hF : fX9_whole h a0 = some z) : Mc yX9_whole cX9_whole 1 (some .boolean) 65 0 0 [.ref a0] h (some (.int z.1), z.2) := (gkX9_both 64).2.2.2.2.2 h a0 _ (gO_some hF).2
def fX9_carry_2 : Nat → Hp → Nat → Nat → Int32 → Option Hp
  | 0, _, _, _, _ => none
  | n2 + 1, h, a0, a1, x2 =>
    if (458 : Int32) ≤ x2 then
      some h
    else
      (rdI h a0 x2).bind fun v13 =>
      (wrI h a1 x2 v13).bind fun h14 =>
      fX9_carry_2 n2 h14 a0 a1 (x2 + 1)
set_option maxRecDepth 100000 in
theorem kX9_carry_2 {X : Cx} {z : Hp} (C : Jc X yX9_carry cX9_carry 3 none 0 0 0 (none, z)) : ∀ (n2 : Nat) (h : Hp) (a0 : Nat) (a1 : Nat) (x2 : Int32), fX9_carry_2 n2 h a0 a1 x2 = some z → J X 0 0 0 0 2 [some (.ref a0), some (.ref a1), some (.int x2)] [] h := by
  intro n2
  induction n2 with
  | zero => intro h a0 a1 x2 hF; cases hF
  | succ n2 ih =>
    intro h a0 a1 x2 hF
    rw [fX9_carry_2] at hF
    refine J_iload_n (pc := 2) C dX9_carry_2 rfl ?_
    refine J_sipush (pc := 3) C dX9_carry_3 sc_458 ?_
    refine J_icmp_ge (pc := 6) (tgt := 21) C dX9_carry_6 rfl hF (fun hF => ?_) (fun hF => ?_)
    · exact J_vret (pc := 21) C dX9_carry_21 hF (by decide) (by decide)
    · refine J_aload_n (pc := 9) C dX9_carry_9 rfl ?_
      refine J_iload_n (pc := 10) C dX9_carry_10 rfl ?_
      refine J_aload_n (pc := 11) C dX9_carry_11 rfl ?_
      refine J_iload_n (pc := 12) C dX9_carry_12 rfl ?_
      refine J_iald (pc := 13) C dX9_carry_13 hF (fun v13 hF => ?_)
      refine J_iast (pc := 14) C dX9_carry_14 hF (fun h14 hF => ?_)
      refine J_iinc (pc := 15) (lv' := [some (.ref a0), some (.ref a1), some (.int (x2 + 1))]) C dX9_carry_15 rfl ic_1 rfl ?_
      refine J_goto (pc := 18) (tgt := 2) C dX9_carry_18 rfl ?_
      exact ih h14 a0 a1 (x2 + 1) hF
def fX9_carry (h : Hp) (a0 : Nat) (a1 : Nat) : Option Hp :=
  fX9_carry_2 1000 h a0 a1 0
set_option maxRecDepth 100000 in
theorem kX9_carry {h : Hp} {a0 : Nat} {a1 : Nat} {z : Hp} (hF : fX9_carry h a0 a1 = some z) : Mc yX9_carry cX9_carry 3 none 0 0 0 [.ref a0, .ref a1] h (none, z) := by
  unfold fX9_carry at hF
  refine Mc_of [some (.ref a0), some (.ref a1), none] plX9 rfl rfl (Nat.le_of_ble_eq_true rfl) (fun X C => ?_)
  refine J_iconst (pc := 0) C dX9_carry_0 ic_0 ?_
  refine J_istore_n (pc := 1) (lv' := [some (.ref a0), some (.ref a1), some (.int 0)]) C dX9_carry_1 rfl ?_
  exact kX9_carry_2 C 1000 h a0 a1 0 hF
def fX9_isPerson (h : Hp) (a0 : Nat) (x1 : Int32) : Option Int32 := gO h 9 a0 (
  (getR h 9 a0 0).bind fun r3 =>
  (rdI h r3 0).bind fun v7 =>
  (fX9_in x1 0 (v7 - 1)).bind fun q10 =>
  (bz q10).bind fun b13 =>
  some b13)
set_option maxRecDepth 100000 in
theorem kX9_isPerson {h : Hp} {a0 : Nat} {x1 : Int32} {z : Int32} (hF : fX9_isPerson h a0 x1 = some z) : Mc yX9_isPerson cX9_isPerson 2 (some .boolean) 1 0 0 [.ref a0, .int x1] h (some (.int z), h) := by
  have hF := (gO_some hF).2
  refine Mc_of [some (.ref a0), some (.int x1)] plX9 rfl rfl (Nat.le_of_ble_eq_true rfl) (fun X C => ?_)
  refine J_iload_n (pc := 0) C dX9_isPerson_0 rfl ?_
  refine J_iconst (pc := 1) C dX9_isPerson_1 ic_0 ?_
  refine J_aload_n (pc := 2) C dX9_isPerson_2 rfl ?_
  refine J_getR (pc := 3) C dX9_isPerson_3 fg_X9_7 hF (fun r3 hF => ?_)
  refine J_iconst (pc := 6) C dX9_isPerson_6 ic_0 ?_
  refine J_iald (pc := 7) C dX9_isPerson_7 hF (fun v7 hF => ?_)
  refine J_iconst (pc := 8) C dX9_isPerson_8 ic_1 ?_
  refine J_isub (pc := 9) C dX9_isPerson_9 ?_
  refine J_bind hF (fun q10 hq hF => ?_)
  refine J_callS0_ip (pc := 10) (stk := [.int (v7 - 1), .int 0, .int x1]) (st := []) C dX9_isPerson_10 yw_X9_in w_MLX9_59 st_X9_in (kX9_in hq) rfl (by decide) rfl (Nat.le_of_ble_eq_true rfl) ?_
  refine J_bz hF (fun b13 hnr hF => ?_)
  exact J_zretP (pc := 13) C dX9_isPerson_13 hnr hF (by decide) (by decide)
def fX9_placeOf_5 (h : Hp) : Nat → Nat → Int32 → Int32 → Int32 → Int32 → Option Int32
  | 0, _, _, _, _, _ => none
  | n5 + 1, a0, x1, x2, x3, x4 =>
    (fX9_its h a0 x1 4).bind fun q10 =>
    if q10 ≤ x4 then
      some x3
    else
      (fX9_its h a0 x1 (5 + x4)).bind fun q22 =>
      if q22 = x2 then
        fX9_placeOf_5 h n5 a0 x1 x2 x4 (x4 + 1)
      else
        fX9_placeOf_5 h n5 a0 x1 x2 x3 (x4 + 1)
set_option maxRecDepth 100000 in
theorem kX9_placeOf_5 {X : Cx} {z : Int32} {h : Hp} (C : Jc X yX9_placeOf cX9_placeOf 5 (some .int) 1 0 0 (some (.int z), h)) : ∀ (n5 : Nat) (a0 : Nat) (x1 : Int32) (x2 : Int32) (x3 : Int32) (x4 : Int32), fX9_placeOf_5 h n5 a0 x1 x2 x3 x4 = some z → J X 0 0 0 0 5 [some (.ref a0), some (.int x1), some (.int x2), some (.int x3), some (.int x4)] [] h := by
  intro n5
  induction n5 with
  | zero => intro a0 x1 x2 x3 x4 hF; cases hF
  | succ n5 ih =>
    intro a0 x1 x2 x3 x4 hF
    rw [fX9_placeOf_5] at hF
    refine J_iload (pc := 5) C dX9_placeOf_5 rfl ?_
    refine J_aload_n (pc := 7) C dX9_placeOf_7 rfl ?_
    refine J_iload_n (pc := 8) C dX9_placeOf_8 rfl ?_
    refine J_iconst (pc := 9) C dX9_placeOf_9 ic_4 ?_
    refine J_bind hF (fun q10 hq hF => ?_)
    refine J_callV0_ip (pc := 10) (stk := [.int 4, .int x1, .ref a0, .int x4]) (st := [.int x4]) C dX9_placeOf_10 yw_X9_its w_MLX9_123 in_X9_its sl_X9_its ⟨_, rfl, rfl⟩ (kX9_its hq) (gO_some hq).1 rfl (by decide) rfl (Nat.le_of_ble_eq_true rfl) ?_
    refine J_icmp_ge (pc := 13) (tgt := 42) C dX9_placeOf_13 rfl hF (fun hF => ?_) (fun hF => ?_)
    · refine J_iload_n (pc := 42) C dX9_placeOf_42 rfl ?_
      exact J_iretP (pc := 43) C dX9_placeOf_43 hF (by decide) (by decide)
    · refine J_aload_n (pc := 16) C dX9_placeOf_16 rfl ?_
      refine J_iload_n (pc := 17) C dX9_placeOf_17 rfl ?_
      refine J_iconst (pc := 18) C dX9_placeOf_18 ic_5 ?_
      refine J_iload (pc := 19) C dX9_placeOf_19 rfl ?_
      refine J_iadd (pc := 21) C dX9_placeOf_21 ?_
      refine J_bind hF (fun q22 hq hF => ?_)
      refine J_callV0_ip (pc := 22) (stk := [.int (5 + x4), .int x1, .ref a0]) (st := []) C dX9_placeOf_22 yw_X9_its w_MLX9_123 in_X9_its sl_X9_its ⟨_, rfl, rfl⟩ (kX9_its hq) (gO_some hq).1 rfl (by decide) rfl (Nat.le_of_ble_eq_true rfl) ?_
      refine J_iload_n (pc := 25) C dX9_placeOf_25 rfl ?_
      refine J_icmp_ne (pc := 26) (tgt := 34) C dX9_placeOf_26 rfl hF (fun hF => ?_) (fun hF => ?_)
      · refine J_iload (pc := 29) C dX9_placeOf_29 rfl ?_
        refine J_goto (pc := 31) (tgt := 35) C dX9_placeOf_31 rfl ?_
        refine J_istore_n (pc := 35) (lv' := [some (.ref a0), some (.int x1), some (.int x2), some (.int x4), some (.int x4)]) C dX9_placeOf_35 rfl ?_
        refine J_iinc (pc := 36) (lv' := [some (.ref a0), some (.int x1), some (.int x2), some (.int x4), some (.int (x4 + 1))]) C dX9_placeOf_36 rfl ic_1 rfl ?_
        refine J_goto (pc := 39) (tgt := 5) C dX9_placeOf_39 rfl ?_
        exact ih a0 x1 x2 x4 (x4 + 1) hF
      · refine J_iload_n (pc := 34) C dX9_placeOf_34 rfl ?_
        refine J_istore_n (pc := 35) (lv' := [some (.ref a0), some (.int x1), some (.int x2), some (.int x3), some (.int x4)]) C dX9_placeOf_35 rfl ?_
        refine J_iinc (pc := 36) (lv' := [some (.ref a0), some (.int x1), some (.int x2), some (.int x3), some (.int (x4 + 1))]) C dX9_placeOf_36 rfl ic_1 rfl ?_
        refine J_goto (pc := 39) (tgt := 5) C dX9_placeOf_39 rfl ?_
        exact ih a0 x1 x2 x3 (x4 + 1) hF
def fX9_placeOf (h : Hp) (a0 : Nat) (x1 : Int32) (x2 : Int32) : Option Int32 := gO h 9 a0 (
  fX9_placeOf_5 h 1000 a0 x1 x2 ((-1)) 0)
set_option maxRecDepth 100000 in
theorem kX9_placeOf {h : Hp} {a0 : Nat} {x1 : Int32} {x2 : Int32} {z : Int32} (hF : fX9_placeOf h a0 x1 x2 = some z) : Mc yX9_placeOf cX9_placeOf 5 (some .int) 1 0 0 [.ref a0, .int x1, .int x2] h (some (.int z), h) := by
  have hF := (gO_some hF).2
  refine Mc_of [some (.ref a0), some (.int x1), some (.int x2), none, none] plX9 rfl rfl (Nat.le_of_ble_eq_true rfl) (fun X C => ?_)
  refine J_iconst (pc := 0) C dX9_placeOf_0 ic_m1 ?_
  refine J_istore_n (pc := 1) (lv' := [some (.ref a0), some (.int x1), some (.int x2), some (.int ((-1))), none]) C dX9_placeOf_1 rfl ?_
  refine J_iconst (pc := 2) C dX9_placeOf_2 ic_0 ?_
  refine J_istore (pc := 3) (lv' := [some (.ref a0), some (.int x1), some (.int x2), some (.int ((-1))), some (.int 0)]) C dX9_placeOf_3 rfl ?_
  exact kX9_placeOf_5 C 1000 a0 x1 x2 ((-1)) 0 hF
def fX9_knows (h : Hp) (a0 : Nat) (x1 : Int32) (x2 : Int32) : Option Int32 := gO h 9 a0 (
  (fX9_placeOf h a0 x1 x2).bind fun q3 =>
  if q3 = ((-1)) then
    some 0
  else
    some 1)
set_option maxRecDepth 100000 in
theorem kX9_knows {h : Hp} {a0 : Nat} {x1 : Int32} {x2 : Int32} {z : Int32} (hF : fX9_knows h a0 x1 x2 = some z) : Mc yX9_knows cX9_knows 3 (some .boolean) 2 0 0 [.ref a0, .int x1, .int x2] h (some (.int z), h) := by
  have hF := (gO_some hF).2
  refine Mc_of [some (.ref a0), some (.int x1), some (.int x2)] plX9 rfl rfl (Nat.le_of_ble_eq_true rfl) (fun X C => ?_)
  refine J_aload_n (pc := 0) C dX9_knows_0 rfl ?_
  refine J_iload_n (pc := 1) C dX9_knows_1 rfl ?_
  refine J_iload_n (pc := 2) C dX9_knows_2 rfl ?_
  refine J_bind hF (fun q3 hq hF => ?_)
  refine J_callV0_ip (pc := 3) (stk := [.int x2, .int x1, .ref a0]) (st := []) C dX9_knows_3 yw_X9_placeOf w_MLX9_139 in_X9_placeOf sl_X9_placeOf ⟨_, rfl, rfl⟩ (kX9_placeOf hq) (gO_some hq).1 rfl (by decide) rfl (Nat.le_of_ble_eq_true rfl) ?_
  refine J_iconst (pc := 6) C dX9_knows_6 ic_m1 ?_
  refine J_icmp_eq (pc := 7) (tgt := 14) C dX9_knows_7 rfl hF (fun hF => ?_) (fun hF => ?_)
  · refine J_iconst (pc := 14) C dX9_knows_14 ic_0 ?_
    exact J_zretP (pc := 15) C dX9_knows_15 rfl hF (by decide) (by decide)
  · refine J_iconst (pc := 10) C dX9_knows_10 ic_1 ?_
    refine J_goto (pc := 11) (tgt := 15) C dX9_knows_11 rfl ?_
    exact J_zretP (pc := 15) C dX9_knows_15 rfl hF (by decide) (by decide)
def fX9_check_131 (h : Hp) (a0 : Nat) (x1 : Int32) (x4 : Int32) (x5 : Int32) : Option (Int32 × Hp) :=
  if x5 = 0 then
    some (1 + x4, h)
  else
    (fX9_its h a0 x1 4).bind fun q141 =>
    if x4 = q141 then
      some (0, h)
    else
      some (1 + x4, h)
set_option maxRecDepth 100000 in
theorem kX9_check_131 {X : Cx} {z : (Int32 × Hp)} (C : Jc X yX9_check cX9_check 7 (some .int) 3 0 0 (some (.int z.1), z.2)) (h : Hp) (a0 : Nat) (x1 : Int32) (x4 : Int32) (x5 : Int32) (hF : fX9_check_131 h a0 x1 x4 x5 = some z) : J X 0 0 0 0 131 [some (.ref a0), some (.int x1), none, none, some (.int x4), some (.int x5), none] [] h := by
  unfold fX9_check_131 at hF
  refine J_iload (pc := 131) C dX9_check_131 rfl ?_
  refine J_if_eq (pc := 133) (tgt := 151) C dX9_check_133 rfl hF (fun hF => ?_) (fun hF => ?_)
  · refine J_iconst (pc := 151) C dX9_check_151 ic_1 ?_
    refine J_iload (pc := 152) C dX9_check_152 rfl ?_
    refine J_iadd (pc := 154) C dX9_check_154 ?_
    exact J_iret (pc := 155) C dX9_check_155 hF (by decide) (by decide)
  · refine J_iload (pc := 136) C dX9_check_136 rfl ?_
    refine J_aload_n (pc := 138) C dX9_check_138 rfl ?_
    refine J_iload_n (pc := 139) C dX9_check_139 rfl ?_
    refine J_iconst (pc := 140) C dX9_check_140 ic_4 ?_
    refine J_bind hF (fun q141 hq hF => ?_)
    refine J_callV0_ip (pc := 141) (stk := [.int 4, .int x1, .ref a0, .int x4]) (st := [.int x4]) C dX9_check_141 yw_X9_its w_MLX9_123 in_X9_its sl_X9_its ⟨_, rfl, rfl⟩ (kX9_its hq) (gO_some hq).1 rfl (by decide) rfl (Nat.le_of_ble_eq_true rfl) ?_
    refine J_icmp_ne (pc := 144) (tgt := 151) C dX9_check_144 rfl hF (fun hF => ?_) (fun hF => ?_)
    · refine J_iconst (pc := 147) C dX9_check_147 ic_0 ?_
      refine J_goto (pc := 148) (tgt := 155) C dX9_check_148 rfl ?_
      exact J_iret (pc := 155) C dX9_check_155 hF (by decide) (by decide)
    · refine J_iconst (pc := 151) C dX9_check_151 ic_1 ?_
      refine J_iload (pc := 152) C dX9_check_152 rfl ?_
      refine J_iadd (pc := 154) C dX9_check_154 ?_
      exact J_iret (pc := 155) C dX9_check_155 hF (by decide) (by decide)
def fX9_check_111 (k38 : Hp → Nat → Int32 → Int32 → Int32 → Int32 → Int32 → Option (Int32 × Hp)) (h : Hp) (a0 : Nat) (x1 : Int32) (x2 : Int32) (x4 : Int32) (x5 : Int32) (y0 : Int32) (y1 : Int32) : Option (Int32 × Hp) :=
  if x5 = 0 then
    k38 h a0 x1 x2 (y0 ||| y1) (x4 + 0) x5
  else
    k38 h a0 x1 x2 (y0 ||| y1) (x4 + 1) x5
set_option maxRecDepth 100000 in
theorem kX9_check_111 {X : Cx} {z : (Int32 × Hp)} (C : Jc X yX9_check cX9_check 7 (some .int) 3 0 0 (some (.int z.1), z.2)) {k38 : Hp → Nat → Int32 → Int32 → Int32 → Int32 → Int32 → Option (Int32 × Hp)} (hk38 : ∀ (h : Hp) (a0 : Nat) (x1 : Int32) (x2 : Int32) (x3 : Int32) (x4 : Int32) (x5 : Int32), k38 h a0 x1 x2 x3 x4 x5 = some z → J X 0 0 0 0 38 [some (.ref a0), some (.int x1), some (.int x2), some (.int x3), some (.int x4), some (.int x5), none] [] h) (h : Hp) (a0 : Nat) (x1 : Int32) (x2 : Int32) (x4 : Int32) (x5 : Int32) (y0 : Int32) (y1 : Int32) (hF : fX9_check_111 k38 h a0 x1 x2 x4 x5 y0 y1 = some z) : J X 0 0 0 0 111 [some (.ref a0), some (.int x1), some (.int x2), none, some (.int x4), some (.int x5), none] [.int y1, .int y0] h := by
  unfold fX9_check_111 at hF
  refine J_ior (pc := 111) C dX9_check_111 ?_
  refine J_istore_n (pc := 112) (lv' := [some (.ref a0), some (.int x1), some (.int x2), some (.int (y0 ||| y1)), some (.int x4), some (.int x5), none]) C dX9_check_112 rfl ?_
  refine J_iload (pc := 113) C dX9_check_113 rfl ?_
  refine J_iload (pc := 115) C dX9_check_115 rfl ?_
  refine J_if_eq (pc := 117) (tgt := 124) C dX9_check_117 rfl hF (fun hF => ?_) (fun hF => ?_)
  · refine J_iconst (pc := 124) C dX9_check_124 ic_0 ?_
    refine J_iadd (pc := 125) C dX9_check_125 ?_
    refine J_istore (pc := 126) (lv' := [some (.ref a0), some (.int x1), some (.int x2), some (.int (y0 ||| y1)), some (.int (x4 + 0)), some (.int x5), none]) C dX9_check_126 rfl ?_
    refine J_goto (pc := 128) (tgt := 38) C dX9_check_128 rfl ?_
    exact hk38 h a0 x1 x2 (y0 ||| y1) (x4 + 0) x5 hF
  · refine J_iconst (pc := 120) C dX9_check_120 ic_1 ?_
    refine J_goto (pc := 121) (tgt := 125) C dX9_check_121 rfl ?_
    refine J_iadd (pc := 125) C dX9_check_125 ?_
    refine J_istore (pc := 126) (lv' := [some (.ref a0), some (.int x1), some (.int x2), some (.int (y0 ||| y1)), some (.int (x4 + 1)), some (.int x5), none]) C dX9_check_126 rfl ?_
    refine J_goto (pc := 128) (tgt := 38) C dX9_check_128 rfl ?_
    exact hk38 h a0 x1 x2 (y0 ||| y1) (x4 + 1) x5 hF
def fX9_check_95 (k38 : Hp → Nat → Int32 → Int32 → Int32 → Int32 → Int32 → Option (Int32 × Hp)) (h : Hp) (a0 : Nat) (x1 : Int32) (x2 : Int32) (x3 : Int32) (x4 : Int32) (x6 : Int32) (y0 : Int32) : Option (Int32 × Hp) :=
  if y0 = 0 then
    fX9_check_111 k38 h a0 x1 x2 x4 y0 x3 0
  else
    fX9_check_111 k38 h a0 x1 x2 x4 y0 x3 ((1 : Int32) <<< (x6 &&& 31))
set_option maxRecDepth 100000 in
theorem kX9_check_95 {X : Cx} {z : (Int32 × Hp)} (C : Jc X yX9_check cX9_check 7 (some .int) 3 0 0 (some (.int z.1), z.2)) {k38 : Hp → Nat → Int32 → Int32 → Int32 → Int32 → Int32 → Option (Int32 × Hp)} (hk38 : ∀ (h : Hp) (a0 : Nat) (x1 : Int32) (x2 : Int32) (x3 : Int32) (x4 : Int32) (x5 : Int32), k38 h a0 x1 x2 x3 x4 x5 = some z → J X 0 0 0 0 38 [some (.ref a0), some (.int x1), some (.int x2), some (.int x3), some (.int x4), some (.int x5), none] [] h) (h : Hp) (a0 : Nat) (x1 : Int32) (x2 : Int32) (x3 : Int32) (x4 : Int32) (x6 : Int32) (y0 : Int32) (hF : fX9_check_95 k38 h a0 x1 x2 x3 x4 x6 y0 = some z) : J X 0 0 0 0 95 [some (.ref a0), some (.int x1), some (.int x2), some (.int x3), some (.int x4), none, some (.int x6)] [.int y0] h := by
  unfold fX9_check_95 at hF
  refine J_istore (pc := 95) (lv' := [some (.ref a0), some (.int x1), some (.int x2), some (.int x3), some (.int x4), some (.int y0), some (.int x6)]) C dX9_check_95 rfl ?_
  refine J_iload_n (pc := 97) C dX9_check_97 rfl ?_
  refine J_iload (pc := 98) C dX9_check_98 rfl ?_
  refine J_if_eq (pc := 100) (tgt := 110) C dX9_check_100 rfl hF (fun hF => ?_) (fun hF => ?_)
  · refine J_iconst (pc := 110) C dX9_check_110 ic_0 ?_
    refine J_msk (m := [true, true, true, false, true, true, false]) rfl ?_
    exact kX9_check_111 C hk38 h a0 x1 x2 x4 y0 x3 0 hF
  · refine J_iconst (pc := 103) C dX9_check_103 ic_1 ?_
    refine J_iload (pc := 104) C dX9_check_104 rfl ?_
    refine J_ishl (pc := 106) C dX9_check_106 ?_
    refine J_goto (pc := 107) (tgt := 111) C dX9_check_107 rfl ?_
    refine J_msk (m := [true, true, true, false, true, true, false]) rfl ?_
    exact kX9_check_111 C hk38 h a0 x1 x2 x4 y0 x3 ((1 : Int32) <<< (x6 &&& 31)) hF
def fX9_check_94 (k38 : Hp → Nat → Int32 → Int32 → Int32 → Int32 → Int32 → Option (Int32 × Hp)) (h : Hp) (a0 : Nat) (x1 : Int32) (x2 : Int32) (x3 : Int32) (x4 : Int32) (x6 : Int32) : Option (Int32 × Hp) :=
  fX9_check_95 k38 h a0 x1 x2 x3 x4 x6 0
set_option maxRecDepth 100000 in
theorem kX9_check_94 {X : Cx} {z : (Int32 × Hp)} (C : Jc X yX9_check cX9_check 7 (some .int) 3 0 0 (some (.int z.1), z.2)) {k38 : Hp → Nat → Int32 → Int32 → Int32 → Int32 → Int32 → Option (Int32 × Hp)} (hk38 : ∀ (h : Hp) (a0 : Nat) (x1 : Int32) (x2 : Int32) (x3 : Int32) (x4 : Int32) (x5 : Int32), k38 h a0 x1 x2 x3 x4 x5 = some z → J X 0 0 0 0 38 [some (.ref a0), some (.int x1), some (.int x2), some (.int x3), some (.int x4), some (.int x5), none] [] h) (h : Hp) (a0 : Nat) (x1 : Int32) (x2 : Int32) (x3 : Int32) (x4 : Int32) (x6 : Int32) (hF : fX9_check_94 k38 h a0 x1 x2 x3 x4 x6 = some z) : J X 0 0 0 0 94 [some (.ref a0), some (.int x1), some (.int x2), some (.int x3), some (.int x4), none, some (.int x6)] [] h := by
  unfold fX9_check_94 at hF
  refine J_iconst (pc := 94) C dX9_check_94 ic_0 ?_
  exact kX9_check_95 C hk38 h a0 x1 x2 x3 x4 x6 0 hF
def fX9_check_38 : Nat → Hp → Nat → Int32 → Int32 → Int32 → Int32 → Int32 → Option (Int32 × Hp)
  | 0, _, _, _, _, _, _, _ => none
  | n38 + 1, h, a0, x1, x2, x3, x4, x5 =>
    if x2 ≤ x4 then
      fX9_check_131 h a0 x1 x4 x5
    else
      if x5 = 0 then
        fX9_check_131 h a0 x1 x4 x5
      else
        (getR h 9 a0 0).bind fun r50 =>
        (rdI h r50 (434 + x4)).bind fun v59 =>
        (fX9_isPerson h a0 v59).bind fun q65 =>
        if q65 = 0 then
          fX9_check_94 (fX9_check_38 n38) h a0 x1 x2 x3 x4 v59
        else
          (fX9_knows h a0 x1 v59).bind fun q75 =>
          if q75 = 0 then
            fX9_check_94 (fX9_check_38 n38) h a0 x1 x2 x3 x4 v59
          else
            if ((x3 >>> (v59 &&& 31)) &&& 1) = 0 then
              fX9_check_95 (fX9_check_38 n38) h a0 x1 x2 x3 x4 v59 1
            else
              fX9_check_94 (fX9_check_38 n38) h a0 x1 x2 x3 x4 v59
set_option maxRecDepth 100000 in
theorem kX9_check_38 {X : Cx} {z : (Int32 × Hp)} (C : Jc X yX9_check cX9_check 7 (some .int) 3 0 0 (some (.int z.1), z.2)) : ∀ (n38 : Nat) (h : Hp) (a0 : Nat) (x1 : Int32) (x2 : Int32) (x3 : Int32) (x4 : Int32) (x5 : Int32), fX9_check_38 n38 h a0 x1 x2 x3 x4 x5 = some z → J X 0 0 0 0 38 [some (.ref a0), some (.int x1), some (.int x2), some (.int x3), some (.int x4), some (.int x5), none] [] h := by
  intro n38
  induction n38 with
  | zero => intro h a0 x1 x2 x3 x4 x5 hF; cases hF
  | succ n38 ih =>
    intro h a0 x1 x2 x3 x4 x5 hF
    rw [fX9_check_38] at hF
    refine J_iload (pc := 38) C dX9_check_38 rfl ?_
    refine J_iload_n (pc := 40) C dX9_check_40 rfl ?_
    refine J_icmp_ge (pc := 41) (tgt := 131) C dX9_check_41 rfl hF (fun hF => ?_) (fun hF => ?_)
    · refine J_msk (m := [true, true, false, false, true, true, false]) rfl ?_
      exact kX9_check_131 C h a0 x1 x4 x5 hF
    · refine J_iload (pc := 44) C dX9_check_44 rfl ?_
      refine J_if_eq (pc := 46) (tgt := 131) C dX9_check_46 rfl hF (fun hF => ?_) (fun hF => ?_)
      · refine J_msk (m := [true, true, false, false, true, true, false]) rfl ?_
        exact kX9_check_131 C h a0 x1 x4 x5 hF
      · refine J_aload_n (pc := 49) C dX9_check_49 rfl ?_
        refine J_getR (pc := 50) C dX9_check_50 fg_X9_7 hF (fun r50 hF => ?_)
        refine J_sipush (pc := 53) C dX9_check_53 sc_434 ?_
        refine J_iload (pc := 56) C dX9_check_56 rfl ?_
        refine J_iadd (pc := 58) C dX9_check_58 ?_
        refine J_iald (pc := 59) C dX9_check_59 hF (fun v59 hF => ?_)
        refine J_istore (pc := 60) (lv' := [some (.ref a0), some (.int x1), some (.int x2), some (.int x3), some (.int x4), some (.int x5), some (.int v59)]) C dX9_check_60 rfl ?_
        refine J_aload_n (pc := 62) C dX9_check_62 rfl ?_
        refine J_iload (pc := 63) C dX9_check_63 rfl ?_
        refine J_bind hF (fun q65 hq hF => ?_)
        refine J_callV0_ip (pc := 65) (stk := [.int v59, .ref a0]) (st := []) C dX9_check_65 yw_X9_isPerson w_MLX9_156 in_X9_isPerson sl_X9_isPerson ⟨_, rfl, rfl⟩ (kX9_isPerson hq) (gO_some hq).1 rfl (by decide) rfl (Nat.le_of_ble_eq_true rfl) ?_
        refine J_if_eq (pc := 68) (tgt := 94) C dX9_check_68 rfl hF (fun hF => ?_) (fun hF => ?_)
        · refine J_msk (m := [true, true, true, true, true, false, true]) rfl ?_
          exact kX9_check_94 C ih h a0 x1 x2 x3 x4 v59 hF
        · refine J_aload_n (pc := 71) C dX9_check_71 rfl ?_
          refine J_iload_n (pc := 72) C dX9_check_72 rfl ?_
          refine J_iload (pc := 73) C dX9_check_73 rfl ?_
          refine J_bind hF (fun q75 hq hF => ?_)
          refine J_callV0_ip (pc := 75) (stk := [.int v59, .int x1, .ref a0]) (st := []) C dX9_check_75 yw_X9_knows w_MLX9_152 in_X9_knows sl_X9_knows ⟨_, rfl, rfl⟩ (kX9_knows hq) (gO_some hq).1 rfl (by decide) rfl (Nat.le_of_ble_eq_true rfl) ?_
          refine J_if_eq (pc := 78) (tgt := 94) C dX9_check_78 rfl hF (fun hF => ?_) (fun hF => ?_)
          · refine J_msk (m := [true, true, true, true, true, false, true]) rfl ?_
            exact kX9_check_94 C ih h a0 x1 x2 x3 x4 v59 hF
          · refine J_iload_n (pc := 81) C dX9_check_81 rfl ?_
            refine J_iload (pc := 82) C dX9_check_82 rfl ?_
            refine J_ishr (pc := 84) C dX9_check_84 ?_
            refine J_iconst (pc := 85) C dX9_check_85 ic_1 ?_
            refine J_iand (pc := 86) C dX9_check_86 ?_
            refine J_if_ne (pc := 87) (tgt := 94) C dX9_check_87 rfl hF (fun hF => ?_) (fun hF => ?_)
            · refine J_iconst (pc := 90) C dX9_check_90 ic_1 ?_
              refine J_goto (pc := 91) (tgt := 95) C dX9_check_91 rfl ?_
              refine J_msk (m := [true, true, true, true, true, false, true]) rfl ?_
              exact kX9_check_95 C ih h a0 x1 x2 x3 x4 v59 1 hF
            · refine J_msk (m := [true, true, true, true, true, false, true]) rfl ?_
              exact kX9_check_94 C ih h a0 x1 x2 x3 x4 v59 hF
def fX9_check (h : Hp) (a0 : Nat) (x1 : Int32) : Option (Int32 × Hp) := gO h 9 a0 (
  (getR h 9 a0 0).bind fun r1 =>
  (rdI h r1 6).bind fun v6 =>
  (getR h 9 a0 0).bind fun r9 =>
  (wrI h r9 6 0).bind fun h15 =>
  (fX9_isMan h15 a0 x1).bind fun q18 =>
  if q18 = 0 then
    (fX9_error h15 a0 1).bind fun q26 =>
    some (q26.1, q26.2)
  else
    fX9_check_38 1000 h15 a0 x1 v6 0 0 1)
set_option maxRecDepth 100000 in
theorem kX9_check {h : Hp} {a0 : Nat} {x1 : Int32} {z : (Int32 × Hp)} (hF : fX9_check h a0 x1 = some z) : Mc yX9_check cX9_check 7 (some .int) 3 0 0 [.ref a0, .int x1] h (some (.int z.1), z.2) := by
  have hF := (gO_some hF).2
  refine Mc_of [some (.ref a0), some (.int x1), none, none, none, none, none] plX9 rfl rfl (Nat.le_of_ble_eq_true rfl) (fun X C => ?_)
  refine J_aload_n (pc := 0) C dX9_check_0 rfl ?_
  refine J_getR (pc := 1) C dX9_check_1 fg_X9_7 hF (fun r1 hF => ?_)
  refine J_bipush (pc := 4) C dX9_check_4 bc_6 ?_
  refine J_iald (pc := 6) C dX9_check_6 hF (fun v6 hF => ?_)
  refine J_istore_n (pc := 7) (lv' := [some (.ref a0), some (.int x1), some (.int v6), none, none, none, none]) C dX9_check_7 rfl ?_
  refine J_aload_n (pc := 8) C dX9_check_8 rfl ?_
  refine J_getR (pc := 9) C dX9_check_9 fg_X9_7 hF (fun r9 hF => ?_)
  refine J_bipush (pc := 12) C dX9_check_12 bc_6 ?_
  refine J_iconst (pc := 14) C dX9_check_14 ic_0 ?_
  refine J_iast (pc := 15) C dX9_check_15 hF (fun h15 hF => ?_)
  refine J_aload_n (pc := 16) C dX9_check_16 rfl ?_
  refine J_iload_n (pc := 17) C dX9_check_17 rfl ?_
  refine J_bind hF (fun q18 hq hF => ?_)
  refine J_callV0_ip (pc := 18) (stk := [.int x1, .ref a0]) (st := []) C dX9_check_18 yw_X9_isMan w_MLX9_168 in_X9_isMan sl_X9_isMan ⟨_, rfl, rfl⟩ (kX9_isMan hq) (gO_some hq).1 rfl (by decide) rfl (Nat.le_of_ble_eq_true rfl) ?_
  refine J_if_ne (pc := 21) (tgt := 30) C dX9_check_21 rfl hF (fun hF => ?_) (fun hF => ?_)
  · refine J_aload_n (pc := 24) C dX9_check_24 rfl ?_
    refine J_iconst (pc := 25) C dX9_check_25 ic_1 ?_
    refine J_bind hF (fun q26 hq hF => ?_)
    refine J_callV0_i (pc := 26) (stk := [.int 1, .ref a0]) (st := []) C dX9_check_26 yw_X9_error w_MLX9_63 in_X9_error sl_X9_error ⟨_, rfl, rfl⟩ (kX9_error hq) (gO_some hq).1 rfl (by decide) rfl (Nat.le_of_ble_eq_true rfl) ?_
    exact J_iret (pc := 29) C dX9_check_29 hF (by decide) (by decide)
  · refine J_iconst (pc := 30) C dX9_check_30 ic_0 ?_
    refine J_istore_n (pc := 31) (lv' := [some (.ref a0), some (.int x1), some (.int v6), some (.int 0), none, none, none]) C dX9_check_31 rfl ?_
    refine J_iconst (pc := 32) C dX9_check_32 ic_0 ?_
    refine J_istore (pc := 33) (lv' := [some (.ref a0), some (.int x1), some (.int v6), some (.int 0), some (.int 0), none, none]) C dX9_check_33 rfl ?_
    refine J_iconst (pc := 35) C dX9_check_35 ic_1 ?_
    refine J_istore (pc := 36) (lv' := [some (.ref a0), some (.int x1), some (.int v6), some (.int 0), some (.int 0), some (.int 1), none]) C dX9_check_36 rfl ?_
    exact kX9_check_38 C 1000 h15 a0 x1 v6 0 0 1 hF
def fX9_forgets_15 : Nat → Hp → Nat → Int32 → Int32 → Option Hp
  | 0, _, _, _, _ => none
  | n15 + 1, h, a0, x1, x4 =>
    (fX9_its h a0 x1 4).bind fun q22 =>
    if q22 ≤ (x4 + 1) then
      (fX9_its h a0 x1 4).bind fun q60 =>
      (fX9_lays1 h a0 x1 4 (q60 - 1)).bind fun q65 =>
      some q65
    else
      (fX9_its h a0 x1 ((5 + x4) + 1)).bind fun q42 =>
      (fX9_lays1 h a0 x1 (5 + x4) q42).bind fun q45 =>
      fX9_forgets_15 n15 q45 a0 x1 (x4 + 1)
set_option maxRecDepth 100000 in
theorem kX9_forgets_15 {X : Cx} {z : Hp} (C : Jc X yX9_forgets cX9_forgets 5 none 2 0 0 (none, z)) : ∀ (n15 : Nat) (h : Hp) (a0 : Nat) (x1 : Int32) (x4 : Int32), fX9_forgets_15 n15 h a0 x1 x4 = some z → J X 0 0 0 0 15 [some (.ref a0), some (.int x1), none, none, some (.int x4)] [] h := by
  intro n15
  induction n15 with
  | zero => intro h a0 x1 x4 hF; cases hF
  | succ n15 ih =>
    intro h a0 x1 x4 hF
    rw [fX9_forgets_15] at hF
    refine J_iload (pc := 15) C dX9_forgets_15 rfl ?_
    refine J_iconst (pc := 17) C dX9_forgets_17 ic_1 ?_
    refine J_iadd (pc := 18) C dX9_forgets_18 ?_
    refine J_aload_n (pc := 19) C dX9_forgets_19 rfl ?_
    refine J_iload_n (pc := 20) C dX9_forgets_20 rfl ?_
    refine J_iconst (pc := 21) C dX9_forgets_21 ic_4 ?_
    refine J_bind hF (fun q22 hq hF => ?_)
    refine J_callV0_ip (pc := 22) (stk := [.int 4, .int x1, .ref a0, .int (x4 + 1)]) (st := [.int (x4 + 1)]) C dX9_forgets_22 yw_X9_its w_MLX9_123 in_X9_its sl_X9_its ⟨_, rfl, rfl⟩ (kX9_its hq) (gO_some hq).1 rfl (by decide) rfl (Nat.le_of_ble_eq_true rfl) ?_
    refine J_icmp_ge (pc := 25) (tgt := 54) C dX9_forgets_25 rfl hF (fun hF => ?_) (fun hF => ?_)
    · refine J_aload_n (pc := 54) C dX9_forgets_54 rfl ?_
      refine J_iload_n (pc := 55) C dX9_forgets_55 rfl ?_
      refine J_iconst (pc := 56) C dX9_forgets_56 ic_4 ?_
      refine J_aload_n (pc := 57) C dX9_forgets_57 rfl ?_
      refine J_iload_n (pc := 58) C dX9_forgets_58 rfl ?_
      refine J_iconst (pc := 59) C dX9_forgets_59 ic_4 ?_
      refine J_bind hF (fun q60 hq hF => ?_)
      refine J_callV0_ip (pc := 60) (stk := [.int 4, .int x1, .ref a0, .int 4, .int x1, .ref a0]) (st := [.int 4, .int x1, .ref a0]) C dX9_forgets_60 yw_X9_its w_MLX9_123 in_X9_its sl_X9_its ⟨_, rfl, rfl⟩ (kX9_its hq) (gO_some hq).1 rfl (by decide) rfl (Nat.le_of_ble_eq_true rfl) ?_
      refine J_iconst (pc := 63) C dX9_forgets_63 ic_1 ?_
      refine J_isub (pc := 64) C dX9_forgets_64 ?_
      refine J_bind hF (fun q65 hq hF => ?_)
      refine J_callV0_v (pc := 65) (stk := [.int (q60 - 1), .int 4, .int x1, .ref a0]) (st := []) C dX9_forgets_65 yw_X9_lays1 w_MLX9_142 in_X9_lays1 sl_X9_lays1 ⟨_, rfl, rfl⟩ (kX9_lays1 hq) (gO_some hq).1 rfl (by decide) rfl (Nat.le_of_ble_eq_true rfl) ?_
      exact J_vret (pc := 68) C dX9_forgets_68 hF (by decide) (by decide)
    · refine J_aload_n (pc := 28) C dX9_forgets_28 rfl ?_
      refine J_iload_n (pc := 29) C dX9_forgets_29 rfl ?_
      refine J_iconst (pc := 30) C dX9_forgets_30 ic_5 ?_
      refine J_iload (pc := 31) C dX9_forgets_31 rfl ?_
      refine J_iadd (pc := 33) C dX9_forgets_33 ?_
      refine J_aload_n (pc := 34) C dX9_forgets_34 rfl ?_
      refine J_iload_n (pc := 35) C dX9_forgets_35 rfl ?_
      refine J_iconst (pc := 36) C dX9_forgets_36 ic_5 ?_
      refine J_iload (pc := 37) C dX9_forgets_37 rfl ?_
      refine J_iadd (pc := 39) C dX9_forgets_39 ?_
      refine J_iconst (pc := 40) C dX9_forgets_40 ic_1 ?_
      refine J_iadd (pc := 41) C dX9_forgets_41 ?_
      refine J_bind hF (fun q42 hq hF => ?_)
      refine J_callV0_ip (pc := 42) (stk := [.int ((5 + x4) + 1), .int x1, .ref a0, .int (5 + x4), .int x1, .ref a0]) (st := [.int (5 + x4), .int x1, .ref a0]) C dX9_forgets_42 yw_X9_its w_MLX9_123 in_X9_its sl_X9_its ⟨_, rfl, rfl⟩ (kX9_its hq) (gO_some hq).1 rfl (by decide) rfl (Nat.le_of_ble_eq_true rfl) ?_
      refine J_bind hF (fun q45 hq hF => ?_)
      refine J_callV0_v (pc := 45) (stk := [.int q42, .int (5 + x4), .int x1, .ref a0]) (st := []) C dX9_forgets_45 yw_X9_lays1 w_MLX9_142 in_X9_lays1 sl_X9_lays1 ⟨_, rfl, rfl⟩ (kX9_lays1 hq) (gO_some hq).1 rfl (by decide) rfl (Nat.le_of_ble_eq_true rfl) ?_
      refine J_iinc (pc := 48) (lv' := [some (.ref a0), some (.int x1), none, none, some (.int (x4 + 1))]) C dX9_forgets_48 rfl ic_1 rfl ?_
      refine J_goto (pc := 51) (tgt := 15) C dX9_forgets_51 rfl ?_
      exact ih q45 a0 x1 (x4 + 1) hF
def fX9_forgets (h : Hp) (a0 : Nat) (x1 : Int32) (x2 : Int32) : Option Hp := gO h 9 a0 (
  (fX9_placeOf h a0 x1 x2).bind fun q3 =>
  if q3 = ((-1)) then
    some h
  else
    fX9_forgets_15 1000 h a0 x1 q3)
set_option maxRecDepth 100000 in
theorem kX9_forgets {h : Hp} {a0 : Nat} {x1 : Int32} {x2 : Int32} {z : Hp} (hF : fX9_forgets h a0 x1 x2 = some z) : Mc yX9_forgets cX9_forgets 5 none 2 0 0 [.ref a0, .int x1, .int x2] h (none, z) := by
  have hF := (gO_some hF).2
  refine Mc_of [some (.ref a0), some (.int x1), some (.int x2), none, none] plX9 rfl rfl (Nat.le_of_ble_eq_true rfl) (fun X C => ?_)
  refine J_aload_n (pc := 0) C dX9_forgets_0 rfl ?_
  refine J_iload_n (pc := 1) C dX9_forgets_1 rfl ?_
  refine J_iload_n (pc := 2) C dX9_forgets_2 rfl ?_
  refine J_bind hF (fun q3 hq hF => ?_)
  refine J_callV0_ip (pc := 3) (stk := [.int x2, .int x1, .ref a0]) (st := []) C dX9_forgets_3 yw_X9_placeOf w_MLX9_139 in_X9_placeOf sl_X9_placeOf ⟨_, rfl, rfl⟩ (kX9_placeOf hq) (gO_some hq).1 rfl (by decide) rfl (Nat.le_of_ble_eq_true rfl) ?_
  refine J_istore_n (pc := 6) (lv' := [some (.ref a0), some (.int x1), some (.int x2), some (.int q3), none]) C dX9_forgets_6 rfl ?_
  refine J_iload_n (pc := 7) C dX9_forgets_7 rfl ?_
  refine J_iconst (pc := 8) C dX9_forgets_8 ic_m1 ?_
  refine J_icmp_eq (pc := 9) (tgt := 68) C dX9_forgets_9 rfl hF (fun hF => ?_) (fun hF => ?_)
  · exact J_vret (pc := 68) C dX9_forgets_68 hF (by decide) (by decide)
  · refine J_iload_n (pc := 12) C dX9_forgets_12 rfl ?_
    refine J_istore (pc := 13) (lv' := [some (.ref a0), some (.int x1), some (.int x2), some (.int q3), some (.int q3)]) C dX9_forgets_13 rfl ?_
    refine J_msk (m := [true, true, false, false, true]) rfl ?_
    exact kX9_forgets_15 C 1000 h a0 x1 q3 hF
def fX9_held (x0 : Int32) (x1 : Int32) (x2 : Int32) : Option Int32 :=
  if x1 ≤ x0 then
    if x0 ≤ x2 then
      some x0
    else
      some x2
  else
    some x1
set_option maxRecDepth 100000 in
theorem kX9_held {h : Hp} {x0 : Int32} {x1 : Int32} {x2 : Int32} {z : Int32} (hF : fX9_held x0 x1 x2 = some z) : Mc yX9_held cX9_held 3 (some .int) 0 0 0 [.int x0, .int x1, .int x2] h (some (.int z), h) := by
  unfold fX9_held at hF
  refine Mc_of [some (.int x0), some (.int x1), some (.int x2)] plX9 rfl rfl (Nat.le_of_ble_eq_true rfl) (fun X C => ?_)
  refine J_iload_n (pc := 0) C dX9_held_0 rfl ?_
  refine J_iload_n (pc := 1) C dX9_held_1 rfl ?_
  refine J_icmp_ge (pc := 2) (tgt := 9) C dX9_held_2 rfl hF (fun hF => ?_) (fun hF => ?_)
  · refine J_iload_n (pc := 9) C dX9_held_9 rfl ?_
    refine J_iload_n (pc := 10) C dX9_held_10 rfl ?_
    refine J_icmp_le (pc := 11) (tgt := 18) C dX9_held_11 rfl hF (fun hF => ?_) (fun hF => ?_)
    · refine J_iload_n (pc := 18) C dX9_held_18 rfl ?_
      exact J_iretP (pc := 19) C dX9_held_19 hF (by decide) (by decide)
    · refine J_iload_n (pc := 14) C dX9_held_14 rfl ?_
      refine J_goto (pc := 15) (tgt := 19) C dX9_held_15 rfl ?_
      exact J_iretP (pc := 19) C dX9_held_19 hF (by decide) (by decide)
  · refine J_iload_n (pc := 5) C dX9_held_5 rfl ?_
    refine J_goto (pc := 6) (tgt := 19) C dX9_held_6 rfl ?_
    exact J_iretP (pc := 19) C dX9_held_19 hF (by decide) (by decide)
def fX9_hasText (h : Hp) (a0 : Nat) (x1 : Int32) : Option Int32 := gO h 9 a0 (
  (getR h 9 a0 0).bind fun r1 =>
  (rdI h r1 (124 + (125 * x1))).bind fun v11 =>
  if v11 ≤ 0 then
    some 0
  else
    some 1)
set_option maxRecDepth 100000 in
theorem kX9_hasText {h : Hp} {a0 : Nat} {x1 : Int32} {z : Int32} (hF : fX9_hasText h a0 x1 = some z) : Mc yX9_hasText cX9_hasText 2 (some .boolean) 0 0 0 [.ref a0, .int x1] h (some (.int z), h) := by
  have hF := (gO_some hF).2
  refine Mc_of [some (.ref a0), some (.int x1)] plX9 rfl rfl (Nat.le_of_ble_eq_true rfl) (fun X C => ?_)
  refine J_aload_n (pc := 0) C dX9_hasText_0 rfl ?_
  refine J_getR (pc := 1) C dX9_hasText_1 fg_X9_7 hF (fun r1 hF => ?_)
  refine J_bipush (pc := 4) C dX9_hasText_4 bc_124 ?_
  refine J_bipush (pc := 6) C dX9_hasText_6 bc_125 ?_
  refine J_iload_n (pc := 8) C dX9_hasText_8 rfl ?_
  refine J_imul (pc := 9) C dX9_hasText_9 ?_
  refine J_iadd (pc := 10) C dX9_hasText_10 ?_
  refine J_iald (pc := 11) C dX9_hasText_11 hF (fun v11 hF => ?_)
  refine J_if_le (pc := 12) (tgt := 19) C dX9_hasText_12 rfl hF (fun hF => ?_) (fun hF => ?_)
  · refine J_iconst (pc := 19) C dX9_hasText_19 ic_0 ?_
    exact J_zretP (pc := 20) C dX9_hasText_20 rfl hF (by decide) (by decide)
  · refine J_iconst (pc := 15) C dX9_hasText_15 ic_1 ?_
    refine J_goto (pc := 16) (tgt := 20) C dX9_hasText_16 rfl ?_
    exact J_zretP (pc := 20) C dX9_hasText_20 rfl hF (by decide) (by decide)
