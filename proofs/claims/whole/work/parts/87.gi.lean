theorem w_CLX6_11 : Cond.classLink RX6 11 RX7 ∈ FT := FT_of 241 (by decide +kernel) (by decide +kernel)
theorem fn_X6_11 : Fn RX6 11 7 13 [.int 0, .int 0, .int 0, .null, .null, .null, .null, .null, .null, .null, .null, .null, .null] := ⟨_, tyX7, rfl, rfl, uw_X7, tyX7_ok, w_CLX6_11, w_insX7, w_iniX7, (show ∀ j, j < 13 → defaultValue (tyX7 j) = vp_V [.int 0, .int 0, .int 0, .null, .null, .null, .null, .null, .null, .null, .null, .null, .null] j by decide +kernel)⟩
theorem fi_X6_13 : Fp RX6 "<init>" 13 6 0 (.array (.object "FourthFace$World")) := ⟨fg_X6_13, ⟨_, tyX6, rfl, tyX6_ok, nmX6, rfl, Or.inr ⟨rfl, rfl, rfl⟩⟩⟩
theorem fi_X6_17 : Fp RX6 "<init>" 17 6 3 (.array .int) := ⟨fg_X6_17, ⟨_, tyX6, rfl, tyX6_ok, nmX6, rfl, Or.inr ⟨rfl, rfl, rfl⟩⟩⟩
theorem fi_X6_21 : Fp RX6 "<init>" 21 6 4 (.array .int) := ⟨fg_X6_21, ⟨_, tyX6, rfl, tyX6_ok, nmX6, rfl, Or.inr ⟨rfl, rfl, rfl⟩⟩⟩
theorem w_MLX6_3 : Cond.methodLink RX6 3 objectInit ∈ FT := FT_of 240 (by decide +kernel) (by decide +kernel)
theorem w_MLX6_24 : Cond.methodLink RX6 24 yX7_init ∈ FT := FT_of 243 (by decide +kernel) (by decide +kernel)
def fX6_init (h : Hp) (a0 : Nat) (a1 : Nat) : Option Hp :=
  (newR 7 h 7).bind fun q7 =>
  (putV q7.2 6 a0 0 (.ref q7.1)).bind fun h10 =>
  (newA 6 h10 6).bind fun q16 =>
  (putV q16.2 6 a0 3 (.ref q16.1)).bind fun h18 =>
  (newA 6 h18 6).bind fun q24 =>
  (putV q24.2 6 a0 4 (.ref q24.1)).bind fun h26 =>
  if (6 : Int32) < 0 then
    some h26
  else
    (getR h26 6 a0 0).bind fun r38_1 =>
    (newO h26 7 [.int 0, .int 0, .int 0, .null, .null, .null, .null, .null, .null, .null, .null, .null, .null]).bind fun q42_1 =>
    (fX7_init q42_1.2 q42_1.1 a1).bind fun q47_1 =>
    (wrR q47_1 r38_1 0 q42_1.1).bind fun h50_1 =>
    if (6 : Int32) < (((0 : Int32)) + 1) then
      some h50_1
    else
      (getR h50_1 6 a0 0).bind fun r38_2 =>
      (newO h50_1 7 [.int 0, .int 0, .int 0, .null, .null, .null, .null, .null, .null, .null, .null, .null, .null]).bind fun q42_2 =>
      (fX7_init q42_2.2 q42_2.1 a1).bind fun q47_2 =>
      (wrR q47_2 r38_2 (((0 : Int32)) + 1) q42_2.1).bind fun h50_2 =>
      if (6 : Int32) < ((((0 : Int32)) + 1) + 1) then
        some h50_2
      else
        (getR h50_2 6 a0 0).bind fun r38_3 =>
        (newO h50_2 7 [.int 0, .int 0, .int 0, .null, .null, .null, .null, .null, .null, .null, .null, .null, .null]).bind fun q42_3 =>
        (fX7_init q42_3.2 q42_3.1 a1).bind fun q47_3 =>
        (wrR q47_3 r38_3 ((((0 : Int32)) + 1) + 1) q42_3.1).bind fun h50_3 =>
        if (6 : Int32) < (((((0 : Int32)) + 1) + 1) + 1) then
          some h50_3
        else
          (getR h50_3 6 a0 0).bind fun r38_4 =>
          (newO h50_3 7 [.int 0, .int 0, .int 0, .null, .null, .null, .null, .null, .null, .null, .null, .null, .null]).bind fun q42_4 =>
          (fX7_init q42_4.2 q42_4.1 a1).bind fun q47_4 =>
          (wrR q47_4 r38_4 (((((0 : Int32)) + 1) + 1) + 1) q42_4.1).bind fun h50_4 =>
          if (6 : Int32) < ((((((0 : Int32)) + 1) + 1) + 1) + 1) then
            some h50_4
          else
            (getR h50_4 6 a0 0).bind fun r38_5 =>
            (newO h50_4 7 [.int 0, .int 0, .int 0, .null, .null, .null, .null, .null, .null, .null, .null, .null, .null]).bind fun q42_5 =>
            (fX7_init q42_5.2 q42_5.1 a1).bind fun q47_5 =>
            (wrR q47_5 r38_5 ((((((0 : Int32)) + 1) + 1) + 1) + 1) q42_5.1).bind fun h50_5 =>
            if (6 : Int32) < (((((((0 : Int32)) + 1) + 1) + 1) + 1) + 1) then
              some h50_5
            else
              (getR h50_5 6 a0 0).bind fun r38_6 =>
              (newO h50_5 7 [.int 0, .int 0, .int 0, .null, .null, .null, .null, .null, .null, .null, .null, .null, .null]).bind fun q42_6 =>
              (fX7_init q42_6.2 q42_6.1 a1).bind fun q47_6 =>
              (wrR q47_6 r38_6 (((((((0 : Int32)) + 1) + 1) + 1) + 1) + 1) q42_6.1).bind fun h50_6 =>
              if (6 : Int32) < ((((((((0 : Int32)) + 1) + 1) + 1) + 1) + 1) + 1) then
                some h50_6
              else
                (getR h50_6 6 a0 0).bind fun r38_7 =>
                (newO h50_6 7 [.int 0, .int 0, .int 0, .null, .null, .null, .null, .null, .null, .null, .null, .null, .null]).bind fun q42_7 =>
                (fX7_init q42_7.2 q42_7.1 a1).bind fun q47_7 =>
                (wrR q47_7 r38_7 ((((((((0 : Int32)) + 1) + 1) + 1) + 1) + 1) + 1) q42_7.1).bind fun h50_7 =>
                if (6 : Int32) < (((((((((0 : Int32)) + 1) + 1) + 1) + 1) + 1) + 1) + 1) then
                  some h50_7
                else
                  (getR h50_7 6 a0 0).bind fun r38_8 =>
                  (newO h50_7 7 [.int 0, .int 0, .int 0, .null, .null, .null, .null, .null, .null, .null, .null, .null, .null]).bind fun q42_8 =>
                  (fX7_init q42_8.2 q42_8.1 a1).bind fun q47_8 =>
                  (wrR q47_8 r38_8 (((((((((0 : Int32)) + 1) + 1) + 1) + 1) + 1) + 1) + 1) q42_8.1).bind fun h50_8 =>
                  none
set_option maxRecDepth 100000 in
theorem kX6_init {h : Hp} {a0 : Nat} {a1 : Nat} {z : Hp} (hF : fX6_init h a0 a1 = some z) : Mc yX6_init cX6_init 3 none 2 75 667 [.ref a0, .ref a1] h (none, z) := by
  unfold fX6_init at hF
  refine Mc_of [some (.ref a0), some (.ref a1), none] plX6 rfl rfl (Nat.le_of_ble_eq_true rfl) (fun X C => ?_)
  refine J_aload_n (pc := 0) C dX6_init_0 rfl ?_
  refine J_objInit (pc := 1) C dX6_init_1 w_MLX6_3 (by decide) (Nat.le_of_ble_eq_true rfl) ?_
  refine J_aload_n (pc := 4) C dX6_init_4 rfl ?_
  refine J_bipush (pc := 5) C dX6_init_5 bc_7 ?_
  refine J_anew (pc := 7) C dX6_init_7 (cap := 7) w_CLX6_11 (by decide) (by decide) (by decide) hF (fun q7 hF => ?_)
  refine J_put (pc := 10) C dX6_init_10 fi_X6_13 hF rfl rfl (fun h10 hF => ?_)
  refine J_aload_n (pc := 13) C dX6_init_13 rfl ?_
  refine J_bipush (pc := 14) C dX6_init_14 bc_6 ?_
  refine J_newarr (pc := 16) C dX6_init_16 (cap := 6) w_AC (by decide) (by decide) (by decide) hF (fun q16 hF => ?_)
  refine J_put (pc := 18) C dX6_init_18 fi_X6_17 hF rfl rfl (fun h18 hF => ?_)
  refine J_aload_n (pc := 21) C dX6_init_21 rfl ?_
  refine J_bipush (pc := 22) C dX6_init_22 bc_6 ?_
  refine J_newarr (pc := 24) C dX6_init_24 (cap := 6) w_AC (by decide) (by decide) (by decide) hF (fun q24 hF => ?_)
  refine J_put (pc := 26) C dX6_init_26 fi_X6_21 hF rfl rfl (fun h26 hF => ?_)
  refine J_iconst (pc := 29) C dX6_init_29 ic_0 ?_
  refine J_istore_n (pc := 30) (lv' := [some (.ref a0), some (.ref a1), some (.int 0)]) C dX6_init_30 rfl ?_
  refine J_iload_n (pc := 31) C dX6_init_31 rfl ?_
  refine J_bipush (pc := 32) C dX6_init_32 bc_6 ?_
  refine J_icmp_gt (pc := 34) (tgt := 57) C dX6_init_34 rfl hF (fun hF => ?_) (fun hF => ?_)
  · exact J_vret (pc := 57) C dX6_init_57 hF (by decide) (by decide)
  · refine J_aload_n (pc := 37) C dX6_init_37 rfl ?_
    refine J_getR (pc := 38) C dX6_init_38 fg_X6_13 hF (fun r38_1 hF => ?_)
    refine J_iload_n (pc := 41) C dX6_init_41 rfl ?_
    refine J_new (pc := 42) C dX6_init_42 fn_X6_11 (by decide) (by decide) hF (fun q42_1 hF => ?_)
    refine J_dup (pc := 45) C dX6_init_45 rfl ?_
    refine J_aload_n (pc := 46) C dX6_init_46 rfl ?_
    refine J_bind hF (fun q47_1 hq hF => ?_)
    refine J_callI_v (pc := 47) (stk := [.ref a1, .ref q42_1.1, .ref q42_1.1, .int 0, .ref r38_1]) (st := [.ref q42_1.1, .int 0, .ref r38_1]) C dX6_init_47 yw_X7_init w_MLX6_24 rfl in_X7_init (kX7_init hq) rfl (by decide) (by decide) (by decide) rfl (Nat.le_of_ble_eq_true rfl) ?_
    refine J_aast (pc := 50) C dX6_init_50 hF (fun h50_1 hF => ?_)
    refine J_iinc (pc := 51) (lv' := [some (.ref a0), some (.ref a1), some (.int (((0 : Int32)) + 1))]) C dX6_init_51 rfl ic_1 rfl ?_
    refine J_goto (pc := 54) (tgt := 31) C dX6_init_54 rfl ?_
    refine J_iload_n (pc := 31) C dX6_init_31 rfl ?_
    refine J_bipush (pc := 32) C dX6_init_32 bc_6 ?_
    refine J_icmp_gt (pc := 34) (tgt := 57) C dX6_init_34 rfl hF (fun hF => ?_) (fun hF => ?_)
    · exact J_vret (pc := 57) C dX6_init_57 hF (by decide) (by decide)
    · refine J_aload_n (pc := 37) C dX6_init_37 rfl ?_
      refine J_getR (pc := 38) C dX6_init_38 fg_X6_13 hF (fun r38_2 hF => ?_)
      refine J_iload_n (pc := 41) C dX6_init_41 rfl ?_
      refine J_new (pc := 42) C dX6_init_42 fn_X6_11 (by decide) (by decide) hF (fun q42_2 hF => ?_)
      refine J_dup (pc := 45) C dX6_init_45 rfl ?_
      refine J_aload_n (pc := 46) C dX6_init_46 rfl ?_
      refine J_bind hF (fun q47_2 hq hF => ?_)
      refine J_callI_v (pc := 47) (stk := [.ref a1, .ref q42_2.1, .ref q42_2.1, .int (((0 : Int32)) + 1), .ref r38_2]) (st := [.ref q42_2.1, .int (((0 : Int32)) + 1), .ref r38_2]) C dX6_init_47 yw_X7_init w_MLX6_24 rfl in_X7_init (kX7_init hq) rfl (by decide) (by decide) (by decide) rfl (Nat.le_of_ble_eq_true rfl) ?_
      refine J_aast (pc := 50) C dX6_init_50 hF (fun h50_2 hF => ?_)
      refine J_iinc (pc := 51) (lv' := [some (.ref a0), some (.ref a1), some (.int ((((0 : Int32)) + 1) + 1))]) C dX6_init_51 rfl ic_1 rfl ?_
      refine J_goto (pc := 54) (tgt := 31) C dX6_init_54 rfl ?_
      refine J_iload_n (pc := 31) C dX6_init_31 rfl ?_
      refine J_bipush (pc := 32) C dX6_init_32 bc_6 ?_
      refine J_icmp_gt (pc := 34) (tgt := 57) C dX6_init_34 rfl hF (fun hF => ?_) (fun hF => ?_)
      · exact J_vret (pc := 57) C dX6_init_57 hF (by decide) (by decide)
      · refine J_aload_n (pc := 37) C dX6_init_37 rfl ?_
        refine J_getR (pc := 38) C dX6_init_38 fg_X6_13 hF (fun r38_3 hF => ?_)
        refine J_iload_n (pc := 41) C dX6_init_41 rfl ?_
        refine J_new (pc := 42) C dX6_init_42 fn_X6_11 (by decide) (by decide) hF (fun q42_3 hF => ?_)
        refine J_dup (pc := 45) C dX6_init_45 rfl ?_
        refine J_aload_n (pc := 46) C dX6_init_46 rfl ?_
        refine J_bind hF (fun q47_3 hq hF => ?_)
        refine J_callI_v (pc := 47) (stk := [.ref a1, .ref q42_3.1, .ref q42_3.1, .int ((((0 : Int32)) + 1) + 1), .ref r38_3]) (st := [.ref q42_3.1, .int ((((0 : Int32)) + 1) + 1), .ref r38_3]) C dX6_init_47 yw_X7_init w_MLX6_24 rfl in_X7_init (kX7_init hq) rfl (by decide) (by decide) (by decide) rfl (Nat.le_of_ble_eq_true rfl) ?_
        refine J_aast (pc := 50) C dX6_init_50 hF (fun h50_3 hF => ?_)
        refine J_iinc (pc := 51) (lv' := [some (.ref a0), some (.ref a1), some (.int (((((0 : Int32)) + 1) + 1) + 1))]) C dX6_init_51 rfl ic_1 rfl ?_
        refine J_goto (pc := 54) (tgt := 31) C dX6_init_54 rfl ?_
        refine J_iload_n (pc := 31) C dX6_init_31 rfl ?_
        refine J_bipush (pc := 32) C dX6_init_32 bc_6 ?_
        refine J_icmp_gt (pc := 34) (tgt := 57) C dX6_init_34 rfl hF (fun hF => ?_) (fun hF => ?_)
        · exact J_vret (pc := 57) C dX6_init_57 hF (by decide) (by decide)
        · refine J_aload_n (pc := 37) C dX6_init_37 rfl ?_
          refine J_getR (pc := 38) C dX6_init_38 fg_X6_13 hF (fun r38_4 hF => ?_)
          refine J_iload_n (pc := 41) C dX6_init_41 rfl ?_
          refine J_new (pc := 42) C dX6_init_42 fn_X6_11 (by decide) (by decide) hF (fun q42_4 hF => ?_)
          refine J_dup (pc := 45) C dX6_init_45 rfl ?_
          refine J_aload_n (pc := 46) C dX6_init_46 rfl ?_
          refine J_bind hF (fun q47_4 hq hF => ?_)
          refine J_callI_v (pc := 47) (stk := [.ref a1, .ref q42_4.1, .ref q42_4.1, .int (((((0 : Int32)) + 1) + 1) + 1), .ref r38_4]) (st := [.ref q42_4.1, .int (((((0 : Int32)) + 1) + 1) + 1), .ref r38_4]) C dX6_init_47 yw_X7_init w_MLX6_24 rfl in_X7_init (kX7_init hq) rfl (by decide) (by decide) (by decide) rfl (Nat.le_of_ble_eq_true rfl) ?_
          refine J_aast (pc := 50) C dX6_init_50 hF (fun h50_4 hF => ?_)
          refine J_iinc (pc := 51) (lv' := [some (.ref a0), some (.ref a1), some (.int ((((((0 : Int32)) + 1) + 1) + 1) + 1))]) C dX6_init_51 rfl ic_1 rfl ?_
          refine J_goto (pc := 54) (tgt := 31) C dX6_init_54 rfl ?_
          refine J_iload_n (pc := 31) C dX6_init_31 rfl ?_
          refine J_bipush (pc := 32) C dX6_init_32 bc_6 ?_
          refine J_icmp_gt (pc := 34) (tgt := 57) C dX6_init_34 rfl hF (fun hF => ?_) (fun hF => ?_)
          · exact J_vret (pc := 57) C dX6_init_57 hF (by decide) (by decide)
          · refine J_aload_n (pc := 37) C dX6_init_37 rfl ?_
            refine J_getR (pc := 38) C dX6_init_38 fg_X6_13 hF (fun r38_5 hF => ?_)
            refine J_iload_n (pc := 41) C dX6_init_41 rfl ?_
            refine J_new (pc := 42) C dX6_init_42 fn_X6_11 (by decide) (by decide) hF (fun q42_5 hF => ?_)
            refine J_dup (pc := 45) C dX6_init_45 rfl ?_
            refine J_aload_n (pc := 46) C dX6_init_46 rfl ?_
            refine J_bind hF (fun q47_5 hq hF => ?_)
            refine J_callI_v (pc := 47) (stk := [.ref a1, .ref q42_5.1, .ref q42_5.1, .int ((((((0 : Int32)) + 1) + 1) + 1) + 1), .ref r38_5]) (st := [.ref q42_5.1, .int ((((((0 : Int32)) + 1) + 1) + 1) + 1), .ref r38_5]) C dX6_init_47 yw_X7_init w_MLX6_24 rfl in_X7_init (kX7_init hq) rfl (by decide) (by decide) (by decide) rfl (Nat.le_of_ble_eq_true rfl) ?_
            refine J_aast (pc := 50) C dX6_init_50 hF (fun h50_5 hF => ?_)
            refine J_iinc (pc := 51) (lv' := [some (.ref a0), some (.ref a1), some (.int (((((((0 : Int32)) + 1) + 1) + 1) + 1) + 1))]) C dX6_init_51 rfl ic_1 rfl ?_
            refine J_goto (pc := 54) (tgt := 31) C dX6_init_54 rfl ?_
            refine J_iload_n (pc := 31) C dX6_init_31 rfl ?_
            refine J_bipush (pc := 32) C dX6_init_32 bc_6 ?_
            refine J_icmp_gt (pc := 34) (tgt := 57) C dX6_init_34 rfl hF (fun hF => ?_) (fun hF => ?_)
            · exact J_vret (pc := 57) C dX6_init_57 hF (by decide) (by decide)
            · refine J_aload_n (pc := 37) C dX6_init_37 rfl ?_
              refine J_getR (pc := 38) C dX6_init_38 fg_X6_13 hF (fun r38_6 hF => ?_)
              refine J_iload_n (pc := 41) C dX6_init_41 rfl ?_
              refine J_new (pc := 42) C dX6_init_42 fn_X6_11 (by decide) (by decide) hF (fun q42_6 hF => ?_)
              refine J_dup (pc := 45) C dX6_init_45 rfl ?_
              refine J_aload_n (pc := 46) C dX6_init_46 rfl ?_
              refine J_bind hF (fun q47_6 hq hF => ?_)
              refine J_callI_v (pc := 47) (stk := [.ref a1, .ref q42_6.1, .ref q42_6.1, .int (((((((0 : Int32)) + 1) + 1) + 1) + 1) + 1), .ref r38_6]) (st := [.ref q42_6.1, .int (((((((0 : Int32)) + 1) + 1) + 1) + 1) + 1), .ref r38_6]) C dX6_init_47 yw_X7_init w_MLX6_24 rfl in_X7_init (kX7_init hq) rfl (by decide) (by decide) (by decide) rfl (Nat.le_of_ble_eq_true rfl) ?_
              refine J_aast (pc := 50) C dX6_init_50 hF (fun h50_6 hF => ?_)
              refine J_iinc (pc := 51) (lv' := [some (.ref a0), some (.ref a1), some (.int ((((((((0 : Int32)) + 1) + 1) + 1) + 1) + 1) + 1))]) C dX6_init_51 rfl ic_1 rfl ?_
              refine J_goto (pc := 54) (tgt := 31) C dX6_init_54 rfl ?_
              refine J_iload_n (pc := 31) C dX6_init_31 rfl ?_
              refine J_bipush (pc := 32) C dX6_init_32 bc_6 ?_
              refine J_icmp_gt (pc := 34) (tgt := 57) C dX6_init_34 rfl hF (fun hF => ?_) (fun hF => ?_)
              · exact J_vret (pc := 57) C dX6_init_57 hF (by decide) (by decide)
              · refine J_aload_n (pc := 37) C dX6_init_37 rfl ?_
                refine J_getR (pc := 38) C dX6_init_38 fg_X6_13 hF (fun r38_7 hF => ?_)
                refine J_iload_n (pc := 41) C dX6_init_41 rfl ?_
                refine J_new (pc := 42) C dX6_init_42 fn_X6_11 (by decide) (by decide) hF (fun q42_7 hF => ?_)
                refine J_dup (pc := 45) C dX6_init_45 rfl ?_
                refine J_aload_n (pc := 46) C dX6_init_46 rfl ?_
                refine J_bind hF (fun q47_7 hq hF => ?_)
                refine J_callI_v (pc := 47) (stk := [.ref a1, .ref q42_7.1, .ref q42_7.1, .int ((((((((0 : Int32)) + 1) + 1) + 1) + 1) + 1) + 1), .ref r38_7]) (st := [.ref q42_7.1, .int ((((((((0 : Int32)) + 1) + 1) + 1) + 1) + 1) + 1), .ref r38_7]) C dX6_init_47 yw_X7_init w_MLX6_24 rfl in_X7_init (kX7_init hq) rfl (by decide) (by decide) (by decide) rfl (Nat.le_of_ble_eq_true rfl) ?_
                refine J_aast (pc := 50) C dX6_init_50 hF (fun h50_7 hF => ?_)
                refine J_iinc (pc := 51) (lv' := [some (.ref a0), some (.ref a1), some (.int (((((((((0 : Int32)) + 1) + 1) + 1) + 1) + 1) + 1) + 1))]) C dX6_init_51 rfl ic_1 rfl ?_
                refine J_goto (pc := 54) (tgt := 31) C dX6_init_54 rfl ?_
                refine J_iload_n (pc := 31) C dX6_init_31 rfl ?_
                refine J_bipush (pc := 32) C dX6_init_32 bc_6 ?_
                refine J_icmp_gt (pc := 34) (tgt := 57) C dX6_init_34 rfl hF (fun hF => ?_) (fun hF => ?_)
                · exact J_vret (pc := 57) C dX6_init_57 hF (by decide) (by decide)
                · refine J_aload_n (pc := 37) C dX6_init_37 rfl ?_
                  refine J_getR (pc := 38) C dX6_init_38 fg_X6_13 hF (fun r38_8 hF => ?_)
                  refine J_iload_n (pc := 41) C dX6_init_41 rfl ?_
                  refine J_new (pc := 42) C dX6_init_42 fn_X6_11 (by decide) (by decide) hF (fun q42_8 hF => ?_)
                  refine J_dup (pc := 45) C dX6_init_45 rfl ?_
                  refine J_aload_n (pc := 46) C dX6_init_46 rfl ?_
                  refine J_bind hF (fun q47_8 hq hF => ?_)
                  refine J_callI_v (pc := 47) (stk := [.ref a1, .ref q42_8.1, .ref q42_8.1, .int (((((((((0 : Int32)) + 1) + 1) + 1) + 1) + 1) + 1) + 1), .ref r38_8]) (st := [.ref q42_8.1, .int (((((((((0 : Int32)) + 1) + 1) + 1) + 1) + 1) + 1) + 1), .ref r38_8]) C dX6_init_47 yw_X7_init w_MLX6_24 rfl in_X7_init (kX7_init hq) rfl (by decide) (by decide) (by decide) rfl (Nat.le_of_ble_eq_true rfl) ?_
                  refine J_aast (pc := 50) C dX6_init_50 hF (fun h50_8 hF => ?_)
                  refine J_iinc (pc := 51) (lv' := [some (.ref a0), some (.ref a1), some (.int ((((((((((0 : Int32)) + 1) + 1) + 1) + 1) + 1) + 1) + 1) + 1))]) C dX6_init_51 rfl ic_1 rfl ?_
                  refine J_goto (pc := 54) (tgt := 31) C dX6_init_54 rfl ?_
                  cases hF
