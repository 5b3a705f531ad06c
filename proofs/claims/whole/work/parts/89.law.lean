/-! ===== the law's loop ===== -/
def RXL : String := "FourthFaceLaw"
/-- the script: a row that stands from before -/
def Scr (X : Cx) (b L : Nat) (xs : Nat → Int32) : Prop := match X with
  | (p, l, e, R, s, m, args, below, meth, c, D, rs) => va_X b L xs s s.heap ∧ b < s.heap.size ∧ ¬ frA D b
theorem J_scr {X : Cx} {y : MethodName} {cc : ByteArray} {nL : Nat} {ret : Option FieldType} {d mc ms : Nat} {res : Option Value × Hp} {k n pc : Nat} {lv : List (Option Value)} {st : List Value} {h : Hp} (C : Jc X y cc nL ret d mc ms res) {α : Type} {K : Int32 → Option α} {r : α} {b L : Nat} {xs : Nat → Int32} {i : Int32} (hd : decode cc pc = .ok (.iaload, 1)) (hs : Scr X b L xs) (hF : (rdT L xs i).bind K = some r) (kk : ∀ v, K v = some r → J X mc ms k n (pc + 1) lv (.int v :: st) h) : J X mc ms k n pc lv (.int i :: .ref b :: st) h := by
  obtain ⟨v, hv, hF⟩ := bind_some hF
  obtain ⟨hin, hv⟩ := rdT_some hv
  have kk := kk v hF
  subst hv
  obtain ⟨p, l, e, R, s, m, args, below, meth, c, D, rs⟩ := X
  obtain ⟨⟨scr, hcb, hof, hkn, hsz, hval⟩, hlt, hfr⟩ := hs
  intro H locs ls hR hS hl hL
  have hcH : H[b]? = some scr := (hS.2.1 b hlt hfr).trans hcb
  have hi : i.toNatClampNeg < L := Nat.not_le.mp fun q => hin (Or.inr q)
  exact W.iald C.1 C.2.1 hcH hof hkn (by rw [hsz]; exact hin) (hval _ hi) rfl rfl hd (kk H locs ls hR hS hl hL)
theorem J_scL {X : Cx} {y : MethodName} {cc : ByteArray} {nL : Nat} {ret : Option FieldType} {d mc ms : Nat} {res : Option Value × Hp} {k n pc : Nat} {lv : List (Option Value)} {st : List Value} {h : Hp} (C : Jc X y cc nL ret d mc ms res) {b L : Nat} {xs : Nat → Int32} (hd : decode cc pc = .ok (.arraylength, 1)) (hs : Scr X b L xs) (kk : J X mc ms k n (pc + 1) lv (.int (nI L) :: st) h) : J X mc ms k n pc lv (.ref b :: st) h := by
  obtain ⟨p, l, e, R, s, m, args, below, meth, c, D, rs⟩ := X
  obtain ⟨⟨scr, hcb, hof, hkn, hsz, hval⟩, hlt, hfr⟩ := hs
  intro H locs ls hR hS hl hL
  have hcH : H[b]? = some scr := (hS.2.1 b hlt hfr).trans hcb
  have kk := kk H locs ls hR hS hl hL
  exact W.alen (n := nI L) C.1 C.2.1 hcH hof (by rw [hsz]; rfl) rfl rfl hd kk
theorem ic_6 : Int32.ofInt 6 = 6 := rfl
theorem plXL : plainName RXL = true := by decide +kernel
theorem in_X8_alone : Cond.instanceMethod yX8_alone ∈ FT := FT_of 636 (by decide +kernel) (by decide +kernel)
theorem in_X8_as : Cond.instanceMethod yX8_as ∈ FT := FT_of 450 (by decide +kernel) (by decide +kernel)
theorem in_X8_body : Cond.instanceMethod yX8_body ∈ FT := FT_of 809 (by decide +kernel) (by decide +kernel)
theorem in_X8_book : Cond.instanceMethod yX8_book ∈ FT := FT_of 672 (by decide +kernel) (by decide +kernel)
theorem in_X8_check : Cond.instanceMethod yX8_check ∈ FT := FT_of 882 (by decide +kernel) (by decide +kernel)
theorem in_X8_count : Cond.instanceMethod yX8_count ∈ FT := FT_of 887 (by decide +kernel) (by decide +kernel)
theorem in_X8_cross : Cond.instanceMethod yX8_cross ∈ FT := FT_of 596 (by decide +kernel) (by decide +kernel)
theorem in_X8_crossings : Cond.instanceMethod yX8_crossings ∈ FT := FT_of 853 (by decide +kernel) (by decide +kernel)
theorem in_X8_debt : Cond.instanceMethod yX8_debt ∈ FT := FT_of 676 (by decide +kernel) (by decide +kernel)
theorem in_X8_debtIs : Cond.instanceMethod yX8_debtIs ∈ FT := FT_of 684 (by decide +kernel) (by decide +kernel)
theorem in_X8_draws : Cond.instanceMethod yX8_draws ∈ FT := FT_of 644 (by decide +kernel) (by decide +kernel)
theorem in_X8_feed : Cond.instanceMethod yX8_feed ∈ FT := FT_of 477 (by decide +kernel) (by decide +kernel)
theorem in_X8_forget : Cond.instanceMethod yX8_forget ∈ FT := FT_of 473 (by decide +kernel) (by decide +kernel)
theorem in_X8_hearsay : Cond.instanceMethod yX8_hearsay ∈ FT := FT_of 755 (by decide +kernel) (by decide +kernel)
theorem in_X8_image : Cond.instanceMethod yX8_image ∈ FT := FT_of 861 (by decide +kernel) (by decide +kernel)
theorem in_X8_judge : Cond.instanceMethod yX8_judge ∈ FT := FT_of 857 (by decide +kernel) (by decide +kernel)
theorem in_X8_loses : Cond.instanceMethod yX8_loses ∈ FT := FT_of 702 (by decide +kernel) (by decide +kernel)
theorem in_X8_man : Cond.instanceMethod yX8_man ∈ FT := FT_of 402 (by decide +kernel) (by decide +kernel)
theorem in_X8_manIs : Cond.instanceMethod yX8_manIs ∈ FT := FT_of 410 (by decide +kernel) (by decide +kernel)
theorem in_X8_memory : Cond.instanceMethod yX8_memory ∈ FT := FT_of 746 (by decide +kernel) (by decide +kernel)
theorem in_X8_move : Cond.instanceMethod yX8_move ∈ FT := FT_of 844 (by decide +kernel) (by decide +kernel)
theorem in_X8_pay : Cond.instanceMethod yX8_pay ∈ FT := FT_of 693 (by decide +kernel) (by decide +kernel)
theorem in_X8_person : Cond.instanceMethod yX8_person ∈ FT := FT_of 348 (by decide +kernel) (by decide +kernel)
theorem in_X8_personIs : Cond.instanceMethod yX8_personIs ∈ FT := FT_of 364 (by decide +kernel) (by decide +kernel)
theorem in_X8_put : Cond.instanceMethod yX8_put ∈ FT := FT_of 832 (by decide +kernel) (by decide +kernel)
theorem in_X8_restore : Cond.instanceMethod yX8_restore ∈ FT := FT_of 874 (by decide +kernel) (by decide +kernel)
theorem in_X8_rows : Cond.instanceMethod yX8_rows ∈ FT := FT_of 759 (by decide +kernel) (by decide +kernel)
theorem in_X8_seed : Cond.instanceMethod yX8_seed ∈ FT := FT_of 668 (by decide +kernel) (by decide +kernel)
theorem in_X8_setMan : Cond.instanceMethod yX8_setMan ∈ FT := FT_of 462 (by decide +kernel) (by decide +kernel)
theorem in_X8_setPerson : Cond.instanceMethod yX8_setPerson ∈ FT := FT_of 469 (by decide +kernel) (by decide +kernel)
theorem in_X8_sheet : Cond.instanceMethod yX8_sheet ∈ FT := FT_of 813 (by decide +kernel) (by decide +kernel)
theorem in_X8_stranger : Cond.instanceMethod yX8_stranger ∈ FT := FT_of 720 (by decide +kernel) (by decide +kernel)
theorem in_X8_tell : Cond.instanceMethod yX8_tell ∈ FT := FT_of 878 (by decide +kernel) (by decide +kernel)
theorem in_X8_text : Cond.instanceMethod yX8_text ∈ FT := FT_of 481 (by decide +kernel) (by decide +kernel)
theorem in_X8_told : Cond.instanceMethod yX8_told ∈ FT := FT_of 895 (by decide +kernel) (by decide +kernel)
theorem in_X8_untell : Cond.instanceMethod yX8_untell ∈ FT := FT_of 587 (by decide +kernel) (by decide +kernel)
theorem in_X8_voice : Cond.instanceMethod yX8_voice ∈ FT := FT_of 784 (by decide +kernel) (by decide +kernel)
theorem in_X8_way : Cond.instanceMethod yX8_way ∈ FT := FT_of 733 (by decide +kernel) (by decide +kernel)
theorem in_X9_alone : Cond.instanceMethod yX9_alone ∈ FT := FT_of 1174 (by decide +kernel) (by decide +kernel)
theorem in_X9_as : Cond.instanceMethod yX9_as ∈ FT := FT_of 1130 (by decide +kernel) (by decide +kernel)
theorem in_X9_body : Cond.instanceMethod yX9_body ∈ FT := FT_of 1313 (by decide +kernel) (by decide +kernel)
theorem in_X9_book : Cond.instanceMethod yX9_book ∈ FT := FT_of 1199 (by decide +kernel) (by decide +kernel)
theorem in_X9_check : Cond.instanceMethod yX9_check ∈ FT := FT_of 1356 (by decide +kernel) (by decide +kernel)
theorem in_X9_count : Cond.instanceMethod yX9_count ∈ FT := FT_of 1360 (by decide +kernel) (by decide +kernel)
theorem in_X9_cross : Cond.instanceMethod yX9_cross ∈ FT := FT_of 1149 (by decide +kernel) (by decide +kernel)
theorem in_X9_crossings : Cond.instanceMethod yX9_crossings ∈ FT := FT_of 1332 (by decide +kernel) (by decide +kernel)
theorem in_X9_debt : Cond.instanceMethod yX9_debt ∈ FT := FT_of 1203 (by decide +kernel) (by decide +kernel)
theorem in_X9_debtIs : Cond.instanceMethod yX9_debtIs ∈ FT := FT_of 1207 (by decide +kernel) (by decide +kernel)
theorem in_X9_draws : Cond.instanceMethod yX9_draws ∈ FT := FT_of 1182 (by decide +kernel) (by decide +kernel)
theorem in_X9_feed : Cond.instanceMethod yX9_feed ∈ FT := FT_of 987 (by decide +kernel) (by decide +kernel)
theorem in_X9_forget : Cond.instanceMethod yX9_forget ∈ FT := FT_of 1145 (by decide +kernel) (by decide +kernel)
theorem in_X9_hearsay : Cond.instanceMethod yX9_hearsay ∈ FT := FT_of 1259 (by decide +kernel) (by decide +kernel)
theorem in_X9_image : Cond.instanceMethod yX9_image ∈ FT := FT_of 1344 (by decide +kernel) (by decide +kernel)
theorem in_X9_judge : Cond.instanceMethod yX9_judge ∈ FT := FT_of 1340 (by decide +kernel) (by decide +kernel)
theorem in_X9_loses : Cond.instanceMethod yX9_loses ∈ FT := FT_of 1223 (by decide +kernel) (by decide +kernel)
theorem in_X9_man : Cond.instanceMethod yX9_man ∈ FT := FT_of 1088 (by decide +kernel) (by decide +kernel)
theorem in_X9_manIs : Cond.instanceMethod yX9_manIs ∈ FT := FT_of 1096 (by decide +kernel) (by decide +kernel)
theorem in_X9_memory : Cond.instanceMethod yX9_memory ∈ FT := FT_of 1255 (by decide +kernel) (by decide +kernel)
theorem in_X9_move : Cond.instanceMethod yX9_move ∈ FT := FT_of 1328 (by decide +kernel) (by decide +kernel)
theorem in_X9_pay : Cond.instanceMethod yX9_pay ∈ FT := FT_of 1219 (by decide +kernel) (by decide +kernel)
theorem in_X9_person : Cond.instanceMethod yX9_person ∈ FT := FT_of 1052 (by decide +kernel) (by decide +kernel)
theorem in_X9_personIs : Cond.instanceMethod yX9_personIs ∈ FT := FT_of 1056 (by decide +kernel) (by decide +kernel)
theorem in_X9_put : Cond.instanceMethod yX9_put ∈ FT := FT_of 1324 (by decide +kernel) (by decide +kernel)
theorem in_X9_restore : Cond.instanceMethod yX9_restore ∈ FT := FT_of 1348 (by decide +kernel) (by decide +kernel)
theorem in_X9_rows : Cond.instanceMethod yX9_rows ∈ FT := FT_of 1263 (by decide +kernel) (by decide +kernel)
theorem in_X9_seed : Cond.instanceMethod yX9_seed ∈ FT := FT_of 1195 (by decide +kernel) (by decide +kernel)
theorem in_X9_setMan : Cond.instanceMethod yX9_setMan ∈ FT := FT_of 1137 (by decide +kernel) (by decide +kernel)
theorem in_X9_setPerson : Cond.instanceMethod yX9_setPerson ∈ FT := FT_of 1141 (by decide +kernel) (by decide +kernel)
theorem in_X9_sheet : Cond.instanceMethod yX9_sheet ∈ FT := FT_of 1317 (by decide +kernel) (by decide +kernel)
theorem in_X9_stranger : Cond.instanceMethod yX9_stranger ∈ FT := FT_of 1239 (by decide +kernel) (by decide +kernel)
theorem in_X9_tell : Cond.instanceMethod yX9_tell ∈ FT := FT_of 1352 (by decide +kernel) (by decide +kernel)
theorem in_X9_text : Cond.instanceMethod yX9_text ∈ FT := FT_of 1000 (by decide +kernel) (by decide +kernel)
theorem in_X9_told : Cond.instanceMethod yX9_told ∈ FT := FT_of 1368 (by decide +kernel) (by decide +kernel)
theorem in_X9_untell : Cond.instanceMethod yX9_untell ∈ FT := FT_of 1044 (by decide +kernel) (by decide +kernel)
theorem in_X9_voice : Cond.instanceMethod yX9_voice ∈ FT := FT_of 1278 (by decide +kernel) (by decide +kernel)
theorem in_X9_way : Cond.instanceMethod yX9_way ∈ FT := FT_of 1247 (by decide +kernel) (by decide +kernel)
theorem w_KLXL_48 : Cond.constantLong RXL 48 4294967295 ∈ FT := FT_of 1371 (by decide +kernel) (by decide +kernel)
theorem w_MLXL_13 : Cond.methodLink RXL 13 yX8_person ∈ FT := FT_of 347 (by decide +kernel) (by decide +kernel)
theorem w_MLXL_17 : Cond.methodLink RXL 17 yX9_person ∈ FT := FT_of 1051 (by decide +kernel) (by decide +kernel)
theorem w_MLXL_18 : Cond.methodLink RXL 18 yX8_personIs ∈ FT := FT_of 363 (by decide +kernel) (by decide +kernel)
theorem w_MLXL_22 : Cond.methodLink RXL 22 yX9_personIs ∈ FT := FT_of 1055 (by decide +kernel) (by decide +kernel)
theorem w_MLXL_23 : Cond.methodLink RXL 23 yX8_man ∈ FT := FT_of 401 (by decide +kernel) (by decide +kernel)
theorem w_MLXL_26 : Cond.methodLink RXL 26 yX9_man ∈ FT := FT_of 1087 (by decide +kernel) (by decide +kernel)
theorem w_MLXL_27 : Cond.methodLink RXL 27 yX8_manIs ∈ FT := FT_of 409 (by decide +kernel) (by decide +kernel)
theorem w_MLXL_30 : Cond.methodLink RXL 30 yX9_manIs ∈ FT := FT_of 1095 (by decide +kernel) (by decide +kernel)
theorem w_MLXL_31 : Cond.methodLink RXL 31 yX8_as ∈ FT := FT_of 449 (by decide +kernel) (by decide +kernel)
theorem w_MLXL_34 : Cond.methodLink RXL 34 yX9_as ∈ FT := FT_of 1129 (by decide +kernel) (by decide +kernel)
theorem w_MLXL_35 : Cond.methodLink RXL 35 yX8_setMan ∈ FT := FT_of 461 (by decide +kernel) (by decide +kernel)
theorem w_MLXL_39 : Cond.methodLink RXL 39 yX9_setMan ∈ FT := FT_of 1136 (by decide +kernel) (by decide +kernel)
theorem w_MLXL_40 : Cond.methodLink RXL 40 yX8_setPerson ∈ FT := FT_of 468 (by decide +kernel) (by decide +kernel)
theorem w_MLXL_43 : Cond.methodLink RXL 43 yX9_setPerson ∈ FT := FT_of 1140 (by decide +kernel) (by decide +kernel)
theorem w_MLXL_44 : Cond.methodLink RXL 44 yX8_forget ∈ FT := FT_of 472 (by decide +kernel) (by decide +kernel)
theorem w_MLXL_47 : Cond.methodLink RXL 47 yX9_forget ∈ FT := FT_of 1144 (by decide +kernel) (by decide +kernel)
theorem w_MLXL_50 : Cond.methodLink RXL 50 yX8_feed ∈ FT := FT_of 476 (by decide +kernel) (by decide +kernel)
theorem w_MLXL_54 : Cond.methodLink RXL 54 yX9_feed ∈ FT := FT_of 986 (by decide +kernel) (by decide +kernel)
theorem w_MLXL_55 : Cond.methodLink RXL 55 yX8_text ∈ FT := FT_of 480 (by decide +kernel) (by decide +kernel)
theorem w_MLXL_58 : Cond.methodLink RXL 58 yX9_text ∈ FT := FT_of 999 (by decide +kernel) (by decide +kernel)
theorem w_MLXL_59 : Cond.methodLink RXL 59 yX8_untell ∈ FT := FT_of 586 (by decide +kernel) (by decide +kernel)
theorem w_MLXL_62 : Cond.methodLink RXL 62 yX9_untell ∈ FT := FT_of 1043 (by decide +kernel) (by decide +kernel)
theorem w_MLXL_63 : Cond.methodLink RXL 63 yX8_cross ∈ FT := FT_of 595 (by decide +kernel) (by decide +kernel)
theorem w_MLXL_66 : Cond.methodLink RXL 66 yX9_cross ∈ FT := FT_of 1148 (by decide +kernel) (by decide +kernel)
theorem w_MLXL_67 : Cond.methodLink RXL 67 yX8_alone ∈ FT := FT_of 635 (by decide +kernel) (by decide +kernel)
theorem w_MLXL_70 : Cond.methodLink RXL 70 yX9_alone ∈ FT := FT_of 1173 (by decide +kernel) (by decide +kernel)
theorem w_MLXL_71 : Cond.methodLink RXL 71 yX8_draws ∈ FT := FT_of 643 (by decide +kernel) (by decide +kernel)
theorem w_MLXL_74 : Cond.methodLink RXL 74 yX9_draws ∈ FT := FT_of 1181 (by decide +kernel) (by decide +kernel)
theorem w_MLXL_75 : Cond.methodLink RXL 75 yX8_seed ∈ FT := FT_of 667 (by decide +kernel) (by decide +kernel)
theorem w_MLXL_78 : Cond.methodLink RXL 78 yX9_seed ∈ FT := FT_of 1194 (by decide +kernel) (by decide +kernel)
theorem w_MLXL_79 : Cond.methodLink RXL 79 yX8_book ∈ FT := FT_of 671 (by decide +kernel) (by decide +kernel)
theorem w_MLXL_82 : Cond.methodLink RXL 82 yX9_book ∈ FT := FT_of 1198 (by decide +kernel) (by decide +kernel)
theorem w_MLXL_83 : Cond.methodLink RXL 83 yX8_debt ∈ FT := FT_of 675 (by decide +kernel) (by decide +kernel)
theorem w_MLXL_86 : Cond.methodLink RXL 86 yX9_debt ∈ FT := FT_of 1202 (by decide +kernel) (by decide +kernel)
theorem w_MLXL_87 : Cond.methodLink RXL 87 yX8_debtIs ∈ FT := FT_of 683 (by decide +kernel) (by decide +kernel)
theorem w_MLXL_90 : Cond.methodLink RXL 90 yX9_debtIs ∈ FT := FT_of 1206 (by decide +kernel) (by decide +kernel)
theorem w_MLXL_91 : Cond.methodLink RXL 91 yX8_pay ∈ FT := FT_of 692 (by decide +kernel) (by decide +kernel)
theorem w_MLXL_94 : Cond.methodLink RXL 94 yX9_pay ∈ FT := FT_of 1218 (by decide +kernel) (by decide +kernel)
theorem w_MLXL_95 : Cond.methodLink RXL 95 yX8_loses ∈ FT := FT_of 701 (by decide +kernel) (by decide +kernel)
theorem w_MLXL_98 : Cond.methodLink RXL 98 yX9_loses ∈ FT := FT_of 1222 (by decide +kernel) (by decide +kernel)
theorem w_MLXL_99 : Cond.methodLink RXL 99 yX8_stranger ∈ FT := FT_of 719 (by decide +kernel) (by decide +kernel)
theorem w_MLXL_102 : Cond.methodLink RXL 102 yX9_stranger ∈ FT := FT_of 1238 (by decide +kernel) (by decide +kernel)
theorem w_MLXL_103 : Cond.methodLink RXL 103 yX8_way ∈ FT := FT_of 732 (by decide +kernel) (by decide +kernel)
theorem w_MLXL_106 : Cond.methodLink RXL 106 yX9_way ∈ FT := FT_of 1246 (by decide +kernel) (by decide +kernel)
theorem w_MLXL_107 : Cond.methodLink RXL 107 yX8_memory ∈ FT := FT_of 745 (by decide +kernel) (by decide +kernel)
theorem w_MLXL_110 : Cond.methodLink RXL 110 yX9_memory ∈ FT := FT_of 1254 (by decide +kernel) (by decide +kernel)
theorem w_MLXL_111 : Cond.methodLink RXL 111 yX8_hearsay ∈ FT := FT_of 754 (by decide +kernel) (by decide +kernel)
theorem w_MLXL_114 : Cond.methodLink RXL 114 yX9_hearsay ∈ FT := FT_of 1258 (by decide +kernel) (by decide +kernel)
theorem w_MLXL_115 : Cond.methodLink RXL 115 yX8_rows ∈ FT := FT_of 758 (by decide +kernel) (by decide +kernel)
theorem w_MLXL_118 : Cond.methodLink RXL 118 yX9_rows ∈ FT := FT_of 1262 (by decide +kernel) (by decide +kernel)
theorem w_MLXL_119 : Cond.methodLink RXL 119 yX8_voice ∈ FT := FT_of 783 (by decide +kernel) (by decide +kernel)
theorem w_MLXL_122 : Cond.methodLink RXL 122 yX9_voice ∈ FT := FT_of 1277 (by decide +kernel) (by decide +kernel)
theorem w_MLXL_123 : Cond.methodLink RXL 123 yX8_body ∈ FT := FT_of 808 (by decide +kernel) (by decide +kernel)
theorem w_MLXL_126 : Cond.methodLink RXL 126 yX9_body ∈ FT := FT_of 1312 (by decide +kernel) (by decide +kernel)
theorem w_MLXL_127 : Cond.methodLink RXL 127 yX8_sheet ∈ FT := FT_of 812 (by decide +kernel) (by decide +kernel)
theorem w_MLXL_130 : Cond.methodLink RXL 130 yX9_sheet ∈ FT := FT_of 1316 (by decide +kernel) (by decide +kernel)
theorem w_MLXL_131 : Cond.methodLink RXL 131 yX8_put ∈ FT := FT_of 831 (by decide +kernel) (by decide +kernel)
theorem w_MLXL_134 : Cond.methodLink RXL 134 yX9_put ∈ FT := FT_of 1323 (by decide +kernel) (by decide +kernel)
theorem w_MLXL_135 : Cond.methodLink RXL 135 yX8_move ∈ FT := FT_of 843 (by decide +kernel) (by decide +kernel)
theorem w_MLXL_139 : Cond.methodLink RXL 139 yX9_move ∈ FT := FT_of 1327 (by decide +kernel) (by decide +kernel)
theorem w_MLXL_140 : Cond.methodLink RXL 140 yX8_crossings ∈ FT := FT_of 852 (by decide +kernel) (by decide +kernel)
theorem w_MLXL_143 : Cond.methodLink RXL 143 yX9_crossings ∈ FT := FT_of 1331 (by decide +kernel) (by decide +kernel)
theorem w_MLXL_144 : Cond.methodLink RXL 144 yX8_judge ∈ FT := FT_of 856 (by decide +kernel) (by decide +kernel)
theorem w_MLXL_147 : Cond.methodLink RXL 147 yX9_judge ∈ FT := FT_of 1339 (by decide +kernel) (by decide +kernel)
theorem w_MLXL_148 : Cond.methodLink RXL 148 yX8_image ∈ FT := FT_of 860 (by decide +kernel) (by decide +kernel)
theorem w_MLXL_152 : Cond.methodLink RXL 152 yX9_image ∈ FT := FT_of 1343 (by decide +kernel) (by decide +kernel)
theorem w_MLXL_153 : Cond.methodLink RXL 153 yX8_restore ∈ FT := FT_of 873 (by decide +kernel) (by decide +kernel)
theorem w_MLXL_156 : Cond.methodLink RXL 156 yX9_restore ∈ FT := FT_of 1347 (by decide +kernel) (by decide +kernel)
theorem w_MLXL_157 : Cond.methodLink RXL 157 yX8_tell ∈ FT := FT_of 877 (by decide +kernel) (by decide +kernel)
theorem w_MLXL_160 : Cond.methodLink RXL 160 yX9_tell ∈ FT := FT_of 1351 (by decide +kernel) (by decide +kernel)
theorem w_MLXL_161 : Cond.methodLink RXL 161 yX8_check ∈ FT := FT_of 881 (by decide +kernel) (by decide +kernel)
theorem w_MLXL_164 : Cond.methodLink RXL 164 yX9_check ∈ FT := FT_of 1355 (by decide +kernel) (by decide +kernel)
theorem w_MLXL_165 : Cond.methodLink RXL 165 yX8_count ∈ FT := FT_of 886 (by decide +kernel) (by decide +kernel)
theorem w_MLXL_168 : Cond.methodLink RXL 168 yX9_count ∈ FT := FT_of 1359 (by decide +kernel) (by decide +kernel)
theorem w_MLXL_169 : Cond.methodLink RXL 169 yX8_told ∈ FT := FT_of 894 (by decide +kernel) (by decide +kernel)
theorem w_MLXL_172 : Cond.methodLink RXL 172 yX9_told ∈ FT := FT_of 1367 (by decide +kernel) (by decide +kernel)
theorem sl_X8_alone : Cond.selects yX8_alone.cls yX8_alone yX8_alone ∈ FT := FT_of 637 (by decide +kernel) (by decide +kernel)
theorem sl_X8_as : Cond.selects yX8_as.cls yX8_as yX8_as ∈ FT := FT_of 451 (by decide +kernel) (by decide +kernel)
theorem sl_X8_body : Cond.selects yX8_body.cls yX8_body yX8_body ∈ FT := FT_of 810 (by decide +kernel) (by decide +kernel)
theorem sl_X8_book : Cond.selects yX8_book.cls yX8_book yX8_book ∈ FT := FT_of 673 (by decide +kernel) (by decide +kernel)
theorem sl_X8_check : Cond.selects yX8_check.cls yX8_check yX8_check ∈ FT := FT_of 883 (by decide +kernel) (by decide +kernel)
theorem sl_X8_count : Cond.selects yX8_count.cls yX8_count yX8_count ∈ FT := FT_of 888 (by decide +kernel) (by decide +kernel)
theorem sl_X8_cross : Cond.selects yX8_cross.cls yX8_cross yX8_cross ∈ FT := FT_of 597 (by decide +kernel) (by decide +kernel)
theorem sl_X8_crossings : Cond.selects yX8_crossings.cls yX8_crossings yX8_crossings ∈ FT := FT_of 854 (by decide +kernel) (by decide +kernel)
theorem sl_X8_debt : Cond.selects yX8_debt.cls yX8_debt yX8_debt ∈ FT := FT_of 677 (by decide +kernel) (by decide +kernel)
theorem sl_X8_debtIs : Cond.selects yX8_debtIs.cls yX8_debtIs yX8_debtIs ∈ FT := FT_of 685 (by decide +kernel) (by decide +kernel)
theorem sl_X8_draws : Cond.selects yX8_draws.cls yX8_draws yX8_draws ∈ FT := FT_of 645 (by decide +kernel) (by decide +kernel)
theorem sl_X8_feed : Cond.selects yX8_feed.cls yX8_feed yX8_feed ∈ FT := FT_of 478 (by decide +kernel) (by decide +kernel)
theorem sl_X8_forget : Cond.selects yX8_forget.cls yX8_forget yX8_forget ∈ FT := FT_of 474 (by decide +kernel) (by decide +kernel)
theorem sl_X8_hearsay : Cond.selects yX8_hearsay.cls yX8_hearsay yX8_hearsay ∈ FT := FT_of 756 (by decide +kernel) (by decide +kernel)
theorem sl_X8_image : Cond.selects yX8_image.cls yX8_image yX8_image ∈ FT := FT_of 862 (by decide +kernel) (by decide +kernel)
theorem sl_X8_judge : Cond.selects yX8_judge.cls yX8_judge yX8_judge ∈ FT := FT_of 858 (by decide +kernel) (by decide +kernel)
theorem sl_X8_loses : Cond.selects yX8_loses.cls yX8_loses yX8_loses ∈ FT := FT_of 703 (by decide +kernel) (by decide +kernel)
theorem sl_X8_man : Cond.selects yX8_man.cls yX8_man yX8_man ∈ FT := FT_of 403 (by decide +kernel) (by decide +kernel)
theorem sl_X8_manIs : Cond.selects yX8_manIs.cls yX8_manIs yX8_manIs ∈ FT := FT_of 411 (by decide +kernel) (by decide +kernel)
theorem sl_X8_memory : Cond.selects yX8_memory.cls yX8_memory yX8_memory ∈ FT := FT_of 747 (by decide +kernel) (by decide +kernel)
theorem sl_X8_move : Cond.selects yX8_move.cls yX8_move yX8_move ∈ FT := FT_of 845 (by decide +kernel) (by decide +kernel)
theorem sl_X8_pay : Cond.selects yX8_pay.cls yX8_pay yX8_pay ∈ FT := FT_of 694 (by decide +kernel) (by decide +kernel)
theorem sl_X8_person : Cond.selects yX8_person.cls yX8_person yX8_person ∈ FT := FT_of 349 (by decide +kernel) (by decide +kernel)
theorem sl_X8_personIs : Cond.selects yX8_personIs.cls yX8_personIs yX8_personIs ∈ FT := FT_of 365 (by decide +kernel) (by decide +kernel)
theorem sl_X8_put : Cond.selects yX8_put.cls yX8_put yX8_put ∈ FT := FT_of 833 (by decide +kernel) (by decide +kernel)
theorem sl_X8_restore : Cond.selects yX8_restore.cls yX8_restore yX8_restore ∈ FT := FT_of 875 (by decide +kernel) (by decide +kernel)
theorem sl_X8_rows : Cond.selects yX8_rows.cls yX8_rows yX8_rows ∈ FT := FT_of 760 (by decide +kernel) (by decide +kernel)
theorem sl_X8_seed : Cond.selects yX8_seed.cls yX8_seed yX8_seed ∈ FT := FT_of 669 (by decide +kernel) (by decide +kernel)
theorem sl_X8_setMan : Cond.selects yX8_setMan.cls yX8_setMan yX8_setMan ∈ FT := FT_of 463 (by decide +kernel) (by decide +kernel)
theorem sl_X8_setPerson : Cond.selects yX8_setPerson.cls yX8_setPerson yX8_setPerson ∈ FT := FT_of 470 (by decide +kernel) (by decide +kernel)
theorem sl_X8_sheet : Cond.selects yX8_sheet.cls yX8_sheet yX8_sheet ∈ FT := FT_of 814 (by decide +kernel) (by decide +kernel)
theorem sl_X8_stranger : Cond.selects yX8_stranger.cls yX8_stranger yX8_stranger ∈ FT := FT_of 721 (by decide +kernel) (by decide +kernel)
theorem sl_X8_tell : Cond.selects yX8_tell.cls yX8_tell yX8_tell ∈ FT := FT_of 879 (by decide +kernel) (by decide +kernel)
theorem sl_X8_text : Cond.selects yX8_text.cls yX8_text yX8_text ∈ FT := FT_of 482 (by decide +kernel) (by decide +kernel)
theorem sl_X8_told : Cond.selects yX8_told.cls yX8_told yX8_told ∈ FT := FT_of 896 (by decide +kernel) (by decide +kernel)
theorem sl_X8_untell : Cond.selects yX8_untell.cls yX8_untell yX8_untell ∈ FT := FT_of 588 (by decide +kernel) (by decide +kernel)
theorem sl_X8_voice : Cond.selects yX8_voice.cls yX8_voice yX8_voice ∈ FT := FT_of 785 (by decide +kernel) (by decide +kernel)
theorem sl_X8_way : Cond.selects yX8_way.cls yX8_way yX8_way ∈ FT := FT_of 734 (by decide +kernel) (by decide +kernel)
theorem sl_X9_alone : Cond.selects yX9_alone.cls yX9_alone yX9_alone ∈ FT := FT_of 1175 (by decide +kernel) (by decide +kernel)
theorem sl_X9_as : Cond.selects yX9_as.cls yX9_as yX9_as ∈ FT := FT_of 1131 (by decide +kernel) (by decide +kernel)
theorem sl_X9_body : Cond.selects yX9_body.cls yX9_body yX9_body ∈ FT := FT_of 1314 (by decide +kernel) (by decide +kernel)
theorem sl_X9_book : Cond.selects yX9_book.cls yX9_book yX9_book ∈ FT := FT_of 1200 (by decide +kernel) (by decide +kernel)
theorem sl_X9_check : Cond.selects yX9_check.cls yX9_check yX9_check ∈ FT := FT_of 1357 (by decide +kernel) (by decide +kernel)
theorem sl_X9_count : Cond.selects yX9_count.cls yX9_count yX9_count ∈ FT := FT_of 1361 (by decide +kernel) (by decide +kernel)
theorem sl_X9_cross : Cond.selects yX9_cross.cls yX9_cross yX9_cross ∈ FT := FT_of 1150 (by decide +kernel) (by decide +kernel)
theorem sl_X9_crossings : Cond.selects yX9_crossings.cls yX9_crossings yX9_crossings ∈ FT := FT_of 1333 (by decide +kernel) (by decide +kernel)
theorem sl_X9_debt : Cond.selects yX9_debt.cls yX9_debt yX9_debt ∈ FT := FT_of 1204 (by decide +kernel) (by decide +kernel)
theorem sl_X9_debtIs : Cond.selects yX9_debtIs.cls yX9_debtIs yX9_debtIs ∈ FT := FT_of 1208 (by decide +kernel) (by decide +kernel)
theorem sl_X9_draws : Cond.selects yX9_draws.cls yX9_draws yX9_draws ∈ FT := FT_of 1183 (by decide +kernel) (by decide +kernel)
theorem sl_X9_feed : Cond.selects yX9_feed.cls yX9_feed yX9_feed ∈ FT := FT_of 988 (by decide +kernel) (by decide +kernel)
theorem sl_X9_forget : Cond.selects yX9_forget.cls yX9_forget yX9_forget ∈ FT := FT_of 1146 (by decide +kernel) (by decide +kernel)
theorem sl_X9_hearsay : Cond.selects yX9_hearsay.cls yX9_hearsay yX9_hearsay ∈ FT := FT_of 1260 (by decide +kernel) (by decide +kernel)
theorem sl_X9_image : Cond.selects yX9_image.cls yX9_image yX9_image ∈ FT := FT_of 1345 (by decide +kernel) (by decide +kernel)
theorem sl_X9_judge : Cond.selects yX9_judge.cls yX9_judge yX9_judge ∈ FT := FT_of 1341 (by decide +kernel) (by decide +kernel)
theorem sl_X9_loses : Cond.selects yX9_loses.cls yX9_loses yX9_loses ∈ FT := FT_of 1224 (by decide +kernel) (by decide +kernel)
theorem sl_X9_man : Cond.selects yX9_man.cls yX9_man yX9_man ∈ FT := FT_of 1089 (by decide +kernel) (by decide +kernel)
theorem sl_X9_manIs : Cond.selects yX9_manIs.cls yX9_manIs yX9_manIs ∈ FT := FT_of 1097 (by decide +kernel) (by decide +kernel)
theorem sl_X9_memory : Cond.selects yX9_memory.cls yX9_memory yX9_memory ∈ FT := FT_of 1256 (by decide +kernel) (by decide +kernel)
theorem sl_X9_move : Cond.selects yX9_move.cls yX9_move yX9_move ∈ FT := FT_of 1329 (by decide +kernel) (by decide +kernel)
theorem sl_X9_pay : Cond.selects yX9_pay.cls yX9_pay yX9_pay ∈ FT := FT_of 1220 (by decide +kernel) (by decide +kernel)
theorem sl_X9_person : Cond.selects yX9_person.cls yX9_person yX9_person ∈ FT := FT_of 1053 (by decide +kernel) (by decide +kernel)
theorem sl_X9_personIs : Cond.selects yX9_personIs.cls yX9_personIs yX9_personIs ∈ FT := FT_of 1057 (by decide +kernel) (by decide +kernel)
theorem sl_X9_put : Cond.selects yX9_put.cls yX9_put yX9_put ∈ FT := FT_of 1325 (by decide +kernel) (by decide +kernel)
theorem sl_X9_restore : Cond.selects yX9_restore.cls yX9_restore yX9_restore ∈ FT := FT_of 1349 (by decide +kernel) (by decide +kernel)
theorem sl_X9_rows : Cond.selects yX9_rows.cls yX9_rows yX9_rows ∈ FT := FT_of 1264 (by decide +kernel) (by decide +kernel)
theorem sl_X9_seed : Cond.selects yX9_seed.cls yX9_seed yX9_seed ∈ FT := FT_of 1196 (by decide +kernel) (by decide +kernel)
theorem sl_X9_setMan : Cond.selects yX9_setMan.cls yX9_setMan yX9_setMan ∈ FT := FT_of 1138 (by decide +kernel) (by decide +kernel)
theorem sl_X9_setPerson : Cond.selects yX9_setPerson.cls yX9_setPerson yX9_setPerson ∈ FT := FT_of 1142 (by decide +kernel) (by decide +kernel)
theorem sl_X9_sheet : Cond.selects yX9_sheet.cls yX9_sheet yX9_sheet ∈ FT := FT_of 1318 (by decide +kernel) (by decide +kernel)
theorem sl_X9_stranger : Cond.selects yX9_stranger.cls yX9_stranger yX9_stranger ∈ FT := FT_of 1240 (by decide +kernel) (by decide +kernel)
theorem sl_X9_tell : Cond.selects yX9_tell.cls yX9_tell yX9_tell ∈ FT := FT_of 1353 (by decide +kernel) (by decide +kernel)
theorem sl_X9_text : Cond.selects yX9_text.cls yX9_text yX9_text ∈ FT := FT_of 1001 (by decide +kernel) (by decide +kernel)
theorem sl_X9_told : Cond.selects yX9_told.cls yX9_told yX9_told ∈ FT := FT_of 1369 (by decide +kernel) (by decide +kernel)
theorem sl_X9_untell : Cond.selects yX9_untell.cls yX9_untell yX9_untell ∈ FT := FT_of 1045 (by decide +kernel) (by decide +kernel)
theorem sl_X9_voice : Cond.selects yX9_voice.cls yX9_voice yX9_voice ∈ FT := FT_of 1279 (by decide +kernel) (by decide +kernel)
theorem sl_X9_way : Cond.selects yX9_way.cls yX9_way yX9_way ∈ FT := FT_of 1248 (by decide +kernel) (by decide +kernel)
theorem yw_X8_alone : Yw yX8_alone cX8_alone 2 (some .int) 1 := ⟨FT_of 638 (by decide +kernel) (by decide +kernel), w_in_X8, (by decide +kernel), (by decide +kernel), (by decide)⟩
theorem yw_X8_as : Yw yX8_as cX8_as 3 (some .int) 2 := ⟨FT_of 452 (by decide +kernel) (by decide +kernel), w_in_X8, (by decide +kernel), (by decide +kernel), (by decide)⟩
theorem yw_X8_body : Yw yX8_body cX8_body 2 (some .int) 1 := ⟨FT_of 811 (by decide +kernel) (by decide +kernel), w_in_X8, (by decide +kernel), (by decide +kernel), (by decide)⟩
theorem yw_X8_book : Yw yX8_book cX8_book 2 (some .int) 1 := ⟨FT_of 674 (by decide +kernel) (by decide +kernel), w_in_X8, (by decide +kernel), (by decide +kernel), (by decide)⟩
theorem yw_X8_check : Yw yX8_check cX8_check 6 (some .int) 1 := ⟨FT_of 884 (by decide +kernel) (by decide +kernel), w_in_X8, (by decide +kernel), (by decide +kernel), (by decide)⟩
theorem yw_X8_count : Yw yX8_count cX8_count 2 (some .int) 1 := ⟨FT_of 889 (by decide +kernel) (by decide +kernel), w_in_X8, (by decide +kernel), (by decide +kernel), (by decide)⟩
theorem yw_X8_cross : Yw yX8_cross cX8_cross 4 (some .int) 2 := ⟨FT_of 598 (by decide +kernel) (by decide +kernel), w_in_X8, (by decide +kernel), (by decide +kernel), (by decide)⟩
theorem yw_X8_crossings : Yw yX8_crossings cX8_crossings 5 (some .int) 1 := ⟨FT_of 855 (by decide +kernel) (by decide +kernel), w_in_X8, (by decide +kernel), (by decide +kernel), (by decide)⟩
theorem yw_X8_debt : Yw yX8_debt cX8_debt 5 (some .int) 3 := ⟨FT_of 678 (by decide +kernel) (by decide +kernel), w_in_X8, (by decide +kernel), (by decide +kernel), (by decide)⟩
theorem yw_X8_debtIs : Yw yX8_debtIs cX8_debtIs 4 (some .int) 2 := ⟨FT_of 686 (by decide +kernel) (by decide +kernel), w_in_X8, (by decide +kernel), (by decide +kernel), (by decide)⟩
theorem yw_X8_draws : Yw yX8_draws cX8_draws 3 (some .int) 1 := ⟨FT_of 646 (by decide +kernel) (by decide +kernel), w_in_X8, (by decide +kernel), (by decide +kernel), (by decide)⟩
theorem yw_X8_feed : Yw yX8_feed cX8_feed 5 (some .int) 2 := ⟨FT_of 479 (by decide +kernel) (by decide +kernel), w_in_X8, (by decide +kernel), (by decide +kernel), (by decide)⟩
theorem yw_X8_forget : Yw yX8_forget cX8_forget 2 (some .int) 1 := ⟨FT_of 475 (by decide +kernel) (by decide +kernel), w_in_X8, (by decide +kernel), (by decide +kernel), (by decide)⟩
theorem yw_X8_hearsay : Yw yX8_hearsay cX8_hearsay 4 (some .int) 2 := ⟨FT_of 757 (by decide +kernel) (by decide +kernel), w_in_X8, (by decide +kernel), (by decide +kernel), (by decide)⟩
theorem yw_X8_image : Yw yX8_image cX8_image 1 (some .int) 0 := ⟨FT_of 863 (by decide +kernel) (by decide +kernel), w_in_X8, (by decide +kernel), (by decide +kernel), (by decide)⟩
theorem yw_X8_judge : Yw yX8_judge cX8_judge 7 (some .int) 2 := ⟨FT_of 859 (by decide +kernel) (by decide +kernel), w_in_X8, (by decide +kernel), (by decide +kernel), (by decide)⟩
theorem yw_X8_loses : Yw yX8_loses cX8_loses 5 (some .int) 2 := ⟨FT_of 704 (by decide +kernel) (by decide +kernel), w_in_X8, (by decide +kernel), (by decide +kernel), (by decide)⟩
theorem yw_X8_man : Yw yX8_man cX8_man 3 (some .int) 2 := ⟨FT_of 404 (by decide +kernel) (by decide +kernel), w_in_X8, (by decide +kernel), (by decide +kernel), (by decide)⟩
theorem yw_X8_manIs : Yw yX8_manIs cX8_manIs 4 (some .int) 2 := ⟨FT_of 412 (by decide +kernel) (by decide +kernel), w_in_X8, (by decide +kernel), (by decide +kernel), (by decide)⟩
theorem yw_X8_memory : Yw yX8_memory cX8_memory 4 (some .int) 2 := ⟨FT_of 748 (by decide +kernel) (by decide +kernel), w_in_X8, (by decide +kernel), (by decide +kernel), (by decide)⟩
theorem yw_X8_move : Yw yX8_move cX8_move 6 (some .int) 5 := ⟨FT_of 846 (by decide +kernel) (by decide +kernel), w_in_X8, (by decide +kernel), (by decide +kernel), (by decide)⟩
theorem yw_X8_pay : Yw yX8_pay cX8_pay 7 (some .int) 1 := ⟨FT_of 695 (by decide +kernel) (by decide +kernel), w_in_X8, (by decide +kernel), (by decide +kernel), (by decide)⟩
theorem yw_X8_person : Yw yX8_person cX8_person 2 (some .int) 1 := ⟨FT_of 350 (by decide +kernel) (by decide +kernel), w_in_X8, (by decide +kernel), (by decide +kernel), (by decide)⟩
theorem yw_X8_personIs : Yw yX8_personIs cX8_personIs 4 (some .int) 2 := ⟨FT_of 366 (by decide +kernel) (by decide +kernel), w_in_X8, (by decide +kernel), (by decide +kernel), (by decide)⟩
theorem yw_X8_put : Yw yX8_put cX8_put 4 (some .int) 3 := ⟨FT_of 834 (by decide +kernel) (by decide +kernel), w_in_X8, (by decide +kernel), (by decide +kernel), (by decide)⟩
theorem yw_X8_restore : Yw yX8_restore cX8_restore 1 (some .int) 0 := ⟨FT_of 876 (by decide +kernel) (by decide +kernel), w_in_X8, (by decide +kernel), (by decide +kernel), (by decide)⟩
theorem yw_X8_rows : Yw yX8_rows cX8_rows 3 (some .int) 2 := ⟨FT_of 761 (by decide +kernel) (by decide +kernel), w_in_X8, (by decide +kernel), (by decide +kernel), (by decide)⟩
theorem yw_X8_seed : Yw yX8_seed cX8_seed 3 (some .int) 1 := ⟨FT_of 670 (by decide +kernel) (by decide +kernel), w_in_X8, (by decide +kernel), (by decide +kernel), (by decide)⟩
theorem yw_X8_setMan : Yw yX8_setMan cX8_setMan 5 (some .int) 3 := ⟨FT_of 464 (by decide +kernel) (by decide +kernel), w_in_X8, (by decide +kernel), (by decide +kernel), (by decide)⟩
theorem yw_X8_setPerson : Yw yX8_setPerson cX8_setPerson 5 (some .int) 3 := ⟨FT_of 471 (by decide +kernel) (by decide +kernel), w_in_X8, (by decide +kernel), (by decide +kernel), (by decide)⟩
theorem yw_X8_sheet : Yw yX8_sheet cX8_sheet 4 (some .int) 3 := ⟨FT_of 815 (by decide +kernel) (by decide +kernel), w_in_X8, (by decide +kernel), (by decide +kernel), (by decide)⟩
theorem yw_X8_stranger : Yw yX8_stranger cX8_stranger 5 (some .int) 3 := ⟨FT_of 722 (by decide +kernel) (by decide +kernel), w_in_X8, (by decide +kernel), (by decide +kernel), (by decide)⟩
theorem yw_X8_tell : Yw yX8_tell cX8_tell 2 (some .int) 1 := ⟨FT_of 880 (by decide +kernel) (by decide +kernel), w_in_X8, (by decide +kernel), (by decide +kernel), (by decide)⟩
theorem yw_X8_text : Yw yX8_text cX8_text 4 (some .int) 1 := ⟨FT_of 483 (by decide +kernel) (by decide +kernel), w_in_X8, (by decide +kernel), (by decide +kernel), (by decide)⟩
theorem yw_X8_told : Yw yX8_told cX8_told 2 (some .int) 1 := ⟨FT_of 897 (by decide +kernel) (by decide +kernel), w_in_X8, (by decide +kernel), (by decide +kernel), (by decide)⟩
theorem yw_X8_untell : Yw yX8_untell cX8_untell 3 (some .int) 1 := ⟨FT_of 589 (by decide +kernel) (by decide +kernel), w_in_X8, (by decide +kernel), (by decide +kernel), (by decide)⟩
theorem yw_X8_voice : Yw yX8_voice cX8_voice 6 (some .int) 3 := ⟨FT_of 786 (by decide +kernel) (by decide +kernel), w_in_X8, (by decide +kernel), (by decide +kernel), (by decide)⟩
theorem yw_X8_way : Yw yX8_way cX8_way 4 (some .int) 3 := ⟨FT_of 735 (by decide +kernel) (by decide +kernel), w_in_X8, (by decide +kernel), (by decide +kernel), (by decide)⟩
theorem yw_X9_alone : Yw yX9_alone cX9_alone 2 (some .int) 1 := ⟨FT_of 1176 (by decide +kernel) (by decide +kernel), w_in_X9, (by decide +kernel), (by decide +kernel), (by decide)⟩
theorem yw_X9_as : Yw yX9_as cX9_as 3 (some .int) 2 := ⟨FT_of 1132 (by decide +kernel) (by decide +kernel), w_in_X9, (by decide +kernel), (by decide +kernel), (by decide)⟩
theorem yw_X9_body : Yw yX9_body cX9_body 2 (some .int) 1 := ⟨FT_of 1315 (by decide +kernel) (by decide +kernel), w_in_X9, (by decide +kernel), (by decide +kernel), (by decide)⟩
theorem yw_X9_book : Yw yX9_book cX9_book 2 (some .int) 1 := ⟨FT_of 1201 (by decide +kernel) (by decide +kernel), w_in_X9, (by decide +kernel), (by decide +kernel), (by decide)⟩
theorem yw_X9_check : Yw yX9_check cX9_check 7 (some .int) 1 := ⟨FT_of 1358 (by decide +kernel) (by decide +kernel), w_in_X9, (by decide +kernel), (by decide +kernel), (by decide)⟩
theorem yw_X9_count : Yw yX9_count cX9_count 2 (some .int) 1 := ⟨FT_of 1362 (by decide +kernel) (by decide +kernel), w_in_X9, (by decide +kernel), (by decide +kernel), (by decide)⟩
theorem yw_X9_cross : Yw yX9_cross cX9_cross 4 (some .int) 2 := ⟨FT_of 1151 (by decide +kernel) (by decide +kernel), w_in_X9, (by decide +kernel), (by decide +kernel), (by decide)⟩
theorem yw_X9_crossings : Yw yX9_crossings cX9_crossings 6 (some .int) 1 := ⟨FT_of 1334 (by decide +kernel) (by decide +kernel), w_in_X9, (by decide +kernel), (by decide +kernel), (by decide)⟩
theorem yw_X9_debt : Yw yX9_debt cX9_debt 5 (some .int) 3 := ⟨FT_of 1205 (by decide +kernel) (by decide +kernel), w_in_X9, (by decide +kernel), (by decide +kernel), (by decide)⟩
theorem yw_X9_debtIs : Yw yX9_debtIs cX9_debtIs 3 (some .int) 2 := ⟨FT_of 1209 (by decide +kernel) (by decide +kernel), w_in_X9, (by decide +kernel), (by decide +kernel), (by decide)⟩
theorem yw_X9_draws : Yw yX9_draws cX9_draws 3 (some .int) 1 := ⟨FT_of 1184 (by decide +kernel) (by decide +kernel), w_in_X9, (by decide +kernel), (by decide +kernel), (by decide)⟩
theorem yw_X9_feed : Yw yX9_feed cX9_feed 5 (some .int) 2 := ⟨FT_of 989 (by decide +kernel) (by decide +kernel), w_in_X9, (by decide +kernel), (by decide +kernel), (by decide)⟩
theorem yw_X9_forget : Yw yX9_forget cX9_forget 3 (some .int) 1 := ⟨FT_of 1147 (by decide +kernel) (by decide +kernel), w_in_X9, (by decide +kernel), (by decide +kernel), (by decide)⟩
theorem yw_X9_hearsay : Yw yX9_hearsay cX9_hearsay 6 (some .int) 2 := ⟨FT_of 1261 (by decide +kernel) (by decide +kernel), w_in_X9, (by decide +kernel), (by decide +kernel), (by decide)⟩
theorem yw_X9_image : Yw yX9_image cX9_image 1 (some .int) 0 := ⟨FT_of 1346 (by decide +kernel) (by decide +kernel), w_in_X9, (by decide +kernel), (by decide +kernel), (by decide)⟩
theorem yw_X9_judge : Yw yX9_judge cX9_judge 5 (some .int) 2 := ⟨FT_of 1342 (by decide +kernel) (by decide +kernel), w_in_X9, (by decide +kernel), (by decide +kernel), (by decide)⟩
theorem yw_X9_loses : Yw yX9_loses cX9_loses 6 (some .int) 2 := ⟨FT_of 1225 (by decide +kernel) (by decide +kernel), w_in_X9, (by decide +kernel), (by decide +kernel), (by decide)⟩
theorem yw_X9_man : Yw yX9_man cX9_man 4 (some .int) 2 := ⟨FT_of 1090 (by decide +kernel) (by decide +kernel), w_in_X9, (by decide +kernel), (by decide +kernel), (by decide)⟩
theorem yw_X9_manIs : Yw yX9_manIs cX9_manIs 3 (some .int) 2 := ⟨FT_of 1098 (by decide +kernel) (by decide +kernel), w_in_X9, (by decide +kernel), (by decide +kernel), (by decide)⟩
theorem yw_X9_memory : Yw yX9_memory cX9_memory 7 (some .int) 2 := ⟨FT_of 1257 (by decide +kernel) (by decide +kernel), w_in_X9, (by decide +kernel), (by decide +kernel), (by decide)⟩
theorem yw_X9_move : Yw yX9_move cX9_move 7 (some .int) 5 := ⟨FT_of 1330 (by decide +kernel) (by decide +kernel), w_in_X9, (by decide +kernel), (by decide +kernel), (by decide)⟩
theorem yw_X9_pay : Yw yX9_pay cX9_pay 6 (some .int) 1 := ⟨FT_of 1221 (by decide +kernel) (by decide +kernel), w_in_X9, (by decide +kernel), (by decide +kernel), (by decide)⟩
theorem yw_X9_person : Yw yX9_person cX9_person 2 (some .int) 1 := ⟨FT_of 1054 (by decide +kernel) (by decide +kernel), w_in_X9, (by decide +kernel), (by decide +kernel), (by decide)⟩
theorem yw_X9_personIs : Yw yX9_personIs cX9_personIs 3 (some .int) 2 := ⟨FT_of 1058 (by decide +kernel) (by decide +kernel), w_in_X9, (by decide +kernel), (by decide +kernel), (by decide)⟩
theorem yw_X9_put : Yw yX9_put cX9_put 5 (some .int) 3 := ⟨FT_of 1326 (by decide +kernel) (by decide +kernel), w_in_X9, (by decide +kernel), (by decide +kernel), (by decide)⟩
theorem yw_X9_restore : Yw yX9_restore cX9_restore 1 (some .int) 0 := ⟨FT_of 1350 (by decide +kernel) (by decide +kernel), w_in_X9, (by decide +kernel), (by decide +kernel), (by decide)⟩
theorem yw_X9_rows : Yw yX9_rows cX9_rows 3 (some .int) 2 := ⟨FT_of 1265 (by decide +kernel) (by decide +kernel), w_in_X9, (by decide +kernel), (by decide +kernel), (by decide)⟩
theorem yw_X9_seed : Yw yX9_seed cX9_seed 3 (some .int) 1 := ⟨FT_of 1197 (by decide +kernel) (by decide +kernel), w_in_X9, (by decide +kernel), (by decide +kernel), (by decide)⟩
theorem yw_X9_setMan : Yw yX9_setMan cX9_setMan 5 (some .int) 3 := ⟨FT_of 1139 (by decide +kernel) (by decide +kernel), w_in_X9, (by decide +kernel), (by decide +kernel), (by decide)⟩
theorem yw_X9_setPerson : Yw yX9_setPerson cX9_setPerson 5 (some .int) 3 := ⟨FT_of 1143 (by decide +kernel) (by decide +kernel), w_in_X9, (by decide +kernel), (by decide +kernel), (by decide)⟩
theorem yw_X9_sheet : Yw yX9_sheet cX9_sheet 5 (some .int) 3 := ⟨FT_of 1319 (by decide +kernel) (by decide +kernel), w_in_X9, (by decide +kernel), (by decide +kernel), (by decide)⟩
theorem yw_X9_stranger : Yw yX9_stranger cX9_stranger 5 (some .int) 3 := ⟨FT_of 1241 (by decide +kernel) (by decide +kernel), w_in_X9, (by decide +kernel), (by decide +kernel), (by decide)⟩
theorem yw_X9_tell : Yw yX9_tell cX9_tell 2 (some .int) 1 := ⟨FT_of 1354 (by decide +kernel) (by decide +kernel), w_in_X9, (by decide +kernel), (by decide +kernel), (by decide)⟩
theorem yw_X9_text : Yw yX9_text cX9_text 5 (some .int) 1 := ⟨FT_of 1002 (by decide +kernel) (by decide +kernel), w_in_X9, (by decide +kernel), (by decide +kernel), (by decide)⟩
theorem yw_X9_told : Yw yX9_told cX9_told 2 (some .int) 1 := ⟨FT_of 1370 (by decide +kernel) (by decide +kernel), w_in_X9, (by decide +kernel), (by decide +kernel), (by decide)⟩
theorem yw_X9_untell : Yw yX9_untell cX9_untell 3 (some .int) 1 := ⟨FT_of 1046 (by decide +kernel) (by decide +kernel), w_in_X9, (by decide +kernel), (by decide +kernel), (by decide)⟩
theorem yw_X9_voice : Yw yX9_voice cX9_voice 6 (some .int) 3 := ⟨FT_of 1280 (by decide +kernel) (by decide +kernel), w_in_X9, (by decide +kernel), (by decide +kernel), (by decide)⟩
theorem yw_X9_way : Yw yX9_way cX9_way 5 (some .int) 3 := ⟨FT_of 1249 (by decide +kernel) (by decide +kernel), w_in_X9, (by decide +kernel), (by decide +kernel), (by decide)⟩
def fXL (L : Nat) (xs : Nat → Int32) : Nat → Hp → Nat → Nat → Int32 → Option (Int32 × Hp)
  | 0, _, _, _, _ => none
  | n18 + 1, h, a1, a2, x3 =>
    if (((nI L)) - 6) < x3 then
      some (1, h)
    else
      (rdT L xs x3).bind fun v29 =>
      if (v29 &&& 63) = 0 then
        (rdT L xs (x3 + 1)).bind fun v205 =>
        (fX8_person h a1 v205).bind fun q206 =>
        (rdT L xs (x3 + 1)).bind fun v214 =>
        (fX9_person q206.2 a2 v214).bind fun q215 =>
        if q206.1 = q215.1 then
          fXL L xs n18 q215.2 a1 a2 (x3 + 6)
        else
          some (0, q215.2)
      else
        if (v29 &&& 63) = 1 then
          (rdT L xs (x3 + 1)).bind fun v228 =>
          (rdT L xs (x3 + 2)).bind fun v233 =>
          (fX8_personIs h a1 v228 v233).bind fun q234 =>
          (rdT L xs (x3 + 1)).bind fun v242 =>
          (rdT L xs (x3 + 2)).bind fun v247 =>
          (fX9_personIs q234.2 a2 v242 v247).bind fun q248 =>
          if q234.1 = q248.1 then
            fXL L xs n18 q248.2 a1 a2 (x3 + 6)
          else
            some (0, q248.2)
        else
          if (v29 &&& 63) = 2 then
            (rdT L xs (x3 + 1)).bind fun v261 =>
            (rdT L xs (x3 + 2)).bind fun v266 =>
            (fX8_man h a1 v261 v266).bind fun q267 =>
            (rdT L xs (x3 + 1)).bind fun v275 =>
            (rdT L xs (x3 + 2)).bind fun v280 =>
            (fX9_man q267.2 a2 v275 v280).bind fun q281 =>
            if q267.1 = q281.1 then
              fXL L xs n18 q281.2 a1 a2 (x3 + 6)
            else
              some (0, q281.2)
          else
            if (v29 &&& 63) = 3 then
              (rdT L xs (x3 + 1)).bind fun v294 =>
              (rdT L xs (x3 + 2)).bind fun v299 =>
              (fX8_manIs h a1 v294 v299).bind fun q300 =>
              (rdT L xs (x3 + 1)).bind fun v308 =>
              (rdT L xs (x3 + 2)).bind fun v313 =>
              (fX9_manIs q300.2 a2 v308 v313).bind fun q314 =>
              if q300.1 = q314.1 then
                fXL L xs n18 q314.2 a1 a2 (x3 + 6)
              else
                some (0, q314.2)
            else
              if (v29 &&& 63) = 4 then
                (rdT L xs (x3 + 1)).bind fun v327 =>
                (rdT L xs (x3 + 2)).bind fun v332 =>
                (fX8_as h a1 v327 v332).bind fun q333 =>
                (rdT L xs (x3 + 1)).bind fun v341 =>
                (rdT L xs (x3 + 2)).bind fun v346 =>
                (fX9_as q333.2 a2 v341 v346).bind fun q347 =>
                if q333.1 = q347.1 then
                  fXL L xs n18 q347.2 a1 a2 (x3 + 6)
                else
                  some (0, q347.2)
              else
                if (v29 &&& 63) = 5 then
                  (rdT L xs (x3 + 1)).bind fun v360 =>
                  (rdT L xs (x3 + 2)).bind fun v365 =>
                  (rdT L xs (x3 + 3)).bind fun v370 =>
                  (fX8_setMan h a1 v360 v365 v370).bind fun q371 =>
                  (rdT L xs (x3 + 1)).bind fun v379 =>
                  (rdT L xs (x3 + 2)).bind fun v384 =>
                  (rdT L xs (x3 + 3)).bind fun v389 =>
                  (fX9_setMan q371.2 a2 v379 v384 v389).bind fun q390 =>
                  if q371.1 = q390.1 then
                    fXL L xs n18 q390.2 a1 a2 (x3 + 6)
                  else
                    some (0, q390.2)
                else
                  if (v29 &&& 63) = 6 then
                    (rdT L xs (x3 + 1)).bind fun v403 =>
                    (rdT L xs (x3 + 2)).bind fun v408 =>
                    (rdT L xs (x3 + 3)).bind fun v413 =>
                    (fX8_setPerson h a1 v403 v408 v413).bind fun q414 =>
                    (rdT L xs (x3 + 1)).bind fun v422 =>
                    (rdT L xs (x3 + 2)).bind fun v427 =>
                    (rdT L xs (x3 + 3)).bind fun v432 =>
                    (fX9_setPerson q414.2 a2 v422 v427 v432).bind fun q433 =>
                    if q414.1 = q433.1 then
                      fXL L xs n18 q433.2 a1 a2 (x3 + 6)
                    else
                      some (0, q433.2)
                  else
                    if (v29 &&& 63) = 7 then
                      (rdT L xs (x3 + 1)).bind fun v446 =>
                      (fX8_forget h a1 v446).bind fun q447 =>
                      (rdT L xs (x3 + 1)).bind fun v455 =>
                      (fX9_forget q447.2 a2 v455).bind fun q456 =>
                      if q447.1 = q456.1 then
                        fXL L xs n18 q456.2 a1 a2 (x3 + 6)
                      else
                        some (0, q456.2)
                    else
                      if (v29 &&& 63) = 8 then
                        (rdT L xs (x3 + 1)).bind fun v469 =>
                        (rdT L xs (x3 + 2)).bind fun v478 =>
                        (rdT L xs (x3 + 3)).bind fun v489 =>
                        (fX8_feed h a1 ((lshl v469.toInt64 32) ||| (v478.toInt64 &&& 4294967295)) v489).bind fun q490 =>
                        (rdT L xs (x3 + 1)).bind fun v498 =>
                        (rdT L xs (x3 + 2)).bind fun v507 =>
                        (rdT L xs (x3 + 3)).bind fun v518 =>
                        (fX9_feed q490.2 a2 ((lshl v498.toInt64 32) ||| (v507.toInt64 &&& 4294967295)) v518).bind fun q519 =>
                        if q490.1 = q519.1 then
                          fXL L xs n18 q519.2 a1 a2 (x3 + 6)
                        else
                          some (0, q519.2)
                      else
                        if (v29 &&& 63) = 9 then
                          (rdT L xs (x3 + 1)).bind fun v532 =>
                          (fX8_text h a1 v532).bind fun q533 =>
                          (rdT L xs (x3 + 1)).bind fun v541 =>
                          (fX9_text q533.2 a2 v541).bind fun q542 =>
                          if q533.1 = q542.1 then
                            fXL L xs n18 q542.2 a1 a2 (x3 + 6)
                          else
                            some (0, q542.2)
                        else
                          if (v29 &&& 63) = 10 then
                            (rdT L xs (x3 + 1)).bind fun v555 =>
                            (fX8_untell h a1 v555).bind fun q556 =>
                            (rdT L xs (x3 + 1)).bind fun v564 =>
                            (fX9_untell q556.2 a2 v564).bind fun q565 =>
                            if q556.1 = q565.1 then
                              fXL L xs n18 q565.2 a1 a2 (x3 + 6)
                            else
                              some (0, q565.2)
                          else
                            if (v29 &&& 63) = 11 then
                              (rdT L xs (x3 + 1)).bind fun v578 =>
                              (rdT L xs (x3 + 2)).bind fun v583 =>
                              (fX8_cross h a1 v578 v583).bind fun q584 =>
                              (rdT L xs (x3 + 1)).bind fun v592 =>
                              (rdT L xs (x3 + 2)).bind fun v597 =>
                              (fX9_cross q584.2 a2 v592 v597).bind fun q598 =>
                              if q584.1 = q598.1 then
                                fXL L xs n18 q598.2 a1 a2 (x3 + 6)
                              else
                                some (0, q598.2)
                            else
                              if (v29 &&& 63) = 12 then
                                (rdT L xs (x3 + 1)).bind fun v611 =>
                                (fX8_alone h a1 v611).bind fun q612 =>
                                (rdT L xs (x3 + 1)).bind fun v620 =>
                                (fX9_alone q612.2 a2 v620).bind fun q621 =>
                                if q612.1 = q621.1 then
                                  fXL L xs n18 q621.2 a1 a2 (x3 + 6)
                                else
                                  some (0, q621.2)
                              else
                                if (v29 &&& 63) = 13 then
                                  (rdT L xs (x3 + 1)).bind fun v634 =>
                                  (fX8_draws h a1 v634).bind fun q635 =>
                                  (rdT L xs (x3 + 1)).bind fun v643 =>
                                  (fX9_draws q635.2 a2 v643).bind fun q644 =>
                                  if q635.1 = q644.1 then
                                    fXL L xs n18 q644.2 a1 a2 (x3 + 6)
                                  else
                                    some (0, q644.2)
                                else
                                  if (v29 &&& 63) = 14 then
                                    (rdT L xs (x3 + 1)).bind fun v657 =>
                                    (fX8_seed h a1 v657).bind fun q658 =>
                                    (rdT L xs (x3 + 1)).bind fun v666 =>
                                    (fX9_seed q658.2 a2 v666).bind fun q667 =>
                                    if q658.1 = q667.1 then
                                      fXL L xs n18 q667.2 a1 a2 (x3 + 6)
                                    else
                                      some (0, q667.2)
                                  else
                                    if (v29 &&& 63) = 15 then
                                      (rdT L xs (x3 + 1)).bind fun v680 =>
                                      (fX8_book h a1 v680).bind fun q681 =>
                                      (rdT L xs (x3 + 1)).bind fun v689 =>
                                      (fX9_book q681.2 a2 v689).bind fun q690 =>
                                      if q681.1 = q690.1 then
                                        fXL L xs n18 q690.2 a1 a2 (x3 + 6)
                                      else
                                        some (0, q690.2)
                                    else
                                      if (v29 &&& 63) = 16 then
                                        (rdT L xs (x3 + 1)).bind fun v703 =>
                                        (rdT L xs (x3 + 2)).bind fun v708 =>
                                        (rdT L xs (x3 + 3)).bind fun v713 =>
                                        (fX8_debt h a1 v703 v708 v713).bind fun q714 =>
                                        (rdT L xs (x3 + 1)).bind fun v722 =>
                                        (rdT L xs (x3 + 2)).bind fun v727 =>
                                        (rdT L xs (x3 + 3)).bind fun v732 =>
                                        (fX9_debt q714.2 a2 v722 v727 v732).bind fun q733 =>
                                        if q714.1 = q733.1 then
                                          fXL L xs n18 q733.2 a1 a2 (x3 + 6)
                                        else
                                          some (0, q733.2)
                                      else
                                        if (v29 &&& 63) = 17 then
                                          (rdT L xs (x3 + 1)).bind fun v746 =>
                                          (rdT L xs (x3 + 2)).bind fun v751 =>
                                          (fX8_debtIs h a1 v746 v751).bind fun q752 =>
                                          (rdT L xs (x3 + 1)).bind fun v760 =>
                                          (rdT L xs (x3 + 2)).bind fun v765 =>
                                          (fX9_debtIs q752.2 a2 v760 v765).bind fun q766 =>
                                          if q752.1 = q766.1 then
                                            fXL L xs n18 q766.2 a1 a2 (x3 + 6)
                                          else
                                            some (0, q766.2)
                                        else
                                          if (v29 &&& 63) = 18 then
                                            (rdT L xs (x3 + 1)).bind fun v779 =>
                                            (fX8_pay h a1 v779).bind fun q780 =>
                                            (rdT L xs (x3 + 1)).bind fun v788 =>
                                            (fX9_pay q780.2 a2 v788).bind fun q789 =>
                                            if q780.1 = q789.1 then
                                              fXL L xs n18 q789.2 a1 a2 (x3 + 6)
                                            else
                                              some (0, q789.2)
                                          else
                                            if (v29 &&& 63) = 19 then
                                              (rdT L xs (x3 + 1)).bind fun v802 =>
                                              (rdT L xs (x3 + 2)).bind fun v807 =>
                                              (fX8_loses h a1 v802 v807).bind fun q808 =>
                                              (rdT L xs (x3 + 1)).bind fun v816 =>
                                              (rdT L xs (x3 + 2)).bind fun v821 =>
                                              (fX9_loses q808.2 a2 v816 v821).bind fun q822 =>
                                              if q808.1 = q822.1 then
                                                fXL L xs n18 q822.2 a1 a2 (x3 + 6)
                                              else
                                                some (0, q822.2)
                                            else
                                              if (v29 &&& 63) = 20 then
                                                (rdT L xs (x3 + 1)).bind fun v835 =>
                                                (rdT L xs (x3 + 2)).bind fun v840 =>
                                                (rdT L xs (x3 + 3)).bind fun v845 =>
                                                (fX8_stranger h a1 v835 v840 v845).bind fun q846 =>
                                                (rdT L xs (x3 + 1)).bind fun v854 =>
                                                (rdT L xs (x3 + 2)).bind fun v859 =>
                                                (rdT L xs (x3 + 3)).bind fun v864 =>
                                                (fX9_stranger q846.2 a2 v854 v859 v864).bind fun q865 =>
                                                if q846.1 = q865.1 then
                                                  fXL L xs n18 q865.2 a1 a2 (x3 + 6)
                                                else
                                                  some (0, q865.2)
                                              else
                                                if (v29 &&& 63) = 21 then
                                                  (rdT L xs (x3 + 1)).bind fun v878 =>
                                                  (rdT L xs (x3 + 2)).bind fun v883 =>
                                                  (rdT L xs (x3 + 3)).bind fun v888 =>
                                                  (fX8_way h a1 v878 v883 v888).bind fun q889 =>
                                                  (rdT L xs (x3 + 1)).bind fun v897 =>
                                                  (rdT L xs (x3 + 2)).bind fun v902 =>
                                                  (rdT L xs (x3 + 3)).bind fun v907 =>
                                                  (fX9_way q889.2 a2 v897 v902 v907).bind fun q908 =>
                                                  if q889.1 = q908.1 then
                                                    fXL L xs n18 q908.2 a1 a2 (x3 + 6)
                                                  else
                                                    some (0, q908.2)
                                                else
                                                  if (v29 &&& 63) = 22 then
                                                    (rdT L xs (x3 + 1)).bind fun v921 =>
                                                    (rdT L xs (x3 + 2)).bind fun v926 =>
                                                    (fX8_memory h a1 v921 v926).bind fun q927 =>
                                                    (rdT L xs (x3 + 1)).bind fun v935 =>
                                                    (rdT L xs (x3 + 2)).bind fun v940 =>
                                                    (fX9_memory q927.2 a2 v935 v940).bind fun q941 =>
                                                    if q927.1 = q941.1 then
                                                      fXL L xs n18 q941.2 a1 a2 (x3 + 6)
                                                    else
                                                      some (0, q941.2)
                                                  else
                                                    if (v29 &&& 63) = 23 then
                                                      (rdT L xs (x3 + 1)).bind fun v954 =>
                                                      (rdT L xs (x3 + 2)).bind fun v959 =>
                                                      (fX8_hearsay h a1 v954 v959).bind fun q960 =>
                                                      (rdT L xs (x3 + 1)).bind fun v968 =>
                                                      (rdT L xs (x3 + 2)).bind fun v973 =>
                                                      (fX9_hearsay q960.2 a2 v968 v973).bind fun q974 =>
                                                      if q960.1 = q974.1 then
                                                        fXL L xs n18 q974.2 a1 a2 (x3 + 6)
                                                      else
                                                        some (0, q974.2)
                                                    else
                                                      if (v29 &&& 63) = 24 then
                                                        (rdT L xs (x3 + 1)).bind fun v987 =>
                                                        (rdT L xs (x3 + 2)).bind fun v992 =>
                                                        (fX8_rows h a1 v987 v992).bind fun q993 =>
                                                        (rdT L xs (x3 + 1)).bind fun v1001 =>
                                                        (rdT L xs (x3 + 2)).bind fun v1006 =>
                                                        (fX9_rows q993.2 a2 v1001 v1006).bind fun q1007 =>
                                                        if q993.1 = q1007.1 then
                                                          fXL L xs n18 q1007.2 a1 a2 (x3 + 6)
                                                        else
                                                          some (0, q1007.2)
                                                      else
                                                        if (v29 &&& 63) = 25 then
                                                          (rdT L xs (x3 + 1)).bind fun v1020 =>
                                                          (rdT L xs (x3 + 2)).bind fun v1025 =>
                                                          (rdT L xs (x3 + 3)).bind fun v1030 =>
                                                          (fX8_voice h a1 v1020 v1025 v1030).bind fun q1031 =>
                                                          (rdT L xs (x3 + 1)).bind fun v1039 =>
                                                          (rdT L xs (x3 + 2)).bind fun v1044 =>
                                                          (rdT L xs (x3 + 3)).bind fun v1049 =>
                                                          (fX9_voice q1031.2 a2 v1039 v1044 v1049).bind fun q1050 =>
                                                          if q1031.1 = q1050.1 then
                                                            fXL L xs n18 q1050.2 a1 a2 (x3 + 6)
                                                          else
                                                            some (0, q1050.2)
                                                        else
                                                          if (v29 &&& 63) = 26 then
                                                            (rdT L xs (x3 + 1)).bind fun v1063 =>
                                                            (fX8_body h a1 v1063).bind fun q1064 =>
                                                            (rdT L xs (x3 + 1)).bind fun v1072 =>
                                                            (fX9_body q1064.2 a2 v1072).bind fun q1073 =>
                                                            if q1064.1 = q1073.1 then
                                                              fXL L xs n18 q1073.2 a1 a2 (x3 + 6)
                                                            else
                                                              some (0, q1073.2)
                                                          else
                                                            if (v29 &&& 63) = 27 then
                                                              (rdT L xs (x3 + 1)).bind fun v1086 =>
                                                              (rdT L xs (x3 + 2)).bind fun v1091 =>
                                                              (rdT L xs (x3 + 3)).bind fun v1096 =>
                                                              (fX8_sheet h a1 v1086 v1091 v1096).bind fun q1097 =>
                                                              (rdT L xs (x3 + 1)).bind fun v1105 =>
                                                              (rdT L xs (x3 + 2)).bind fun v1110 =>
                                                              (rdT L xs (x3 + 3)).bind fun v1115 =>
                                                              (fX9_sheet q1097.2 a2 v1105 v1110 v1115).bind fun q1116 =>
                                                              if q1097.1 = q1116.1 then
                                                                fXL L xs n18 q1116.2 a1 a2 (x3 + 6)
                                                              else
                                                                some (0, q1116.2)
                                                            else
                                                              if (v29 &&& 63) = 28 then
                                                                (rdT L xs (x3 + 1)).bind fun v1129 =>
                                                                (rdT L xs (x3 + 2)).bind fun v1134 =>
                                                                (rdT L xs (x3 + 3)).bind fun v1139 =>
                                                                (fX8_put h a1 v1129 v1134 v1139).bind fun q1140 =>
                                                                (rdT L xs (x3 + 1)).bind fun v1148 =>
                                                                (rdT L xs (x3 + 2)).bind fun v1153 =>
                                                                (rdT L xs (x3 + 3)).bind fun v1158 =>
                                                                (fX9_put q1140.2 a2 v1148 v1153 v1158).bind fun q1159 =>
                                                                if q1140.1 = q1159.1 then
                                                                  fXL L xs n18 q1159.2 a1 a2 (x3 + 6)
                                                                else
                                                                  some (0, q1159.2)
                                                              else
                                                                if (v29 &&& 63) = 29 then
                                                                  (rdT L xs (x3 + 1)).bind fun v1172 =>
                                                                  (rdT L xs (x3 + 2)).bind fun v1177 =>
                                                                  (rdT L xs (x3 + 3)).bind fun v1182 =>
                                                                  (rdT L xs (x3 + 4)).bind fun v1187 =>
                                                                  (rdT L xs (x3 + 5)).bind fun v1192 =>
                                                                  (fX8_move h a1 v1172 v1177 v1182 v1187 v1192).bind fun q1193 =>
                                                                  (rdT L xs (x3 + 1)).bind fun v1201 =>
                                                                  (rdT L xs (x3 + 2)).bind fun v1206 =>
                                                                  (rdT L xs (x3 + 3)).bind fun v1211 =>
                                                                  (rdT L xs (x3 + 4)).bind fun v1216 =>
                                                                  (rdT L xs (x3 + 5)).bind fun v1221 =>
                                                                  (fX9_move q1193.2 a2 v1201 v1206 v1211 v1216 v1221).bind fun q1222 =>
                                                                  if q1193.1 = q1222.1 then
                                                                    fXL L xs n18 q1222.2 a1 a2 (x3 + 6)
                                                                  else
                                                                    some (0, q1222.2)
                                                                else
                                                                  if (v29 &&& 63) = 30 then
                                                                    (rdT L xs (x3 + 1)).bind fun v1235 =>
                                                                    (fX8_crossings h a1 v1235).bind fun q1236 =>
                                                                    (rdT L xs (x3 + 1)).bind fun v1244 =>
                                                                    (fX9_crossings q1236.2 a2 v1244).bind fun q1245 =>
                                                                    if q1236.1 = q1245.1 then
                                                                      fXL L xs n18 q1245.2 a1 a2 (x3 + 6)
                                                                    else
                                                                      some (0, q1245.2)
                                                                  else
                                                                    if (v29 &&& 63) = 31 then
                                                                      (rdT L xs (x3 + 1)).bind fun v1258 =>
                                                                      (rdT L xs (x3 + 2)).bind fun v1263 =>
                                                                      (fX8_judge h a1 v1258 v1263).bind fun q1264 =>
                                                                      (rdT L xs (x3 + 1)).bind fun v1272 =>
                                                                      (rdT L xs (x3 + 2)).bind fun v1277 =>
                                                                      (fX9_judge q1264.2 a2 v1272 v1277).bind fun q1278 =>
                                                                      if q1264.1 = q1278.1 then
                                                                        fXL L xs n18 q1278.2 a1 a2 (x3 + 6)
                                                                      else
                                                                        some (0, q1278.2)
                                                                    else
                                                                      if (v29 &&& 63) = 32 then
                                                                        (fX8_image h a1).bind fun q1287 =>
                                                                        (fX9_image q1287.2 a2).bind fun q1291 =>
                                                                        if q1287.1 = q1291.1 then
                                                                          fXL L xs n18 q1291.2 a1 a2 (x3 + 6)
                                                                        else
                                                                          some (0, q1291.2)
                                                                      else
                                                                        if (v29 &&& 63) = 33 then
                                                                          (fX8_restore h a1).bind fun q1300 =>
                                                                          (fX9_restore q1300.2 a2).bind fun q1304 =>
                                                                          if q1300.1 = q1304.1 then
                                                                            fXL L xs n18 q1304.2 a1 a2 (x3 + 6)
                                                                          else
                                                                            some (0, q1304.2)
                                                                        else
                                                                          if (v29 &&& 63) = 34 then
                                                                            (rdT L xs (x3 + 1)).bind fun v1317 =>
                                                                            (fX8_tell h a1 v1317).bind fun q1318 =>
                                                                            (rdT L xs (x3 + 1)).bind fun v1326 =>
                                                                            (fX9_tell q1318.2 a2 v1326).bind fun q1327 =>
                                                                            if q1318.1 = q1327.1 then
                                                                              fXL L xs n18 q1327.2 a1 a2 (x3 + 6)
                                                                            else
                                                                              some (0, q1327.2)
                                                                          else
                                                                            if (v29 &&& 63) = 35 then
                                                                              (rdT L xs (x3 + 1)).bind fun v1340 =>
                                                                              (fX8_check h a1 v1340).bind fun q1341 =>
                                                                              (rdT L xs (x3 + 1)).bind fun v1349 =>
                                                                              (fX9_check q1341.2 a2 v1349).bind fun q1350 =>
                                                                              if q1341.1 = q1350.1 then
                                                                                fXL L xs n18 q1350.2 a1 a2 (x3 + 6)
                                                                              else
                                                                                some (0, q1350.2)
                                                                            else
                                                                              if (v29 &&& 63) = 36 then
                                                                                (rdT L xs (x3 + 1)).bind fun v1363 =>
                                                                                (fX8_count h a1 v1363).bind fun q1364 =>
                                                                                (rdT L xs (x3 + 1)).bind fun v1372 =>
                                                                                (fX9_count q1364.2 a2 v1372).bind fun q1373 =>
                                                                                if q1364.1 = q1373.1 then
                                                                                  fXL L xs n18 q1373.2 a1 a2 (x3 + 6)
                                                                                else
                                                                                  some (0, q1373.2)
                                                                              else
                                                                                if (v29 &&& 63) = 37 then
                                                                                  (rdT L xs (x3 + 1)).bind fun v1386 =>
                                                                                  (fX8_told h a1 v1386).bind fun q1387 =>
                                                                                  (rdT L xs (x3 + 1)).bind fun v1395 =>
                                                                                  (fX9_told q1387.2 a2 v1395).bind fun q1396 =>
                                                                                  if q1387.1 = q1396.1 then
                                                                                    fXL L xs n18 q1396.2 a1 a2 (x3 + 6)
                                                                                  else
                                                                                    some (0, q1396.2)
                                                                                else
                                                                                  fXL L xs n18 h a1 a2 (x3 + 6)
set_option maxRecDepth 100000 in
theorem kXL {X : Cx} {z : Int32 × Hp} {mc ms bS L : Nat} {xs : Nat → Int32} (C : Jc X x code 4 (some .boolean) 1300 mc ms (some (.int z.1), z.2)) (hs : Scr X bS L xs) : ∀ (n18 k n : Nat) (h : Hp) (a1 a2 : Nat) (x3 : Int32), k + 5 * n18 ≤ mc → n + 189 * n18 ≤ ms → fXL L xs n18 h a1 a2 x3 = some z → J X mc ms k n 18 [some (.ref bS), some (.ref a1), some (.ref a2), some (.int x3)] [] h := by
  intro n18
  induction n18 with
  | zero => intro k n h a1 a2 x3 hk hn hF; cases hF
  | succ n18 ih =>
    intro k n h a1 a2 x3 hk hn hF
    rw [fXL] at hF
    refine J_iload_n (pc := 18) C dXL_law_18 rfl ?_
    refine J_aload_n (pc := 19) C dXL_law_19 rfl ?_
    refine J_scL (pc := 20) C dXL_law_20 hs ?_
    refine J_bipush (pc := 21) C dXL_law_21 bc_6 ?_
    refine J_isub (pc := 23) C dXL_law_23 ?_
    refine J_icmp_gt (pc := 24) (tgt := 1410) C dXL_law_24 rfl hF (fun hF => ?_) (fun hF => ?_)
    · refine J_iconst (pc := 1410) C dXL_law_1410 ic_1 ?_
      exact J_zret (pc := 1411) C dXL_law_1411 rfl hF (by omega) (by omega)
    · refine J_aload_n (pc := 27) C dXL_law_27 rfl ?_
      refine J_iload_n (pc := 28) C dXL_law_28 rfl ?_
      refine J_scr (pc := 29) C dXL_law_29 hs hF (fun v29 hF => ?_)
      refine J_bipush (pc := 30) C dXL_law_30 bc_63 ?_
      refine J_iand (pc := 32) C dXL_law_32 ?_
      refine J_br hF (fun hc33_0 hF => ?_) (fun hc33_0 hF => ?_)
      · refine J_tsIn (pc := 33) (tgt := 200) C 0 hc33_0 dXL_law_33 (by decide) (by decide) rfl rfl ?_
        refine J_aload_n (pc := 200) C dXL_law_200 rfl ?_
        refine J_aload_n (pc := 201) C dXL_law_201 rfl ?_
        refine J_iload_n (pc := 202) C dXL_law_202 rfl ?_
        refine J_iconst (pc := 203) C dXL_law_203 ic_1 ?_
        refine J_iadd (pc := 204) C dXL_law_204 ?_
        refine J_scr (pc := 205) C dXL_law_205 hs hF (fun v205 hF => ?_)
        refine J_bind hF (fun q206 hq hF => ?_)
        refine J_callV0_i (pc := 206) (stk := [.int v205, .ref a1]) (st := []) C dXL_law_206 yw_X8_person w_MLXL_13 in_X8_person sl_X8_person ⟨_, rfl, rfl⟩ (kX8_person hq) (gO_some hq).1 rfl (by decide) rfl (Nat.le_of_ble_eq_true rfl) ?_ (hkk := ⟨by omega, by omega⟩)
        refine J_aload_n (pc := 209) C dXL_law_209 rfl ?_
        refine J_aload_n (pc := 210) C dXL_law_210 rfl ?_
        refine J_iload_n (pc := 211) C dXL_law_211 rfl ?_
        refine J_iconst (pc := 212) C dXL_law_212 ic_1 ?_
        refine J_iadd (pc := 213) C dXL_law_213 ?_
        refine J_scr (pc := 214) C dXL_law_214 hs hF (fun v214 hF => ?_)
        refine J_bind hF (fun q215 hq hF => ?_)
        refine J_callV0_i (pc := 215) (stk := [.int v214, .ref a2, .int q206.1]) (st := [.int q206.1]) C dXL_law_215 yw_X9_person w_MLXL_17 in_X9_person sl_X9_person ⟨_, rfl, rfl⟩ (kX9_person hq) (gO_some hq).1 rfl (by decide) rfl (Nat.le_of_ble_eq_true rfl) ?_ (hkk := ⟨by omega, by omega⟩)
        refine J_icmp_eq (pc := 218) (tgt := 1404) C dXL_law_218 rfl hF (fun hF => ?_) (fun hF => ?_)
        · refine J_iinc (pc := 1404) (lv' := [some (.ref bS), some (.ref a1), some (.ref a2), some (.int (x3 + 6))]) C dXL_law_1404 rfl ic_6 rfl ?_
          refine J_goto (pc := 1407) (tgt := 18) C dXL_law_1407 rfl ?_
          exact ih _ _ q215.2 a1 a2 (x3 + 6) (by omega) (by omega) hF
        · refine J_iconst (pc := 221) C dXL_law_221 ic_0 ?_
          exact J_zret (pc := 222) C dXL_law_222 rfl hF (by omega) (by omega)
      · refine J_br hF (fun hc33_1 hF => ?_) (fun hc33_1 hF => ?_)
        · refine J_tsIn (pc := 33) (tgt := 223) C 1 hc33_1 dXL_law_33 (by decide) (by decide) rfl rfl ?_
          refine J_aload_n (pc := 223) C dXL_law_223 rfl ?_
          refine J_aload_n (pc := 224) C dXL_law_224 rfl ?_
          refine J_iload_n (pc := 225) C dXL_law_225 rfl ?_
          refine J_iconst (pc := 226) C dXL_law_226 ic_1 ?_
          refine J_iadd (pc := 227) C dXL_law_227 ?_
          refine J_scr (pc := 228) C dXL_law_228 hs hF (fun v228 hF => ?_)
          refine J_aload_n (pc := 229) C dXL_law_229 rfl ?_
          refine J_iload_n (pc := 230) C dXL_law_230 rfl ?_
          refine J_iconst (pc := 231) C dXL_law_231 ic_2 ?_
          refine J_iadd (pc := 232) C dXL_law_232 ?_
          refine J_scr (pc := 233) C dXL_law_233 hs hF (fun v233 hF => ?_)
          refine J_bind hF (fun q234 hq hF => ?_)
          refine J_callV0_i (pc := 234) (stk := [.int v233, .int v228, .ref a1]) (st := []) C dXL_law_234 yw_X8_personIs w_MLXL_18 in_X8_personIs sl_X8_personIs ⟨_, rfl, rfl⟩ (kX8_personIs hq) (gO_some hq).1 rfl (by decide) rfl (Nat.le_of_ble_eq_true rfl) ?_ (hkk := ⟨by omega, by omega⟩)
          refine J_aload_n (pc := 237) C dXL_law_237 rfl ?_
          refine J_aload_n (pc := 238) C dXL_law_238 rfl ?_
          refine J_iload_n (pc := 239) C dXL_law_239 rfl ?_
          refine J_iconst (pc := 240) C dXL_law_240 ic_1 ?_
          refine J_iadd (pc := 241) C dXL_law_241 ?_
          refine J_scr (pc := 242) C dXL_law_242 hs hF (fun v242 hF => ?_)
          refine J_aload_n (pc := 243) C dXL_law_243 rfl ?_
          refine J_iload_n (pc := 244) C dXL_law_244 rfl ?_
          refine J_iconst (pc := 245) C dXL_law_245 ic_2 ?_
          refine J_iadd (pc := 246) C dXL_law_246 ?_
          refine J_scr (pc := 247) C dXL_law_247 hs hF (fun v247 hF => ?_)
          refine J_bind hF (fun q248 hq hF => ?_)
          refine J_callV0_i (pc := 248) (stk := [.int v247, .int v242, .ref a2, .int q234.1]) (st := [.int q234.1]) C dXL_law_248 yw_X9_personIs w_MLXL_22 in_X9_personIs sl_X9_personIs ⟨_, rfl, rfl⟩ (kX9_personIs hq) (gO_some hq).1 rfl (by decide) rfl (Nat.le_of_ble_eq_true rfl) ?_ (hkk := ⟨by omega, by omega⟩)
          refine J_icmp_eq (pc := 251) (tgt := 1404) C dXL_law_251 rfl hF (fun hF => ?_) (fun hF => ?_)
          · refine J_iinc (pc := 1404) (lv' := [some (.ref bS), some (.ref a1), some (.ref a2), some (.int (x3 + 6))]) C dXL_law_1404 rfl ic_6 rfl ?_
            refine J_goto (pc := 1407) (tgt := 18) C dXL_law_1407 rfl ?_
            exact ih _ _ q248.2 a1 a2 (x3 + 6) (by omega) (by omega) hF
          · refine J_iconst (pc := 254) C dXL_law_254 ic_0 ?_
            exact J_zret (pc := 255) C dXL_law_255 rfl hF (by omega) (by omega)
        · refine J_br hF (fun hc33_2 hF => ?_) (fun hc33_2 hF => ?_)
          · refine J_tsIn (pc := 33) (tgt := 256) C 2 hc33_2 dXL_law_33 (by decide) (by decide) rfl rfl ?_
            refine J_aload_n (pc := 256) C dXL_law_256 rfl ?_
            refine J_aload_n (pc := 257) C dXL_law_257 rfl ?_
            refine J_iload_n (pc := 258) C dXL_law_258 rfl ?_
            refine J_iconst (pc := 259) C dXL_law_259 ic_1 ?_
            refine J_iadd (pc := 260) C dXL_law_260 ?_
            refine J_scr (pc := 261) C dXL_law_261 hs hF (fun v261 hF => ?_)
            refine J_aload_n (pc := 262) C dXL_law_262 rfl ?_
            refine J_iload_n (pc := 263) C dXL_law_263 rfl ?_
            refine J_iconst (pc := 264) C dXL_law_264 ic_2 ?_
            refine J_iadd (pc := 265) C dXL_law_265 ?_
            refine J_scr (pc := 266) C dXL_law_266 hs hF (fun v266 hF => ?_)
            refine J_bind hF (fun q267 hq hF => ?_)
            refine J_callV0_i (pc := 267) (stk := [.int v266, .int v261, .ref a1]) (st := []) C dXL_law_267 yw_X8_man w_MLXL_23 in_X8_man sl_X8_man ⟨_, rfl, rfl⟩ (kX8_man hq) (gO_some hq).1 rfl (by decide) rfl (Nat.le_of_ble_eq_true rfl) ?_ (hkk := ⟨by omega, by omega⟩)
            refine J_aload_n (pc := 270) C dXL_law_270 rfl ?_
            refine J_aload_n (pc := 271) C dXL_law_271 rfl ?_
            refine J_iload_n (pc := 272) C dXL_law_272 rfl ?_
            refine J_iconst (pc := 273) C dXL_law_273 ic_1 ?_
            refine J_iadd (pc := 274) C dXL_law_274 ?_
            refine J_scr (pc := 275) C dXL_law_275 hs hF (fun v275 hF => ?_)
            refine J_aload_n (pc := 276) C dXL_law_276 rfl ?_
            refine J_iload_n (pc := 277) C dXL_law_277 rfl ?_
            refine J_iconst (pc := 278) C dXL_law_278 ic_2 ?_
            refine J_iadd (pc := 279) C dXL_law_279 ?_
            refine J_scr (pc := 280) C dXL_law_280 hs hF (fun v280 hF => ?_)
            refine J_bind hF (fun q281 hq hF => ?_)
            refine J_callV0_i (pc := 281) (stk := [.int v280, .int v275, .ref a2, .int q267.1]) (st := [.int q267.1]) C dXL_law_281 yw_X9_man w_MLXL_26 in_X9_man sl_X9_man ⟨_, rfl, rfl⟩ (kX9_man hq) (gO_some hq).1 rfl (by decide) rfl (Nat.le_of_ble_eq_true rfl) ?_ (hkk := ⟨by omega, by omega⟩)
            refine J_icmp_eq (pc := 284) (tgt := 1404) C dXL_law_284 rfl hF (fun hF => ?_) (fun hF => ?_)
            · refine J_iinc (pc := 1404) (lv' := [some (.ref bS), some (.ref a1), some (.ref a2), some (.int (x3 + 6))]) C dXL_law_1404 rfl ic_6 rfl ?_
              refine J_goto (pc := 1407) (tgt := 18) C dXL_law_1407 rfl ?_
              exact ih _ _ q281.2 a1 a2 (x3 + 6) (by omega) (by omega) hF
            · refine J_iconst (pc := 287) C dXL_law_287 ic_0 ?_
              exact J_zret (pc := 288) C dXL_law_288 rfl hF (by omega) (by omega)
          · refine J_br hF (fun hc33_3 hF => ?_) (fun hc33_3 hF => ?_)
            · refine J_tsIn (pc := 33) (tgt := 289) C 3 hc33_3 dXL_law_33 (by decide) (by decide) rfl rfl ?_
              refine J_aload_n (pc := 289) C dXL_law_289 rfl ?_
              refine J_aload_n (pc := 290) C dXL_law_290 rfl ?_
              refine J_iload_n (pc := 291) C dXL_law_291 rfl ?_
              refine J_iconst (pc := 292) C dXL_law_292 ic_1 ?_
              refine J_iadd (pc := 293) C dXL_law_293 ?_
              refine J_scr (pc := 294) C dXL_law_294 hs hF (fun v294 hF => ?_)
              refine J_aload_n (pc := 295) C dXL_law_295 rfl ?_
              refine J_iload_n (pc := 296) C dXL_law_296 rfl ?_
              refine J_iconst (pc := 297) C dXL_law_297 ic_2 ?_
              refine J_iadd (pc := 298) C dXL_law_298 ?_
              refine J_scr (pc := 299) C dXL_law_299 hs hF (fun v299 hF => ?_)
              refine J_bind hF (fun q300 hq hF => ?_)
              refine J_callV0_i (pc := 300) (stk := [.int v299, .int v294, .ref a1]) (st := []) C dXL_law_300 yw_X8_manIs w_MLXL_27 in_X8_manIs sl_X8_manIs ⟨_, rfl, rfl⟩ (kX8_manIs hq) (gO_some hq).1 rfl (by decide) rfl (Nat.le_of_ble_eq_true rfl) ?_ (hkk := ⟨by omega, by omega⟩)
              refine J_aload_n (pc := 303) C dXL_law_303 rfl ?_
              refine J_aload_n (pc := 304) C dXL_law_304 rfl ?_
              refine J_iload_n (pc := 305) C dXL_law_305 rfl ?_
              refine J_iconst (pc := 306) C dXL_law_306 ic_1 ?_
              refine J_iadd (pc := 307) C dXL_law_307 ?_
              refine J_scr (pc := 308) C dXL_law_308 hs hF (fun v308 hF => ?_)
              refine J_aload_n (pc := 309) C dXL_law_309 rfl ?_
              refine J_iload_n (pc := 310) C dXL_law_310 rfl ?_
              refine J_iconst (pc := 311) C dXL_law_311 ic_2 ?_
              refine J_iadd (pc := 312) C dXL_law_312 ?_
              refine J_scr (pc := 313) C dXL_law_313 hs hF (fun v313 hF => ?_)
              refine J_bind hF (fun q314 hq hF => ?_)
              refine J_callV0_i (pc := 314) (stk := [.int v313, .int v308, .ref a2, .int q300.1]) (st := [.int q300.1]) C dXL_law_314 yw_X9_manIs w_MLXL_30 in_X9_manIs sl_X9_manIs ⟨_, rfl, rfl⟩ (kX9_manIs hq) (gO_some hq).1 rfl (by decide) rfl (Nat.le_of_ble_eq_true rfl) ?_ (hkk := ⟨by omega, by omega⟩)
              refine J_icmp_eq (pc := 317) (tgt := 1404) C dXL_law_317 rfl hF (fun hF => ?_) (fun hF => ?_)
              · refine J_iinc (pc := 1404) (lv' := [some (.ref bS), some (.ref a1), some (.ref a2), some (.int (x3 + 6))]) C dXL_law_1404 rfl ic_6 rfl ?_
                refine J_goto (pc := 1407) (tgt := 18) C dXL_law_1407 rfl ?_
                exact ih _ _ q314.2 a1 a2 (x3 + 6) (by omega) (by omega) hF
              · refine J_iconst (pc := 320) C dXL_law_320 ic_0 ?_
                exact J_zret (pc := 321) C dXL_law_321 rfl hF (by omega) (by omega)
            · refine J_br hF (fun hc33_4 hF => ?_) (fun hc33_4 hF => ?_)
              · refine J_tsIn (pc := 33) (tgt := 322) C 4 hc33_4 dXL_law_33 (by decide) (by decide) rfl rfl ?_
                refine J_aload_n (pc := 322) C dXL_law_322 rfl ?_
                refine J_aload_n (pc := 323) C dXL_law_323 rfl ?_
                refine J_iload_n (pc := 324) C dXL_law_324 rfl ?_
                refine J_iconst (pc := 325) C dXL_law_325 ic_1 ?_
                refine J_iadd (pc := 326) C dXL_law_326 ?_
                refine J_scr (pc := 327) C dXL_law_327 hs hF (fun v327 hF => ?_)
                refine J_aload_n (pc := 328) C dXL_law_328 rfl ?_
                refine J_iload_n (pc := 329) C dXL_law_329 rfl ?_
                refine J_iconst (pc := 330) C dXL_law_330 ic_2 ?_
                refine J_iadd (pc := 331) C dXL_law_331 ?_
                refine J_scr (pc := 332) C dXL_law_332 hs hF (fun v332 hF => ?_)
                refine J_bind hF (fun q333 hq hF => ?_)
                refine J_callV0_i (pc := 333) (stk := [.int v332, .int v327, .ref a1]) (st := []) C dXL_law_333 yw_X8_as w_MLXL_31 in_X8_as sl_X8_as ⟨_, rfl, rfl⟩ (kX8_as hq) (gO_some hq).1 rfl (by decide) rfl (Nat.le_of_ble_eq_true rfl) ?_ (hkk := ⟨by omega, by omega⟩)
                refine J_aload_n (pc := 336) C dXL_law_336 rfl ?_
                refine J_aload_n (pc := 337) C dXL_law_337 rfl ?_
                refine J_iload_n (pc := 338) C dXL_law_338 rfl ?_
                refine J_iconst (pc := 339) C dXL_law_339 ic_1 ?_
                refine J_iadd (pc := 340) C dXL_law_340 ?_
                refine J_scr (pc := 341) C dXL_law_341 hs hF (fun v341 hF => ?_)
                refine J_aload_n (pc := 342) C dXL_law_342 rfl ?_
                refine J_iload_n (pc := 343) C dXL_law_343 rfl ?_
                refine J_iconst (pc := 344) C dXL_law_344 ic_2 ?_
                refine J_iadd (pc := 345) C dXL_law_345 ?_
                refine J_scr (pc := 346) C dXL_law_346 hs hF (fun v346 hF => ?_)
                refine J_bind hF (fun q347 hq hF => ?_)
                refine J_callV0_i (pc := 347) (stk := [.int v346, .int v341, .ref a2, .int q333.1]) (st := [.int q333.1]) C dXL_law_347 yw_X9_as w_MLXL_34 in_X9_as sl_X9_as ⟨_, rfl, rfl⟩ (kX9_as hq) (gO_some hq).1 rfl (by decide) rfl (Nat.le_of_ble_eq_true rfl) ?_ (hkk := ⟨by omega, by omega⟩)
                refine J_icmp_eq (pc := 350) (tgt := 1404) C dXL_law_350 rfl hF (fun hF => ?_) (fun hF => ?_)
                · refine J_iinc (pc := 1404) (lv' := [some (.ref bS), some (.ref a1), some (.ref a2), some (.int (x3 + 6))]) C dXL_law_1404 rfl ic_6 rfl ?_
                  refine J_goto (pc := 1407) (tgt := 18) C dXL_law_1407 rfl ?_
                  exact ih _ _ q347.2 a1 a2 (x3 + 6) (by omega) (by omega) hF
                · refine J_iconst (pc := 353) C dXL_law_353 ic_0 ?_
                  exact J_zret (pc := 354) C dXL_law_354 rfl hF (by omega) (by omega)
              · refine J_br hF (fun hc33_5 hF => ?_) (fun hc33_5 hF => ?_)
                · refine J_tsIn (pc := 33) (tgt := 355) C 5 hc33_5 dXL_law_33 (by decide) (by decide) rfl rfl ?_
                  refine J_aload_n (pc := 355) C dXL_law_355 rfl ?_
                  refine J_aload_n (pc := 356) C dXL_law_356 rfl ?_
                  refine J_iload_n (pc := 357) C dXL_law_357 rfl ?_
                  refine J_iconst (pc := 358) C dXL_law_358 ic_1 ?_
                  refine J_iadd (pc := 359) C dXL_law_359 ?_
                  refine J_scr (pc := 360) C dXL_law_360 hs hF (fun v360 hF => ?_)
                  refine J_aload_n (pc := 361) C dXL_law_361 rfl ?_
                  refine J_iload_n (pc := 362) C dXL_law_362 rfl ?_
                  refine J_iconst (pc := 363) C dXL_law_363 ic_2 ?_
                  refine J_iadd (pc := 364) C dXL_law_364 ?_
                  refine J_scr (pc := 365) C dXL_law_365 hs hF (fun v365 hF => ?_)
                  refine J_aload_n (pc := 366) C dXL_law_366 rfl ?_
                  refine J_iload_n (pc := 367) C dXL_law_367 rfl ?_
                  refine J_iconst (pc := 368) C dXL_law_368 ic_3 ?_
                  refine J_iadd (pc := 369) C dXL_law_369 ?_
                  refine J_scr (pc := 370) C dXL_law_370 hs hF (fun v370 hF => ?_)
                  refine J_bind hF (fun q371 hq hF => ?_)
                  refine J_callV0_i (pc := 371) (stk := [.int v370, .int v365, .int v360, .ref a1]) (st := []) C dXL_law_371 yw_X8_setMan w_MLXL_35 in_X8_setMan sl_X8_setMan ⟨_, rfl, rfl⟩ (kX8_setMan hq) (gO_some hq).1 rfl (by decide) rfl (Nat.le_of_ble_eq_true rfl) ?_ (hkk := ⟨by omega, by omega⟩)
                  refine J_aload_n (pc := 374) C dXL_law_374 rfl ?_
                  refine J_aload_n (pc := 375) C dXL_law_375 rfl ?_
                  refine J_iload_n (pc := 376) C dXL_law_376 rfl ?_
                  refine J_iconst (pc := 377) C dXL_law_377 ic_1 ?_
                  refine J_iadd (pc := 378) C dXL_law_378 ?_
                  refine J_scr (pc := 379) C dXL_law_379 hs hF (fun v379 hF => ?_)
                  refine J_aload_n (pc := 380) C dXL_law_380 rfl ?_
                  refine J_iload_n (pc := 381) C dXL_law_381 rfl ?_
                  refine J_iconst (pc := 382) C dXL_law_382 ic_2 ?_
                  refine J_iadd (pc := 383) C dXL_law_383 ?_
                  refine J_scr (pc := 384) C dXL_law_384 hs hF (fun v384 hF => ?_)
                  refine J_aload_n (pc := 385) C dXL_law_385 rfl ?_
                  refine J_iload_n (pc := 386) C dXL_law_386 rfl ?_
                  refine J_iconst (pc := 387) C dXL_law_387 ic_3 ?_
                  refine J_iadd (pc := 388) C dXL_law_388 ?_
                  refine J_scr (pc := 389) C dXL_law_389 hs hF (fun v389 hF => ?_)
                  refine J_bind hF (fun q390 hq hF => ?_)
                  refine J_callV0_i (pc := 390) (stk := [.int v389, .int v384, .int v379, .ref a2, .int q371.1]) (st := [.int q371.1]) C dXL_law_390 yw_X9_setMan w_MLXL_39 in_X9_setMan sl_X9_setMan ⟨_, rfl, rfl⟩ (kX9_setMan hq) (gO_some hq).1 rfl (by decide) rfl (Nat.le_of_ble_eq_true rfl) ?_ (hkk := ⟨by omega, by omega⟩)
                  refine J_icmp_eq (pc := 393) (tgt := 1404) C dXL_law_393 rfl hF (fun hF => ?_) (fun hF => ?_)
                  · refine J_iinc (pc := 1404) (lv' := [some (.ref bS), some (.ref a1), some (.ref a2), some (.int (x3 + 6))]) C dXL_law_1404 rfl ic_6 rfl ?_
                    refine J_goto (pc := 1407) (tgt := 18) C dXL_law_1407 rfl ?_
                    exact ih _ _ q390.2 a1 a2 (x3 + 6) (by omega) (by omega) hF
                  · refine J_iconst (pc := 396) C dXL_law_396 ic_0 ?_
                    exact J_zret (pc := 397) C dXL_law_397 rfl hF (by omega) (by omega)
                · refine J_br hF (fun hc33_6 hF => ?_) (fun hc33_6 hF => ?_)
                  · refine J_tsIn (pc := 33) (tgt := 398) C 6 hc33_6 dXL_law_33 (by decide) (by decide) rfl rfl ?_
                    refine J_aload_n (pc := 398) C dXL_law_398 rfl ?_
                    refine J_aload_n (pc := 399) C dXL_law_399 rfl ?_
                    refine J_iload_n (pc := 400) C dXL_law_400 rfl ?_
                    refine J_iconst (pc := 401) C dXL_law_401 ic_1 ?_
                    refine J_iadd (pc := 402) C dXL_law_402 ?_
                    refine J_scr (pc := 403) C dXL_law_403 hs hF (fun v403 hF => ?_)
                    refine J_aload_n (pc := 404) C dXL_law_404 rfl ?_
                    refine J_iload_n (pc := 405) C dXL_law_405 rfl ?_
                    refine J_iconst (pc := 406) C dXL_law_406 ic_2 ?_
                    refine J_iadd (pc := 407) C dXL_law_407 ?_
                    refine J_scr (pc := 408) C dXL_law_408 hs hF (fun v408 hF => ?_)
                    refine J_aload_n (pc := 409) C dXL_law_409 rfl ?_
                    refine J_iload_n (pc := 410) C dXL_law_410 rfl ?_
                    refine J_iconst (pc := 411) C dXL_law_411 ic_3 ?_
                    refine J_iadd (pc := 412) C dXL_law_412 ?_
                    refine J_scr (pc := 413) C dXL_law_413 hs hF (fun v413 hF => ?_)
                    refine J_bind hF (fun q414 hq hF => ?_)
                    refine J_callV0_i (pc := 414) (stk := [.int v413, .int v408, .int v403, .ref a1]) (st := []) C dXL_law_414 yw_X8_setPerson w_MLXL_40 in_X8_setPerson sl_X8_setPerson ⟨_, rfl, rfl⟩ (kX8_setPerson hq) (gO_some hq).1 rfl (by decide) rfl (Nat.le_of_ble_eq_true rfl) ?_ (hkk := ⟨by omega, by omega⟩)
                    refine J_aload_n (pc := 417) C dXL_law_417 rfl ?_
                    refine J_aload_n (pc := 418) C dXL_law_418 rfl ?_
                    refine J_iload_n (pc := 419) C dXL_law_419 rfl ?_
                    refine J_iconst (pc := 420) C dXL_law_420 ic_1 ?_
                    refine J_iadd (pc := 421) C dXL_law_421 ?_
                    refine J_scr (pc := 422) C dXL_law_422 hs hF (fun v422 hF => ?_)
                    refine J_aload_n (pc := 423) C dXL_law_423 rfl ?_
                    refine J_iload_n (pc := 424) C dXL_law_424 rfl ?_
                    refine J_iconst (pc := 425) C dXL_law_425 ic_2 ?_
                    refine J_iadd (pc := 426) C dXL_law_426 ?_
                    refine J_scr (pc := 427) C dXL_law_427 hs hF (fun v427 hF => ?_)
                    refine J_aload_n (pc := 428) C dXL_law_428 rfl ?_
                    refine J_iload_n (pc := 429) C dXL_law_429 rfl ?_
                    refine J_iconst (pc := 430) C dXL_law_430 ic_3 ?_
                    refine J_iadd (pc := 431) C dXL_law_431 ?_
                    refine J_scr (pc := 432) C dXL_law_432 hs hF (fun v432 hF => ?_)
                    refine J_bind hF (fun q433 hq hF => ?_)
                    refine J_callV0_i (pc := 433) (stk := [.int v432, .int v427, .int v422, .ref a2, .int q414.1]) (st := [.int q414.1]) C dXL_law_433 yw_X9_setPerson w_MLXL_43 in_X9_setPerson sl_X9_setPerson ⟨_, rfl, rfl⟩ (kX9_setPerson hq) (gO_some hq).1 rfl (by decide) rfl (Nat.le_of_ble_eq_true rfl) ?_ (hkk := ⟨by omega, by omega⟩)
                    refine J_icmp_eq (pc := 436) (tgt := 1404) C dXL_law_436 rfl hF (fun hF => ?_) (fun hF => ?_)
                    · refine J_iinc (pc := 1404) (lv' := [some (.ref bS), some (.ref a1), some (.ref a2), some (.int (x3 + 6))]) C dXL_law_1404 rfl ic_6 rfl ?_
                      refine J_goto (pc := 1407) (tgt := 18) C dXL_law_1407 rfl ?_
                      exact ih _ _ q433.2 a1 a2 (x3 + 6) (by omega) (by omega) hF
                    · refine J_iconst (pc := 439) C dXL_law_439 ic_0 ?_
                      exact J_zret (pc := 440) C dXL_law_440 rfl hF (by omega) (by omega)
                  · refine J_br hF (fun hc33_7 hF => ?_) (fun hc33_7 hF => ?_)
                    · refine J_tsIn (pc := 33) (tgt := 441) C 7 hc33_7 dXL_law_33 (by decide) (by decide) rfl rfl ?_
                      refine J_aload_n (pc := 441) C dXL_law_441 rfl ?_
                      refine J_aload_n (pc := 442) C dXL_law_442 rfl ?_
                      refine J_iload_n (pc := 443) C dXL_law_443 rfl ?_
                      refine J_iconst (pc := 444) C dXL_law_444 ic_1 ?_
                      refine J_iadd (pc := 445) C dXL_law_445 ?_
                      refine J_scr (pc := 446) C dXL_law_446 hs hF (fun v446 hF => ?_)
                      refine J_bind hF (fun q447 hq hF => ?_)
                      refine J_callV0_i (pc := 447) (stk := [.int v446, .ref a1]) (st := []) C dXL_law_447 yw_X8_forget w_MLXL_44 in_X8_forget sl_X8_forget ⟨_, rfl, rfl⟩ (kX8_forget hq) (gO_some hq).1 rfl (by decide) rfl (Nat.le_of_ble_eq_true rfl) ?_ (hkk := ⟨by omega, by omega⟩)
                      refine J_aload_n (pc := 450) C dXL_law_450 rfl ?_
                      refine J_aload_n (pc := 451) C dXL_law_451 rfl ?_
                      refine J_iload_n (pc := 452) C dXL_law_452 rfl ?_
                      refine J_iconst (pc := 453) C dXL_law_453 ic_1 ?_
                      refine J_iadd (pc := 454) C dXL_law_454 ?_
                      refine J_scr (pc := 455) C dXL_law_455 hs hF (fun v455 hF => ?_)
                      refine J_bind hF (fun q456 hq hF => ?_)
                      refine J_callV0_i (pc := 456) (stk := [.int v455, .ref a2, .int q447.1]) (st := [.int q447.1]) C dXL_law_456 yw_X9_forget w_MLXL_47 in_X9_forget sl_X9_forget ⟨_, rfl, rfl⟩ (kX9_forget hq) (gO_some hq).1 rfl (by decide) rfl (Nat.le_of_ble_eq_true rfl) ?_ (hkk := ⟨by omega, by omega⟩)
                      refine J_icmp_eq (pc := 459) (tgt := 1404) C dXL_law_459 rfl hF (fun hF => ?_) (fun hF => ?_)
                      · refine J_iinc (pc := 1404) (lv' := [some (.ref bS), some (.ref a1), some (.ref a2), some (.int (x3 + 6))]) C dXL_law_1404 rfl ic_6 rfl ?_
                        refine J_goto (pc := 1407) (tgt := 18) C dXL_law_1407 rfl ?_
                        exact ih _ _ q456.2 a1 a2 (x3 + 6) (by omega) (by omega) hF
                      · refine J_iconst (pc := 462) C dXL_law_462 ic_0 ?_
                        exact J_zret (pc := 463) C dXL_law_463 rfl hF (by omega) (by omega)
                    · refine J_br hF (fun hc33_8 hF => ?_) (fun hc33_8 hF => ?_)
                      · refine J_tsIn (pc := 33) (tgt := 464) C 8 hc33_8 dXL_law_33 (by decide) (by decide) rfl rfl ?_
                        refine J_aload_n (pc := 464) C dXL_law_464 rfl ?_
                        refine J_aload_n (pc := 465) C dXL_law_465 rfl ?_
                        refine J_iload_n (pc := 466) C dXL_law_466 rfl ?_
                        refine J_iconst (pc := 467) C dXL_law_467 ic_1 ?_
                        refine J_iadd (pc := 468) C dXL_law_468 ?_
                        refine J_scr (pc := 469) C dXL_law_469 hs hF (fun v469 hF => ?_)
                        refine J_i2l (pc := 470) C dXL_law_470 ?_
                        refine J_bipush (pc := 471) C dXL_law_471 bc_32 ?_
                        refine J_lshl (pc := 473) C dXL_law_473 ?_
                        refine J_aload_n (pc := 474) C dXL_law_474 rfl ?_
                        refine J_iload_n (pc := 475) C dXL_law_475 rfl ?_
                        refine J_iconst (pc := 476) C dXL_law_476 ic_2 ?_
                        refine J_iadd (pc := 477) C dXL_law_477 ?_
                        refine J_scr (pc := 478) C dXL_law_478 hs hF (fun v478 hF => ?_)
                        refine J_i2l (pc := 479) C dXL_law_479 ?_
                        refine J_ldc2 (pc := 480) C dXL_law_480 w_KLXL_48 ?_
                        refine J_land (pc := 483) C dXL_law_483 ?_
                        refine J_lor (pc := 484) C dXL_law_484 ?_
                        refine J_aload_n (pc := 485) C dXL_law_485 rfl ?_
                        refine J_iload_n (pc := 486) C dXL_law_486 rfl ?_
                        refine J_iconst (pc := 487) C dXL_law_487 ic_3 ?_
                        refine J_iadd (pc := 488) C dXL_law_488 ?_
                        refine J_scr (pc := 489) C dXL_law_489 hs hF (fun v489 hF => ?_)
                        refine J_bind hF (fun q490 hq hF => ?_)
                        refine J_callV0_i (pc := 490) (stk := [.int v489, .long ((lshl v469.toInt64 32) ||| (v478.toInt64 &&& 4294967295)), .ref a1]) (st := []) C dXL_law_490 yw_X8_feed w_MLXL_50 in_X8_feed sl_X8_feed ⟨_, rfl, rfl⟩ (kX8_feed hq) (gO_some hq).1 rfl (by decide) rfl (Nat.le_of_ble_eq_true rfl) ?_ (hkk := ⟨by omega, by omega⟩)
                        refine J_aload_n (pc := 493) C dXL_law_493 rfl ?_
                        refine J_aload_n (pc := 494) C dXL_law_494 rfl ?_
                        refine J_iload_n (pc := 495) C dXL_law_495 rfl ?_
                        refine J_iconst (pc := 496) C dXL_law_496 ic_1 ?_
                        refine J_iadd (pc := 497) C dXL_law_497 ?_
                        refine J_scr (pc := 498) C dXL_law_498 hs hF (fun v498 hF => ?_)
                        refine J_i2l (pc := 499) C dXL_law_499 ?_
                        refine J_bipush (pc := 500) C dXL_law_500 bc_32 ?_
                        refine J_lshl (pc := 502) C dXL_law_502 ?_
                        refine J_aload_n (pc := 503) C dXL_law_503 rfl ?_
                        refine J_iload_n (pc := 504) C dXL_law_504 rfl ?_
                        refine J_iconst (pc := 505) C dXL_law_505 ic_2 ?_
                        refine J_iadd (pc := 506) C dXL_law_506 ?_
                        refine J_scr (pc := 507) C dXL_law_507 hs hF (fun v507 hF => ?_)
                        refine J_i2l (pc := 508) C dXL_law_508 ?_
                        refine J_ldc2 (pc := 509) C dXL_law_509 w_KLXL_48 ?_
                        refine J_land (pc := 512) C dXL_law_512 ?_
                        refine J_lor (pc := 513) C dXL_law_513 ?_
                        refine J_aload_n (pc := 514) C dXL_law_514 rfl ?_
                        refine J_iload_n (pc := 515) C dXL_law_515 rfl ?_
                        refine J_iconst (pc := 516) C dXL_law_516 ic_3 ?_
                        refine J_iadd (pc := 517) C dXL_law_517 ?_
                        refine J_scr (pc := 518) C dXL_law_518 hs hF (fun v518 hF => ?_)
                        refine J_bind hF (fun q519 hq hF => ?_)
                        refine J_callV0_i (pc := 519) (stk := [.int v518, .long ((lshl v498.toInt64 32) ||| (v507.toInt64 &&& 4294967295)), .ref a2, .int q490.1]) (st := [.int q490.1]) C dXL_law_519 yw_X9_feed w_MLXL_54 in_X9_feed sl_X9_feed ⟨_, rfl, rfl⟩ (kX9_feed hq) (gO_some hq).1 rfl (by decide) rfl (Nat.le_of_ble_eq_true rfl) ?_ (hkk := ⟨by omega, by omega⟩)
                        refine J_icmp_eq (pc := 522) (tgt := 1404) C dXL_law_522 rfl hF (fun hF => ?_) (fun hF => ?_)
                        · refine J_iinc (pc := 1404) (lv' := [some (.ref bS), some (.ref a1), some (.ref a2), some (.int (x3 + 6))]) C dXL_law_1404 rfl ic_6 rfl ?_
                          refine J_goto (pc := 1407) (tgt := 18) C dXL_law_1407 rfl ?_
                          exact ih _ _ q519.2 a1 a2 (x3 + 6) (by omega) (by omega) hF
                        · refine J_iconst (pc := 525) C dXL_law_525 ic_0 ?_
                          exact J_zret (pc := 526) C dXL_law_526 rfl hF (by omega) (by omega)
                      · refine J_br hF (fun hc33_9 hF => ?_) (fun hc33_9 hF => ?_)
                        · refine J_tsIn (pc := 33) (tgt := 527) C 9 hc33_9 dXL_law_33 (by decide) (by decide) rfl rfl ?_
                          refine J_aload_n (pc := 527) C dXL_law_527 rfl ?_
                          refine J_aload_n (pc := 528) C dXL_law_528 rfl ?_
                          refine J_iload_n (pc := 529) C dXL_law_529 rfl ?_
                          refine J_iconst (pc := 530) C dXL_law_530 ic_1 ?_
                          refine J_iadd (pc := 531) C dXL_law_531 ?_
                          refine J_scr (pc := 532) C dXL_law_532 hs hF (fun v532 hF => ?_)
                          refine J_bind hF (fun q533 hq hF => ?_)
                          refine J_callV_i (pc := 533) (stk := [.int v532, .ref a1]) (st := []) C dXL_law_533 yw_X8_text w_MLXL_55 in_X8_text sl_X8_text ⟨_, rfl, rfl⟩ (kX8_text hq) (gO_some hq).1 rfl (by decide) (by omega) (by omega) rfl (Nat.le_of_ble_eq_true rfl) ?_
                          refine J_aload_n (pc := 536) C dXL_law_536 rfl ?_
                          refine J_aload_n (pc := 537) C dXL_law_537 rfl ?_
                          refine J_iload_n (pc := 538) C dXL_law_538 rfl ?_
                          refine J_iconst (pc := 539) C dXL_law_539 ic_1 ?_
                          refine J_iadd (pc := 540) C dXL_law_540 ?_
                          refine J_scr (pc := 541) C dXL_law_541 hs hF (fun v541 hF => ?_)
                          refine J_bind hF (fun q542 hq hF => ?_)
                          refine J_callV0_i (pc := 542) (stk := [.int v541, .ref a2, .int q533.1]) (st := [.int q533.1]) C dXL_law_542 yw_X9_text w_MLXL_58 in_X9_text sl_X9_text ⟨_, rfl, rfl⟩ (kX9_text hq) (gO_some hq).1 rfl (by decide) rfl (Nat.le_of_ble_eq_true rfl) ?_ (hkk := ⟨by omega, by omega⟩)
                          refine J_icmp_eq (pc := 545) (tgt := 1404) C dXL_law_545 rfl hF (fun hF => ?_) (fun hF => ?_)
                          · refine J_iinc (pc := 1404) (lv' := [some (.ref bS), some (.ref a1), some (.ref a2), some (.int (x3 + 6))]) C dXL_law_1404 rfl ic_6 rfl ?_
                            refine J_goto (pc := 1407) (tgt := 18) C dXL_law_1407 rfl ?_
                            exact ih _ _ q542.2 a1 a2 (x3 + 6) (by omega) (by omega) hF
                          · refine J_iconst (pc := 548) C dXL_law_548 ic_0 ?_
                            exact J_zret (pc := 549) C dXL_law_549 rfl hF (by omega) (by omega)
                        · refine J_br hF (fun hc33_10 hF => ?_) (fun hc33_10 hF => ?_)
                          · refine J_tsIn (pc := 33) (tgt := 550) C 10 hc33_10 dXL_law_33 (by decide) (by decide) rfl rfl ?_
                            refine J_aload_n (pc := 550) C dXL_law_550 rfl ?_
                            refine J_aload_n (pc := 551) C dXL_law_551 rfl ?_
                            refine J_iload_n (pc := 552) C dXL_law_552 rfl ?_
                            refine J_iconst (pc := 553) C dXL_law_553 ic_1 ?_
                            refine J_iadd (pc := 554) C dXL_law_554 ?_
                            refine J_scr (pc := 555) C dXL_law_555 hs hF (fun v555 hF => ?_)
                            refine J_bind hF (fun q556 hq hF => ?_)
                            refine J_callV0_i (pc := 556) (stk := [.int v555, .ref a1]) (st := []) C dXL_law_556 yw_X8_untell w_MLXL_59 in_X8_untell sl_X8_untell ⟨_, rfl, rfl⟩ (kX8_untell hq) (gO_some hq).1 rfl (by decide) rfl (Nat.le_of_ble_eq_true rfl) ?_ (hkk := ⟨by omega, by omega⟩)
                            refine J_aload_n (pc := 559) C dXL_law_559 rfl ?_
                            refine J_aload_n (pc := 560) C dXL_law_560 rfl ?_
                            refine J_iload_n (pc := 561) C dXL_law_561 rfl ?_
                            refine J_iconst (pc := 562) C dXL_law_562 ic_1 ?_
                            refine J_iadd (pc := 563) C dXL_law_563 ?_
                            refine J_scr (pc := 564) C dXL_law_564 hs hF (fun v564 hF => ?_)
                            refine J_bind hF (fun q565 hq hF => ?_)
                            refine J_callV0_i (pc := 565) (stk := [.int v564, .ref a2, .int q556.1]) (st := [.int q556.1]) C dXL_law_565 yw_X9_untell w_MLXL_62 in_X9_untell sl_X9_untell ⟨_, rfl, rfl⟩ (kX9_untell hq) (gO_some hq).1 rfl (by decide) rfl (Nat.le_of_ble_eq_true rfl) ?_ (hkk := ⟨by omega, by omega⟩)
                            refine J_icmp_eq (pc := 568) (tgt := 1404) C dXL_law_568 rfl hF (fun hF => ?_) (fun hF => ?_)
                            · refine J_iinc (pc := 1404) (lv' := [some (.ref bS), some (.ref a1), some (.ref a2), some (.int (x3 + 6))]) C dXL_law_1404 rfl ic_6 rfl ?_
                              refine J_goto (pc := 1407) (tgt := 18) C dXL_law_1407 rfl ?_
                              exact ih _ _ q565.2 a1 a2 (x3 + 6) (by omega) (by omega) hF
                            · refine J_iconst (pc := 571) C dXL_law_571 ic_0 ?_
                              exact J_zret (pc := 572) C dXL_law_572 rfl hF (by omega) (by omega)
                          · refine J_br hF (fun hc33_11 hF => ?_) (fun hc33_11 hF => ?_)
                            · refine J_tsIn (pc := 33) (tgt := 573) C 11 hc33_11 dXL_law_33 (by decide) (by decide) rfl rfl ?_
                              refine J_aload_n (pc := 573) C dXL_law_573 rfl ?_
                              refine J_aload_n (pc := 574) C dXL_law_574 rfl ?_
                              refine J_iload_n (pc := 575) C dXL_law_575 rfl ?_
                              refine J_iconst (pc := 576) C dXL_law_576 ic_1 ?_
                              refine J_iadd (pc := 577) C dXL_law_577 ?_
                              refine J_scr (pc := 578) C dXL_law_578 hs hF (fun v578 hF => ?_)
                              refine J_aload_n (pc := 579) C dXL_law_579 rfl ?_
                              refine J_iload_n (pc := 580) C dXL_law_580 rfl ?_
                              refine J_iconst (pc := 581) C dXL_law_581 ic_2 ?_
                              refine J_iadd (pc := 582) C dXL_law_582 ?_
                              refine J_scr (pc := 583) C dXL_law_583 hs hF (fun v583 hF => ?_)
                              refine J_bind hF (fun q584 hq hF => ?_)
                              refine J_callV0_i (pc := 584) (stk := [.int v583, .int v578, .ref a1]) (st := []) C dXL_law_584 yw_X8_cross w_MLXL_63 in_X8_cross sl_X8_cross ⟨_, rfl, rfl⟩ (kX8_cross hq) (gO_some hq).1 rfl (by decide) rfl (Nat.le_of_ble_eq_true rfl) ?_ (hkk := ⟨by omega, by omega⟩)
                              refine J_aload_n (pc := 587) C dXL_law_587 rfl ?_
                              refine J_aload_n (pc := 588) C dXL_law_588 rfl ?_
                              refine J_iload_n (pc := 589) C dXL_law_589 rfl ?_
                              refine J_iconst (pc := 590) C dXL_law_590 ic_1 ?_
                              refine J_iadd (pc := 591) C dXL_law_591 ?_
                              refine J_scr (pc := 592) C dXL_law_592 hs hF (fun v592 hF => ?_)
                              refine J_aload_n (pc := 593) C dXL_law_593 rfl ?_
                              refine J_iload_n (pc := 594) C dXL_law_594 rfl ?_
                              refine J_iconst (pc := 595) C dXL_law_595 ic_2 ?_
                              refine J_iadd (pc := 596) C dXL_law_596 ?_
                              refine J_scr (pc := 597) C dXL_law_597 hs hF (fun v597 hF => ?_)
                              refine J_bind hF (fun q598 hq hF => ?_)
                              refine J_callV0_i (pc := 598) (stk := [.int v597, .int v592, .ref a2, .int q584.1]) (st := [.int q584.1]) C dXL_law_598 yw_X9_cross w_MLXL_66 in_X9_cross sl_X9_cross ⟨_, rfl, rfl⟩ (kX9_cross hq) (gO_some hq).1 rfl (by decide) rfl (Nat.le_of_ble_eq_true rfl) ?_ (hkk := ⟨by omega, by omega⟩)
                              refine J_icmp_eq (pc := 601) (tgt := 1404) C dXL_law_601 rfl hF (fun hF => ?_) (fun hF => ?_)
                              · refine J_iinc (pc := 1404) (lv' := [some (.ref bS), some (.ref a1), some (.ref a2), some (.int (x3 + 6))]) C dXL_law_1404 rfl ic_6 rfl ?_
                                refine J_goto (pc := 1407) (tgt := 18) C dXL_law_1407 rfl ?_
                                exact ih _ _ q598.2 a1 a2 (x3 + 6) (by omega) (by omega) hF
                              · refine J_iconst (pc := 604) C dXL_law_604 ic_0 ?_
                                exact J_zret (pc := 605) C dXL_law_605 rfl hF (by omega) (by omega)
                            · refine J_br hF (fun hc33_12 hF => ?_) (fun hc33_12 hF => ?_)
                              · refine J_tsIn (pc := 33) (tgt := 606) C 12 hc33_12 dXL_law_33 (by decide) (by decide) rfl rfl ?_
                                refine J_aload_n (pc := 606) C dXL_law_606 rfl ?_
                                refine J_aload_n (pc := 607) C dXL_law_607 rfl ?_
                                refine J_iload_n (pc := 608) C dXL_law_608 rfl ?_
                                refine J_iconst (pc := 609) C dXL_law_609 ic_1 ?_
                                refine J_iadd (pc := 610) C dXL_law_610 ?_
                                refine J_scr (pc := 611) C dXL_law_611 hs hF (fun v611 hF => ?_)
                                refine J_bind hF (fun q612 hq hF => ?_)
                                refine J_callV0_i (pc := 612) (stk := [.int v611, .ref a1]) (st := []) C dXL_law_612 yw_X8_alone w_MLXL_67 in_X8_alone sl_X8_alone ⟨_, rfl, rfl⟩ (kX8_alone hq) (gO_some hq).1 rfl (by decide) rfl (Nat.le_of_ble_eq_true rfl) ?_ (hkk := ⟨by omega, by omega⟩)
                                refine J_aload_n (pc := 615) C dXL_law_615 rfl ?_
                                refine J_aload_n (pc := 616) C dXL_law_616 rfl ?_
                                refine J_iload_n (pc := 617) C dXL_law_617 rfl ?_
                                refine J_iconst (pc := 618) C dXL_law_618 ic_1 ?_
                                refine J_iadd (pc := 619) C dXL_law_619 ?_
                                refine J_scr (pc := 620) C dXL_law_620 hs hF (fun v620 hF => ?_)
                                refine J_bind hF (fun q621 hq hF => ?_)
                                refine J_callV0_i (pc := 621) (stk := [.int v620, .ref a2, .int q612.1]) (st := [.int q612.1]) C dXL_law_621 yw_X9_alone w_MLXL_70 in_X9_alone sl_X9_alone ⟨_, rfl, rfl⟩ (kX9_alone hq) (gO_some hq).1 rfl (by decide) rfl (Nat.le_of_ble_eq_true rfl) ?_ (hkk := ⟨by omega, by omega⟩)
                                refine J_icmp_eq (pc := 624) (tgt := 1404) C dXL_law_624 rfl hF (fun hF => ?_) (fun hF => ?_)
                                · refine J_iinc (pc := 1404) (lv' := [some (.ref bS), some (.ref a1), some (.ref a2), some (.int (x3 + 6))]) C dXL_law_1404 rfl ic_6 rfl ?_
                                  refine J_goto (pc := 1407) (tgt := 18) C dXL_law_1407 rfl ?_
                                  exact ih _ _ q621.2 a1 a2 (x3 + 6) (by omega) (by omega) hF
                                · refine J_iconst (pc := 627) C dXL_law_627 ic_0 ?_
                                  exact J_zret (pc := 628) C dXL_law_628 rfl hF (by omega) (by omega)
                              · refine J_br hF (fun hc33_13 hF => ?_) (fun hc33_13 hF => ?_)
                                · refine J_tsIn (pc := 33) (tgt := 629) C 13 hc33_13 dXL_law_33 (by decide) (by decide) rfl rfl ?_
                                  refine J_aload_n (pc := 629) C dXL_law_629 rfl ?_
                                  refine J_aload_n (pc := 630) C dXL_law_630 rfl ?_
                                  refine J_iload_n (pc := 631) C dXL_law_631 rfl ?_
                                  refine J_iconst (pc := 632) C dXL_law_632 ic_1 ?_
                                  refine J_iadd (pc := 633) C dXL_law_633 ?_
                                  refine J_scr (pc := 634) C dXL_law_634 hs hF (fun v634 hF => ?_)
                                  refine J_bind hF (fun q635 hq hF => ?_)
                                  refine J_callV0_i (pc := 635) (stk := [.int v634, .ref a1]) (st := []) C dXL_law_635 yw_X8_draws w_MLXL_71 in_X8_draws sl_X8_draws ⟨_, rfl, rfl⟩ (kX8_draws hq) (gO_some hq).1 rfl (by decide) rfl (Nat.le_of_ble_eq_true rfl) ?_ (hkk := ⟨by omega, by omega⟩)
                                  refine J_aload_n (pc := 638) C dXL_law_638 rfl ?_
                                  refine J_aload_n (pc := 639) C dXL_law_639 rfl ?_
                                  refine J_iload_n (pc := 640) C dXL_law_640 rfl ?_
                                  refine J_iconst (pc := 641) C dXL_law_641 ic_1 ?_
                                  refine J_iadd (pc := 642) C dXL_law_642 ?_
                                  refine J_scr (pc := 643) C dXL_law_643 hs hF (fun v643 hF => ?_)
                                  refine J_bind hF (fun q644 hq hF => ?_)
                                  refine J_callV0_i (pc := 644) (stk := [.int v643, .ref a2, .int q635.1]) (st := [.int q635.1]) C dXL_law_644 yw_X9_draws w_MLXL_74 in_X9_draws sl_X9_draws ⟨_, rfl, rfl⟩ (kX9_draws hq) (gO_some hq).1 rfl (by decide) rfl (Nat.le_of_ble_eq_true rfl) ?_ (hkk := ⟨by omega, by omega⟩)
                                  refine J_icmp_eq (pc := 647) (tgt := 1404) C dXL_law_647 rfl hF (fun hF => ?_) (fun hF => ?_)
                                  · refine J_iinc (pc := 1404) (lv' := [some (.ref bS), some (.ref a1), some (.ref a2), some (.int (x3 + 6))]) C dXL_law_1404 rfl ic_6 rfl ?_
                                    refine J_goto (pc := 1407) (tgt := 18) C dXL_law_1407 rfl ?_
                                    exact ih _ _ q644.2 a1 a2 (x3 + 6) (by omega) (by omega) hF
                                  · refine J_iconst (pc := 650) C dXL_law_650 ic_0 ?_
                                    exact J_zret (pc := 651) C dXL_law_651 rfl hF (by omega) (by omega)
                                · refine J_br hF (fun hc33_14 hF => ?_) (fun hc33_14 hF => ?_)
                                  · refine J_tsIn (pc := 33) (tgt := 652) C 14 hc33_14 dXL_law_33 (by decide) (by decide) rfl rfl ?_
                                    refine J_aload_n (pc := 652) C dXL_law_652 rfl ?_
                                    refine J_aload_n (pc := 653) C dXL_law_653 rfl ?_
                                    refine J_iload_n (pc := 654) C dXL_law_654 rfl ?_
                                    refine J_iconst (pc := 655) C dXL_law_655 ic_1 ?_
                                    refine J_iadd (pc := 656) C dXL_law_656 ?_
                                    refine J_scr (pc := 657) C dXL_law_657 hs hF (fun v657 hF => ?_)
                                    refine J_bind hF (fun q658 hq hF => ?_)
                                    refine J_callV0_i (pc := 658) (stk := [.int v657, .ref a1]) (st := []) C dXL_law_658 yw_X8_seed w_MLXL_75 in_X8_seed sl_X8_seed ⟨_, rfl, rfl⟩ (kX8_seed hq) (gO_some hq).1 rfl (by decide) rfl (Nat.le_of_ble_eq_true rfl) ?_ (hkk := ⟨by omega, by omega⟩)
                                    refine J_aload_n (pc := 661) C dXL_law_661 rfl ?_
                                    refine J_aload_n (pc := 662) C dXL_law_662 rfl ?_
                                    refine J_iload_n (pc := 663) C dXL_law_663 rfl ?_
                                    refine J_iconst (pc := 664) C dXL_law_664 ic_1 ?_
                                    refine J_iadd (pc := 665) C dXL_law_665 ?_
                                    refine J_scr (pc := 666) C dXL_law_666 hs hF (fun v666 hF => ?_)
                                    refine J_bind hF (fun q667 hq hF => ?_)
                                    refine J_callV0_i (pc := 667) (stk := [.int v666, .ref a2, .int q658.1]) (st := [.int q658.1]) C dXL_law_667 yw_X9_seed w_MLXL_78 in_X9_seed sl_X9_seed ⟨_, rfl, rfl⟩ (kX9_seed hq) (gO_some hq).1 rfl (by decide) rfl (Nat.le_of_ble_eq_true rfl) ?_ (hkk := ⟨by omega, by omega⟩)
                                    refine J_icmp_eq (pc := 670) (tgt := 1404) C dXL_law_670 rfl hF (fun hF => ?_) (fun hF => ?_)
                                    · refine J_iinc (pc := 1404) (lv' := [some (.ref bS), some (.ref a1), some (.ref a2), some (.int (x3 + 6))]) C dXL_law_1404 rfl ic_6 rfl ?_
                                      refine J_goto (pc := 1407) (tgt := 18) C dXL_law_1407 rfl ?_
                                      exact ih _ _ q667.2 a1 a2 (x3 + 6) (by omega) (by omega) hF
                                    · refine J_iconst (pc := 673) C dXL_law_673 ic_0 ?_
                                      exact J_zret (pc := 674) C dXL_law_674 rfl hF (by omega) (by omega)
                                  · refine J_br hF (fun hc33_15 hF => ?_) (fun hc33_15 hF => ?_)
                                    · refine J_tsIn (pc := 33) (tgt := 675) C 15 hc33_15 dXL_law_33 (by decide) (by decide) rfl rfl ?_
                                      refine J_aload_n (pc := 675) C dXL_law_675 rfl ?_
                                      refine J_aload_n (pc := 676) C dXL_law_676 rfl ?_
                                      refine J_iload_n (pc := 677) C dXL_law_677 rfl ?_
                                      refine J_iconst (pc := 678) C dXL_law_678 ic_1 ?_
                                      refine J_iadd (pc := 679) C dXL_law_679 ?_
                                      refine J_scr (pc := 680) C dXL_law_680 hs hF (fun v680 hF => ?_)
                                      refine J_bind hF (fun q681 hq hF => ?_)
                                      refine J_callV0_i (pc := 681) (stk := [.int v680, .ref a1]) (st := []) C dXL_law_681 yw_X8_book w_MLXL_79 in_X8_book sl_X8_book ⟨_, rfl, rfl⟩ (kX8_book hq) (gO_some hq).1 rfl (by decide) rfl (Nat.le_of_ble_eq_true rfl) ?_ (hkk := ⟨by omega, by omega⟩)
                                      refine J_aload_n (pc := 684) C dXL_law_684 rfl ?_
                                      refine J_aload_n (pc := 685) C dXL_law_685 rfl ?_
                                      refine J_iload_n (pc := 686) C dXL_law_686 rfl ?_
                                      refine J_iconst (pc := 687) C dXL_law_687 ic_1 ?_
                                      refine J_iadd (pc := 688) C dXL_law_688 ?_
                                      refine J_scr (pc := 689) C dXL_law_689 hs hF (fun v689 hF => ?_)
                                      refine J_bind hF (fun q690 hq hF => ?_)
                                      refine J_callV0_i (pc := 690) (stk := [.int v689, .ref a2, .int q681.1]) (st := [.int q681.1]) C dXL_law_690 yw_X9_book w_MLXL_82 in_X9_book sl_X9_book ⟨_, rfl, rfl⟩ (kX9_book hq) (gO_some hq).1 rfl (by decide) rfl (Nat.le_of_ble_eq_true rfl) ?_ (hkk := ⟨by omega, by omega⟩)
                                      refine J_icmp_eq (pc := 693) (tgt := 1404) C dXL_law_693 rfl hF (fun hF => ?_) (fun hF => ?_)
                                      · refine J_iinc (pc := 1404) (lv' := [some (.ref bS), some (.ref a1), some (.ref a2), some (.int (x3 + 6))]) C dXL_law_1404 rfl ic_6 rfl ?_
                                        refine J_goto (pc := 1407) (tgt := 18) C dXL_law_1407 rfl ?_
                                        exact ih _ _ q690.2 a1 a2 (x3 + 6) (by omega) (by omega) hF
                                      · refine J_iconst (pc := 696) C dXL_law_696 ic_0 ?_
                                        exact J_zret (pc := 697) C dXL_law_697 rfl hF (by omega) (by omega)
                                    · refine J_br hF (fun hc33_16 hF => ?_) (fun hc33_16 hF => ?_)
                                      · refine J_tsIn (pc := 33) (tgt := 698) C 16 hc33_16 dXL_law_33 (by decide) (by decide) rfl rfl ?_
                                        refine J_aload_n (pc := 698) C dXL_law_698 rfl ?_
                                        refine J_aload_n (pc := 699) C dXL_law_699 rfl ?_
                                        refine J_iload_n (pc := 700) C dXL_law_700 rfl ?_
                                        refine J_iconst (pc := 701) C dXL_law_701 ic_1 ?_
                                        refine J_iadd (pc := 702) C dXL_law_702 ?_
                                        refine J_scr (pc := 703) C dXL_law_703 hs hF (fun v703 hF => ?_)
                                        refine J_aload_n (pc := 704) C dXL_law_704 rfl ?_
                                        refine J_iload_n (pc := 705) C dXL_law_705 rfl ?_
                                        refine J_iconst (pc := 706) C dXL_law_706 ic_2 ?_
                                        refine J_iadd (pc := 707) C dXL_law_707 ?_
                                        refine J_scr (pc := 708) C dXL_law_708 hs hF (fun v708 hF => ?_)
                                        refine J_aload_n (pc := 709) C dXL_law_709 rfl ?_
                                        refine J_iload_n (pc := 710) C dXL_law_710 rfl ?_
                                        refine J_iconst (pc := 711) C dXL_law_711 ic_3 ?_
                                        refine J_iadd (pc := 712) C dXL_law_712 ?_
                                        refine J_scr (pc := 713) C dXL_law_713 hs hF (fun v713 hF => ?_)
                                        refine J_bind hF (fun q714 hq hF => ?_)
                                        refine J_callV0_i (pc := 714) (stk := [.int v713, .int v708, .int v703, .ref a1]) (st := []) C dXL_law_714 yw_X8_debt w_MLXL_83 in_X8_debt sl_X8_debt ⟨_, rfl, rfl⟩ (kX8_debt hq) (gO_some hq).1 rfl (by decide) rfl (Nat.le_of_ble_eq_true rfl) ?_ (hkk := ⟨by omega, by omega⟩)
                                        refine J_aload_n (pc := 717) C dXL_law_717 rfl ?_
                                        refine J_aload_n (pc := 718) C dXL_law_718 rfl ?_
                                        refine J_iload_n (pc := 719) C dXL_law_719 rfl ?_
                                        refine J_iconst (pc := 720) C dXL_law_720 ic_1 ?_
                                        refine J_iadd (pc := 721) C dXL_law_721 ?_
                                        refine J_scr (pc := 722) C dXL_law_722 hs hF (fun v722 hF => ?_)
                                        refine J_aload_n (pc := 723) C dXL_law_723 rfl ?_
                                        refine J_iload_n (pc := 724) C dXL_law_724 rfl ?_
                                        refine J_iconst (pc := 725) C dXL_law_725 ic_2 ?_
                                        refine J_iadd (pc := 726) C dXL_law_726 ?_
                                        refine J_scr (pc := 727) C dXL_law_727 hs hF (fun v727 hF => ?_)
                                        refine J_aload_n (pc := 728) C dXL_law_728 rfl ?_
                                        refine J_iload_n (pc := 729) C dXL_law_729 rfl ?_
                                        refine J_iconst (pc := 730) C dXL_law_730 ic_3 ?_
                                        refine J_iadd (pc := 731) C dXL_law_731 ?_
                                        refine J_scr (pc := 732) C dXL_law_732 hs hF (fun v732 hF => ?_)
                                        refine J_bind hF (fun q733 hq hF => ?_)
                                        refine J_callV0_i (pc := 733) (stk := [.int v732, .int v727, .int v722, .ref a2, .int q714.1]) (st := [.int q714.1]) C dXL_law_733 yw_X9_debt w_MLXL_86 in_X9_debt sl_X9_debt ⟨_, rfl, rfl⟩ (kX9_debt hq) (gO_some hq).1 rfl (by decide) rfl (Nat.le_of_ble_eq_true rfl) ?_ (hkk := ⟨by omega, by omega⟩)
                                        refine J_icmp_eq (pc := 736) (tgt := 1404) C dXL_law_736 rfl hF (fun hF => ?_) (fun hF => ?_)
                                        · refine J_iinc (pc := 1404) (lv' := [some (.ref bS), some (.ref a1), some (.ref a2), some (.int (x3 + 6))]) C dXL_law_1404 rfl ic_6 rfl ?_
                                          refine J_goto (pc := 1407) (tgt := 18) C dXL_law_1407 rfl ?_
                                          exact ih _ _ q733.2 a1 a2 (x3 + 6) (by omega) (by omega) hF
                                        · refine J_iconst (pc := 739) C dXL_law_739 ic_0 ?_
                                          exact J_zret (pc := 740) C dXL_law_740 rfl hF (by omega) (by omega)
                                      · refine J_br hF (fun hc33_17 hF => ?_) (fun hc33_17 hF => ?_)
                                        · refine J_tsIn (pc := 33) (tgt := 741) C 17 hc33_17 dXL_law_33 (by decide) (by decide) rfl rfl ?_
                                          refine J_aload_n (pc := 741) C dXL_law_741 rfl ?_
                                          refine J_aload_n (pc := 742) C dXL_law_742 rfl ?_
                                          refine J_iload_n (pc := 743) C dXL_law_743 rfl ?_
                                          refine J_iconst (pc := 744) C dXL_law_744 ic_1 ?_
                                          refine J_iadd (pc := 745) C dXL_law_745 ?_
                                          refine J_scr (pc := 746) C dXL_law_746 hs hF (fun v746 hF => ?_)
                                          refine J_aload_n (pc := 747) C dXL_law_747 rfl ?_
                                          refine J_iload_n (pc := 748) C dXL_law_748 rfl ?_
                                          refine J_iconst (pc := 749) C dXL_law_749 ic_2 ?_
                                          refine J_iadd (pc := 750) C dXL_law_750 ?_
                                          refine J_scr (pc := 751) C dXL_law_751 hs hF (fun v751 hF => ?_)
                                          refine J_bind hF (fun q752 hq hF => ?_)
                                          refine J_callV0_i (pc := 752) (stk := [.int v751, .int v746, .ref a1]) (st := []) C dXL_law_752 yw_X8_debtIs w_MLXL_87 in_X8_debtIs sl_X8_debtIs ⟨_, rfl, rfl⟩ (kX8_debtIs hq) (gO_some hq).1 rfl (by decide) rfl (Nat.le_of_ble_eq_true rfl) ?_ (hkk := ⟨by omega, by omega⟩)
                                          refine J_aload_n (pc := 755) C dXL_law_755 rfl ?_
                                          refine J_aload_n (pc := 756) C dXL_law_756 rfl ?_
                                          refine J_iload_n (pc := 757) C dXL_law_757 rfl ?_
                                          refine J_iconst (pc := 758) C dXL_law_758 ic_1 ?_
                                          refine J_iadd (pc := 759) C dXL_law_759 ?_
                                          refine J_scr (pc := 760) C dXL_law_760 hs hF (fun v760 hF => ?_)
                                          refine J_aload_n (pc := 761) C dXL_law_761 rfl ?_
                                          refine J_iload_n (pc := 762) C dXL_law_762 rfl ?_
                                          refine J_iconst (pc := 763) C dXL_law_763 ic_2 ?_
                                          refine J_iadd (pc := 764) C dXL_law_764 ?_
                                          refine J_scr (pc := 765) C dXL_law_765 hs hF (fun v765 hF => ?_)
                                          refine J_bind hF (fun q766 hq hF => ?_)
                                          refine J_callV0_i (pc := 766) (stk := [.int v765, .int v760, .ref a2, .int q752.1]) (st := [.int q752.1]) C dXL_law_766 yw_X9_debtIs w_MLXL_90 in_X9_debtIs sl_X9_debtIs ⟨_, rfl, rfl⟩ (kX9_debtIs hq) (gO_some hq).1 rfl (by decide) rfl (Nat.le_of_ble_eq_true rfl) ?_ (hkk := ⟨by omega, by omega⟩)
                                          refine J_icmp_eq (pc := 769) (tgt := 1404) C dXL_law_769 rfl hF (fun hF => ?_) (fun hF => ?_)
                                          · refine J_iinc (pc := 1404) (lv' := [some (.ref bS), some (.ref a1), some (.ref a2), some (.int (x3 + 6))]) C dXL_law_1404 rfl ic_6 rfl ?_
                                            refine J_goto (pc := 1407) (tgt := 18) C dXL_law_1407 rfl ?_
                                            exact ih _ _ q766.2 a1 a2 (x3 + 6) (by omega) (by omega) hF
                                          · refine J_iconst (pc := 772) C dXL_law_772 ic_0 ?_
                                            exact J_zret (pc := 773) C dXL_law_773 rfl hF (by omega) (by omega)
                                        · refine J_br hF (fun hc33_18 hF => ?_) (fun hc33_18 hF => ?_)
                                          · refine J_tsIn (pc := 33) (tgt := 774) C 18 hc33_18 dXL_law_33 (by decide) (by decide) rfl rfl ?_
                                            refine J_aload_n (pc := 774) C dXL_law_774 rfl ?_
                                            refine J_aload_n (pc := 775) C dXL_law_775 rfl ?_
                                            refine J_iload_n (pc := 776) C dXL_law_776 rfl ?_
                                            refine J_iconst (pc := 777) C dXL_law_777 ic_1 ?_
                                            refine J_iadd (pc := 778) C dXL_law_778 ?_
                                            refine J_scr (pc := 779) C dXL_law_779 hs hF (fun v779 hF => ?_)
                                            refine J_bind hF (fun q780 hq hF => ?_)
                                            refine J_callV0_i (pc := 780) (stk := [.int v779, .ref a1]) (st := []) C dXL_law_780 yw_X8_pay w_MLXL_91 in_X8_pay sl_X8_pay ⟨_, rfl, rfl⟩ (kX8_pay hq) (gO_some hq).1 rfl (by decide) rfl (Nat.le_of_ble_eq_true rfl) ?_ (hkk := ⟨by omega, by omega⟩)
                                            refine J_aload_n (pc := 783) C dXL_law_783 rfl ?_
                                            refine J_aload_n (pc := 784) C dXL_law_784 rfl ?_
                                            refine J_iload_n (pc := 785) C dXL_law_785 rfl ?_
                                            refine J_iconst (pc := 786) C dXL_law_786 ic_1 ?_
                                            refine J_iadd (pc := 787) C dXL_law_787 ?_
                                            refine J_scr (pc := 788) C dXL_law_788 hs hF (fun v788 hF => ?_)
                                            refine J_bind hF (fun q789 hq hF => ?_)
                                            refine J_callV0_i (pc := 789) (stk := [.int v788, .ref a2, .int q780.1]) (st := [.int q780.1]) C dXL_law_789 yw_X9_pay w_MLXL_94 in_X9_pay sl_X9_pay ⟨_, rfl, rfl⟩ (kX9_pay hq) (gO_some hq).1 rfl (by decide) rfl (Nat.le_of_ble_eq_true rfl) ?_ (hkk := ⟨by omega, by omega⟩)
                                            refine J_icmp_eq (pc := 792) (tgt := 1404) C dXL_law_792 rfl hF (fun hF => ?_) (fun hF => ?_)
                                            · refine J_iinc (pc := 1404) (lv' := [some (.ref bS), some (.ref a1), some (.ref a2), some (.int (x3 + 6))]) C dXL_law_1404 rfl ic_6 rfl ?_
                                              refine J_goto (pc := 1407) (tgt := 18) C dXL_law_1407 rfl ?_
                                              exact ih _ _ q789.2 a1 a2 (x3 + 6) (by omega) (by omega) hF
                                            · refine J_iconst (pc := 795) C dXL_law_795 ic_0 ?_
                                              exact J_zret (pc := 796) C dXL_law_796 rfl hF (by omega) (by omega)
                                          · refine J_br hF (fun hc33_19 hF => ?_) (fun hc33_19 hF => ?_)
                                            · refine J_tsIn (pc := 33) (tgt := 797) C 19 hc33_19 dXL_law_33 (by decide) (by decide) rfl rfl ?_
                                              refine J_aload_n (pc := 797) C dXL_law_797 rfl ?_
                                              refine J_aload_n (pc := 798) C dXL_law_798 rfl ?_
                                              refine J_iload_n (pc := 799) C dXL_law_799 rfl ?_
                                              refine J_iconst (pc := 800) C dXL_law_800 ic_1 ?_
                                              refine J_iadd (pc := 801) C dXL_law_801 ?_
                                              refine J_scr (pc := 802) C dXL_law_802 hs hF (fun v802 hF => ?_)
                                              refine J_aload_n (pc := 803) C dXL_law_803 rfl ?_
                                              refine J_iload_n (pc := 804) C dXL_law_804 rfl ?_
                                              refine J_iconst (pc := 805) C dXL_law_805 ic_2 ?_
                                              refine J_iadd (pc := 806) C dXL_law_806 ?_
                                              refine J_scr (pc := 807) C dXL_law_807 hs hF (fun v807 hF => ?_)
                                              refine J_bind hF (fun q808 hq hF => ?_)
                                              refine J_callV0_i (pc := 808) (stk := [.int v807, .int v802, .ref a1]) (st := []) C dXL_law_808 yw_X8_loses w_MLXL_95 in_X8_loses sl_X8_loses ⟨_, rfl, rfl⟩ (kX8_loses hq) (gO_some hq).1 rfl (by decide) rfl (Nat.le_of_ble_eq_true rfl) ?_ (hkk := ⟨by omega, by omega⟩)
                                              refine J_aload_n (pc := 811) C dXL_law_811 rfl ?_
                                              refine J_aload_n (pc := 812) C dXL_law_812 rfl ?_
                                              refine J_iload_n (pc := 813) C dXL_law_813 rfl ?_
                                              refine J_iconst (pc := 814) C dXL_law_814 ic_1 ?_
                                              refine J_iadd (pc := 815) C dXL_law_815 ?_
                                              refine J_scr (pc := 816) C dXL_law_816 hs hF (fun v816 hF => ?_)
                                              refine J_aload_n (pc := 817) C dXL_law_817 rfl ?_
                                              refine J_iload_n (pc := 818) C dXL_law_818 rfl ?_
                                              refine J_iconst (pc := 819) C dXL_law_819 ic_2 ?_
                                              refine J_iadd (pc := 820) C dXL_law_820 ?_
                                              refine J_scr (pc := 821) C dXL_law_821 hs hF (fun v821 hF => ?_)
                                              refine J_bind hF (fun q822 hq hF => ?_)
                                              refine J_callV0_i (pc := 822) (stk := [.int v821, .int v816, .ref a2, .int q808.1]) (st := [.int q808.1]) C dXL_law_822 yw_X9_loses w_MLXL_98 in_X9_loses sl_X9_loses ⟨_, rfl, rfl⟩ (kX9_loses hq) (gO_some hq).1 rfl (by decide) rfl (Nat.le_of_ble_eq_true rfl) ?_ (hkk := ⟨by omega, by omega⟩)
                                              refine J_icmp_eq (pc := 825) (tgt := 1404) C dXL_law_825 rfl hF (fun hF => ?_) (fun hF => ?_)
                                              · refine J_iinc (pc := 1404) (lv' := [some (.ref bS), some (.ref a1), some (.ref a2), some (.int (x3 + 6))]) C dXL_law_1404 rfl ic_6 rfl ?_
                                                refine J_goto (pc := 1407) (tgt := 18) C dXL_law_1407 rfl ?_
                                                exact ih _ _ q822.2 a1 a2 (x3 + 6) (by omega) (by omega) hF
                                              · refine J_iconst (pc := 828) C dXL_law_828 ic_0 ?_
                                                exact J_zret (pc := 829) C dXL_law_829 rfl hF (by omega) (by omega)
                                            · refine J_br hF (fun hc33_20 hF => ?_) (fun hc33_20 hF => ?_)
                                              · refine J_tsIn (pc := 33) (tgt := 830) C 20 hc33_20 dXL_law_33 (by decide) (by decide) rfl rfl ?_
                                                refine J_aload_n (pc := 830) C dXL_law_830 rfl ?_
                                                refine J_aload_n (pc := 831) C dXL_law_831 rfl ?_
                                                refine J_iload_n (pc := 832) C dXL_law_832 rfl ?_
                                                refine J_iconst (pc := 833) C dXL_law_833 ic_1 ?_
                                                refine J_iadd (pc := 834) C dXL_law_834 ?_
                                                refine J_scr (pc := 835) C dXL_law_835 hs hF (fun v835 hF => ?_)
                                                refine J_aload_n (pc := 836) C dXL_law_836 rfl ?_
                                                refine J_iload_n (pc := 837) C dXL_law_837 rfl ?_
                                                refine J_iconst (pc := 838) C dXL_law_838 ic_2 ?_
                                                refine J_iadd (pc := 839) C dXL_law_839 ?_
                                                refine J_scr (pc := 840) C dXL_law_840 hs hF (fun v840 hF => ?_)
                                                refine J_aload_n (pc := 841) C dXL_law_841 rfl ?_
                                                refine J_iload_n (pc := 842) C dXL_law_842 rfl ?_
                                                refine J_iconst (pc := 843) C dXL_law_843 ic_3 ?_
                                                refine J_iadd (pc := 844) C dXL_law_844 ?_
                                                refine J_scr (pc := 845) C dXL_law_845 hs hF (fun v845 hF => ?_)
                                                refine J_bind hF (fun q846 hq hF => ?_)
                                                refine J_callV0_i (pc := 846) (stk := [.int v845, .int v840, .int v835, .ref a1]) (st := []) C dXL_law_846 yw_X8_stranger w_MLXL_99 in_X8_stranger sl_X8_stranger ⟨_, rfl, rfl⟩ (kX8_stranger hq) (gO_some hq).1 rfl (by decide) rfl (Nat.le_of_ble_eq_true rfl) ?_ (hkk := ⟨by omega, by omega⟩)
                                                refine J_aload_n (pc := 849) C dXL_law_849 rfl ?_
                                                refine J_aload_n (pc := 850) C dXL_law_850 rfl ?_
                                                refine J_iload_n (pc := 851) C dXL_law_851 rfl ?_
                                                refine J_iconst (pc := 852) C dXL_law_852 ic_1 ?_
                                                refine J_iadd (pc := 853) C dXL_law_853 ?_
                                                refine J_scr (pc := 854) C dXL_law_854 hs hF (fun v854 hF => ?_)
                                                refine J_aload_n (pc := 855) C dXL_law_855 rfl ?_
                                                refine J_iload_n (pc := 856) C dXL_law_856 rfl ?_
                                                refine J_iconst (pc := 857) C dXL_law_857 ic_2 ?_
                                                refine J_iadd (pc := 858) C dXL_law_858 ?_
                                                refine J_scr (pc := 859) C dXL_law_859 hs hF (fun v859 hF => ?_)
                                                refine J_aload_n (pc := 860) C dXL_law_860 rfl ?_
                                                refine J_iload_n (pc := 861) C dXL_law_861 rfl ?_
                                                refine J_iconst (pc := 862) C dXL_law_862 ic_3 ?_
                                                refine J_iadd (pc := 863) C dXL_law_863 ?_
                                                refine J_scr (pc := 864) C dXL_law_864 hs hF (fun v864 hF => ?_)
                                                refine J_bind hF (fun q865 hq hF => ?_)
                                                refine J_callV0_i (pc := 865) (stk := [.int v864, .int v859, .int v854, .ref a2, .int q846.1]) (st := [.int q846.1]) C dXL_law_865 yw_X9_stranger w_MLXL_102 in_X9_stranger sl_X9_stranger ⟨_, rfl, rfl⟩ (kX9_stranger hq) (gO_some hq).1 rfl (by decide) rfl (Nat.le_of_ble_eq_true rfl) ?_ (hkk := ⟨by omega, by omega⟩)
                                                refine J_icmp_eq (pc := 868) (tgt := 1404) C dXL_law_868 rfl hF (fun hF => ?_) (fun hF => ?_)
                                                · refine J_iinc (pc := 1404) (lv' := [some (.ref bS), some (.ref a1), some (.ref a2), some (.int (x3 + 6))]) C dXL_law_1404 rfl ic_6 rfl ?_
                                                  refine J_goto (pc := 1407) (tgt := 18) C dXL_law_1407 rfl ?_
                                                  exact ih _ _ q865.2 a1 a2 (x3 + 6) (by omega) (by omega) hF
                                                · refine J_iconst (pc := 871) C dXL_law_871 ic_0 ?_
                                                  exact J_zret (pc := 872) C dXL_law_872 rfl hF (by omega) (by omega)
                                              · refine J_br hF (fun hc33_21 hF => ?_) (fun hc33_21 hF => ?_)
                                                · refine J_tsIn (pc := 33) (tgt := 873) C 21 hc33_21 dXL_law_33 (by decide) (by decide) rfl rfl ?_
                                                  refine J_aload_n (pc := 873) C dXL_law_873 rfl ?_
                                                  refine J_aload_n (pc := 874) C dXL_law_874 rfl ?_
                                                  refine J_iload_n (pc := 875) C dXL_law_875 rfl ?_
                                                  refine J_iconst (pc := 876) C dXL_law_876 ic_1 ?_
                                                  refine J_iadd (pc := 877) C dXL_law_877 ?_
                                                  refine J_scr (pc := 878) C dXL_law_878 hs hF (fun v878 hF => ?_)
                                                  refine J_aload_n (pc := 879) C dXL_law_879 rfl ?_
                                                  refine J_iload_n (pc := 880) C dXL_law_880 rfl ?_
                                                  refine J_iconst (pc := 881) C dXL_law_881 ic_2 ?_
                                                  refine J_iadd (pc := 882) C dXL_law_882 ?_
                                                  refine J_scr (pc := 883) C dXL_law_883 hs hF (fun v883 hF => ?_)
                                                  refine J_aload_n (pc := 884) C dXL_law_884 rfl ?_
                                                  refine J_iload_n (pc := 885) C dXL_law_885 rfl ?_
                                                  refine J_iconst (pc := 886) C dXL_law_886 ic_3 ?_
                                                  refine J_iadd (pc := 887) C dXL_law_887 ?_
                                                  refine J_scr (pc := 888) C dXL_law_888 hs hF (fun v888 hF => ?_)
                                                  refine J_bind hF (fun q889 hq hF => ?_)
                                                  refine J_callV0_i (pc := 889) (stk := [.int v888, .int v883, .int v878, .ref a1]) (st := []) C dXL_law_889 yw_X8_way w_MLXL_103 in_X8_way sl_X8_way ⟨_, rfl, rfl⟩ (kX8_way hq) (gO_some hq).1 rfl (by decide) rfl (Nat.le_of_ble_eq_true rfl) ?_ (hkk := ⟨by omega, by omega⟩)
                                                  refine J_aload_n (pc := 892) C dXL_law_892 rfl ?_
                                                  refine J_aload_n (pc := 893) C dXL_law_893 rfl ?_
                                                  refine J_iload_n (pc := 894) C dXL_law_894 rfl ?_
                                                  refine J_iconst (pc := 895) C dXL_law_895 ic_1 ?_
                                                  refine J_iadd (pc := 896) C dXL_law_896 ?_
                                                  refine J_scr (pc := 897) C dXL_law_897 hs hF (fun v897 hF => ?_)
                                                  refine J_aload_n (pc := 898) C dXL_law_898 rfl ?_
                                                  refine J_iload_n (pc := 899) C dXL_law_899 rfl ?_
                                                  refine J_iconst (pc := 900) C dXL_law_900 ic_2 ?_
                                                  refine J_iadd (pc := 901) C dXL_law_901 ?_
                                                  refine J_scr (pc := 902) C dXL_law_902 hs hF (fun v902 hF => ?_)
                                                  refine J_aload_n (pc := 903) C dXL_law_903 rfl ?_
                                                  refine J_iload_n (pc := 904) C dXL_law_904 rfl ?_
                                                  refine J_iconst (pc := 905) C dXL_law_905 ic_3 ?_
                                                  refine J_iadd (pc := 906) C dXL_law_906 ?_
                                                  refine J_scr (pc := 907) C dXL_law_907 hs hF (fun v907 hF => ?_)
                                                  refine J_bind hF (fun q908 hq hF => ?_)
                                                  refine J_callV0_i (pc := 908) (stk := [.int v907, .int v902, .int v897, .ref a2, .int q889.1]) (st := [.int q889.1]) C dXL_law_908 yw_X9_way w_MLXL_106 in_X9_way sl_X9_way ⟨_, rfl, rfl⟩ (kX9_way hq) (gO_some hq).1 rfl (by decide) rfl (Nat.le_of_ble_eq_true rfl) ?_ (hkk := ⟨by omega, by omega⟩)
                                                  refine J_icmp_eq (pc := 911) (tgt := 1404) C dXL_law_911 rfl hF (fun hF => ?_) (fun hF => ?_)
                                                  · refine J_iinc (pc := 1404) (lv' := [some (.ref bS), some (.ref a1), some (.ref a2), some (.int (x3 + 6))]) C dXL_law_1404 rfl ic_6 rfl ?_
                                                    refine J_goto (pc := 1407) (tgt := 18) C dXL_law_1407 rfl ?_
                                                    exact ih _ _ q908.2 a1 a2 (x3 + 6) (by omega) (by omega) hF
                                                  · refine J_iconst (pc := 914) C dXL_law_914 ic_0 ?_
                                                    exact J_zret (pc := 915) C dXL_law_915 rfl hF (by omega) (by omega)
                                                · refine J_br hF (fun hc33_22 hF => ?_) (fun hc33_22 hF => ?_)
                                                  · refine J_tsIn (pc := 33) (tgt := 916) C 22 hc33_22 dXL_law_33 (by decide) (by decide) rfl rfl ?_
                                                    refine J_aload_n (pc := 916) C dXL_law_916 rfl ?_
                                                    refine J_aload_n (pc := 917) C dXL_law_917 rfl ?_
                                                    refine J_iload_n (pc := 918) C dXL_law_918 rfl ?_
                                                    refine J_iconst (pc := 919) C dXL_law_919 ic_1 ?_
                                                    refine J_iadd (pc := 920) C dXL_law_920 ?_
                                                    refine J_scr (pc := 921) C dXL_law_921 hs hF (fun v921 hF => ?_)
                                                    refine J_aload_n (pc := 922) C dXL_law_922 rfl ?_
                                                    refine J_iload_n (pc := 923) C dXL_law_923 rfl ?_
                                                    refine J_iconst (pc := 924) C dXL_law_924 ic_2 ?_
                                                    refine J_iadd (pc := 925) C dXL_law_925 ?_
                                                    refine J_scr (pc := 926) C dXL_law_926 hs hF (fun v926 hF => ?_)
                                                    refine J_bind hF (fun q927 hq hF => ?_)
                                                    refine J_callV0_i (pc := 927) (stk := [.int v926, .int v921, .ref a1]) (st := []) C dXL_law_927 yw_X8_memory w_MLXL_107 in_X8_memory sl_X8_memory ⟨_, rfl, rfl⟩ (kX8_memory hq) (gO_some hq).1 rfl (by decide) rfl (Nat.le_of_ble_eq_true rfl) ?_ (hkk := ⟨by omega, by omega⟩)
                                                    refine J_aload_n (pc := 930) C dXL_law_930 rfl ?_
                                                    refine J_aload_n (pc := 931) C dXL_law_931 rfl ?_
                                                    refine J_iload_n (pc := 932) C dXL_law_932 rfl ?_
                                                    refine J_iconst (pc := 933) C dXL_law_933 ic_1 ?_
                                                    refine J_iadd (pc := 934) C dXL_law_934 ?_
                                                    refine J_scr (pc := 935) C dXL_law_935 hs hF (fun v935 hF => ?_)
                                                    refine J_aload_n (pc := 936) C dXL_law_936 rfl ?_
                                                    refine J_iload_n (pc := 937) C dXL_law_937 rfl ?_
                                                    refine J_iconst (pc := 938) C dXL_law_938 ic_2 ?_
                                                    refine J_iadd (pc := 939) C dXL_law_939 ?_
                                                    refine J_scr (pc := 940) C dXL_law_940 hs hF (fun v940 hF => ?_)
                                                    refine J_bind hF (fun q941 hq hF => ?_)
                                                    refine J_callV0_i (pc := 941) (stk := [.int v940, .int v935, .ref a2, .int q927.1]) (st := [.int q927.1]) C dXL_law_941 yw_X9_memory w_MLXL_110 in_X9_memory sl_X9_memory ⟨_, rfl, rfl⟩ (kX9_memory hq) (gO_some hq).1 rfl (by decide) rfl (Nat.le_of_ble_eq_true rfl) ?_ (hkk := ⟨by omega, by omega⟩)
                                                    refine J_icmp_eq (pc := 944) (tgt := 1404) C dXL_law_944 rfl hF (fun hF => ?_) (fun hF => ?_)
                                                    · refine J_iinc (pc := 1404) (lv' := [some (.ref bS), some (.ref a1), some (.ref a2), some (.int (x3 + 6))]) C dXL_law_1404 rfl ic_6 rfl ?_
                                                      refine J_goto (pc := 1407) (tgt := 18) C dXL_law_1407 rfl ?_
                                                      exact ih _ _ q941.2 a1 a2 (x3 + 6) (by omega) (by omega) hF
                                                    · refine J_iconst (pc := 947) C dXL_law_947 ic_0 ?_
                                                      exact J_zret (pc := 948) C dXL_law_948 rfl hF (by omega) (by omega)
                                                  · refine J_br hF (fun hc33_23 hF => ?_) (fun hc33_23 hF => ?_)
                                                    · refine J_tsIn (pc := 33) (tgt := 949) C 23 hc33_23 dXL_law_33 (by decide) (by decide) rfl rfl ?_
                                                      refine J_aload_n (pc := 949) C dXL_law_949 rfl ?_
                                                      refine J_aload_n (pc := 950) C dXL_law_950 rfl ?_
                                                      refine J_iload_n (pc := 951) C dXL_law_951 rfl ?_
                                                      refine J_iconst (pc := 952) C dXL_law_952 ic_1 ?_
                                                      refine J_iadd (pc := 953) C dXL_law_953 ?_
                                                      refine J_scr (pc := 954) C dXL_law_954 hs hF (fun v954 hF => ?_)
                                                      refine J_aload_n (pc := 955) C dXL_law_955 rfl ?_
                                                      refine J_iload_n (pc := 956) C dXL_law_956 rfl ?_
                                                      refine J_iconst (pc := 957) C dXL_law_957 ic_2 ?_
                                                      refine J_iadd (pc := 958) C dXL_law_958 ?_
                                                      refine J_scr (pc := 959) C dXL_law_959 hs hF (fun v959 hF => ?_)
                                                      refine J_bind hF (fun q960 hq hF => ?_)
                                                      refine J_callV0_i (pc := 960) (stk := [.int v959, .int v954, .ref a1]) (st := []) C dXL_law_960 yw_X8_hearsay w_MLXL_111 in_X8_hearsay sl_X8_hearsay ⟨_, rfl, rfl⟩ (kX8_hearsay hq) (gO_some hq).1 rfl (by decide) rfl (Nat.le_of_ble_eq_true rfl) ?_ (hkk := ⟨by omega, by omega⟩)
                                                      refine J_aload_n (pc := 963) C dXL_law_963 rfl ?_
                                                      refine J_aload_n (pc := 964) C dXL_law_964 rfl ?_
                                                      refine J_iload_n (pc := 965) C dXL_law_965 rfl ?_
                                                      refine J_iconst (pc := 966) C dXL_law_966 ic_1 ?_
                                                      refine J_iadd (pc := 967) C dXL_law_967 ?_
                                                      refine J_scr (pc := 968) C dXL_law_968 hs hF (fun v968 hF => ?_)
                                                      refine J_aload_n (pc := 969) C dXL_law_969 rfl ?_
                                                      refine J_iload_n (pc := 970) C dXL_law_970 rfl ?_
                                                      refine J_iconst (pc := 971) C dXL_law_971 ic_2 ?_
                                                      refine J_iadd (pc := 972) C dXL_law_972 ?_
                                                      refine J_scr (pc := 973) C dXL_law_973 hs hF (fun v973 hF => ?_)
                                                      refine J_bind hF (fun q974 hq hF => ?_)
                                                      refine J_callV0_i (pc := 974) (stk := [.int v973, .int v968, .ref a2, .int q960.1]) (st := [.int q960.1]) C dXL_law_974 yw_X9_hearsay w_MLXL_114 in_X9_hearsay sl_X9_hearsay ⟨_, rfl, rfl⟩ (kX9_hearsay hq) (gO_some hq).1 rfl (by decide) rfl (Nat.le_of_ble_eq_true rfl) ?_ (hkk := ⟨by omega, by omega⟩)
                                                      refine J_icmp_eq (pc := 977) (tgt := 1404) C dXL_law_977 rfl hF (fun hF => ?_) (fun hF => ?_)
                                                      · refine J_iinc (pc := 1404) (lv' := [some (.ref bS), some (.ref a1), some (.ref a2), some (.int (x3 + 6))]) C dXL_law_1404 rfl ic_6 rfl ?_
                                                        refine J_goto (pc := 1407) (tgt := 18) C dXL_law_1407 rfl ?_
                                                        exact ih _ _ q974.2 a1 a2 (x3 + 6) (by omega) (by omega) hF
                                                      · refine J_iconst (pc := 980) C dXL_law_980 ic_0 ?_
                                                        exact J_zret (pc := 981) C dXL_law_981 rfl hF (by omega) (by omega)
                                                    · refine J_br hF (fun hc33_24 hF => ?_) (fun hc33_24 hF => ?_)
                                                      · refine J_tsIn (pc := 33) (tgt := 982) C 24 hc33_24 dXL_law_33 (by decide) (by decide) rfl rfl ?_
                                                        refine J_aload_n (pc := 982) C dXL_law_982 rfl ?_
                                                        refine J_aload_n (pc := 983) C dXL_law_983 rfl ?_
                                                        refine J_iload_n (pc := 984) C dXL_law_984 rfl ?_
                                                        refine J_iconst (pc := 985) C dXL_law_985 ic_1 ?_
                                                        refine J_iadd (pc := 986) C dXL_law_986 ?_
                                                        refine J_scr (pc := 987) C dXL_law_987 hs hF (fun v987 hF => ?_)
                                                        refine J_aload_n (pc := 988) C dXL_law_988 rfl ?_
                                                        refine J_iload_n (pc := 989) C dXL_law_989 rfl ?_
                                                        refine J_iconst (pc := 990) C dXL_law_990 ic_2 ?_
                                                        refine J_iadd (pc := 991) C dXL_law_991 ?_
                                                        refine J_scr (pc := 992) C dXL_law_992 hs hF (fun v992 hF => ?_)
                                                        refine J_bind hF (fun q993 hq hF => ?_)
                                                        refine J_callV0_i (pc := 993) (stk := [.int v992, .int v987, .ref a1]) (st := []) C dXL_law_993 yw_X8_rows w_MLXL_115 in_X8_rows sl_X8_rows ⟨_, rfl, rfl⟩ (kX8_rows hq) (gO_some hq).1 rfl (by decide) rfl (Nat.le_of_ble_eq_true rfl) ?_ (hkk := ⟨by omega, by omega⟩)
                                                        refine J_aload_n (pc := 996) C dXL_law_996 rfl ?_
                                                        refine J_aload_n (pc := 997) C dXL_law_997 rfl ?_
                                                        refine J_iload_n (pc := 998) C dXL_law_998 rfl ?_
                                                        refine J_iconst (pc := 999) C dXL_law_999 ic_1 ?_
                                                        refine J_iadd (pc := 1000) C dXL_law_1000 ?_
                                                        refine J_scr (pc := 1001) C dXL_law_1001 hs hF (fun v1001 hF => ?_)
                                                        refine J_aload_n (pc := 1002) C dXL_law_1002 rfl ?_
                                                        refine J_iload_n (pc := 1003) C dXL_law_1003 rfl ?_
                                                        refine J_iconst (pc := 1004) C dXL_law_1004 ic_2 ?_
                                                        refine J_iadd (pc := 1005) C dXL_law_1005 ?_
                                                        refine J_scr (pc := 1006) C dXL_law_1006 hs hF (fun v1006 hF => ?_)
                                                        refine J_bind hF (fun q1007 hq hF => ?_)
                                                        refine J_callV0_i (pc := 1007) (stk := [.int v1006, .int v1001, .ref a2, .int q993.1]) (st := [.int q993.1]) C dXL_law_1007 yw_X9_rows w_MLXL_118 in_X9_rows sl_X9_rows ⟨_, rfl, rfl⟩ (kX9_rows hq) (gO_some hq).1 rfl (by decide) rfl (Nat.le_of_ble_eq_true rfl) ?_ (hkk := ⟨by omega, by omega⟩)
                                                        refine J_icmp_eq (pc := 1010) (tgt := 1404) C dXL_law_1010 rfl hF (fun hF => ?_) (fun hF => ?_)
                                                        · refine J_iinc (pc := 1404) (lv' := [some (.ref bS), some (.ref a1), some (.ref a2), some (.int (x3 + 6))]) C dXL_law_1404 rfl ic_6 rfl ?_
                                                          refine J_goto (pc := 1407) (tgt := 18) C dXL_law_1407 rfl ?_
                                                          exact ih _ _ q1007.2 a1 a2 (x3 + 6) (by omega) (by omega) hF
                                                        · refine J_iconst (pc := 1013) C dXL_law_1013 ic_0 ?_
                                                          exact J_zret (pc := 1014) C dXL_law_1014 rfl hF (by omega) (by omega)
                                                      · refine J_br hF (fun hc33_25 hF => ?_) (fun hc33_25 hF => ?_)
                                                        · refine J_tsIn (pc := 33) (tgt := 1015) C 25 hc33_25 dXL_law_33 (by decide) (by decide) rfl rfl ?_
                                                          refine J_aload_n (pc := 1015) C dXL_law_1015 rfl ?_
                                                          refine J_aload_n (pc := 1016) C dXL_law_1016 rfl ?_
                                                          refine J_iload_n (pc := 1017) C dXL_law_1017 rfl ?_
                                                          refine J_iconst (pc := 1018) C dXL_law_1018 ic_1 ?_
                                                          refine J_iadd (pc := 1019) C dXL_law_1019 ?_
                                                          refine J_scr (pc := 1020) C dXL_law_1020 hs hF (fun v1020 hF => ?_)
                                                          refine J_aload_n (pc := 1021) C dXL_law_1021 rfl ?_
                                                          refine J_iload_n (pc := 1022) C dXL_law_1022 rfl ?_
                                                          refine J_iconst (pc := 1023) C dXL_law_1023 ic_2 ?_
                                                          refine J_iadd (pc := 1024) C dXL_law_1024 ?_
                                                          refine J_scr (pc := 1025) C dXL_law_1025 hs hF (fun v1025 hF => ?_)
                                                          refine J_aload_n (pc := 1026) C dXL_law_1026 rfl ?_
                                                          refine J_iload_n (pc := 1027) C dXL_law_1027 rfl ?_
                                                          refine J_iconst (pc := 1028) C dXL_law_1028 ic_3 ?_
                                                          refine J_iadd (pc := 1029) C dXL_law_1029 ?_
                                                          refine J_scr (pc := 1030) C dXL_law_1030 hs hF (fun v1030 hF => ?_)
                                                          refine J_bind hF (fun q1031 hq hF => ?_)
                                                          refine J_callV0_i (pc := 1031) (stk := [.int v1030, .int v1025, .int v1020, .ref a1]) (st := []) C dXL_law_1031 yw_X8_voice w_MLXL_119 in_X8_voice sl_X8_voice ⟨_, rfl, rfl⟩ (kX8_voice hq) (gO_some hq).1 rfl (by decide) rfl (Nat.le_of_ble_eq_true rfl) ?_ (hkk := ⟨by omega, by omega⟩)
                                                          refine J_aload_n (pc := 1034) C dXL_law_1034 rfl ?_
                                                          refine J_aload_n (pc := 1035) C dXL_law_1035 rfl ?_
                                                          refine J_iload_n (pc := 1036) C dXL_law_1036 rfl ?_
                                                          refine J_iconst (pc := 1037) C dXL_law_1037 ic_1 ?_
                                                          refine J_iadd (pc := 1038) C dXL_law_1038 ?_
                                                          refine J_scr (pc := 1039) C dXL_law_1039 hs hF (fun v1039 hF => ?_)
                                                          refine J_aload_n (pc := 1040) C dXL_law_1040 rfl ?_
                                                          refine J_iload_n (pc := 1041) C dXL_law_1041 rfl ?_
                                                          refine J_iconst (pc := 1042) C dXL_law_1042 ic_2 ?_
                                                          refine J_iadd (pc := 1043) C dXL_law_1043 ?_
                                                          refine J_scr (pc := 1044) C dXL_law_1044 hs hF (fun v1044 hF => ?_)
                                                          refine J_aload_n (pc := 1045) C dXL_law_1045 rfl ?_
                                                          refine J_iload_n (pc := 1046) C dXL_law_1046 rfl ?_
                                                          refine J_iconst (pc := 1047) C dXL_law_1047 ic_3 ?_
                                                          refine J_iadd (pc := 1048) C dXL_law_1048 ?_
                                                          refine J_scr (pc := 1049) C dXL_law_1049 hs hF (fun v1049 hF => ?_)
                                                          refine J_bind hF (fun q1050 hq hF => ?_)
                                                          refine J_callV0_i (pc := 1050) (stk := [.int v1049, .int v1044, .int v1039, .ref a2, .int q1031.1]) (st := [.int q1031.1]) C dXL_law_1050 yw_X9_voice w_MLXL_122 in_X9_voice sl_X9_voice ⟨_, rfl, rfl⟩ (kX9_voice hq) (gO_some hq).1 rfl (by decide) rfl (Nat.le_of_ble_eq_true rfl) ?_ (hkk := ⟨by omega, by omega⟩)
                                                          refine J_icmp_eq (pc := 1053) (tgt := 1404) C dXL_law_1053 rfl hF (fun hF => ?_) (fun hF => ?_)
                                                          · refine J_iinc (pc := 1404) (lv' := [some (.ref bS), some (.ref a1), some (.ref a2), some (.int (x3 + 6))]) C dXL_law_1404 rfl ic_6 rfl ?_
                                                            refine J_goto (pc := 1407) (tgt := 18) C dXL_law_1407 rfl ?_
                                                            exact ih _ _ q1050.2 a1 a2 (x3 + 6) (by omega) (by omega) hF
                                                          · refine J_iconst (pc := 1056) C dXL_law_1056 ic_0 ?_
                                                            exact J_zret (pc := 1057) C dXL_law_1057 rfl hF (by omega) (by omega)
                                                        · refine J_br hF (fun hc33_26 hF => ?_) (fun hc33_26 hF => ?_)
                                                          · refine J_tsIn (pc := 33) (tgt := 1058) C 26 hc33_26 dXL_law_33 (by decide) (by decide) rfl rfl ?_
                                                            refine J_aload_n (pc := 1058) C dXL_law_1058 rfl ?_
                                                            refine J_aload_n (pc := 1059) C dXL_law_1059 rfl ?_
                                                            refine J_iload_n (pc := 1060) C dXL_law_1060 rfl ?_
                                                            refine J_iconst (pc := 1061) C dXL_law_1061 ic_1 ?_
                                                            refine J_iadd (pc := 1062) C dXL_law_1062 ?_
                                                            refine J_scr (pc := 1063) C dXL_law_1063 hs hF (fun v1063 hF => ?_)
                                                            refine J_bind hF (fun q1064 hq hF => ?_)
                                                            refine J_callV0_i (pc := 1064) (stk := [.int v1063, .ref a1]) (st := []) C dXL_law_1064 yw_X8_body w_MLXL_123 in_X8_body sl_X8_body ⟨_, rfl, rfl⟩ (kX8_body hq) (gO_some hq).1 rfl (by decide) rfl (Nat.le_of_ble_eq_true rfl) ?_ (hkk := ⟨by omega, by omega⟩)
                                                            refine J_aload_n (pc := 1067) C dXL_law_1067 rfl ?_
                                                            refine J_aload_n (pc := 1068) C dXL_law_1068 rfl ?_
                                                            refine J_iload_n (pc := 1069) C dXL_law_1069 rfl ?_
                                                            refine J_iconst (pc := 1070) C dXL_law_1070 ic_1 ?_
                                                            refine J_iadd (pc := 1071) C dXL_law_1071 ?_
                                                            refine J_scr (pc := 1072) C dXL_law_1072 hs hF (fun v1072 hF => ?_)
                                                            refine J_bind hF (fun q1073 hq hF => ?_)
                                                            refine J_callV0_i (pc := 1073) (stk := [.int v1072, .ref a2, .int q1064.1]) (st := [.int q1064.1]) C dXL_law_1073 yw_X9_body w_MLXL_126 in_X9_body sl_X9_body ⟨_, rfl, rfl⟩ (kX9_body hq) (gO_some hq).1 rfl (by decide) rfl (Nat.le_of_ble_eq_true rfl) ?_ (hkk := ⟨by omega, by omega⟩)
                                                            refine J_icmp_eq (pc := 1076) (tgt := 1404) C dXL_law_1076 rfl hF (fun hF => ?_) (fun hF => ?_)
                                                            · refine J_iinc (pc := 1404) (lv' := [some (.ref bS), some (.ref a1), some (.ref a2), some (.int (x3 + 6))]) C dXL_law_1404 rfl ic_6 rfl ?_
                                                              refine J_goto (pc := 1407) (tgt := 18) C dXL_law_1407 rfl ?_
                                                              exact ih _ _ q1073.2 a1 a2 (x3 + 6) (by omega) (by omega) hF
                                                            · refine J_iconst (pc := 1079) C dXL_law_1079 ic_0 ?_
                                                              exact J_zret (pc := 1080) C dXL_law_1080 rfl hF (by omega) (by omega)
                                                          · refine J_br hF (fun hc33_27 hF => ?_) (fun hc33_27 hF => ?_)
                                                            · refine J_tsIn (pc := 33) (tgt := 1081) C 27 hc33_27 dXL_law_33 (by decide) (by decide) rfl rfl ?_
                                                              refine J_aload_n (pc := 1081) C dXL_law_1081 rfl ?_
                                                              refine J_aload_n (pc := 1082) C dXL_law_1082 rfl ?_
                                                              refine J_iload_n (pc := 1083) C dXL_law_1083 rfl ?_
                                                              refine J_iconst (pc := 1084) C dXL_law_1084 ic_1 ?_
                                                              refine J_iadd (pc := 1085) C dXL_law_1085 ?_
                                                              refine J_scr (pc := 1086) C dXL_law_1086 hs hF (fun v1086 hF => ?_)
                                                              refine J_aload_n (pc := 1087) C dXL_law_1087 rfl ?_
                                                              refine J_iload_n (pc := 1088) C dXL_law_1088 rfl ?_
                                                              refine J_iconst (pc := 1089) C dXL_law_1089 ic_2 ?_
                                                              refine J_iadd (pc := 1090) C dXL_law_1090 ?_
                                                              refine J_scr (pc := 1091) C dXL_law_1091 hs hF (fun v1091 hF => ?_)
                                                              refine J_aload_n (pc := 1092) C dXL_law_1092 rfl ?_
                                                              refine J_iload_n (pc := 1093) C dXL_law_1093 rfl ?_
                                                              refine J_iconst (pc := 1094) C dXL_law_1094 ic_3 ?_
                                                              refine J_iadd (pc := 1095) C dXL_law_1095 ?_
                                                              refine J_scr (pc := 1096) C dXL_law_1096 hs hF (fun v1096 hF => ?_)
                                                              refine J_bind hF (fun q1097 hq hF => ?_)
                                                              refine J_callV0_i (pc := 1097) (stk := [.int v1096, .int v1091, .int v1086, .ref a1]) (st := []) C dXL_law_1097 yw_X8_sheet w_MLXL_127 in_X8_sheet sl_X8_sheet ⟨_, rfl, rfl⟩ (kX8_sheet hq) (gO_some hq).1 rfl (by decide) rfl (Nat.le_of_ble_eq_true rfl) ?_ (hkk := ⟨by omega, by omega⟩)
                                                              refine J_aload_n (pc := 1100) C dXL_law_1100 rfl ?_
                                                              refine J_aload_n (pc := 1101) C dXL_law_1101 rfl ?_
                                                              refine J_iload_n (pc := 1102) C dXL_law_1102 rfl ?_
                                                              refine J_iconst (pc := 1103) C dXL_law_1103 ic_1 ?_
                                                              refine J_iadd (pc := 1104) C dXL_law_1104 ?_
                                                              refine J_scr (pc := 1105) C dXL_law_1105 hs hF (fun v1105 hF => ?_)
                                                              refine J_aload_n (pc := 1106) C dXL_law_1106 rfl ?_
                                                              refine J_iload_n (pc := 1107) C dXL_law_1107 rfl ?_
                                                              refine J_iconst (pc := 1108) C dXL_law_1108 ic_2 ?_
                                                              refine J_iadd (pc := 1109) C dXL_law_1109 ?_
                                                              refine J_scr (pc := 1110) C dXL_law_1110 hs hF (fun v1110 hF => ?_)
                                                              refine J_aload_n (pc := 1111) C dXL_law_1111 rfl ?_
                                                              refine J_iload_n (pc := 1112) C dXL_law_1112 rfl ?_
                                                              refine J_iconst (pc := 1113) C dXL_law_1113 ic_3 ?_
                                                              refine J_iadd (pc := 1114) C dXL_law_1114 ?_
                                                              refine J_scr (pc := 1115) C dXL_law_1115 hs hF (fun v1115 hF => ?_)
                                                              refine J_bind hF (fun q1116 hq hF => ?_)
                                                              refine J_callV0_i (pc := 1116) (stk := [.int v1115, .int v1110, .int v1105, .ref a2, .int q1097.1]) (st := [.int q1097.1]) C dXL_law_1116 yw_X9_sheet w_MLXL_130 in_X9_sheet sl_X9_sheet ⟨_, rfl, rfl⟩ (kX9_sheet hq) (gO_some hq).1 rfl (by decide) rfl (Nat.le_of_ble_eq_true rfl) ?_ (hkk := ⟨by omega, by omega⟩)
                                                              refine J_icmp_eq (pc := 1119) (tgt := 1404) C dXL_law_1119 rfl hF (fun hF => ?_) (fun hF => ?_)
                                                              · refine J_iinc (pc := 1404) (lv' := [some (.ref bS), some (.ref a1), some (.ref a2), some (.int (x3 + 6))]) C dXL_law_1404 rfl ic_6 rfl ?_
                                                                refine J_goto (pc := 1407) (tgt := 18) C dXL_law_1407 rfl ?_
                                                                exact ih _ _ q1116.2 a1 a2 (x3 + 6) (by omega) (by omega) hF
                                                              · refine J_iconst (pc := 1122) C dXL_law_1122 ic_0 ?_
                                                                exact J_zret (pc := 1123) C dXL_law_1123 rfl hF (by omega) (by omega)
                                                            · refine J_br hF (fun hc33_28 hF => ?_) (fun hc33_28 hF => ?_)
                                                              · refine J_tsIn (pc := 33) (tgt := 1124) C 28 hc33_28 dXL_law_33 (by decide) (by decide) rfl rfl ?_
                                                                refine J_aload_n (pc := 1124) C dXL_law_1124 rfl ?_
                                                                refine J_aload_n (pc := 1125) C dXL_law_1125 rfl ?_
                                                                refine J_iload_n (pc := 1126) C dXL_law_1126 rfl ?_
                                                                refine J_iconst (pc := 1127) C dXL_law_1127 ic_1 ?_
                                                                refine J_iadd (pc := 1128) C dXL_law_1128 ?_
                                                                refine J_scr (pc := 1129) C dXL_law_1129 hs hF (fun v1129 hF => ?_)
                                                                refine J_aload_n (pc := 1130) C dXL_law_1130 rfl ?_
                                                                refine J_iload_n (pc := 1131) C dXL_law_1131 rfl ?_
                                                                refine J_iconst (pc := 1132) C dXL_law_1132 ic_2 ?_
                                                                refine J_iadd (pc := 1133) C dXL_law_1133 ?_
                                                                refine J_scr (pc := 1134) C dXL_law_1134 hs hF (fun v1134 hF => ?_)
                                                                refine J_aload_n (pc := 1135) C dXL_law_1135 rfl ?_
                                                                refine J_iload_n (pc := 1136) C dXL_law_1136 rfl ?_
                                                                refine J_iconst (pc := 1137) C dXL_law_1137 ic_3 ?_
                                                                refine J_iadd (pc := 1138) C dXL_law_1138 ?_
                                                                refine J_scr (pc := 1139) C dXL_law_1139 hs hF (fun v1139 hF => ?_)
                                                                refine J_bind hF (fun q1140 hq hF => ?_)
                                                                refine J_callV0_i (pc := 1140) (stk := [.int v1139, .int v1134, .int v1129, .ref a1]) (st := []) C dXL_law_1140 yw_X8_put w_MLXL_131 in_X8_put sl_X8_put ⟨_, rfl, rfl⟩ (kX8_put hq) (gO_some hq).1 rfl (by decide) rfl (Nat.le_of_ble_eq_true rfl) ?_ (hkk := ⟨by omega, by omega⟩)
                                                                refine J_aload_n (pc := 1143) C dXL_law_1143 rfl ?_
                                                                refine J_aload_n (pc := 1144) C dXL_law_1144 rfl ?_
                                                                refine J_iload_n (pc := 1145) C dXL_law_1145 rfl ?_
                                                                refine J_iconst (pc := 1146) C dXL_law_1146 ic_1 ?_
                                                                refine J_iadd (pc := 1147) C dXL_law_1147 ?_
                                                                refine J_scr (pc := 1148) C dXL_law_1148 hs hF (fun v1148 hF => ?_)
                                                                refine J_aload_n (pc := 1149) C dXL_law_1149 rfl ?_
                                                                refine J_iload_n (pc := 1150) C dXL_law_1150 rfl ?_
                                                                refine J_iconst (pc := 1151) C dXL_law_1151 ic_2 ?_
                                                                refine J_iadd (pc := 1152) C dXL_law_1152 ?_
                                                                refine J_scr (pc := 1153) C dXL_law_1153 hs hF (fun v1153 hF => ?_)
                                                                refine J_aload_n (pc := 1154) C dXL_law_1154 rfl ?_
                                                                refine J_iload_n (pc := 1155) C dXL_law_1155 rfl ?_
                                                                refine J_iconst (pc := 1156) C dXL_law_1156 ic_3 ?_
                                                                refine J_iadd (pc := 1157) C dXL_law_1157 ?_
                                                                refine J_scr (pc := 1158) C dXL_law_1158 hs hF (fun v1158 hF => ?_)
                                                                refine J_bind hF (fun q1159 hq hF => ?_)
                                                                refine J_callV0_i (pc := 1159) (stk := [.int v1158, .int v1153, .int v1148, .ref a2, .int q1140.1]) (st := [.int q1140.1]) C dXL_law_1159 yw_X9_put w_MLXL_134 in_X9_put sl_X9_put ⟨_, rfl, rfl⟩ (kX9_put hq) (gO_some hq).1 rfl (by decide) rfl (Nat.le_of_ble_eq_true rfl) ?_ (hkk := ⟨by omega, by omega⟩)
                                                                refine J_icmp_eq (pc := 1162) (tgt := 1404) C dXL_law_1162 rfl hF (fun hF => ?_) (fun hF => ?_)
                                                                · refine J_iinc (pc := 1404) (lv' := [some (.ref bS), some (.ref a1), some (.ref a2), some (.int (x3 + 6))]) C dXL_law_1404 rfl ic_6 rfl ?_
                                                                  refine J_goto (pc := 1407) (tgt := 18) C dXL_law_1407 rfl ?_
                                                                  exact ih _ _ q1159.2 a1 a2 (x3 + 6) (by omega) (by omega) hF
                                                                · refine J_iconst (pc := 1165) C dXL_law_1165 ic_0 ?_
                                                                  exact J_zret (pc := 1166) C dXL_law_1166 rfl hF (by omega) (by omega)
                                                              · refine J_br hF (fun hc33_29 hF => ?_) (fun hc33_29 hF => ?_)
                                                                · refine J_tsIn (pc := 33) (tgt := 1167) C 29 hc33_29 dXL_law_33 (by decide) (by decide) rfl rfl ?_
                                                                  refine J_aload_n (pc := 1167) C dXL_law_1167 rfl ?_
                                                                  refine J_aload_n (pc := 1168) C dXL_law_1168 rfl ?_
                                                                  refine J_iload_n (pc := 1169) C dXL_law_1169 rfl ?_
                                                                  refine J_iconst (pc := 1170) C dXL_law_1170 ic_1 ?_
                                                                  refine J_iadd (pc := 1171) C dXL_law_1171 ?_
                                                                  refine J_scr (pc := 1172) C dXL_law_1172 hs hF (fun v1172 hF => ?_)
                                                                  refine J_aload_n (pc := 1173) C dXL_law_1173 rfl ?_
                                                                  refine J_iload_n (pc := 1174) C dXL_law_1174 rfl ?_
                                                                  refine J_iconst (pc := 1175) C dXL_law_1175 ic_2 ?_
                                                                  refine J_iadd (pc := 1176) C dXL_law_1176 ?_
                                                                  refine J_scr (pc := 1177) C dXL_law_1177 hs hF (fun v1177 hF => ?_)
                                                                  refine J_aload_n (pc := 1178) C dXL_law_1178 rfl ?_
                                                                  refine J_iload_n (pc := 1179) C dXL_law_1179 rfl ?_
                                                                  refine J_iconst (pc := 1180) C dXL_law_1180 ic_3 ?_
                                                                  refine J_iadd (pc := 1181) C dXL_law_1181 ?_
                                                                  refine J_scr (pc := 1182) C dXL_law_1182 hs hF (fun v1182 hF => ?_)
                                                                  refine J_aload_n (pc := 1183) C dXL_law_1183 rfl ?_
                                                                  refine J_iload_n (pc := 1184) C dXL_law_1184 rfl ?_
                                                                  refine J_iconst (pc := 1185) C dXL_law_1185 ic_4 ?_
                                                                  refine J_iadd (pc := 1186) C dXL_law_1186 ?_
                                                                  refine J_scr (pc := 1187) C dXL_law_1187 hs hF (fun v1187 hF => ?_)
                                                                  refine J_aload_n (pc := 1188) C dXL_law_1188 rfl ?_
                                                                  refine J_iload_n (pc := 1189) C dXL_law_1189 rfl ?_
                                                                  refine J_iconst (pc := 1190) C dXL_law_1190 ic_5 ?_
                                                                  refine J_iadd (pc := 1191) C dXL_law_1191 ?_
                                                                  refine J_scr (pc := 1192) C dXL_law_1192 hs hF (fun v1192 hF => ?_)
                                                                  refine J_bind hF (fun q1193 hq hF => ?_)
                                                                  refine J_callV0_i (pc := 1193) (stk := [.int v1192, .int v1187, .int v1182, .int v1177, .int v1172, .ref a1]) (st := []) C dXL_law_1193 yw_X8_move w_MLXL_135 in_X8_move sl_X8_move ⟨_, rfl, rfl⟩ (kX8_move hq) (gO_some hq).1 rfl (by decide) rfl (Nat.le_of_ble_eq_true rfl) ?_ (hkk := ⟨by omega, by omega⟩)
                                                                  refine J_aload_n (pc := 1196) C dXL_law_1196 rfl ?_
                                                                  refine J_aload_n (pc := 1197) C dXL_law_1197 rfl ?_
                                                                  refine J_iload_n (pc := 1198) C dXL_law_1198 rfl ?_
                                                                  refine J_iconst (pc := 1199) C dXL_law_1199 ic_1 ?_
                                                                  refine J_iadd (pc := 1200) C dXL_law_1200 ?_
                                                                  refine J_scr (pc := 1201) C dXL_law_1201 hs hF (fun v1201 hF => ?_)
                                                                  refine J_aload_n (pc := 1202) C dXL_law_1202 rfl ?_
                                                                  refine J_iload_n (pc := 1203) C dXL_law_1203 rfl ?_
                                                                  refine J_iconst (pc := 1204) C dXL_law_1204 ic_2 ?_
                                                                  refine J_iadd (pc := 1205) C dXL_law_1205 ?_
                                                                  refine J_scr (pc := 1206) C dXL_law_1206 hs hF (fun v1206 hF => ?_)
                                                                  refine J_aload_n (pc := 1207) C dXL_law_1207 rfl ?_
                                                                  refine J_iload_n (pc := 1208) C dXL_law_1208 rfl ?_
                                                                  refine J_iconst (pc := 1209) C dXL_law_1209 ic_3 ?_
                                                                  refine J_iadd (pc := 1210) C dXL_law_1210 ?_
                                                                  refine J_scr (pc := 1211) C dXL_law_1211 hs hF (fun v1211 hF => ?_)
                                                                  refine J_aload_n (pc := 1212) C dXL_law_1212 rfl ?_
                                                                  refine J_iload_n (pc := 1213) C dXL_law_1213 rfl ?_
                                                                  refine J_iconst (pc := 1214) C dXL_law_1214 ic_4 ?_
                                                                  refine J_iadd (pc := 1215) C dXL_law_1215 ?_
                                                                  refine J_scr (pc := 1216) C dXL_law_1216 hs hF (fun v1216 hF => ?_)
                                                                  refine J_aload_n (pc := 1217) C dXL_law_1217 rfl ?_
                                                                  refine J_iload_n (pc := 1218) C dXL_law_1218 rfl ?_
                                                                  refine J_iconst (pc := 1219) C dXL_law_1219 ic_5 ?_
                                                                  refine J_iadd (pc := 1220) C dXL_law_1220 ?_
                                                                  refine J_scr (pc := 1221) C dXL_law_1221 hs hF (fun v1221 hF => ?_)
                                                                  refine J_bind hF (fun q1222 hq hF => ?_)
                                                                  refine J_callV0_i (pc := 1222) (stk := [.int v1221, .int v1216, .int v1211, .int v1206, .int v1201, .ref a2, .int q1193.1]) (st := [.int q1193.1]) C dXL_law_1222 yw_X9_move w_MLXL_139 in_X9_move sl_X9_move ⟨_, rfl, rfl⟩ (kX9_move hq) (gO_some hq).1 rfl (by decide) rfl (Nat.le_of_ble_eq_true rfl) ?_ (hkk := ⟨by omega, by omega⟩)
                                                                  refine J_icmp_eq (pc := 1225) (tgt := 1404) C dXL_law_1225 rfl hF (fun hF => ?_) (fun hF => ?_)
                                                                  · refine J_iinc (pc := 1404) (lv' := [some (.ref bS), some (.ref a1), some (.ref a2), some (.int (x3 + 6))]) C dXL_law_1404 rfl ic_6 rfl ?_
                                                                    refine J_goto (pc := 1407) (tgt := 18) C dXL_law_1407 rfl ?_
                                                                    exact ih _ _ q1222.2 a1 a2 (x3 + 6) (by omega) (by omega) hF
                                                                  · refine J_iconst (pc := 1228) C dXL_law_1228 ic_0 ?_
                                                                    exact J_zret (pc := 1229) C dXL_law_1229 rfl hF (by omega) (by omega)
                                                                · refine J_br hF (fun hc33_30 hF => ?_) (fun hc33_30 hF => ?_)
                                                                  · refine J_tsIn (pc := 33) (tgt := 1230) C 30 hc33_30 dXL_law_33 (by decide) (by decide) rfl rfl ?_
                                                                    refine J_aload_n (pc := 1230) C dXL_law_1230 rfl ?_
                                                                    refine J_aload_n (pc := 1231) C dXL_law_1231 rfl ?_
                                                                    refine J_iload_n (pc := 1232) C dXL_law_1232 rfl ?_
                                                                    refine J_iconst (pc := 1233) C dXL_law_1233 ic_1 ?_
                                                                    refine J_iadd (pc := 1234) C dXL_law_1234 ?_
                                                                    refine J_scr (pc := 1235) C dXL_law_1235 hs hF (fun v1235 hF => ?_)
                                                                    refine J_bind hF (fun q1236 hq hF => ?_)
                                                                    refine J_callV0_i (pc := 1236) (stk := [.int v1235, .ref a1]) (st := []) C dXL_law_1236 yw_X8_crossings w_MLXL_140 in_X8_crossings sl_X8_crossings ⟨_, rfl, rfl⟩ (kX8_crossings hq) (gO_some hq).1 rfl (by decide) rfl (Nat.le_of_ble_eq_true rfl) ?_ (hkk := ⟨by omega, by omega⟩)
                                                                    refine J_aload_n (pc := 1239) C dXL_law_1239 rfl ?_
                                                                    refine J_aload_n (pc := 1240) C dXL_law_1240 rfl ?_
                                                                    refine J_iload_n (pc := 1241) C dXL_law_1241 rfl ?_
                                                                    refine J_iconst (pc := 1242) C dXL_law_1242 ic_1 ?_
                                                                    refine J_iadd (pc := 1243) C dXL_law_1243 ?_
                                                                    refine J_scr (pc := 1244) C dXL_law_1244 hs hF (fun v1244 hF => ?_)
                                                                    refine J_bind hF (fun q1245 hq hF => ?_)
                                                                    refine J_callV0_i (pc := 1245) (stk := [.int v1244, .ref a2, .int q1236.1]) (st := [.int q1236.1]) C dXL_law_1245 yw_X9_crossings w_MLXL_143 in_X9_crossings sl_X9_crossings ⟨_, rfl, rfl⟩ (kX9_crossings hq) (gO_some hq).1 rfl (by decide) rfl (Nat.le_of_ble_eq_true rfl) ?_ (hkk := ⟨by omega, by omega⟩)
                                                                    refine J_icmp_eq (pc := 1248) (tgt := 1404) C dXL_law_1248 rfl hF (fun hF => ?_) (fun hF => ?_)
                                                                    · refine J_iinc (pc := 1404) (lv' := [some (.ref bS), some (.ref a1), some (.ref a2), some (.int (x3 + 6))]) C dXL_law_1404 rfl ic_6 rfl ?_
                                                                      refine J_goto (pc := 1407) (tgt := 18) C dXL_law_1407 rfl ?_
                                                                      exact ih _ _ q1245.2 a1 a2 (x3 + 6) (by omega) (by omega) hF
                                                                    · refine J_iconst (pc := 1251) C dXL_law_1251 ic_0 ?_
                                                                      exact J_zret (pc := 1252) C dXL_law_1252 rfl hF (by omega) (by omega)
                                                                  · refine J_br hF (fun hc33_31 hF => ?_) (fun hc33_31 hF => ?_)
                                                                    · refine J_tsIn (pc := 33) (tgt := 1253) C 31 hc33_31 dXL_law_33 (by decide) (by decide) rfl rfl ?_
                                                                      refine J_aload_n (pc := 1253) C dXL_law_1253 rfl ?_
                                                                      refine J_aload_n (pc := 1254) C dXL_law_1254 rfl ?_
                                                                      refine J_iload_n (pc := 1255) C dXL_law_1255 rfl ?_
                                                                      refine J_iconst (pc := 1256) C dXL_law_1256 ic_1 ?_
                                                                      refine J_iadd (pc := 1257) C dXL_law_1257 ?_
                                                                      refine J_scr (pc := 1258) C dXL_law_1258 hs hF (fun v1258 hF => ?_)
                                                                      refine J_aload_n (pc := 1259) C dXL_law_1259 rfl ?_
                                                                      refine J_iload_n (pc := 1260) C dXL_law_1260 rfl ?_
                                                                      refine J_iconst (pc := 1261) C dXL_law_1261 ic_2 ?_
                                                                      refine J_iadd (pc := 1262) C dXL_law_1262 ?_
                                                                      refine J_scr (pc := 1263) C dXL_law_1263 hs hF (fun v1263 hF => ?_)
                                                                      refine J_bind hF (fun q1264 hq hF => ?_)
                                                                      refine J_callV0_i (pc := 1264) (stk := [.int v1263, .int v1258, .ref a1]) (st := []) C dXL_law_1264 yw_X8_judge w_MLXL_144 in_X8_judge sl_X8_judge ⟨_, rfl, rfl⟩ (kX8_judge hq) (gO_some hq).1 rfl (by decide) rfl (Nat.le_of_ble_eq_true rfl) ?_ (hkk := ⟨by omega, by omega⟩)
                                                                      refine J_aload_n (pc := 1267) C dXL_law_1267 rfl ?_
                                                                      refine J_aload_n (pc := 1268) C dXL_law_1268 rfl ?_
                                                                      refine J_iload_n (pc := 1269) C dXL_law_1269 rfl ?_
                                                                      refine J_iconst (pc := 1270) C dXL_law_1270 ic_1 ?_
                                                                      refine J_iadd (pc := 1271) C dXL_law_1271 ?_
                                                                      refine J_scr (pc := 1272) C dXL_law_1272 hs hF (fun v1272 hF => ?_)
                                                                      refine J_aload_n (pc := 1273) C dXL_law_1273 rfl ?_
                                                                      refine J_iload_n (pc := 1274) C dXL_law_1274 rfl ?_
                                                                      refine J_iconst (pc := 1275) C dXL_law_1275 ic_2 ?_
                                                                      refine J_iadd (pc := 1276) C dXL_law_1276 ?_
                                                                      refine J_scr (pc := 1277) C dXL_law_1277 hs hF (fun v1277 hF => ?_)
                                                                      refine J_bind hF (fun q1278 hq hF => ?_)
                                                                      refine J_callV0_i (pc := 1278) (stk := [.int v1277, .int v1272, .ref a2, .int q1264.1]) (st := [.int q1264.1]) C dXL_law_1278 yw_X9_judge w_MLXL_147 in_X9_judge sl_X9_judge ⟨_, rfl, rfl⟩ (kX9_judge hq) (gO_some hq).1 rfl (by decide) rfl (Nat.le_of_ble_eq_true rfl) ?_ (hkk := ⟨by omega, by omega⟩)
                                                                      refine J_icmp_eq (pc := 1281) (tgt := 1404) C dXL_law_1281 rfl hF (fun hF => ?_) (fun hF => ?_)
                                                                      · refine J_iinc (pc := 1404) (lv' := [some (.ref bS), some (.ref a1), some (.ref a2), some (.int (x3 + 6))]) C dXL_law_1404 rfl ic_6 rfl ?_
                                                                        refine J_goto (pc := 1407) (tgt := 18) C dXL_law_1407 rfl ?_
                                                                        exact ih _ _ q1278.2 a1 a2 (x3 + 6) (by omega) (by omega) hF
                                                                      · refine J_iconst (pc := 1284) C dXL_law_1284 ic_0 ?_
                                                                        exact J_zret (pc := 1285) C dXL_law_1285 rfl hF (by omega) (by omega)
                                                                    · refine J_br hF (fun hc33_32 hF => ?_) (fun hc33_32 hF => ?_)
                                                                      · refine J_tsIn (pc := 33) (tgt := 1286) C 32 hc33_32 dXL_law_33 (by decide) (by decide) rfl rfl ?_
                                                                        refine J_aload_n (pc := 1286) C dXL_law_1286 rfl ?_
                                                                        refine J_bind hF (fun q1287 hq hF => ?_)
                                                                        refine J_callV0_i (pc := 1287) (stk := [.ref a1]) (st := []) C dXL_law_1287 yw_X8_image w_MLXL_148 in_X8_image sl_X8_image ⟨_, rfl, rfl⟩ (kX8_image hq) (gO_some hq).1 rfl (by decide) rfl (Nat.le_of_ble_eq_true rfl) ?_ (hkk := ⟨by omega, by omega⟩)
                                                                        refine J_aload_n (pc := 1290) C dXL_law_1290 rfl ?_
                                                                        refine J_bind hF (fun q1291 hq hF => ?_)
                                                                        refine J_callV0_i (pc := 1291) (stk := [.ref a2, .int q1287.1]) (st := [.int q1287.1]) C dXL_law_1291 yw_X9_image w_MLXL_152 in_X9_image sl_X9_image ⟨_, rfl, rfl⟩ (kX9_image hq) (gO_some hq).1 rfl (by decide) rfl (Nat.le_of_ble_eq_true rfl) ?_ (hkk := ⟨by omega, by omega⟩)
                                                                        refine J_icmp_eq (pc := 1294) (tgt := 1404) C dXL_law_1294 rfl hF (fun hF => ?_) (fun hF => ?_)
                                                                        · refine J_iinc (pc := 1404) (lv' := [some (.ref bS), some (.ref a1), some (.ref a2), some (.int (x3 + 6))]) C dXL_law_1404 rfl ic_6 rfl ?_
                                                                          refine J_goto (pc := 1407) (tgt := 18) C dXL_law_1407 rfl ?_
                                                                          exact ih _ _ q1291.2 a1 a2 (x3 + 6) (by omega) (by omega) hF
                                                                        · refine J_iconst (pc := 1297) C dXL_law_1297 ic_0 ?_
                                                                          exact J_zret (pc := 1298) C dXL_law_1298 rfl hF (by omega) (by omega)
                                                                      · refine J_br hF (fun hc33_33 hF => ?_) (fun hc33_33 hF => ?_)
                                                                        · refine J_tsIn (pc := 33) (tgt := 1299) C 33 hc33_33 dXL_law_33 (by decide) (by decide) rfl rfl ?_
                                                                          refine J_aload_n (pc := 1299) C dXL_law_1299 rfl ?_
                                                                          refine J_bind hF (fun q1300 hq hF => ?_)
                                                                          refine J_callV0_i (pc := 1300) (stk := [.ref a1]) (st := []) C dXL_law_1300 yw_X8_restore w_MLXL_153 in_X8_restore sl_X8_restore ⟨_, rfl, rfl⟩ (kX8_restore hq) (gO_some hq).1 rfl (by decide) rfl (Nat.le_of_ble_eq_true rfl) ?_ (hkk := ⟨by omega, by omega⟩)
                                                                          refine J_aload_n (pc := 1303) C dXL_law_1303 rfl ?_
                                                                          refine J_bind hF (fun q1304 hq hF => ?_)
                                                                          refine J_callV0_i (pc := 1304) (stk := [.ref a2, .int q1300.1]) (st := [.int q1300.1]) C dXL_law_1304 yw_X9_restore w_MLXL_156 in_X9_restore sl_X9_restore ⟨_, rfl, rfl⟩ (kX9_restore hq) (gO_some hq).1 rfl (by decide) rfl (Nat.le_of_ble_eq_true rfl) ?_ (hkk := ⟨by omega, by omega⟩)
                                                                          refine J_icmp_eq (pc := 1307) (tgt := 1404) C dXL_law_1307 rfl hF (fun hF => ?_) (fun hF => ?_)
                                                                          · refine J_iinc (pc := 1404) (lv' := [some (.ref bS), some (.ref a1), some (.ref a2), some (.int (x3 + 6))]) C dXL_law_1404 rfl ic_6 rfl ?_
                                                                            refine J_goto (pc := 1407) (tgt := 18) C dXL_law_1407 rfl ?_
                                                                            exact ih _ _ q1304.2 a1 a2 (x3 + 6) (by omega) (by omega) hF
                                                                          · refine J_iconst (pc := 1310) C dXL_law_1310 ic_0 ?_
                                                                            exact J_zret (pc := 1311) C dXL_law_1311 rfl hF (by omega) (by omega)
                                                                        · refine J_br hF (fun hc33_34 hF => ?_) (fun hc33_34 hF => ?_)
                                                                          · refine J_tsIn (pc := 33) (tgt := 1312) C 34 hc33_34 dXL_law_33 (by decide) (by decide) rfl rfl ?_
                                                                            refine J_aload_n (pc := 1312) C dXL_law_1312 rfl ?_
                                                                            refine J_aload_n (pc := 1313) C dXL_law_1313 rfl ?_
                                                                            refine J_iload_n (pc := 1314) C dXL_law_1314 rfl ?_
                                                                            refine J_iconst (pc := 1315) C dXL_law_1315 ic_1 ?_
                                                                            refine J_iadd (pc := 1316) C dXL_law_1316 ?_
                                                                            refine J_scr (pc := 1317) C dXL_law_1317 hs hF (fun v1317 hF => ?_)
                                                                            refine J_bind hF (fun q1318 hq hF => ?_)
                                                                            refine J_callV0_i (pc := 1318) (stk := [.int v1317, .ref a1]) (st := []) C dXL_law_1318 yw_X8_tell w_MLXL_157 in_X8_tell sl_X8_tell ⟨_, rfl, rfl⟩ (kX8_tell hq) (gO_some hq).1 rfl (by decide) rfl (Nat.le_of_ble_eq_true rfl) ?_ (hkk := ⟨by omega, by omega⟩)
                                                                            refine J_aload_n (pc := 1321) C dXL_law_1321 rfl ?_
                                                                            refine J_aload_n (pc := 1322) C dXL_law_1322 rfl ?_
                                                                            refine J_iload_n (pc := 1323) C dXL_law_1323 rfl ?_
                                                                            refine J_iconst (pc := 1324) C dXL_law_1324 ic_1 ?_
                                                                            refine J_iadd (pc := 1325) C dXL_law_1325 ?_
                                                                            refine J_scr (pc := 1326) C dXL_law_1326 hs hF (fun v1326 hF => ?_)
                                                                            refine J_bind hF (fun q1327 hq hF => ?_)
                                                                            refine J_callV0_i (pc := 1327) (stk := [.int v1326, .ref a2, .int q1318.1]) (st := [.int q1318.1]) C dXL_law_1327 yw_X9_tell w_MLXL_160 in_X9_tell sl_X9_tell ⟨_, rfl, rfl⟩ (kX9_tell hq) (gO_some hq).1 rfl (by decide) rfl (Nat.le_of_ble_eq_true rfl) ?_ (hkk := ⟨by omega, by omega⟩)
                                                                            refine J_icmp_eq (pc := 1330) (tgt := 1404) C dXL_law_1330 rfl hF (fun hF => ?_) (fun hF => ?_)
                                                                            · refine J_iinc (pc := 1404) (lv' := [some (.ref bS), some (.ref a1), some (.ref a2), some (.int (x3 + 6))]) C dXL_law_1404 rfl ic_6 rfl ?_
                                                                              refine J_goto (pc := 1407) (tgt := 18) C dXL_law_1407 rfl ?_
                                                                              exact ih _ _ q1327.2 a1 a2 (x3 + 6) (by omega) (by omega) hF
                                                                            · refine J_iconst (pc := 1333) C dXL_law_1333 ic_0 ?_
                                                                              exact J_zret (pc := 1334) C dXL_law_1334 rfl hF (by omega) (by omega)
                                                                          · refine J_br hF (fun hc33_35 hF => ?_) (fun hc33_35 hF => ?_)
                                                                            · refine J_tsIn (pc := 33) (tgt := 1335) C 35 hc33_35 dXL_law_33 (by decide) (by decide) rfl rfl ?_
                                                                              refine J_aload_n (pc := 1335) C dXL_law_1335 rfl ?_
                                                                              refine J_aload_n (pc := 1336) C dXL_law_1336 rfl ?_
                                                                              refine J_iload_n (pc := 1337) C dXL_law_1337 rfl ?_
                                                                              refine J_iconst (pc := 1338) C dXL_law_1338 ic_1 ?_
                                                                              refine J_iadd (pc := 1339) C dXL_law_1339 ?_
                                                                              refine J_scr (pc := 1340) C dXL_law_1340 hs hF (fun v1340 hF => ?_)
                                                                              refine J_bind hF (fun q1341 hq hF => ?_)
                                                                              refine J_callV0_i (pc := 1341) (stk := [.int v1340, .ref a1]) (st := []) C dXL_law_1341 yw_X8_check w_MLXL_161 in_X8_check sl_X8_check ⟨_, rfl, rfl⟩ (kX8_check hq) (gO_some hq).1 rfl (by decide) rfl (Nat.le_of_ble_eq_true rfl) ?_ (hkk := ⟨by omega, by omega⟩)
                                                                              refine J_aload_n (pc := 1344) C dXL_law_1344 rfl ?_
                                                                              refine J_aload_n (pc := 1345) C dXL_law_1345 rfl ?_
                                                                              refine J_iload_n (pc := 1346) C dXL_law_1346 rfl ?_
                                                                              refine J_iconst (pc := 1347) C dXL_law_1347 ic_1 ?_
                                                                              refine J_iadd (pc := 1348) C dXL_law_1348 ?_
                                                                              refine J_scr (pc := 1349) C dXL_law_1349 hs hF (fun v1349 hF => ?_)
                                                                              refine J_bind hF (fun q1350 hq hF => ?_)
                                                                              refine J_callV0_i (pc := 1350) (stk := [.int v1349, .ref a2, .int q1341.1]) (st := [.int q1341.1]) C dXL_law_1350 yw_X9_check w_MLXL_164 in_X9_check sl_X9_check ⟨_, rfl, rfl⟩ (kX9_check hq) (gO_some hq).1 rfl (by decide) rfl (Nat.le_of_ble_eq_true rfl) ?_ (hkk := ⟨by omega, by omega⟩)
                                                                              refine J_icmp_eq (pc := 1353) (tgt := 1404) C dXL_law_1353 rfl hF (fun hF => ?_) (fun hF => ?_)
                                                                              · refine J_iinc (pc := 1404) (lv' := [some (.ref bS), some (.ref a1), some (.ref a2), some (.int (x3 + 6))]) C dXL_law_1404 rfl ic_6 rfl ?_
                                                                                refine J_goto (pc := 1407) (tgt := 18) C dXL_law_1407 rfl ?_
                                                                                exact ih _ _ q1350.2 a1 a2 (x3 + 6) (by omega) (by omega) hF
                                                                              · refine J_iconst (pc := 1356) C dXL_law_1356 ic_0 ?_
                                                                                exact J_zret (pc := 1357) C dXL_law_1357 rfl hF (by omega) (by omega)
                                                                            · refine J_br hF (fun hc33_36 hF => ?_) (fun hc33_36 hF => ?_)
                                                                              · refine J_tsIn (pc := 33) (tgt := 1358) C 36 hc33_36 dXL_law_33 (by decide) (by decide) rfl rfl ?_
                                                                                refine J_aload_n (pc := 1358) C dXL_law_1358 rfl ?_
                                                                                refine J_aload_n (pc := 1359) C dXL_law_1359 rfl ?_
                                                                                refine J_iload_n (pc := 1360) C dXL_law_1360 rfl ?_
                                                                                refine J_iconst (pc := 1361) C dXL_law_1361 ic_1 ?_
                                                                                refine J_iadd (pc := 1362) C dXL_law_1362 ?_
                                                                                refine J_scr (pc := 1363) C dXL_law_1363 hs hF (fun v1363 hF => ?_)
                                                                                refine J_bind hF (fun q1364 hq hF => ?_)
                                                                                refine J_callV0_i (pc := 1364) (stk := [.int v1363, .ref a1]) (st := []) C dXL_law_1364 yw_X8_count w_MLXL_165 in_X8_count sl_X8_count ⟨_, rfl, rfl⟩ (kX8_count hq) (gO_some hq).1 rfl (by decide) rfl (Nat.le_of_ble_eq_true rfl) ?_ (hkk := ⟨by omega, by omega⟩)
                                                                                refine J_aload_n (pc := 1367) C dXL_law_1367 rfl ?_
                                                                                refine J_aload_n (pc := 1368) C dXL_law_1368 rfl ?_
                                                                                refine J_iload_n (pc := 1369) C dXL_law_1369 rfl ?_
                                                                                refine J_iconst (pc := 1370) C dXL_law_1370 ic_1 ?_
                                                                                refine J_iadd (pc := 1371) C dXL_law_1371 ?_
                                                                                refine J_scr (pc := 1372) C dXL_law_1372 hs hF (fun v1372 hF => ?_)
                                                                                refine J_bind hF (fun q1373 hq hF => ?_)
                                                                                refine J_callV0_i (pc := 1373) (stk := [.int v1372, .ref a2, .int q1364.1]) (st := [.int q1364.1]) C dXL_law_1373 yw_X9_count w_MLXL_168 in_X9_count sl_X9_count ⟨_, rfl, rfl⟩ (kX9_count hq) (gO_some hq).1 rfl (by decide) rfl (Nat.le_of_ble_eq_true rfl) ?_ (hkk := ⟨by omega, by omega⟩)
                                                                                refine J_icmp_eq (pc := 1376) (tgt := 1404) C dXL_law_1376 rfl hF (fun hF => ?_) (fun hF => ?_)
                                                                                · refine J_iinc (pc := 1404) (lv' := [some (.ref bS), some (.ref a1), some (.ref a2), some (.int (x3 + 6))]) C dXL_law_1404 rfl ic_6 rfl ?_
                                                                                  refine J_goto (pc := 1407) (tgt := 18) C dXL_law_1407 rfl ?_
                                                                                  exact ih _ _ q1373.2 a1 a2 (x3 + 6) (by omega) (by omega) hF
                                                                                · refine J_iconst (pc := 1379) C dXL_law_1379 ic_0 ?_
                                                                                  exact J_zret (pc := 1380) C dXL_law_1380 rfl hF (by omega) (by omega)
                                                                              · refine J_br hF (fun hc33_37 hF => ?_) (fun hc33_37 hF => ?_)
                                                                                · refine J_tsIn (pc := 33) (tgt := 1381) C 37 hc33_37 dXL_law_33 (by decide) (by decide) rfl rfl ?_
                                                                                  refine J_aload_n (pc := 1381) C dXL_law_1381 rfl ?_
                                                                                  refine J_aload_n (pc := 1382) C dXL_law_1382 rfl ?_
                                                                                  refine J_iload_n (pc := 1383) C dXL_law_1383 rfl ?_
                                                                                  refine J_iconst (pc := 1384) C dXL_law_1384 ic_1 ?_
                                                                                  refine J_iadd (pc := 1385) C dXL_law_1385 ?_
                                                                                  refine J_scr (pc := 1386) C dXL_law_1386 hs hF (fun v1386 hF => ?_)
                                                                                  refine J_bind hF (fun q1387 hq hF => ?_)
                                                                                  refine J_callV0_i (pc := 1387) (stk := [.int v1386, .ref a1]) (st := []) C dXL_law_1387 yw_X8_told w_MLXL_169 in_X8_told sl_X8_told ⟨_, rfl, rfl⟩ (kX8_told hq) (gO_some hq).1 rfl (by decide) rfl (Nat.le_of_ble_eq_true rfl) ?_ (hkk := ⟨by omega, by omega⟩)
                                                                                  refine J_aload_n (pc := 1390) C dXL_law_1390 rfl ?_
                                                                                  refine J_aload_n (pc := 1391) C dXL_law_1391 rfl ?_
                                                                                  refine J_iload_n (pc := 1392) C dXL_law_1392 rfl ?_
                                                                                  refine J_iconst (pc := 1393) C dXL_law_1393 ic_1 ?_
                                                                                  refine J_iadd (pc := 1394) C dXL_law_1394 ?_
                                                                                  refine J_scr (pc := 1395) C dXL_law_1395 hs hF (fun v1395 hF => ?_)
                                                                                  refine J_bind hF (fun q1396 hq hF => ?_)
                                                                                  refine J_callV0_i (pc := 1396) (stk := [.int v1395, .ref a2, .int q1387.1]) (st := [.int q1387.1]) C dXL_law_1396 yw_X9_told w_MLXL_172 in_X9_told sl_X9_told ⟨_, rfl, rfl⟩ (kX9_told hq) (gO_some hq).1 rfl (by decide) rfl (Nat.le_of_ble_eq_true rfl) ?_ (hkk := ⟨by omega, by omega⟩)
                                                                                  refine J_icmp_eq (pc := 1399) (tgt := 1404) C dXL_law_1399 rfl hF (fun hF => ?_) (fun hF => ?_)
                                                                                  · refine J_iinc (pc := 1404) (lv' := [some (.ref bS), some (.ref a1), some (.ref a2), some (.int (x3 + 6))]) C dXL_law_1404 rfl ic_6 rfl ?_
                                                                                    refine J_goto (pc := 1407) (tgt := 18) C dXL_law_1407 rfl ?_
                                                                                    exact ih _ _ q1396.2 a1 a2 (x3 + 6) (by omega) (by omega) hF
                                                                                  · refine J_iconst (pc := 1402) C dXL_law_1402 ic_0 ?_
                                                                                    exact J_zret (pc := 1403) C dXL_law_1403 rfl hF (by omega) (by omega)
                                                                                · have hD : J X mc ms k n 1404 [some (.ref bS), some (.ref a1), some (.ref a2), some (.int x3)] [] h := by
                                                                                    refine J_iinc (pc := 1404) (lv' := [some (.ref bS), some (.ref a1), some (.ref a2), some (.int (x3 + 6))]) C dXL_law_1404 rfl ic_6 rfl ?_
                                                                                    refine J_goto (pc := 1407) (tgt := 18) C dXL_law_1407 rfl ?_
                                                                                    exact ih _ _ h a1 a2 (x3 + 6) (by omega) (by omega) hF
                                                                                  refine J_tsOut (pc := 33) (tgt := 1404) C dXL_law_33 (by have z0 := lv_neT hc33_0 (a := 0) rfl; have z1 := lv_neT hc33_1 (a := 1) rfl; have z2 := lv_neT hc33_2 (a := 2) rfl; have z3 := lv_neT hc33_3 (a := 3) rfl; have z4 := lv_neT hc33_4 (a := 4) rfl; have z5 := lv_neT hc33_5 (a := 5) rfl; have z6 := lv_neT hc33_6 (a := 6) rfl; have z7 := lv_neT hc33_7 (a := 7) rfl; have z8 := lv_neT hc33_8 (a := 8) rfl; have z9 := lv_neT hc33_9 (a := 9) rfl; have z10 := lv_neT hc33_10 (a := 10) rfl; have z11 := lv_neT hc33_11 (a := 11) rfl; have z12 := lv_neT hc33_12 (a := 12) rfl; have z13 := lv_neT hc33_13 (a := 13) rfl; have z14 := lv_neT hc33_14 (a := 14) rfl; have z15 := lv_neT hc33_15 (a := 15) rfl; have z16 := lv_neT hc33_16 (a := 16) rfl; have z17 := lv_neT hc33_17 (a := 17) rfl; have z18 := lv_neT hc33_18 (a := 18) rfl; have z19 := lv_neT hc33_19 (a := 19) rfl; have z20 := lv_neT hc33_20 (a := 20) rfl; have z21 := lv_neT hc33_21 (a := 21) rfl; have z22 := lv_neT hc33_22 (a := 22) rfl; have z23 := lv_neT hc33_23 (a := 23) rfl; have z24 := lv_neT hc33_24 (a := 24) rfl; have z25 := lv_neT hc33_25 (a := 25) rfl; have z26 := lv_neT hc33_26 (a := 26) rfl; have z27 := lv_neT hc33_27 (a := 27) rfl; have z28 := lv_neT hc33_28 (a := 28) rfl; have z29 := lv_neT hc33_29 (a := 29) rfl; have z30 := lv_neT hc33_30 (a := 30) rfl; have z31 := lv_neT hc33_31 (a := 31) rfl; have z32 := lv_neT hc33_32 (a := 32) rfl; have z33 := lv_neT hc33_33 (a := 33) rfl; have z34 := lv_neT hc33_34 (a := 34) rfl; have z35 := lv_neT hc33_35 (a := 35) rfl; have z36 := lv_neT hc33_36 (a := 36) rfl; have z37 := lv_neT hc33_37 (a := 37) rfl; omega) rfl hD
