/-! ===== texts: pieces joined ===== -/
section OZp
variable {b v' : Nat} {S S' S1 S2 S3 S5 S6 : Nat → Nat → Int32} {Q Q' Q1 Q2 : Nat → Nat → Nat} {g g' g1 g2 h : Hp} {f k j p q n u c c0 c1 lo hi i e m d rd cd a use op lv : Nat} {x y z v r sz ax lx : Int32} {T : Tx} {tp : List Nat} {fu fu' : Nat → Int32} {cdt toks : List Tk} {o1 o2 : Ou} {F1 F2 : Hp → Option Hp} {G1 G2 : Hp → Option (Int32 × Hp)}

def GoodL (tp : List Nat) (a : Nat) (o : Ou) : Prop := a ≤ o.2.1 ∧ o.2.1 ≤ tp.length ∧ (o.1 = true → o.2.2.length ≤ o.2.1 - a ∧ (∀ t ∈ o.2.2, tokOk t) ∧ ∀ d, depP (d + 1) o.2.2 = some (d + 1))
def seqO (o1 o2 : Ou) : Ou := (o1.1 && o2.1, if o1.1 = true then o2.2.1 else o1.2.1, o1.2.2 ++ o2.2.2)
def joinO (c : Nat) (o1 o2 : Ou) : Ou := (o1.1 && o2.1, if o1.1 = true then o2.2.1 else o1.2.1, (o1.2.2 ++ [(3, c)]) ++ o2.2.2)
def restO (a : Nat) : Ou := (true, a, [])
theorem good_rest (ha : a ≤ tp.length) : GoodL tp a (restO a) := ⟨Nat.le_refl _, ha, fun _ => ⟨Nat.zero_le _, fun _ q => (List.not_mem_nil q).elim, fun _ => rfl⟩⟩
theorem good_seq (h1 : GoodO tp a o1) (h2 : o1.1 = true → GoodL tp o1.2.1 o2) : GoodO tp a (seqO o1 o2) := by
  obtain ⟨ok1, a1, t1⟩ := o1
  obtain ⟨ok2, a2, t2⟩ := o2
  obtain ⟨y1, y2, y3⟩ := h1
  have y1' : a ≤ a1 := y1
  have y2' : a1 ≤ tp.length := y2
  cases ok1 with
  | false => exact ⟨y1, y2, fun q => by cases q⟩
  | true =>
    obtain ⟨z1, z2, z3⟩ := h2 rfl
    have z1' : a1 ≤ a2 := z1
    refine ⟨by show a ≤ a2; omega, z2, fun q => ?_⟩
    have q2 : ok2 = true := q
    obtain ⟨w1, w2, w3⟩ := y3 rfl
    obtain ⟨w4, w5, w6⟩ := z3 q2
    have w1' : t1.length ≤ a1 - a := w1
    have w4' : t2.length ≤ a2 - a1 := w4
    refine ⟨by show (t1 ++ t2).length ≤ a2 - a; rw [List.length_append]; omega, fun t ht => (List.mem_append.mp ht).elim (w2 t) (w5 t), fun d => ?_⟩
    show depP d (t1 ++ t2) = _
    rw [depP_app, show depP d t1 = some (d + 1) from w3 d]
    exact w6 d
theorem good_join (hc : isSg c) (h1 : GoodO tp (a + 1) o1) (h2 : o1.1 = true → GoodL tp o1.2.1 o2) : GoodL tp a (joinO c o1 o2) := by
  obtain ⟨ok1, a1, t1⟩ := o1
  obtain ⟨ok2, a2, t2⟩ := o2
  obtain ⟨y1, y2, y3⟩ := h1
  have y1' : a + 1 ≤ a1 := y1
  have y2' : a1 ≤ tp.length := y2
  cases ok1 with
  | false => exact ⟨by show a ≤ a1; omega, y2, fun q => by cases q⟩
  | true =>
    obtain ⟨z1, z2, z3⟩ := h2 rfl
    have z1' : a1 ≤ a2 := z1
    refine ⟨by show a ≤ a2; omega, z2, fun q => ?_⟩
    have q2 : ok2 = true := q
    obtain ⟨w1, w2, w3⟩ := y3 rfl
    obtain ⟨w4, w5, w6⟩ := z3 q2
    have w1' : t1.length ≤ a1 - (a + 1) := w1
    have w4' : t2.length ≤ a2 - a1 := w4
    refine ⟨by show ((t1 ++ [(3, c)]) ++ t2).length ≤ a2 - a; rw [List.length_append, len_snoc]; omega, fun t ht => ?_, fun d => ?_⟩
    · rcases List.mem_append.mp ht with h | h
      · rcases List.mem_append.mp h with h | h
        · exact w2 t h
        · rw [List.mem_singleton.mp h]; exact Or.inr (Or.inr (Or.inr ⟨rfl, hc⟩))
      · exact w5 t h
    · show depP (d + 1) ((t1 ++ [(3, c)]) ++ t2) = _
      rw [depP_app, depP_app, show depP (d + 1) t1 = some (d + 1 + 1) from w3 (d + 1)]
      show (depP (d + 1 + 1) [(3, c)]).bind _ = _
      rw [depP, if_neg (show ¬ ((3 : Nat) = 0 ∨ (3 : Nat) = 1) by decide), if_neg (show ¬ (3 : Nat) = 2 by decide), if_pos (by omega)]
      exact w6 d
def LostI (b : Nat) (tp : List Nat) (use rd cd : Nat) (F : Hp → Option Hp) : Prop := ∀ (S : Nat → Nat → Int32) (Q : Nat → Nat → Nat) (g : Hp) (n a : Nat) (fu : Nat → Int32), RdS b tp.length use rd cd g (nI n) (nI a) (nI 1) fu → F (E b S Q g) = some (E b S Q g)
theorem cl_rest (hF : ∀ (S : Nat → Nat → Int32) (Q : Nat → Nat → Nat) (g : Hp) (sz : Int32) (fu : Nat → Int32), Tape S tp → RdS b tp.length use rd cd g sz (nI a) (nI 0) fu → F1 (E b S Q g) = some (E b S Q g)) : ClP b tp use rd cd F1 a (restO a) := by
  intro S Q g cdt fu hT hR hE hle
  refine ⟨g, hF S Q g _ fu hT hR, FrR.rf, ?_⟩
  rw [if_pos (by rfl)]
  exact ⟨fu, by show RdS b tp.length use rd cd g (nI (cdt ++ []).length) _ _ _; rw [List.append_nil]; exact hR, by show EncR fu (cdt ++ []); rw [List.append_nil]; exact hE⟩
theorem rf_rest (hG : ∀ (S : Nat → Nat → Int32) (Q : Nat → Nat → Nat) (g : Hp) (cdt : List Tk), RfS b tp use S a op cdt → G1 (E b S Q g) = some (1, E b S Q g)) : RfP b tp use op G1 a (restO a) := by
  intro S Q g cdt hR hle
  refine ⟨S, hG S Q g cdt hR, FrM.rf, ?_⟩
  rw [if_pos (by rfl)]
  show RfS b tp use S a op (cdt ++ [])
  rw [List.append_nil]; exact hR
theorem cl_seq (h1 : ClP b tp use rd cd F1 a o1) (hg : GoodO tp a o1) (h2 : o1.1 = true → ClP b tp use rd cd F2 o1.2.1 o2) (hL : LostI b tp use rd cd F2) : ClP b tp use rd cd (fun h => (gO h 3 rd (F1 h)).bind F2) a (seqO o1 o2) := by
  obtain ⟨ok1, a1, t1⟩ := o1
  obtain ⟨ok2, a2, t2⟩ := o2
  intro S Q g cdt fu hT hR hE hle
  obtain ⟨y1, y2, y3⟩ := hg
  have y1' : a ≤ a1 := y1
  obtain ⟨g2, e2, f2, k2⟩ := h1 S Q g cdt fu hT hR hE hle
  cases ok1 with
  | false =>
    rw [if_neg (show ¬ (false = true) by decide)] at k2
    obtain ⟨n2, fu2, hn2, r2⟩ := k2
    refine ⟨g2, ?_, f2, ?_⟩
    · show (gO (E b S Q g) 3 rd (F1 (E b S Q g))).bind F2 = _
      rw [hR.gO, e2, bind_sm, hL S Q g2 n2 _ fu2 r2]
    · rw [if_neg (show ¬ ((seqO (false, a1, t1) (ok2, a2, t2)).1 = true) from fun q => by cases q)]
      exact ⟨n2, fu2, hn2, r2⟩
  | true =>
    rw [if_pos rfl] at k2
    obtain ⟨fu2, r2, hE2⟩ := k2
    obtain ⟨z1, z2, z3⟩ := y3 rfl
    have z1' : t1.length ≤ a1 - a := z1
    obtain ⟨g4, e4, f4, k4⟩ := h2 rfl S Q g2 (cdt ++ t1) fu2 hT r2 hE2 (by show (cdt ++ t1).length ≤ a1; rw [List.length_append]; omega)
    refine ⟨g4, ?_, f2.tr f4, ?_⟩
    · show (gO (E b S Q g) 3 rd (F1 (E b S Q g))).bind F2 = _
      rw [hR.gO, e2, bind_sm, e4]
    · cases ok2 with
      | false => exact k4
      | true =>
        rw [if_pos rfl] at k4
        rw [if_pos (by rfl)]
        show ∃ fu', RdS b tp.length use rd cd g4 (nI (cdt ++ (t1 ++ t2)).length) (nI a2) (nI 0) fu' ∧ EncR fu' (cdt ++ (t1 ++ t2))
        rw [← List.append_assoc]
        exact k4
theorem rf_seq (h1 : RfP b tp use op G1 a o1) (hg : GoodO tp a o1) (h2 : o1.1 = true → RfP b tp use op G2 o1.2.1 o2) : RfP b tp use op (fun h => (gO h 9 (b + 116) (G1 h)).bind fun q1 => if q1.1 = 0 then some (0, q1.2) else G2 q1.2) a (seqO o1 o2) := by
  obtain ⟨ok1, a1, t1⟩ := o1
  obtain ⟨ok2, a2, t2⟩ := o2
  intro S Q g cdt hR hle
  obtain ⟨y1, y2, y3⟩ := hg
  have y1' : a ≤ a1 := y1
  obtain ⟨S2, e2, f2, k2⟩ := h1 S Q g cdt hR hle
  cases ok1 with
  | false =>
    rw [if_neg (show ¬ (false = true) by decide)] at k2
    refine ⟨S2, ?_, f2, ?_⟩
    · show (gO (E b S Q g) 9 (b + 116) (G1 (E b S Q g))).bind _ = _
      rw [gO_M, e2, bind_sm]
      rfl
    · exact k2
  | true =>
    rw [if_pos rfl] at k2
    obtain ⟨z1, z2, z3⟩ := y3 rfl
    have z1' : t1.length ≤ a1 - a := z1
    obtain ⟨S4, e4, f4, k4⟩ := h2 rfl S2 Q g (cdt ++ t1) k2 (by show (cdt ++ t1).length ≤ a1; rw [List.length_append]; omega)
    refine ⟨S4, ?_, f2.tr f4, ?_⟩
    · show (gO (E b S Q g) 9 (b + 116) (G1 (E b S Q g))).bind _ = _
      rw [gO_M, e2, bind_sm]
      show (if nI 1 = 0 then _ else G2 (E b S2 Q g)) = _
      rw [if_neg (show ¬ nI 1 = 0 by decide), e4]
      cases ok2 <;> rfl
    · cases ok2 with
      | false => exact k4
      | true =>
        rw [if_pos rfl] at k4
        rw [if_pos (by rfl)]
        show RfS b tp use S4 a2 op (cdt ++ (t1 ++ t2))
        rw [← List.append_assoc]
        exact k4
def chC (rd : Nat) (F1 F2 : Hp → Option Hp) (h : Hp) : Option Hp := (getR h 3 rd 0).bind fun r50 => (getI h 3 rd 5).bind fun v54 => (rdI h r50 v54).bind fun v57 => (getI h 3 rd 5).bind fun v62 => (putV h 3 rd 5 (.int (v62 + 1))).bind fun h67 => (gO h67 3 rd (F1 h67)).bind fun q75 => (fX3_write q75 rd v57).bind F2
def chM (a0 : Nat) (x : Int32) (G1 G2 : Hp → Option (Int32 × Hp)) (h : Hp) : Option (Int32 × Hp) := (getI h 9 a0 6).bind fun v20 => (putV h 9 a0 6 (.int (v20 + 1))).bind fun h25 => (gO h25 9 a0 (G1 h25)).bind fun q29 => if q29.1 = 0 then some (0, q29.2) else (fX9_lays q29.2 a0 3 x).bind G2
theorem cl_join (h60 : tp.length ≤ 60) (ha : a < tp.length) (h1 : ClP b tp use rd cd F1 (a + 1) o1) (hg : GoodO tp (a + 1) o1) (h2 : o1.1 = true → ClP b tp use rd cd F2 o1.2.1 o2) (hL : LostI b tp use rd cd F2) : ClP b tp use rd cd (chC rd F1 F2) a (joinO (lookN tp a) o1 o2) := by
  obtain ⟨ok1, a1, t1⟩ := o1
  obtain ⟨ok2, a2, t2⟩ := o2
  intro S Q g cdt fu hT hR hE hle
  obtain ⟨y1, y2, y3⟩ := hg
  have y1' : a + 1 ≤ a1 := y1
  have y2' : a1 ≤ tp.length := y2
  obtain ⟨g1, e1, r1, f1⟩ := hR.p5 (S := S) (Q := Q) (nI (a + 1))
  obtain ⟨g2, e2, f2, k2⟩ := h1 S Q g1 cdt fu hT r1 hE (by omega)
  have hgo : chC rd F1 F2 (E b S Q g) = (fX3_write (E b S Q g2) rd (nI (lookN tp a))).bind F2 := by
    unfold chC
    rw [hR.r0, bind_sm, hR.i5, bind_sm, tape_rd hT ha, bind_sm, bind_sm, show nI a + 1 = nI (a + 1) from nI_add a 1, e1, bind_sm, r1.gO, e2, bind_sm]
  cases ok1 with
  | false =>
    rw [if_neg (show ¬ (false = true) by decide)] at k2
    obtain ⟨n2, fu2, hn2, r2⟩ := k2
    obtain ⟨g3, n3, fu3, e3, r3, hn3, f3⟩ := c_writeAny (S := S) (Q := Q) r2 h60 hn2 (nI (lookN tp a))
    refine ⟨g3, by rw [hgo, e3, bind_sm, hL S Q g3 n3 _ fu3 r3], (f1.tr f2).tr f3, ?_⟩
    rw [if_neg (show ¬ ((joinO (lookN tp a) (false, a1, t1) (ok2, a2, t2)).1 = true) from fun q => by cases q)]
    exact ⟨n3, fu3, hn3, r3⟩
  | true =>
    rw [if_pos rfl] at k2
    obtain ⟨fu2, r2, hE2⟩ := k2
    have r2' : RdS b tp.length use rd cd g2 (nI (cdt ++ t1).length) (nI a1) (nI 0) fu2 := r2
    obtain ⟨z1, z2, z3⟩ := y3 rfl
    have z1' : t1.length ≤ a1 - (a + 1) := z1
    obtain ⟨g3, e3, r3, f3⟩ := c_write (S := S) (Q := Q) r2' (by rw [List.length_append]; omega) h60 (nI (lookN tp a))
    obtain ⟨g4, e4, f4, k4⟩ := h2 rfl S Q g3 ((cdt ++ t1) ++ [(3, lookN tp a)]) _ hT (by rw [len_snoc]; exact r3) (EncR.snoc (t := (3, lookN tp a)) hE2) (by show ((cdt ++ t1) ++ [(3, lookN tp a)]).length ≤ a1; rw [len_snoc, List.length_append]; omega)
    refine ⟨g4, by rw [hgo, e3, bind_sm, e4], ((f1.tr f2).tr f3).tr f4, ?_⟩
    cases ok2 with
    | false => exact k4
    | true =>
      rw [if_pos rfl] at k4
      rw [if_pos (by rfl)]
      show ∃ fu', RdS b tp.length use rd cd g4 (nI (cdt ++ ((t1 ++ [(3, lookN tp a)]) ++ t2)).length) (nI a2) (nI 0) fu' ∧ EncR fu' (cdt ++ ((t1 ++ [(3, lookN tp a)]) ++ t2))
      rw [← List.append_assoc, ← List.append_assoc]
      exact k4
theorem rf_join (h60 : tp.length ≤ 60) (ha : a < tp.length) (hx : x = nI (lookN tp a)) (h1 : RfP b tp use op G1 (a + 1) o1) (hg : GoodO tp (a + 1) o1) (h2 : o1.1 = true → RfP b tp use op G2 o1.2.1 o2) : RfP b tp use op (chM (b + 116) x G1 G2) a (joinO (lookN tp a) o1 o2) := by
  obtain ⟨ok1, a1, t1⟩ := o1
  obtain ⟨ok2, a2, t2⟩ := o2
  intro S Q g cdt hR hle
  obtain ⟨y1, y2, y3⟩ := hg
  have y1' : a + 1 ≤ a1 := y1
  have y2' : a1 ≤ tp.length := y2
  obtain ⟨r1, f1⟩ := hR.at6 (a + 1)
  obtain ⟨S2, e2, f2, k2⟩ := h1 _ Q g cdt r1 (by omega)
  have hgo : chM (b + 116) x G1 G2 (E b S Q g) = if (if ok1 = true then nI 1 else nI 0) = 0 then some (0, E b S2 Q g) else (fX9_lays (E b S2 Q g) (b + 116) 3 x).bind G2 := by
    unfold chM
    rw [getI_M6, hR.1, bind_sm, show nI a + 1 = nI (a + 1) from nI_add a 1, put6M, bind_sm, gO_M, e2, bind_sm]
  cases ok1 with
  | false =>
    rw [if_neg (show ¬ (false = true) by decide)] at k2
    exact ⟨S2, hgo, f1.tr f2, k2⟩
  | true =>
    rw [if_pos rfl] at k2
    have k2' : RfS b tp use S2 a1 op (cdt ++ t1) := k2
    obtain ⟨z1, z2, z3⟩ := y3 rfl
    have z1' : t1.length ≤ a1 - (a + 1) := z1
    obtain ⟨S3, e3, r3, f3⟩ := m_lays (Q := Q) (g := g) k2' (by rw [List.length_append]; omega) (3, lookN tp a)
    obtain ⟨S4, e4, f4, k4⟩ := h2 rfl S3 Q g ((cdt ++ t1) ++ [(3, lookN tp a)]) r3 (by show ((cdt ++ t1) ++ [(3, lookN tp a)]).length ≤ a1; rw [len_snoc, List.length_append]; omega)
    refine ⟨S4, ?_, ((f1.tr f2).tr f3).tr f4, ?_⟩
    · rw [hgo, if_pos rfl, if_neg (show ¬ nI 1 = 0 by decide), hx, show fX9_lays (E b S2 Q g) (b + 116) 3 (nI (lookN tp a)) = _ from e3, bind_sm, e4]
      cases ok2 <;> rfl
    · cases ok2 with
      | false => exact k4
      | true =>
        rw [if_pos rfl] at k4
        rw [if_pos (by rfl)]
        show RfS b tp use S4 a2 op (cdt ++ ((t1 ++ [(3, lookN tp a)]) ++ t2))
        rw [← List.append_assoc, ← List.append_assoc]
        exact k4
end OZp
