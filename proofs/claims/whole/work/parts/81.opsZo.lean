/-! ===== texts: one piece, both ===== -/
section OZo
variable {b v' : Nat} {S S' S1 S2 S3 S5 S6 : Nat → Nat → Int32} {Q Q' Q1 Q2 : Nat → Nat → Nat} {g g' g1 g2 h : Hp} {f k j p q n u c c0 c1 lo hi i e m d rd cd a use op lv : Nat} {x y z v r sz ax lx : Int32} {T : Tx} {tp : List Nat} {fu fu' : Nat → Int32} {cdt toks : List Tk}

theorem lk_in (h : a < tp.length) : lkI tp a = nI (lookN tp a) := if_neg (fun q => q.2 h)
theorem look_lt_of (h : lookN tp a < 1000) : a < tp.length := by
  by_cases h1 : a < tp.length
  · exact h1
  · rw [look_out h1] at h; omega
/-- the class finds no digit and no name -/
theorem c_one71 (oJ : Hp → Nat → Int32 → Int32 → Option Hp) (oO : Hp → Nat → Int32 → Option Hp) (hu : use < 2) (hR : RdS b tp.length use rd cd g sz (nI a) (nI 0) fu) (hT : Tape S tp) (ha : a ≤ tp.length) (hd : ¬ dgB (lookN tp a) = true) (hn : nmN use (lookN tp a) = 9) : bX3_readOne oJ oO (E b S Q g) rd (nI op) = fX3_readOne_71 oJ oO (E b S Q g) rd (nI op) := by
  have h60 := hT.2.1
  unfold bX3_readOne
  rw [c_seesDigit hR hT ha, bind_sm, if_neg hd, if_pos (show nI 0 = 0 from rfl), hR.i5, bind_sm, hR.i1, bind_sm]
  by_cases h : a < tp.length
  · rw [if_neg (fun q => absurd ((nI_leI (by omega) (by omega)).mp q) (by omega)), hR.r0, bind_sm, bind_sm, tape_rd hT h, bind_sm, c_nameOf hR hu (look_lt hT h), if_pos hn, bind_sm, if_pos (show (-1 : Int32) < 0 by decide)]
  · rw [if_pos ((nI_leI (by omega) (by omega)).mpr (by omega))]
theorem c_one_lost (oJ : Hp → Nat → Int32 → Int32 → Option Hp) (oO : Hp → Nat → Int32 → Option Hp) (hR : RdS b tp.length use rd cd g sz (nI a) (nI 0) fu) (hT : Tape S tp) (ha : a ≤ tp.length) (hop : op ≤ 5) (hx : (lookN tp a = 33 ∨ lookN tp a = 40) → op = 5) : ∃ g', fX3_readOne_71 oJ oO (E b S Q g) rd (nI op) = some (E b S Q g') ∧ RdS b tp.length use rd cd g' sz (nI a) (nI 1) fu ∧ FrR rd cd g g' := by
  obtain ⟨g', e1, r1, f1⟩ := hR.p6 (S := S) (Q := Q) (nI 1)
  refine ⟨g', ?_, r1, f1⟩
  have e1' : putV (E b S Q g) 3 rd 6 (.int 1) = some (E b S Q g') := e1
  have h111 : fX3_readOne_111 oJ oO (E b S Q g) rd (nI op) = some (E b S Q g') := by
    unfold fX3_readOne_111
    rw [show (40 : Int32) = nI 40 from rfl, c_sees hR hT ha (c := 40) (by decide), bind_sm]
    by_cases h40 : lookN tp a = 40
    · rw [if_pos h40, if_neg (show ¬ nI 1 = 0 by decide), if_pos (show (5 : Int32) ≤ nI op by rw [hx (Or.inr h40)]; decide), e1', bind_sm]
    · rw [if_neg h40, if_pos (show nI 0 = 0 from rfl), e1', bind_sm]
  unfold fX3_readOne_71
  rw [show (33 : Int32) = nI 33 from rfl, c_sees hR hT ha (c := 33) (by decide), bind_sm, h111]
  by_cases h33 : lookN tp a = 33
  · rw [if_pos h33, if_neg (show ¬ nI 1 = 0 by decide), if_pos (show (5 : Int32) ≤ nI op by rw [hx (Or.inl h33)]; decide)]
  · rw [if_neg h33, if_pos (show nI 0 = 0 from rfl)]
theorem m_opens5 (hR : RfS b tp use S a 5 cdt) : fX9_opens (E b S Q g) (b + 116) = some (nI 0, E b S Q g) := by
  unfold fX9_opens
  rw [gO_M, getI_M7, hR.2.1, bind_sm, if_pos (show nI 5 = 5 from rfl)]
  rfl
theorem m_opens (hR : RfS b tp use S a op cdt) (hop : op < 5) : ∃ S', fX9_opens (E b S Q g) (b + 116) = some (nI 1, E b S' Q g) ∧ RfS b tp use S' (a + 1) (op + 1) cdt ∧ FrM S S' := by
  obtain ⟨r1, f1⟩ := hR.op7 (op + 1)
  obtain ⟨r2, f2⟩ := r1.at6 (a + 1)
  refine ⟨_, ?_, r2, f1.tr f2⟩
  unfold fX9_opens
  rw [gO_M, getI_M7, hR.2.1, bind_sm, if_neg (show ¬ nI op = 5 from fun q => absurd ((nI_eq (by omega) (by decide) : nI op = nI 5 ↔ op = 5).mp q) (by omega)), bind_sm, show nI op + 1 = nI (op + 1) from nI_add op 1, put7M, bind_sm, getI_M6, r1.1, bind_sm, show nI a + 1 = nI (a + 1) from nI_add a 1, put6M, bind_sm]
  rfl
theorem JO_step (hu : use < 2) (hb : ∀ x ∈ tp, x < 256) (h60 : tp.length ≤ 60) (hop : op ≤ 5) (hJ : op < 5 → ∀ a, a ≤ tp.length → JO b tp use rd cd (op + 1) a ∧ JL b tp use rd cd 0 (op + 1) a) (ha : a ≤ tp.length) : JO b tp use rd cd op a := by
  have k33 : (lkI tp a = 33) ↔ lookN tp a = 33 := lk_eq (c := 33) hb (by decide)
  have k40 : (lkI tp a = 40) ↔ lookN tp a = 40 := lk_eq (c := 40) hb (by decide)
  have fuel : ∀ n, NO op ≤ n → ∃ n', n = n' + 1 ∧ (op < 5 → NO (op + 1) ≤ n' ∧ NL 0 (op + 1) ≤ n') := by
    intro n hn
    unfold NO at hn
    exact ⟨n - 1, by omega, fun h => by unfold NL NO; omega⟩
  have cun : ∀ (n' : Nat) (h : Hp), gX3_readJoined (n' + 1) 1 h rd (nI op) 0 = bX3_readOne (fun h a0 x1 x2 => gX3_readJoined n' 0 h a0 x1 x2) (fun h a0 x1 => gX3_readJoined n' 1 h a0 x1 0) h rd (nI op) := by
    intro n' h
    rw [gX3_readJoined, if_neg (by decide)]
  have mun : ∀ (n' : Nat) (h : Hp), gX9_both (n' + 1) 2 h (b + 116) = bX9_one (fun h a0 => gX9_both n' 0 h a0) (fun h a0 => gX9_both n' 1 h a0) (fun h a0 => gX9_both n' 2 h a0) (fun h a0 => gX9_both n' 3 h a0) (fun h a0 => gX9_both n' 4 h a0) (fun h a0 => gX9_both n' 5 h a0) h (b + 116) := by
    intro n' h
    rw [gX9_both, if_neg (by decide), if_neg (by decide), if_pos rfl]
  by_cases hnm : nmN use (lookN tp a) = 9
  · by_cases hd : dgB (lookN tp a) = true
    · -- a number
      obtain ⟨a', val, b1, b2, b3, b4, iC, iM⟩ := num_both (b := b) (use := use) (rd := rd) (cd := cd) hb h60 4 0 a 0 (by decide) ha (by decide)
      have b5 := b3 hd (by decide)
      refine ⟨(true, a', [(0, val)]), ⟨b1, b2, fun _ => ⟨by show 1 ≤ a' - a; omega, fun t ht => by rw [List.mem_singleton.mp ht]; exact Or.inl ⟨rfl, b4⟩, fun d => rfl⟩⟩, fun n hn => ?_, fun n hn => ?_⟩
      · obtain ⟨n', rfl, -⟩ := fuel n hn
        intro S Q g cdt fu hT hR hE hle
        obtain ⟨g1, e1, r1, f1⟩ := iC S Q g (nI cdt.length) fu 1000 (by omega) hT hR
        obtain ⟨g2, e2, r2, f2⟩ := c_write (S := S) (Q := Q) r1 (by omega) h60 (nI (256 + val))
        refine ⟨g2, ?_, f1.tr f2, ?_⟩
        · show gX3_readJoined (n' + 1) 1 (E b S Q g) rd (nI op) 0 = _
          rw [cun]
          unfold bX3_readOne fX3_readNumber
          rw [c_seesDigit hR hT ha, bind_sm, if_pos hd, if_neg (show ¬ nI 1 = 0 by decide), hR.gO, show fX3_readNumber_4 1000 (E b S Q g) rd 0 0 = _ from e1, e2, bind_sm, bind_sm]
        · rw [if_pos rfl]
          exact ⟨_, by rw [len_snoc]; exact r2, hE.snoc (t := (0, val))⟩
      · obtain ⟨n', rfl, -⟩ := fuel n hn
        intro S Q g cdt hR hle
        obtain ⟨S1, e1, r1, f1⟩ := iM (fun h a0 => gX9_both n' 0 h a0) (fun h a0 => gX9_both n' 1 h a0) (fun h a0 => gX9_both n' 2 h a0) (fun h a0 => gX9_both n' 3 h a0) (fun h a0 => gX9_both n' 4 h a0) (fun h a0 => gX9_both n' 5 h a0) S Q g cdt op 1000 (by omega) hR
        obtain ⟨S2, e2, r2, f2⟩ := m_lays (Q := Q) (g := g) r1 (by omega) (0, val)
        refine ⟨S2, ?_, f1.tr f2, ?_⟩
        · show gX9_both (n' + 1) 2 (E b S Q g) (b + 116) = _
          rw [mun]
          unfold bX9_one
          rw [m_look' hR h60 ha, bind_sm, m_isName hR hu hb, bind_sm, if_pos hnm, if_pos (show nI 0 = 0 from rfl), m_inDg hb, bind_sm, if_pos hd, if_neg (show ¬ nI 1 = 0 by decide), show fX9_one_46 _ _ _ _ _ _ 1000 (E b S Q g) (b + 116) 0 0 = _ from e1]
          unfold fX9_one_94
          rw [show fX9_lays (E b S1 Q g) (b + 116) 0 (nI val) = some (E b S2 Q g) from e2, bind_sm]
          rfl
        · rw [if_pos rfl]; exact r2
    · by_cases hx : (lookN tp a = 33 ∨ lookN tp a = 40) ∧ op < 5
      · obtain ⟨hx1, hop5⟩ := hx
        have hlt : a < tp.length := look_lt_of (by omega)
        have hop' : ¬ (5 : Int32) ≤ nI op := fun q => absurd ((nI_leI (by decide) (by omega) : nI 5 ≤ nI op ↔ 5 ≤ op).mp q) (by omega)
        obtain ⟨jO, jL⟩ := hJ hop5 (a + 1) (by omega)
        by_cases h33 : lookN tp a = 33
        · obtain ⟨⟨ok, a2, t2⟩, ⟨y1, y2, y3⟩, yC, yM⟩ := jO
          have y1' : a + 1 ≤ a2 := y1
          have y2' : a2 ≤ tp.length := y2
          refine ⟨(ok, a2, t2 ++ [(2, 0)]), ⟨by show a ≤ a2; omega, y2, fun hok => ?_⟩, fun n hn => ?_, fun n hn => ?_⟩
          · obtain ⟨z1, z2, z3⟩ := y3 hok
            have z1' : t2.length ≤ a2 - (a + 1) := z1
            refine ⟨by show (t2 ++ [(2, 0)]).length ≤ a2 - a; rw [len_snoc]; omega, fun t ht => ?_, fun d => ?_⟩
            · rcases List.mem_append.mp ht with h | h
              · exact z2 t h
              · rw [List.mem_singleton.mp h]; exact Or.inr (Or.inr (Or.inl rfl))
            · show depP d (t2 ++ [(2, 0)]) = _
              rw [depP_app, show depP d t2 = some (d + 1) from z3 d]
              show depP (d + 1) [(2, 0)] = some (d + 1)
              rw [depP, if_neg (by decide), if_pos rfl, if_pos (by omega)]
              rfl
          · obtain ⟨n', rfl, hf⟩ := fuel n hn
            intro S Q g cdt fu hT hR hE hle
            obtain ⟨g1, e1, r1, f1⟩ := hR.p5 (S := S) (Q := Q) (nI (a + 1))
            obtain ⟨g2, e2, f2, k2⟩ := yC n' (hf hop5).1 S Q g1 cdt fu hT r1 hE (by omega)
            have hgo : ∀ (g3 : Hp) (res : Option Hp), (fX3_write (E b S Q g2) rd (nI 33)).bind (fun q105 => some q105) = res → gX3_readJoined (n' + 1) 1 (E b S Q g) rd (nI op) 0 = res := by
              intro g3 res hres
              rw [cun, c_one71 _ _ hu hR hT ha hd hnm]
              unfold fX3_readOne_71
              rw [show (33 : Int32) = nI 33 from rfl, c_sees hR hT ha (c := 33) (by decide), bind_sm, if_pos h33, if_neg (show ¬ nI 1 = 0 by decide), if_neg hop', hR.i5, bind_sm, show nI a + 1 = nI (a + 1) from nI_add a 1, e1, bind_sm, r1.gO, show nI op + 1 = nI (op + 1) from nI_add op 1]
              dsimp only
              rw [show gX3_readJoined n' 1 (E b S Q g1) rd (nI (op + 1)) 0 = _ from e2, bind_sm, hres]
            by_cases hok : ok = true
            · subst hok
              rw [if_pos rfl] at k2
              obtain ⟨fu2, r2, hE2⟩ := k2
              obtain ⟨z1, z2, z3⟩ := y3 rfl
              have z1' : t2.length ≤ a2 - (a + 1) := z1
              obtain ⟨g3, e3, r3, f3⟩ := c_write (S := S) (Q := Q) r2 (by rw [List.length_append]; omega) h60 (nI 33)
              refine ⟨g3, hgo g3 _ (by rw [e3, bind_sm]), (f1.tr f2).tr f3, ?_⟩
              rw [if_pos rfl]
              refine ⟨_, ?_, by rw [← List.append_assoc]; exact hE2.snoc (t := (2, 0))⟩
              rw [← List.append_assoc, len_snoc]
              exact r3
            · rw [if_neg hok] at k2
              obtain ⟨n2, fu2, hn2, r2⟩ := k2
              obtain ⟨g3, n3, fu3, e3, r3, hn3, f3⟩ := c_writeAny (S := S) (Q := Q) r2 h60 hn2 (nI 33)
              refine ⟨g3, hgo g3 _ (by rw [e3, bind_sm]), (f1.tr f2).tr f3, ?_⟩
              rw [if_neg hok]
              exact ⟨n3, fu3, hn3, r3⟩
          · obtain ⟨n', rfl, hf⟩ := fuel n hn
            intro S Q g cdt hR hle
            obtain ⟨S1, e1, r1, f1⟩ := m_opens (Q := Q) (g := g) hR hop5
            obtain ⟨S2, e2, f2, k2⟩ := yM n' (hf hop5).1 S1 Q g cdt r1 (by omega)
            have hgo : gX9_both (n' + 1) 2 (E b S Q g) (b + 116) = if (if ok = true then nI 1 else nI 0) = 0 then some (0, E b S2 Q g) else (getI (E b S2 Q g) 9 (b + 116) 7).bind fun v126 => (putV (E b S2 Q g) 9 (b + 116) 7 (.int (v126 - 1))).bind fun h131 => (fX9_lays h131 (b + 116) 2 0).bind fun q137 => some (1, q137) := by
              rw [mun]
              unfold bX9_one
              rw [m_look' hR h60 ha, bind_sm, m_isName hR hu hb, bind_sm, if_pos hnm, if_pos (show nI 0 = 0 from rfl), m_inDg hb, bind_sm, if_neg hd, if_pos (show nI 0 = 0 from rfl), if_pos (k33.mpr h33), e1, bind_sm]
              dsimp only
              rw [if_neg (show ¬ nI 1 = 0 by decide), gO_M, show gX9_both n' 2 (E b S1 Q g) (b + 116) = _ from e2, bind_sm]
            by_cases hok : ok = true
            · subst hok
              rw [if_pos rfl] at k2
              rw [if_pos rfl, if_neg (show ¬ nI 1 = 0 by decide)] at hgo
              obtain ⟨z1, z2, z3⟩ := y3 rfl
              have z1' : t2.length ≤ a2 - (a + 1) := z1
              obtain ⟨r3, f3⟩ := k2.op7 op
              obtain ⟨S4, e4, r4, f4⟩ := m_lays (Q := Q) (g := g) r3 (by rw [List.length_append]; omega) (2, 0)
              refine ⟨S4, ?_, ((f1.tr f2).tr f3).tr f4, ?_⟩
              · show gX9_both (n' + 1) 2 (E b S Q g) (b + 116) = _
                rw [hgo, getI_M7, k2.2.1, bind_sm, show nI (op + 1) - 1 = nI op from nI_subI (a := op + 1) (b := 1) (by omega), put7M, bind_sm, show fX9_lays (E b (up2 S2 116 7 (nI op)) Q g) (b + 116) 2 0 = some (E b S4 Q g) from e4, bind_sm]
                rfl
              · rw [if_pos rfl, ← List.append_assoc]; exact r4
            · rw [if_neg hok] at k2
              rw [if_neg hok, if_pos (show nI 0 = 0 from rfl)] at hgo
              refine ⟨S2, ?_, f1.tr f2, ?_⟩
              · show gX9_both (n' + 1) 2 (E b S Q g) (b + 116) = _
                rw [hgo, if_neg hok]
                rfl
              · rw [if_neg hok]; exact k2
        · have h40 : lookN tp a = 40 := by omega
          obtain ⟨⟨ok, a2, t2⟩, ⟨y1, y2, y3⟩, yC, yM⟩ := jL
          have y1' : a + 1 ≤ a2 := y1
          have y2' : a2 ≤ tp.length := y2
          have k41 : (lkI tp a2 = 41) ↔ lookN tp a2 = 41 := lk_eq (c := 41) hb (by decide)
          have cgo : ∀ n', NL 0 (op + 1) ≤ n' → ∀ (S : Nat → Nat → Int32) (Q : Nat → Nat → Nat) (g : Hp) (cdt : List Tk) (fu : Nat → Int32), Tape S tp → RdS b tp.length use rd cd g (nI cdt.length) (nI a) (nI 0) fu → EncR fu cdt → cdt.length ≤ a → ∃ g2, gX3_readJoined (n' + 1) 1 (E b S Q g) rd (nI op) 0 = (fX3_close (E b S Q g2) rd).bind (fun q144 => some q144) ∧ FrR rd cd g g2 ∧ (if ok = true then ∃ fu', RdS b tp.length use rd cd g2 (nI (cdt ++ t2).length) (nI a2) (nI 0) fu' ∧ EncR fu' (cdt ++ t2) else ∃ n fu', n ≤ 60 ∧ RdS b tp.length use rd cd g2 (nI n) (nI a2) (nI 1) fu') := by
            intro n' hn' S Q g cdt fu hT hR hE hle
            obtain ⟨g1, e1, r1, f1⟩ := hR.p5 (S := S) (Q := Q) (nI (a + 1))
            obtain ⟨g2, e2, f2, k2⟩ := yC n' hn' S Q g1 cdt fu hT r1 hE (by omega)
            refine ⟨g2, ?_, f1.tr f2, k2⟩
            rw [cun, c_one71 _ _ hu hR hT ha hd hnm]
            unfold fX3_readOne_71 fX3_readOne_111
            rw [show (33 : Int32) = nI 33 from rfl, c_sees hR hT ha (c := 33) (by decide), bind_sm, if_neg h33, if_pos (show nI 0 = 0 from rfl), show (40 : Int32) = nI 40 from rfl, c_sees hR hT ha (c := 40) (by decide), bind_sm, if_pos h40, if_neg (show ¬ nI 1 = 0 by decide), if_neg hop', hR.i5, bind_sm, show nI a + 1 = nI (a + 1) from nI_add a 1, e1, bind_sm, r1.gO, show nI op + 1 = nI (op + 1) from nI_add op 1]
            dsimp only
            rw [show gX3_readJoined n' 0 (E b S Q g1) rd 0 (nI (op + 1)) = _ from e2, bind_sm]
          have mgo : ∀ n', NL 0 (op + 1) ≤ n' → ∀ (S : Nat → Nat → Int32) (Q : Nat → Nat → Nat) (g : Hp) (cdt : List Tk), RfS b tp use S a op cdt → cdt.length ≤ a → ∃ S2, gX9_both (n' + 1) 2 (E b S Q g) (b + 116) = (if (if ok = true then nI 1 else nI 0) = 0 then some (0, E b S2 Q g) else (fX9_look (E b S2 Q g) (b + 116)).bind fun q163 => if q163 = 41 then (getI (E b S2 Q g) 9 (b + 116) 6).bind fun v175 => (putV (E b S2 Q g) 9 (b + 116) 6 (.int (v175 + 1))).bind fun h180 => (getI h180 9 (b + 116) 7).bind fun v185 => (putV h180 9 (b + 116) 7 (.int (v185 - 1))).bind fun h190 => some (1, h190) else some (0, E b S2 Q g)) ∧ FrM S S2 ∧ (if ok = true then RfS b tp use S2 a2 (op + 1) (cdt ++ t2) else S2 116 6 = nI a2) := by
            intro n' hn' S Q g cdt hR hle
            obtain ⟨S1, e1, r1, f1⟩ := m_opens (Q := Q) (g := g) hR hop5
            obtain ⟨S2, e2, f2, k2⟩ := yM n' hn' S1 Q g cdt r1 (by omega)
            refine ⟨S2, ?_, f1.tr f2, k2⟩
            rw [mun]
            unfold bX9_one
            rw [m_look' hR h60 ha, bind_sm, m_isName hR hu hb, bind_sm, if_pos hnm, if_pos (show nI 0 = 0 from rfl), m_inDg hb, bind_sm, if_neg hd, if_pos (show nI 0 = 0 from rfl), if_neg (fun q => h33 (k33.mp q)), if_pos (k40.mpr h40), e1, bind_sm]
            dsimp only
            rw [if_neg (show ¬ nI 1 = 0 by decide), gO_M, show gX9_both n' 5 (E b S1 Q g) (b + 116) = _ from e2, bind_sm]
          by_cases hok : ok = true ∧ lookN tp a2 = 41
          · obtain ⟨hok1, h41⟩ := hok
            subst hok1
            have hlt2 : a2 < tp.length := look_lt_of (by omega)
            obtain ⟨z1, z2, z3⟩ := y3 rfl
            have z1' : t2.length ≤ a2 - (a + 1) := z1
            refine ⟨(true, a2 + 1, t2), ⟨by show a ≤ a2 + 1; omega, by show a2 + 1 ≤ _; omega, fun _ => ⟨by show t2.length ≤ a2 + 1 - a; omega, z2, z3⟩⟩, fun n hn => ?_, fun n hn => ?_⟩
            · obtain ⟨n', rfl, hf⟩ := fuel n hn
              intro S Q g cdt fu hT hR hE hle
              obtain ⟨g2, e2, f2, k2⟩ := cgo n' (hf hop5).2 S Q g cdt fu hT hR hE hle
              rw [if_pos rfl] at k2
              obtain ⟨fu2, r2, hE2⟩ := k2
              obtain ⟨g3, e3, r3, f3⟩ := r2.p5 (S := S) (Q := Q) (nI (a2 + 1))
              refine ⟨g3, ?_, f2.tr f3, by rw [if_pos rfl]; exact ⟨fu2, r3, hE2⟩⟩
              show gX3_readJoined (n' + 1) 1 (E b S Q g) rd (nI op) 0 = _
              rw [e2]
              unfold fX3_close
              rw [r2.gO, show (41 : Int32) = nI 41 from rfl, c_sees r2 hT y2' (c := 41) (by decide), bind_sm, if_pos h41, if_neg (show ¬ nI 1 = 0 by decide), r2.i5, bind_sm, show nI a2 + 1 = nI (a2 + 1) from nI_add a2 1, e3, bind_sm, bind_sm]
            · obtain ⟨n', rfl, hf⟩ := fuel n hn
              intro S Q g cdt hR hle
              obtain ⟨S2, e2, f2, k2⟩ := mgo n' (hf hop5).2 S Q g cdt hR hle
              rw [if_pos rfl] at k2
              obtain ⟨r3, f3⟩ := k2.at6 (a2 + 1)
              obtain ⟨r4, f4⟩ := r3.op7 op
              refine ⟨_, ?_, (f2.tr f3).tr f4, by rw [if_pos rfl]; exact r4⟩
              show gX9_both (n' + 1) 2 (E b S Q g) (b + 116) = _
              rw [e2, if_pos rfl, if_neg (show ¬ nI 1 = 0 by decide), m_look' k2 h60 y2', bind_sm, if_pos (k41.mpr h41), getI_M6, k2.1, bind_sm, show nI a2 + 1 = nI (a2 + 1) from nI_add a2 1, put6M, bind_sm, getI_M7, r3.2.1, bind_sm, show nI (op + 1) - 1 = nI op from nI_subI (a := op + 1) (b := 1) (by omega), put7M, bind_sm]
              rfl
          · refine ⟨(false, a2, []), ⟨by show a ≤ a2; omega, y2, fun q => by cases q⟩, fun n hn => ?_, fun n hn => ?_⟩
            · obtain ⟨n', rfl, hf⟩ := fuel n hn
              intro S Q g cdt fu hT hR hE hle
              obtain ⟨g2, e2, f2, k2⟩ := cgo n' (hf hop5).2 S Q g cdt fu hT hR hE hle
              by_cases hok1 : ok = true
              · rw [if_pos hok1] at k2
                obtain ⟨fu2, r2, hE2⟩ := k2
                obtain ⟨z1, z2, z3⟩ := y3 hok1
                have z1' : t2.length ≤ a2 - (a + 1) := z1
                obtain ⟨g3, e3, r3, f3⟩ := r2.p6 (S := S) (Q := Q) (nI 1)
                refine ⟨g3, ?_, f2.tr f3, by rw [if_neg (show ¬ (false = true) by decide)]; exact ⟨_, fu2, by rw [List.length_append]; omega, r3⟩⟩
                show gX3_readJoined (n' + 1) 1 (E b S Q g) rd (nI op) 0 = _
                rw [e2]
                unfold fX3_close
                rw [r2.gO, show (41 : Int32) = nI 41 from rfl, c_sees r2 hT y2' (c := 41) (by decide), bind_sm, if_neg (fun q => hok ⟨hok1, q⟩), if_pos (show nI 0 = 0 from rfl), show putV (E b S Q g2) 3 rd 6 (.int 1) = _ from e3, bind_sm, bind_sm]
              · rw [if_neg hok1] at k2
                obtain ⟨n2, fu2, hn2, r2⟩ := k2
                obtain ⟨g3, e3, r3, f3⟩ := r2.p6 (S := S) (Q := Q) (nI 1)
                refine ⟨g3, ?_, f2.tr f3, by rw [if_neg (show ¬ (false = true) by decide)]; exact ⟨n2, fu2, hn2, r3⟩⟩
                show gX3_readJoined (n' + 1) 1 (E b S Q g) rd (nI op) 0 = _
                rw [e2]
                unfold fX3_close
                rw [r2.gO, c_seesL r2, bind_sm, if_pos (show nI 0 = 0 from rfl), show putV (E b S Q g2) 3 rd 6 (.int 1) = _ from e3, bind_sm, bind_sm]
            · obtain ⟨n', rfl, hf⟩ := fuel n hn
              intro S Q g cdt hR hle
              obtain ⟨S2, e2, f2, k2⟩ := mgo n' (hf hop5).2 S Q g cdt hR hle
              by_cases hok1 : ok = true
              · rw [if_pos hok1] at k2
                refine ⟨S2, ?_, f2, by rw [if_neg (show ¬ (false = true) by decide)]; exact k2.1⟩
                show gX9_both (n' + 1) 2 (E b S Q g) (b + 116) = _
                rw [e2, if_pos hok1, if_neg (show ¬ nI 1 = 0 by decide), m_look' k2 h60 y2', bind_sm, if_neg (fun q => hok ⟨hok1, k41.mp q⟩)]
                rfl
              · rw [if_neg hok1] at k2
                refine ⟨S2, ?_, f2, by rw [if_neg (show ¬ (false = true) by decide)]; exact k2⟩
                show gX9_both (n' + 1) 2 (E b S Q g) (b + 116) = _
                rw [e2, if_neg hok1, if_pos (show nI 0 = 0 from rfl)]
                rfl
      · -- nothing begins here
        have hx' : (lookN tp a = 33 ∨ lookN tp a = 40) → op = 5 := fun q => by
          have : ¬ op < 5 := fun q2 => hx ⟨q, q2⟩
          omega
        refine ⟨(false, a, []), ⟨Nat.le_refl _, ha, fun q => by cases q⟩, fun n hn => ?_, fun n hn => ?_⟩
        · obtain ⟨n', rfl, hf⟩ := fuel n hn
          intro S Q g cdt fu hT hR hE hle
          obtain ⟨g1, e1, r1, f1⟩ := c_one_lost (Q := Q) (fun h a0 x1 x2 => gX3_readJoined n' 0 h a0 x1 x2) (fun h a0 x1 => gX3_readJoined n' 1 h a0 x1 0) hR hT ha hop hx'
          refine ⟨g1, ?_, f1, by rw [if_neg (show ¬ (false = true) by decide)]; exact ⟨_, fu, by omega, r1⟩⟩
          show gX3_readJoined (n' + 1) 1 (E b S Q g) rd (nI op) 0 = _
          rw [cun, c_one71 _ _ hu hR hT ha hd hnm, e1]
        · obtain ⟨n', rfl, hf⟩ := fuel n hn
          intro S Q g cdt hR hle
          refine ⟨S, ?_, FrM.rf, by rw [if_neg (show ¬ (false = true) by decide)]; exact hR.1⟩
          show gX9_both (n' + 1) 2 (E b S Q g) (b + 116) = _
          rw [mun]
          unfold bX9_one
          rw [m_look' hR h60 ha, bind_sm, m_isName hR hu hb, bind_sm, if_pos hnm, if_pos (show nI 0 = 0 from rfl), m_inDg hb, bind_sm, if_neg hd, if_pos (show nI 0 = 0 from rfl)]
          by_cases h33 : lookN tp a = 33
          · have h5 := hx' (Or.inl h33)
            subst h5
            rw [if_pos (k33.mpr h33), m_opens5 hR, bind_sm]
            rfl
          · rw [if_neg (fun q => h33 (k33.mp q))]
            by_cases h40 : lookN tp a = 40
            · have h5 := hx' (Or.inr h40)
              subst h5
              rw [if_pos (k40.mpr h40), m_opens5 hR, bind_sm]
              rfl
            · rw [if_neg (fun q => h40 (k40.mp q))]
              rfl
  · -- a name
    obtain ⟨y1, y2, y3, y4⟩ := nm_dg hu hnm
    have hlt : a < tp.length := look_lt_of (by omega)
    refine ⟨(true, a + 1, [(1, nmN use (lookN tp a))]), ⟨by show a ≤ a + 1; omega, by show a + 1 ≤ _; omega, fun _ => ⟨by show 1 ≤ a + 1 - a; omega, fun t ht => by rw [List.mem_singleton.mp ht]; exact Or.inr (Or.inl ⟨rfl, y2⟩), fun d => rfl⟩⟩, fun n hn => ?_, fun n hn => ?_⟩
    · obtain ⟨n', rfl, -⟩ := fuel n hn
      intro S Q g cdt fu hT hR hE hle
      obtain ⟨g1, e1, r1, f1⟩ := c_write (S := S) (Q := Q) hR (by omega) h60 (nI (nmN use (lookN tp a)))
      obtain ⟨g2, e2, r2, f2⟩ := r1.p5 (S := S) (Q := Q) (nI (a + 1))
      refine ⟨g2, ?_, f1.tr f2, ?_⟩
      · show gX3_readJoined (n' + 1) 1 (E b S Q g) rd (nI op) 0 = _
        rw [cun]
        unfold bX3_readOne
        rw [c_seesDigit hR hT ha, bind_sm, if_neg y1, if_pos (show nI 0 = 0 from rfl), hR.i5, bind_sm, hR.i1, bind_sm, if_neg (fun q => absurd ((nI_leI (by omega) (by omega)).mp q) (by omega)), hR.r0, bind_sm, bind_sm, tape_rd hT hlt, bind_sm, c_nameOf hR hu (look_lt hT hlt), if_neg hnm, bind_sm, if_neg (show ¬ nI (nmN use (lookN tp a)) < 0 from fun q => absurd ((nI_ltI (by omega) (by decide) : nI (nmN use (lookN tp a)) < nI 0 ↔ _).mp q) (by omega)), bind_sm, bind_sm, tape_rd hT hlt, bind_sm, c_nameOf hR hu (look_lt hT hlt), if_neg hnm, bind_sm, e1, bind_sm, r1.i5, bind_sm, show nI a + 1 = nI (a + 1) from nI_add a 1, e2, bind_sm]
      · rw [if_pos rfl]
        exact ⟨_, by rw [len_snoc]; exact r2, hE.snoc (t := (1, nmN use (lookN tp a)))⟩
    · obtain ⟨n', rfl, -⟩ := fuel n hn
      intro S Q g cdt hR hle
      obtain ⟨r1, f1⟩ := hR.at6 (a + 1)
      obtain ⟨S2, e2, r2, f2⟩ := m_lays (Q := Q) (g := g) r1 (by omega) (1, nmN use (lookN tp a))
      refine ⟨S2, ?_, f1.tr f2, by rw [if_pos rfl]; exact r2⟩
      show gX9_both (n' + 1) 2 (E b S Q g) (b + 116) = _
      rw [mun]
      unfold bX9_one
      have hm : nI (encM use (1, nmN use (lookN tp a))) = lkI tp a := by
        rw [lk_in hlt]
        show nI (nmc use (nmN use (lookN tp a))) = nI (lookN tp a)
        rw [← y3]
      rw [hm] at e2
      rw [m_look' hR h60 ha, bind_sm, m_isName hR hu hb, bind_sm, if_neg hnm, if_neg (show ¬ nI 1 = 0 by decide), getI_M6, hR.1, bind_sm, show nI a + 1 = nI (a + 1) from nI_add a 1, put6M, bind_sm, show fX9_lays (E b (up2 S 116 6 (nI (a + 1))) Q g) (b + 116) 1 (lkI tp a) = some (E b S2 Q g) from e2, bind_sm]
      rfl
end OZo
