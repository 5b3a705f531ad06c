/-! ===== texts: the levels ===== -/
section OZq
variable {b v' : Nat} {S S' S1 S2 S3 S5 S6 : Nat → Nat → Int32} {Q Q' Q1 Q2 : Nat → Nat → Nat} {g g' g1 g2 h : Hp} {f k j p q n u c c0 c1 lo hi i e m d rd cd a use op lv left : Nat} {x y z v r sz ax lx : Int32} {T : Tx} {tp : List Nat} {fu fu' : Nat → Int32} {cdt toks : List Tk} {o o1 o2 : Ou} {F1 F2 : Hp → Option Hp} {G1 G2 : Hp → Option (Int32 × Hp)}

theorem lv_0 (v : Nat) : lvN v = 0 ↔ v = 124 := by unfold lvN; (repeat' split) <;> omega
theorem lv_1 (v : Nat) : lvN v = 1 ↔ v = 38 := by unfold lvN; (repeat' split) <;> omega
theorem lv_2 (v : Nat) : lvN v = 2 ↔ (v = 60 ∨ v = 61 ∨ v = 62) := by unfold lvN; (repeat' split) <;> omega
theorem lv_3 (v : Nat) : lvN v = 3 ↔ (v = 43 ∨ v = 45) := by unfold lvN; (repeat' split) <;> omega
theorem lv_4 (v : Nat) : lvN v = 4 ↔ (v = 42 ∨ v = 47 ∨ v = 37) := by unfold lvN; (repeat' split) <;> omega
theorem lv_sg (h : lvN k ≤ 4) : isSg k := by unfold lvN at h; unfold isSg; revert h; (repeat' split) <;> omega
theorem cl_of (h : ∀ (S : Nat → Nat → Int32) (Q : Nat → Nat → Nat) (g : Hp) (sz : Int32) (fu : Nat → Int32), Tape S tp → RdS b tp.length use rd cd g sz (nI a) (nI 0) fu → F1 (E b S Q g) = F2 (E b S Q g)) (h2 : ClP b tp use rd cd F2 a o) : ClP b tp use rd cd F1 a o := by
  intro S Q g cdt fu hT hR hE hle
  obtain ⟨g', e1, r1⟩ := h2 S Q g cdt fu hT hR hE hle
  exact ⟨g', by rw [h S Q g _ fu hT hR]; exact e1, r1⟩
theorem rf_of (h : ∀ (S : Nat → Nat → Int32) (Q : Nat → Nat → Nat) (g : Hp) (cdt : List Tk), RfS b tp use S a op cdt → G1 (E b S Q g) = G2 (E b S Q g)) (h2 : RfP b tp use op G2 a o) : RfP b tp use op G1 a o := by
  intro S Q g cdt hR hle
  obtain ⟨S', e1, r1⟩ := h2 S Q g cdt hR hle
  exact ⟨S', by rw [h S Q g cdt hR]; exact e1, r1⟩
/-- what stands behind a first piece, in the reference -/
def lpR (lv n m : Nat) (h : Hp) (a0 : Nat) : Option (Int32 × Hp) :=
  if lv = 0 then fX9_whole_9 (fun h a0 => gX9_both n 0 h a0) (fun h a0 => gX9_both n 1 h a0) (fun h a0 => gX9_both n 2 h a0) (fun h a0 => gX9_both n 3 h a0) (fun h a0 => gX9_both n 4 h a0) (fun h a0 => gX9_both n 5 h a0) m h a0 else
  if lv = 1 then fX9_both_9 (fun h a0 => gX9_both n 0 h a0) (fun h a0 => gX9_both n 1 h a0) (fun h a0 => gX9_both n 2 h a0) (fun h a0 => gX9_both n 3 h a0) (fun h a0 => gX9_both n 4 h a0) (fun h a0 => gX9_both n 5 h a0) m h a0 else
  if lv = 2 then (fX9_look h a0).bind fun q10 => if q10 = 60 then fX9_compared_34 (fun h a0 => gX9_both n 0 h a0) (fun h a0 => gX9_both n 1 h a0) (fun h a0 => gX9_both n 2 h a0) (fun h a0 => gX9_both n 3 h a0) (fun h a0 => gX9_both n 4 h a0) (fun h a0 => gX9_both n 5 h a0) h a0 q10 else if q10 = 61 then fX9_compared_34 (fun h a0 => gX9_both n 0 h a0) (fun h a0 => gX9_both n 1 h a0) (fun h a0 => gX9_both n 2 h a0) (fun h a0 => gX9_both n 3 h a0) (fun h a0 => gX9_both n 4 h a0) (fun h a0 => gX9_both n 5 h a0) h a0 q10 else if q10 = 62 then fX9_compared_34 (fun h a0 => gX9_both n 0 h a0) (fun h a0 => gX9_both n 1 h a0) (fun h a0 => gX9_both n 2 h a0) (fun h a0 => gX9_both n 3 h a0) (fun h a0 => gX9_both n 4 h a0) (fun h a0 => gX9_both n 5 h a0) h a0 q10 else some (1, h) else
  if lv = 3 then fX9_sum_9 (fun h a0 => gX9_both n 0 h a0) (fun h a0 => gX9_both n 1 h a0) (fun h a0 => gX9_both n 2 h a0) (fun h a0 => gX9_both n 3 h a0) (fun h a0 => gX9_both n 4 h a0) (fun h a0 => gX9_both n 5 h a0) m h a0 else fX9_product_9 (fun h a0 => gX9_both n 0 h a0) (fun h a0 => gX9_both n 1 h a0) (fun h a0 => gX9_both n 2 h a0) (fun h a0 => gX9_both n 3 h a0) (fun h a0 => gX9_both n 4 h a0) (fun h a0 => gX9_both n 5 h a0) m h a0
theorem lp_no (hb : ∀ x ∈ tp, x < 256) (h60 : tp.length ≤ 60) (ha : a ≤ tp.length) (hlv : lv ≤ 4) (hR : RfS b tp use S a op cdt) (hl : ¬ lvN (lookN tp a) = lv) : lpR lv n (m + 1) (E b S Q g) (b + 116) = some (1, E b S Q g) := by
  have kk : ∀ c, c < 256 → ((lkI tp a = nI c) ↔ lookN tp a = c) := fun c hc => lk_eq hb hc
  unfold lpR
  have h5 : lv = 0 ∨ lv = 1 ∨ lv = 2 ∨ lv = 3 ∨ lv = 4 := by omega
  rcases h5 with rfl | rfl | rfl | rfl | rfl
  · rw [lv_0] at hl
    rw [if_pos rfl, fX9_whole_9, m_look' hR h60 ha, bind_sm, if_neg (show ¬ lkI tp a = 124 from fun q => hl ((kk 124 (by decide)).mp q))]
  · rw [lv_1] at hl
    rw [if_neg (by decide), if_pos rfl, fX9_both_9, m_look' hR h60 ha, bind_sm, if_neg (show ¬ lkI tp a = 38 from fun q => hl ((kk 38 (by decide)).mp q))]
  · rw [lv_2] at hl
    rw [if_neg (by decide), if_neg (by decide), if_pos rfl, m_look' hR h60 ha, bind_sm, if_neg (show ¬ lkI tp a = 60 from fun q => hl (Or.inl ((kk 60 (by decide)).mp q))), if_neg (show ¬ lkI tp a = 61 from fun q => hl (Or.inr (Or.inl ((kk 61 (by decide)).mp q)))), if_neg (show ¬ lkI tp a = 62 from fun q => hl (Or.inr (Or.inr ((kk 62 (by decide)).mp q))))]
  · rw [lv_3] at hl
    rw [if_neg (by decide), if_neg (by decide), if_neg (by decide), if_pos rfl, fX9_sum_9, m_look' hR h60 ha, bind_sm, if_neg (show ¬ lkI tp a = 43 from fun q => hl (Or.inl ((kk 43 (by decide)).mp q))), bind_sm, if_neg (show ¬ lkI tp a = 45 from fun q => hl (Or.inr ((kk 45 (by decide)).mp q)))]
  · rw [lv_4] at hl
    rw [if_neg (by decide), if_neg (by decide), if_neg (by decide), if_neg (by decide), fX9_product_9, m_look' hR h60 ha, bind_sm, if_neg (show ¬ lkI tp a = 42 from fun q => hl (Or.inl ((kk 42 (by decide)).mp q))), bind_sm, if_neg (show ¬ lkI tp a = 47 from fun q => hl (Or.inr (Or.inl ((kk 47 (by decide)).mp q)))), bind_sm, if_neg (show ¬ lkI tp a = 37 from fun q => hl (Or.inr (Or.inr ((kk 37 (by decide)).mp q))))]
theorem lp_yes (hb : ∀ x ∈ tp, x < 256) (h60 : tp.length ≤ 60) (ha : a ≤ tp.length) (hlv : lv ≤ 4) (hR : RfS b tp use S a op cdt) (hl : lvN (lookN tp a) = lv) : lpR lv n (m + 1) (E b S Q g) (b + 116) = chM (b + 116) (lkI tp a) (fun h => gX9_both n (mdR (lv + 1)) h (b + 116)) (fun h => if lv = 2 then some (1, h) else lpR lv n m h (b + 116)) (E b S Q g) := by
  have kk : ∀ c, c < 256 → ((lkI tp a = nI c) ↔ lookN tp a = c) := fun c hc => lk_eq hb hc
  have h5 : lv = 0 ∨ lv = 1 ∨ lv = 2 ∨ lv = 3 ∨ lv = 4 := by omega
  rcases h5 with rfl | rfl | rfl | rfl | rfl
  · rw [lv_0] at hl
    have e1 : lkI tp a = 124 := (kk 124 (by decide)).mpr hl
    show fX9_whole_9 (fun h a0 => gX9_both n 0 h a0) (fun h a0 => gX9_both n 1 h a0) (fun h a0 => gX9_both n 2 h a0) (fun h a0 => gX9_both n 3 h a0) (fun h a0 => gX9_both n 4 h a0) (fun h a0 => gX9_both n 5 h a0) (m + 1) (E b S Q g) (b + 116) = _
    rw [fX9_whole_9, m_look' hR h60 ha, bind_sm, if_pos e1, e1]
    rfl
  · rw [lv_1] at hl
    have e1 : lkI tp a = 38 := (kk 38 (by decide)).mpr hl
    show fX9_both_9 (fun h a0 => gX9_both n 0 h a0) (fun h a0 => gX9_both n 1 h a0) (fun h a0 => gX9_both n 2 h a0) (fun h a0 => gX9_both n 3 h a0) (fun h a0 => gX9_both n 4 h a0) (fun h a0 => gX9_both n 5 h a0) (m + 1) (E b S Q g) (b + 116) = _
    rw [fX9_both_9, m_look' hR h60 ha, bind_sm, if_pos e1, e1]
    rfl
  · rw [lv_2] at hl
    have e1 : lpR 2 n (m + 1) (E b S Q g) (b + 116) = fX9_compared_34 (fun h a0 => gX9_both n 0 h a0) (fun h a0 => gX9_both n 1 h a0) (fun h a0 => gX9_both n 2 h a0) (fun h a0 => gX9_both n 3 h a0) (fun h a0 => gX9_both n 4 h a0) (fun h a0 => gX9_both n 5 h a0) (E b S Q g) (b + 116) (lkI tp a) := by
      show ((fX9_look (E b S Q g) (b + 116)).bind fun q10 => if q10 = 60 then fX9_compared_34 (fun h a0 => gX9_both n 0 h a0) (fun h a0 => gX9_both n 1 h a0) (fun h a0 => gX9_both n 2 h a0) (fun h a0 => gX9_both n 3 h a0) (fun h a0 => gX9_both n 4 h a0) (fun h a0 => gX9_both n 5 h a0) (E b S Q g) (b + 116) q10 else if q10 = 61 then fX9_compared_34 (fun h a0 => gX9_both n 0 h a0) (fun h a0 => gX9_both n 1 h a0) (fun h a0 => gX9_both n 2 h a0) (fun h a0 => gX9_both n 3 h a0) (fun h a0 => gX9_both n 4 h a0) (fun h a0 => gX9_both n 5 h a0) (E b S Q g) (b + 116) q10 else if q10 = 62 then fX9_compared_34 (fun h a0 => gX9_both n 0 h a0) (fun h a0 => gX9_both n 1 h a0) (fun h a0 => gX9_both n 2 h a0) (fun h a0 => gX9_both n 3 h a0) (fun h a0 => gX9_both n 4 h a0) (fun h a0 => gX9_both n 5 h a0) (E b S Q g) (b + 116) q10 else some (1, E b S Q g)) = _
      rw [m_look' hR h60 ha, bind_sm]
      by_cases h1 : lkI tp a = 60
      · rw [if_pos h1]
      · rw [if_neg h1]
        by_cases h2 : lkI tp a = 61
        · rw [if_pos h2]
        · rw [if_neg h2, if_pos]
          rcases hl with hl | hl | hl
          · exact absurd ((kk 60 (by decide)).mpr hl) h1
          · exact absurd ((kk 61 (by decide)).mpr hl) h2
          · exact (kk 62 (by decide)).mpr hl
    rw [e1]
    rfl
  · rw [lv_3] at hl
    have e1 : lpR 3 n (m + 1) (E b S Q g) (b + 116) = fX9_sum_27 (fun h a0 => gX9_both n 0 h a0) (fun h a0 => gX9_both n 1 h a0) (fun h a0 => gX9_both n 2 h a0) (fun h a0 => gX9_both n 3 h a0) (fun h a0 => gX9_both n 4 h a0) (fun h a0 => gX9_both n 5 h a0) (fX9_sum_9 (fun h a0 => gX9_both n 0 h a0) (fun h a0 => gX9_both n 1 h a0) (fun h a0 => gX9_both n 2 h a0) (fun h a0 => gX9_both n 3 h a0) (fun h a0 => gX9_both n 4 h a0) (fun h a0 => gX9_both n 5 h a0) m) (E b S Q g) (b + 116) := by
      show fX9_sum_9 (fun h a0 => gX9_both n 0 h a0) (fun h a0 => gX9_both n 1 h a0) (fun h a0 => gX9_both n 2 h a0) (fun h a0 => gX9_both n 3 h a0) (fun h a0 => gX9_both n 4 h a0) (fun h a0 => gX9_both n 5 h a0) (m + 1) (E b S Q g) (b + 116) = _
      rw [fX9_sum_9, m_look' hR h60 ha, bind_sm]
      by_cases h1 : lkI tp a = 43
      · rw [if_pos h1]
      · rw [if_neg h1, bind_sm, if_pos]
        rcases hl with hl | hl
        · exact absurd ((kk 43 (by decide)).mpr hl) h1
        · exact (kk 45 (by decide)).mpr hl
    rw [e1]
    unfold fX9_sum_27
    rw [m_look' hR h60 ha, bind_sm]
    rfl
  · rw [lv_4] at hl
    have e1 : lpR 4 n (m + 1) (E b S Q g) (b + 116) = fX9_product_36 (fun h a0 => gX9_both n 0 h a0) (fun h a0 => gX9_both n 1 h a0) (fun h a0 => gX9_both n 2 h a0) (fun h a0 => gX9_both n 3 h a0) (fun h a0 => gX9_both n 4 h a0) (fun h a0 => gX9_both n 5 h a0) (fX9_product_9 (fun h a0 => gX9_both n 0 h a0) (fun h a0 => gX9_both n 1 h a0) (fun h a0 => gX9_both n 2 h a0) (fun h a0 => gX9_both n 3 h a0) (fun h a0 => gX9_both n 4 h a0) (fun h a0 => gX9_both n 5 h a0) m) (E b S Q g) (b + 116) := by
      show fX9_product_9 (fun h a0 => gX9_both n 0 h a0) (fun h a0 => gX9_both n 1 h a0) (fun h a0 => gX9_both n 2 h a0) (fun h a0 => gX9_both n 3 h a0) (fun h a0 => gX9_both n 4 h a0) (fun h a0 => gX9_both n 5 h a0) (m + 1) (E b S Q g) (b + 116) = _
      rw [fX9_product_9, m_look' hR h60 ha, bind_sm]
      by_cases h1 : lkI tp a = 42
      · rw [if_pos h1]
      · rw [if_neg h1, bind_sm]
        by_cases h2 : lkI tp a = 47
        · rw [if_pos h2]
        · rw [if_neg h2, bind_sm, if_pos]
          rcases hl with hl | hl | hl
          · exact absurd ((kk 42 (by decide)).mpr hl) h1
          · exact absurd ((kk 47 (by decide)).mpr hl) h2
          · exact (kk 37 (by decide)).mpr hl
    rw [e1]
    unfold fX9_product_36
    rw [m_look' hR h60 ha, bind_sm]
    rfl
theorem lc_no (hlv : lv ≤ 4) (ha : a ≤ tp.length) (h60 : left ≤ 60) (hl : ¬ lvN (lookN tp a) = lv) : ClP b tp use rd cd (fun h => fX3_readJoined_36 (fun h a0 x1 x2 => gX3_readJoined n 0 h a0 x1 x2) (fun h a0 x1 => gX3_readJoined n 1 h a0 x1 0) (m + 1) h rd (nI lv) (nI op) (nI left)) a (restO a) := by
  refine cl_rest (fun S Q g sz fu hT hR => ?_)
  show fX3_readJoined_36 (fun h a0 x1 x2 => gX3_readJoined n 0 h a0 x1 x2) (fun h a0 x1 => gX3_readJoined n 1 h a0 x1 0) (m + 1) (E b S Q g) rd (nI lv) (nI op) (nI left) = _
  rw [fX3_readJoined_36]
  by_cases h0 : nI left ≤ 0
  · rw [if_pos h0]
  · rw [if_neg h0, c_joins hR hT ha hlv, bind_sm, if_neg hl, if_pos (show nI 0 = 0 from rfl)]
theorem lc_lost : LostI b tp use rd cd (fun h => fX3_readJoined_36 (fun h a0 x1 x2 => gX3_readJoined n 0 h a0 x1 x2) (fun h a0 x1 => gX3_readJoined n 1 h a0 x1 0) (m + 1) h rd (nI lv) (nI op) (nI left)) := by
  intro S Q g n' a fu hR
  show fX3_readJoined_36 (fun h a0 x1 x2 => gX3_readJoined n 0 h a0 x1 x2) (fun h a0 x1 => gX3_readJoined n 1 h a0 x1 0) (m + 1) (E b S Q g) rd (nI lv) (nI op) (nI left) = _
  rw [fX3_readJoined_36]
  by_cases h0 : nI left ≤ 0
  · rw [if_pos h0]
  · rw [if_neg h0, c_joinsL hR, bind_sm, if_pos (show nI 0 = 0 from rfl)]
theorem lc_yes (hlv : lv ≤ 4) (ha : a ≤ tp.length) (h60 : left ≤ 60) (h1 : 1 ≤ left) (hl : lvN (lookN tp a) = lv) (hT : Tape S tp) (hR : RdS b tp.length use rd cd g sz (nI a) (nI 0) fu) : fX3_readJoined_36 (fun h a0 x1 x2 => gX3_readJoined n 0 h a0 x1 x2) (fun h a0 x1 => gX3_readJoined n 1 h a0 x1 0) (m + 1) (E b S Q g) rd (nI lv) (nI op) (nI left) = chC rd (fun h => gX3_readJoined n 0 h rd (nI (lv + 1)) (nI op)) (fun h => fX3_readJoined_36 (fun h a0 x1 x2 => gX3_readJoined n 0 h a0 x1 x2) (fun h a0 x1 => gX3_readJoined n 1 h a0 x1 0) m h rd (nI lv) (nI op) (nI (left - 1))) (E b S Q g) := by
  rw [fX3_readJoined_36, if_neg (show ¬ nI left ≤ 0 from fun q => absurd ((nI_leI (by omega) (by decide) : nI left ≤ nI 0 ↔ left ≤ 0).mp q) (by omega)), c_joins hR hT ha hlv, bind_sm, if_pos hl, if_neg (show ¬ nI 1 = 0 by decide), show (-1 : Int32) = -nI 1 from rfl, nI_addm1 h1, show nI lv + 1 = nI (lv + 1) from nI_add lv 1]
  rfl
theorem loop_both (hb : ∀ x ∈ tp, x < 256) (h60 : tp.length ≤ 60) (hlv : lv ≤ 4) (h2 : lv ≠ 2) (hJ : ∀ a, a ≤ tp.length → JL b tp use rd cd (lv + 1) op a) : ∀ w a, tp.length - a ≤ w → a ≤ tp.length → ∃ o, GoodL tp a o ∧ (∀ n, NL (lv + 1) op ≤ n → ∀ m left, tp.length - a ≤ left → left ≤ 60 → left < m → ClP b tp use rd cd (fun h => fX3_readJoined_36 (fun h a0 x1 x2 => gX3_readJoined n 0 h a0 x1 x2) (fun h a0 x1 => gX3_readJoined n 1 h a0 x1 0) m h rd (nI lv) (nI op) (nI left)) a o) ∧ ∀ n, NL (lv + 1) op ≤ n → ∀ m, tp.length - a < m → RfP b tp use op (fun h => lpR lv n m h (b + 116)) a o := by
  intro w
  induction w with
  | zero =>
    intro a hw ha
    have hl : ¬ lvN (lookN tp a) = lv := by
      rw [look_out (by omega), show lvN 1000 = 9 from rfl]; omega
    refine ⟨restO a, good_rest ha, fun n hn m left h1 h3 h4 => ?_, fun n hn m h1 => ?_⟩
    · obtain ⟨m, rfl⟩ : ∃ m', m = m' + 1 := ⟨m - 1, by omega⟩
      exact lc_no hlv ha h3 hl
    · obtain ⟨m, rfl⟩ : ∃ m', m = m' + 1 := ⟨m - 1, by omega⟩
      exact rf_rest (fun S Q g cdt hR => lp_no hb h60 ha hlv hR hl)
  | succ w ih =>
    intro a hw ha
    by_cases hl : lvN (lookN tp a) = lv
    · have hlt : a < tp.length := by
        by_cases h : a < tp.length
        · exact h
        · rw [look_out h, show lvN 1000 = 9 from rfl] at hl; omega
      obtain ⟨o1, g1, c1, r1⟩ := hJ (a + 1) (by omega)
      have y1 := g1.1
      have y2 := g1.2.1
      obtain ⟨o2, g2, c2, r2⟩ := ih o1.2.1 (by omega) y2
      refine ⟨joinO (lookN tp a) o1 o2, good_join (lv_sg (by omega)) g1 (fun _ => g2), fun n hn m left h1 h3 h4 => ?_, fun n hn m h1 => ?_⟩
      · obtain ⟨m, rfl⟩ : ∃ m', m = m' + 2 := ⟨m - 2, by omega⟩
        refine cl_of (fun S Q g sz fu hT hR => lc_yes (m := m + 1) hlv ha h3 (by omega) hl hT hR) ?_
        exact cl_join h60 hlt (c1 n hn) g1 (fun _ => c2 n hn (m + 1) (left - 1) (by omega) (by omega) (by omega)) lc_lost
      · obtain ⟨m, rfl⟩ : ∃ m', m = m' + 1 := ⟨m - 1, by omega⟩
        refine rf_of (fun S Q g cdt hR => lp_yes hb h60 ha hlv hR hl) ?_
        refine rf_join h60 hlt (lk_in hlt) (r1 n hn) g1 (fun _ => ?_)
        exact rf_of (fun S Q g cdt hR => if_neg h2) (r2 n hn m (by omega))
    · refine ⟨restO a, good_rest ha, fun n hn m left h1 h3 h4 => ?_, fun n hn m h1 => ?_⟩
      · obtain ⟨m, rfl⟩ : ∃ m', m = m' + 1 := ⟨m - 1, by omega⟩
        exact lc_no hlv ha h3 hl
      · obtain ⟨m, rfl⟩ : ∃ m', m = m' + 1 := ⟨m - 1, by omega⟩
        exact rf_rest (fun S Q g cdt hR => lp_no hb h60 ha hlv hR hl)
def tlC (rd lv op n : Nat) (h : Hp) : Option Hp := if nI lv = 2 then fX3_readJoined_36 (fun h a0 x1 x2 => gX3_readJoined n 0 h a0 x1 x2) (fun h a0 x1 => gX3_readJoined n 1 h a0 x1 0) 1000 h rd (nI lv) (nI op) 1 else (getI h 3 rd 1).bind fun v29 => fX3_readJoined_36 (fun h a0 x1 x2 => gX3_readJoined n 0 h a0 x1 x2) (fun h a0 x1 => gX3_readJoined n 1 h a0 x1 0) 1000 h rd (nI lv) (nI op) v29
theorem tail_both (hb : ∀ x ∈ tp, x < 256) (h60 : tp.length ≤ 60) (hlv : lv ≤ 4) (hJ : ∀ a, a ≤ tp.length → JL b tp use rd cd (lv + 1) op a) (ha : a ≤ tp.length) : ∃ o, GoodL tp a o ∧ (∀ n, NL (lv + 1) op ≤ n → ClP b tp use rd cd (tlC rd lv op n) a o) ∧ ∀ n, NL (lv + 1) op ≤ n → RfP b tp use op (fun h => lpR lv n 1000 h (b + 116)) a o := by
  by_cases h2 : lv = 2
  · subst h2
    by_cases hl : lvN (lookN tp a) = 2
    · have hlt : a < tp.length := by
        by_cases h : a < tp.length
        · exact h
        · rw [look_out h, show lvN 1000 = 9 from rfl] at hl; omega
      obtain ⟨o1, g1, c1, r1⟩ := hJ (a + 1) (by omega)
      refine ⟨joinO (lookN tp a) o1 (restO o1.2.1), good_join (lv_sg (by omega)) g1 (fun _ => good_rest g1.2.1), fun n hn => ?_, fun n hn => ?_⟩
      · refine cl_of (F2 := chC rd (fun h => gX3_readJoined n 0 h rd (nI (2 + 1)) (nI op)) (fun h => fX3_readJoined_36 (fun h a0 x1 x2 => gX3_readJoined n 0 h a0 x1 x2) (fun h a0 x1 => gX3_readJoined n 1 h a0 x1 0) 999 h rd (nI 2) (nI op) (nI 0))) (fun S Q g sz fu hT hR => ?_) ?_
        · show (if nI 2 = 2 then _ else _) = _
          rw [if_pos (show nI 2 = 2 from rfl)]
          exact lc_yes (m := 999) (left := 1) (by decide) ha (by decide) (by decide) hl hT hR
        · refine cl_join h60 hlt (c1 n hn) g1 (fun _ => cl_rest (fun S Q g sz fu hT hR => ?_)) (lc_lost (m := 998))
          show fX3_readJoined_36 (fun h a0 x1 x2 => gX3_readJoined n 0 h a0 x1 x2) (fun h a0 x1 => gX3_readJoined n 1 h a0 x1 0) (998 + 1) (E b S Q g) rd (nI 2) (nI op) (nI 0) = _
          rw [fX3_readJoined_36, if_pos (by decide)]
      · refine rf_of (fun S Q g cdt hR => lp_yes (m := 999) hb h60 ha hlv hR hl) ?_
        refine rf_join h60 hlt (lk_in hlt) (r1 n hn) g1 (fun _ => ?_)
        exact rf_rest (fun S Q g cdt hR => if_pos rfl)
    · refine ⟨restO a, good_rest ha, fun n hn => ?_, fun n hn => ?_⟩
      · refine cl_of (F2 := fun h => fX3_readJoined_36 (fun h a0 x1 x2 => gX3_readJoined n 0 h a0 x1 x2) (fun h a0 x1 => gX3_readJoined n 1 h a0 x1 0) (999 + 1) h rd (nI 2) (nI op) (nI 1)) (fun S Q g sz fu hT hR => ?_) (lc_no (by decide) ha (by decide) hl)
        show (if nI 2 = 2 then _ else _) = _
        rw [if_pos (show nI 2 = 2 from rfl)]
        rfl
      · exact rf_rest (fun S Q g cdt hR => lp_no (m := 999) hb h60 ha hlv hR hl)
  · obtain ⟨o, g1, c1, r1⟩ := loop_both hb h60 hlv h2 hJ tp.length a (by omega) ha
    refine ⟨o, g1, fun n hn => ?_, fun n hn => r1 n hn 1000 (by omega)⟩
    refine cl_of (fun S Q g sz fu hT hR => ?_) (c1 n hn 1000 tp.length (by omega) h60 (by omega))
    unfold tlC
    rw [if_neg (show ¬ nI lv = 2 from fun q => h2 ((nI_eq (by omega) (by decide) : nI lv = nI 2 ↔ _).mp q)), hR.i1, bind_sm]
theorem tail_lost : LostI b tp use rd cd (tlC rd lv op n) := by
  intro S Q g n' a fu hR
  unfold tlC
  by_cases h2 : nI lv = 2
  · rw [if_pos h2]
    exact lc_lost (m := 999) (left := 1) S Q g n' a fu hR
  · rw [if_neg h2, hR.i1, bind_sm]
    exact lc_lost (m := 999) (left := tp.length) S Q g n' a fu hR
theorem JL_five (h : JO b tp use rd cd op a) : JL b tp use rd cd 5 op a := by
  obtain ⟨o, g1, c1, r1⟩ := h
  refine ⟨o, g1, fun n hn => ?_, fun n hn => r1 n (by unfold NL at hn; omega)⟩
  obtain ⟨n', rfl⟩ : ∃ n', n = n' + 1 := ⟨n - 1, by unfold NL at hn; omega⟩
  refine cl_of (fun S Q g sz fu hT hR => ?_) (c1 n' (by unfold NL at hn; omega))
  show gX3_readJoined (n' + 1) 0 (E b S Q g) rd (nI 5) (nI op) = gX3_readJoined n' 1 (E b S Q g) rd (nI op) 0
  rw [gX3_readJoined, if_pos rfl]
  unfold bX3_readJoined
  rw [if_neg (show ¬ nI 5 < 5 by decide), hR.gO]
  dsimp only
  cases gX3_readJoined n' 1 (E b S Q g) rd (nI op) 0 <;> rfl
theorem JL_step (hb : ∀ x ∈ tp, x < 256) (h60 : tp.length ≤ 60) (hlv : lv ≤ 4) (hJ : ∀ a, a ≤ tp.length → JL b tp use rd cd (lv + 1) op a) (ha : a ≤ tp.length) : JL b tp use rd cd lv op a := by
  obtain ⟨o1, g1, c1, r1⟩ := hJ a ha
  obtain ⟨o2, g2, c2, r2⟩ := tail_both hb h60 hlv hJ g1.2.1
  have fuel : ∀ n, NL lv op ≤ n → ∃ n', n = n' + 1 ∧ NL (lv + 1) op ≤ n' := by
    intro n hn
    unfold NL at hn
    exact ⟨n - 1, by omega, by unfold NL; omega⟩
  refine ⟨seqO o1 o2, good_seq g1 (fun _ => g2), fun n hn => ?_, fun n hn => ?_⟩
  · obtain ⟨n', rfl, hn'⟩ := fuel n hn
    refine cl_of (fun S Q g sz fu hT hR => ?_) (cl_seq (c1 n' hn') g1 (fun _ => c2 n' hn') tail_lost)
    show gX3_readJoined (n' + 1) 0 (E b S Q g) rd (nI lv) (nI op) = _
    rw [gX3_readJoined, if_pos rfl]
    unfold bX3_readJoined
    rw [if_pos (show nI lv < 5 from (nI_ltI (by omega) (by decide) : nI lv < nI 5 ↔ _).mpr (by omega)), show nI lv + 1 = nI (lv + 1) from nI_add lv 1]
    rfl
  · obtain ⟨n', rfl, hn'⟩ := fuel n hn
    refine rf_of (fun S Q g cdt hR => ?_) (rf_seq (r1 n' hn') g1 (fun _ => r2 n' hn'))
    show gX9_both (n' + 1) (mdR lv) (E b S Q g) (b + 116) = _
    rw [gX9_both]
    have h5 : lv = 0 ∨ lv = 1 ∨ lv = 2 ∨ lv = 3 ∨ lv = 4 := by omega
    rcases h5 with rfl | rfl | rfl | rfl | rfl <;> rfl
/-- both read alike -/
theorem J_all (hu : use < 2) (hb : ∀ x ∈ tp, x < 256) (h60 : tp.length ≤ 60) : ∀ k op, op + k = 5 → ∀ a, a ≤ tp.length → JO b tp use rd cd op a ∧ ∀ lv, lv ≤ 5 → JL b tp use rd cd lv op a := by
  have levels : ∀ op, (∀ a, a ≤ tp.length → JO b tp use rd cd op a) → ∀ j lv, lv + j = 5 → ∀ a, a ≤ tp.length → JL b tp use rd cd lv op a := by
    intro op hO j
    induction j with
    | zero => intro lv hlv a ha; rw [show lv = 5 from by omega]; exact JL_five (hO a ha)
    | succ j ih => intro lv hlv a ha; exact JL_step hb h60 (by omega) (ih (lv + 1) (by omega)) ha
  intro k
  induction k with
  | zero =>
    intro op hop a ha
    have hO : ∀ a, a ≤ tp.length → JO b tp use rd cd op a := fun a ha => JO_step hu hb h60 (by omega) (fun q => by omega) ha
    exact ⟨hO a ha, fun lv hlv => levels op hO (5 - lv) lv (by omega) a ha⟩
  | succ k ih =>
    intro op hop a ha
    have hO : ∀ a, a ≤ tp.length → JO b tp use rd cd op a := fun a ha => JO_step hu hb h60 (by omega) (fun _ a ha => ⟨(ih (op + 1) (by omega) a ha).1, (ih (op + 1) (by omega) a ha).2 0 (by decide)⟩) ha
    exact ⟨hO a ha, fun lv hlv => levels op hO (5 - lv) lv (by omega) a ha⟩
end OZq
