/-! ===== texts: both read alike, one byte on ===== -/
section OZn
variable {b v' : Nat} {S S' S1 S2 S3 S5 S6 : Nat → Nat → Int32} {Q Q' Q1 Q2 : Nat → Nat → Nat} {g g' g1 g2 h : Hp} {f k j p q n u c c0 c1 lo hi i e m d rd cd at_ use op lv : Nat} {x y z v r sz ax lx : Int32} {T : Tx} {tp : List Nat} {fu fu' : Nat → Int32} {cdt toks : List Tk}

abbrev Ou : Type := Bool × Nat × List Tk
def GoodO (tp : List Nat) (a : Nat) (o : Ou) : Prop := a ≤ o.2.1 ∧ o.2.1 ≤ tp.length ∧ (o.1 = true → o.2.2.length ≤ o.2.1 - a ∧ (∀ t ∈ o.2.2, tokOk t) ∧ ∀ d, depP d o.2.2 = some (d + 1))
def EncR (fu : Nat → Int32) (cdt : List Tk) : Prop := ∀ i t, cdt[i]? = some t → fu i = nI (encC t)
def ClP (b : Nat) (tp : List Nat) (use rd cd : Nat) (F : Hp → Option Hp) (a : Nat) (o : Ou) : Prop := ∀ (S : Nat → Nat → Int32) (Q : Nat → Nat → Nat) (g : Hp) (cdt : List Tk) (fu : Nat → Int32), Tape S tp → RdS b tp.length use rd cd g (nI cdt.length) (nI a) (nI 0) fu → EncR fu cdt → cdt.length ≤ a → ∃ g', F (E b S Q g) = some (E b S Q g') ∧ FrR rd cd g g' ∧ (if o.1 = true then ∃ fu', RdS b tp.length use rd cd g' (nI (cdt ++ o.2.2).length) (nI o.2.1) (nI 0) fu' ∧ EncR fu' (cdt ++ o.2.2) else ∃ n fu', n ≤ 60 ∧ RdS b tp.length use rd cd g' (nI n) (nI o.2.1) (nI 1) fu')
def RfP (b : Nat) (tp : List Nat) (use op : Nat) (G : Hp → Option (Int32 × Hp)) (a : Nat) (o : Ou) : Prop := ∀ (S : Nat → Nat → Int32) (Q : Nat → Nat → Nat) (g : Hp) (cdt : List Tk), RfS b tp use S a op cdt → cdt.length ≤ a → ∃ S', G (E b S Q g) = some (if o.1 = true then nI 1 else nI 0, E b S' Q g) ∧ FrM S S' ∧ (if o.1 = true then RfS b tp use S' o.2.1 op (cdt ++ o.2.2) else S' 116 6 = nI o.2.1)
def NO (op : Nat) : Nat := 1 + 8 * (5 - op)
def NL (lv op : Nat) : Nat := NO op + (6 - lv)
def mdR (lv : Nat) : Nat := if lv = 0 then 5 else if lv = 1 then 0 else if lv = 2 then 1 else if lv = 3 then 4 else if lv = 4 then 3 else 2
def JO (b : Nat) (tp : List Nat) (use rd cd op a : Nat) : Prop := ∃ o, GoodO tp a o ∧ (∀ n, NO op ≤ n → ClP b tp use rd cd (fun h => gX3_readJoined n 1 h rd (nI op) 0) a o) ∧ ∀ n, NO op ≤ n → RfP b tp use op (fun h => gX9_both n 2 h (b + 116)) a o
def JL (b : Nat) (tp : List Nat) (use rd cd lv op a : Nat) : Prop := ∃ o, GoodO tp a o ∧ (∀ n, NL lv op ≤ n → ClP b tp use rd cd (fun h => gX3_readJoined n 0 h rd (nI lv) (nI op)) a o) ∧ ∀ n, NL lv op ≤ n → RfP b tp use op (fun h => gX9_both n (mdR lv) h (b + 116)) a o
theorem depP_app : ∀ (l1 l2 : List Tk) (d : Nat), depP d (l1 ++ l2) = (depP d l1).bind (fun d' => depP d' l2)
  | [], l2, d => rfl
  | t :: l1, l2, d => by
    show depP d (t :: (l1 ++ l2)) = _
    rw [depP, depP]
    split
    · exact depP_app l1 l2 _
    · split
      · split
        · exact depP_app l1 l2 _
        · rfl
      · split
        · exact depP_app l1 l2 _
        · rfl
theorem EncR.snoc {t : Tk} (h : EncR fu cdt) : EncR (upd fu cdt.length (nI (encC t))) (cdt ++ [t]) := by
  intro i v hv
  unfold upd
  by_cases hi : i < cdt.length
  · rw [List.getElem?_append_left hi] at hv
    rw [if_neg (by omega)]
    exact h i v hv
  · rw [List.getElem?_append_right (by omega)] at hv
    have hi2 : i - cdt.length = 0 := by
      have := (List.getElem?_eq_some_iff.mp hv).1
      simp at this; omega
    rw [hi2] at hv
    simp at hv
    rw [if_pos (by omega), hv]
theorem len_snoc {t : Tk} : (cdt ++ [t]).length = cdt.length + 1 := by rw [List.length_append]; rfl
def lkI (tp : List Nat) (a : Nat) : Int32 := if lookN tp a = 1000 ∧ ¬ a < tp.length then -1 else nI (lookN tp a)
theorem lk_eq (hb : ∀ x ∈ tp, x < 256) (hc : c < 256) : (lkI tp at_ = nI c) ↔ lookN tp at_ = c := by
  unfold lkI
  by_cases h : at_ < tp.length
  · have hl : lookN tp at_ < 256 := by rw [look_in h]; exact hb _ (List.getElem_mem h)
    rw [if_neg (fun q => q.2 h), nI_eq (by omega) (by omega)]
  · rw [if_pos ⟨look_out h, h⟩, look_out h]
    exact ⟨fun q => absurd q.symm (nI_m1 (n := c) (by omega)), fun q => by omega⟩
theorem m_look' (h : RfS b tp use S at_ op cdt) (h60 : tp.length ≤ 60) (ha : at_ ≤ tp.length) : fX9_look (E b S Q g) (b + 116) = some (lkI tp at_) := m_look h h60 ha
theorem m_isName (h : RfS b tp use S at_ op cdt) (hu : use < 2) (hb : ∀ x ∈ tp, x < 256) : fX9_isName (E b S Q g) (b + 116) (lkI tp at_) = some (if nmN use (lookN tp at_) = 9 then nI 0 else nI 1) := by
  have k1 : (lkI tp at_ = 109) ↔ lookN tp at_ = 109 := lk_eq (c := 109) hb (by decide)
  have k2 : (lkI tp at_ = 116) ↔ lookN tp at_ = 116 := lk_eq (c := 116) hb (by decide)
  have k3 : (lkI tp at_ = 112) ↔ lookN tp at_ = 112 := lk_eq (c := 112) hb (by decide)
  have k4 : (lkI tp at_ = 107) ↔ lookN tp at_ = 107 := lk_eq (c := 107) hb (by decide)
  have k5 : (lkI tp at_ = 98) ↔ lookN tp at_ = 98 := lk_eq (c := 98) hb (by decide)
  unfold fX9_isName
  rw [gO_M, getI_M9, h.2.2.2.1, bind_sm]
  simp only [k1, k2, k3, k4, k5]
  generalize lookN tp at_ = v'
  have : use = 0 ∨ use = 1 := by omega
  rcases this with rfl | rfl
  · rw [if_pos (show nI 0 = 0 from rfl)]
    unfold nmN nmc
    by_cases h1 : v' = 109
    · simp [h1]; rfl
    · by_cases h2 : v' = 116
      · simp [h2]; rfl
      · by_cases h3 : v' = 112
        · simp [h3]; rfl
        · simp [h1, h2, h3]; rfl
  · rw [if_neg (show ¬ nI 1 = 0 by decide)]
    unfold nmN nmc
    by_cases h1 : v' = 109
    · simp [h1]; rfl
    · by_cases h2 : v' = 107
      · simp [h2]; rfl
      · by_cases h3 : v' = 98
        · simp [h3]; rfl
        · simp [h1, h2, h3]; rfl
theorem m_inDg (hb : ∀ x ∈ tp, x < 256) : fX9_in (lkI tp at_) 48 57 = some (if dgB (lookN tp at_) = true then nI 1 else nI 0) := by
  by_cases h : at_ < tp.length
  · have hl : lookN tp at_ < 256 := by rw [look_in h]; exact hb _ (List.getElem_mem h)
    have hlk : lkI tp at_ = nI (lookN tp at_) := if_neg (fun q => q.2 h)
    rw [hlk, m_in]
    have e1 : (nI (lookN tp at_) < 48) ↔ lookN tp at_ < 48 := (nI_ltI (by omega) (by decide) : nI (lookN tp at_) < nI 48 ↔ _)
    have e2 : ((57 : Int32) < nI (lookN tp at_)) ↔ 57 < lookN tp at_ := (nI_ltI (by decide) (by omega) : nI 57 < nI (lookN tp at_) ↔ _)
    by_cases hd : dgB (lookN tp at_) = true
    · rw [if_pos hd, if_neg]
      rw [dgB_iff] at hd
      rw [e1, e2]; omega
    · rw [if_neg hd, if_pos]
      rw [dgB_iff] at hd
      rw [e1, e2]; omega
  · have hlk : lkI tp at_ = -1 := if_pos ⟨look_out h, h⟩
    rw [hlk, m_in, look_out h, if_pos (Or.inl (by decide)), if_neg (show ¬ dgB 1000 = true by decide)]
theorem nm_dg (hu : use < 2) (h : ¬ nmN use n = 9) : ¬ dgB n = true ∧ nmN use n < 3 ∧ n = nmc use (nmN use n) ∧ n < 256 := by
  have h2 : use = 0 ∨ use = 1 := by omega
  by_cases h1 : n = nmc use 0
  · rcases h2 with rfl | rfl <;> subst h1 <;> decide
  · by_cases h3 : n = nmc use 1
    · rcases h2 with rfl | rfl <;> subst h3 <;> decide
    · by_cases h4 : n = nmc use 2
      · rcases h2 with rfl | rfl <;> subst h4 <;> decide
      · exact absurd (by unfold nmN; rw [if_neg h1, if_neg h3, if_neg h4]) h
/-- a number, both -/
theorem num_both (hb : ∀ x ∈ tp, x < 256) (h60 : tp.length ≤ 60) : ∀ (k cnt a val : Nat), cnt + k = 4 → a ≤ tp.length → val < 10 ^ cnt → ∃ a' val', a ≤ a' ∧ a' ≤ tp.length ∧ (dgB (lookN tp a) = true → k ≠ 0 → a < a') ∧ val' ≤ 9999 ∧ (∀ (S : Nat → Nat → Int32) (Q : Nat → Nat → Nat) (g : Hp) (sz : Int32) (fu : Nat → Int32) (m : Nat), k < m → Tape S tp → RdS b tp.length use rd cd g sz (nI a) (nI 0) fu → ∃ g1, fX3_readNumber_4 m (E b S Q g) rd (nI val) (nI cnt) = (fX3_write (E b S Q g1) rd (nI (256 + val'))).bind (fun q => some q) ∧ RdS b tp.length use rd cd g1 sz (nI a') (nI 0) fu ∧ FrR rd cd g g1) ∧ ∀ (o1 o2 o3 o4 o5 o6 : Hp → Nat → Option (Int32 × Hp)) (S : Nat → Nat → Int32) (Q : Nat → Nat → Nat) (g : Hp) (cdt : List Tk) (op m : Nat), k < m → RfS b tp use S a op cdt → ∃ S1, fX9_one_46 o1 o2 o3 o4 o5 o6 m (E b S Q g) (b + 116) (nI val) (nI cnt) = fX9_one_94 o1 o2 o3 o4 o5 o6 (E b S1 Q g) (b + 116) (nI val') ∧ RfS b tp use S1 a' op cdt ∧ FrM S S1 := by
  intro k
  induction k with
  | zero =>
    intro cnt a val hc ha hv
    have hc4 : cnt = 4 := by omega
    subst hc4
    refine ⟨a, val, Nat.le_refl _, ha, fun _ q => absurd rfl q, by omega, fun S Q g sz fu m hm hT hR => ?_, fun o1 o2 o3 o4 o5 o6 S Q g cdt op m hm hR => ?_⟩
    · obtain ⟨m, rfl⟩ : ∃ m', m = m' + 1 := ⟨m - 1, by omega⟩
      refine ⟨g, ?_, hR, FrR.rf⟩
      rw [fX3_readNumber_4, if_pos (show (4 : Int32) ≤ nI 4 by decide)]
      unfold fX3_readNumber_50
      rw [show (256 : Int32) + nI val = nI (256 + val) from nI_add 256 val]
    · obtain ⟨m, rfl⟩ : ∃ m', m = m' + 1 := ⟨m - 1, by omega⟩
      exact ⟨S, by rw [fX9_one_46, if_pos (show (4 : Int32) ≤ nI 4 by decide)], hR, FrM.rf⟩
  | succ k ih =>
    intro cnt a val hc ha hv
    have hn4 : ¬ (4 : Int32) ≤ nI cnt := fun q => absurd ((nI_leI (by decide) (by omega) : nI 4 ≤ nI cnt ↔ 4 ≤ cnt).mp q) (by omega)
    by_cases hd : dgB (lookN tp a) = true
    · have hlt : a < tp.length := by
        by_cases h : a < tp.length
        · exact h
        · rw [look_out h] at hd; exact absurd hd (by decide)
      have hd2 := dgB_iff.mp hd
      have hp : 10 ^ cnt * 10 = 10 ^ (cnt + 1) := (Nat.pow_succ 10 cnt).symm
      obtain ⟨a', val', b1, b2, b3, b4, iC, iM⟩ := ih (cnt + 1) (a + 1) (val * 10 + lookN tp a - 48) (by omega) (by omega) (by omega)
      have ev : nI val * 10 + nI (lookN tp a) - 48 = nI (val * 10 + lookN tp a - 48) := by
        rw [show (10 : Int32) = nI 10 from rfl, pk_mul, nI_add, show (48 : Int32) = nI 48 from rfl, nI_subI (by omega)]
      have ev2 : 10 * nI val + nI (lookN tp a) - 48 = nI (val * 10 + lookN tp a - 48) := by
        rw [show (10 : Int32) = nI 10 from rfl, pk_mul, nI_add, show (48 : Int32) = nI 48 from rfl, nI_subI (by omega), Nat.mul_comm]
      refine ⟨a', val', by omega, b2, fun _ _ => by omega, b4, fun S Q g sz fu m hm hT hR => ?_, fun o1 o2 o3 o4 o5 o6 S Q g cdt op m hm hR => ?_⟩
      · obtain ⟨m, rfl⟩ : ∃ m', m = m' + 1 := ⟨m - 1, by omega⟩
        obtain ⟨g1, e1, r1, f1⟩ := hR.p5 (S := S) (Q := Q) (nI (a + 1))
        obtain ⟨g2, e2, r2, f2⟩ := iC S Q g1 sz fu m (by omega) hT r1
        refine ⟨g2, ?_, r2, f1.tr f2⟩
        rw [fX3_readNumber_4, if_neg hn4, c_seesDigit hR hT ha, bind_sm, if_pos hd, if_neg (show ¬ nI 1 = 0 by decide), hR.r0, bind_sm, hR.i5, bind_sm, tape_rd hT hlt, bind_sm, bind_sm, show nI a + 1 = nI (a + 1) from nI_add a 1, e1, bind_sm, ev, show nI cnt + 1 = nI (cnt + 1) from nI_add cnt 1, e2]
      · obtain ⟨m, rfl⟩ : ∃ m', m = m' + 1 := ⟨m - 1, by omega⟩
        have h6 := hR.1
        obtain ⟨r1, f1⟩ := hR.at6 (a + 1)
        obtain ⟨S2, e2, r2, f2⟩ := iM o1 o2 o3 o4 o5 o6 _ Q g cdt op m (by omega) r1
        have hlk : lkI tp a = nI (lookN tp a) := if_neg (fun q => q.2 hlt)
        refine ⟨S2, ?_, r2, f1.tr f2⟩
        rw [fX9_one_46, if_neg hn4, m_look' hR h60 ha, bind_sm, m_inDg hb, bind_sm, if_pos hd, if_neg (show ¬ nI 1 = 0 by decide), bind_sm, getI_M6, h6, bind_sm, show nI a + 1 = nI (a + 1) from nI_add a 1, put6M, bind_sm, hlk, ev2, show nI cnt + 1 = nI (cnt + 1) from nI_add cnt 1, e2]
    · refine ⟨a, val, Nat.le_refl _, ha, fun q => absurd q hd, ?_, fun S Q g sz fu m hm hT hR => ?_, fun o1 o2 o3 o4 o5 o6 S Q g cdt op m hm hR => ?_⟩
      · have : 10 ^ cnt ≤ 10 ^ 4 := Nat.pow_le_pow_right (by decide) (by omega)
        omega
      · obtain ⟨m, rfl⟩ : ∃ m', m = m' + 1 := ⟨m - 1, by omega⟩
        refine ⟨g, ?_, hR, FrR.rf⟩
        rw [fX3_readNumber_4, if_neg hn4, c_seesDigit hR hT ha, bind_sm, if_neg hd, if_pos (show nI 0 = 0 from rfl)]
        unfold fX3_readNumber_50
        rw [show (256 : Int32) + nI val = nI (256 + val) from nI_add 256 val]
      · obtain ⟨m, rfl⟩ : ∃ m', m = m' + 1 := ⟨m - 1, by omega⟩
        refine ⟨S, ?_, hR, FrM.rf⟩
        rw [fX9_one_46, if_neg hn4, m_look' hR h60 ha, bind_sm, m_inDg hb, bind_sm, if_neg hd, if_pos (show nI 0 = 0 from rfl)]
end OZn
