/-! ===== texts: the reader's cells, the reference's fields ===== -/
section OZm
variable {b v' : Nat} {S S' S1 S2 S3 S5 S6 : Nat → Nat → Int32} {Q Q' Q1 Q2 : Nat → Nat → Nat} {g g' g1 g2 h : Hp} {f k j p q n u c c0 c1 lo hi i e m d rd cd at_ use op lv : Nat} {x y z v r sz ax lx : Int32} {T : Tx} {tp : List Nat} {fu fu' : Nat → Int32} {cdt toks : List Tk}

def rdF (b len use cd : Nat) (sz ax lx : Int32) : List Value := [.ref (b + 9), .int (nI len), .int (nI use), .ref cd, .int sz, .int ax, .int lx]
/-- the reader and its row -/
def RdS (b len use rd cd : Nat) (g : Hp) (sz ax lx : Int32) (fu : Nat → Int32) : Prop := g.1 rd = some (.inl (3, rdF b len use cd sz ax lx)) ∧ g.1 cd = some (arC len fu) ∧ b + 133 ≤ rd ∧ b + 133 ≤ cd ∧ rd ≠ cd
def FrR (rd cd : Nat) (g g' : Hp) : Prop := g'.2 = g.2 ∧ ∀ a, a ≠ rd → a ≠ cd → g'.1 a = g.1 a
theorem FrR.rf : FrR rd cd g g := ⟨rfl, fun _ _ _ => rfl⟩
theorem FrR.tr (h : FrR rd cd g g1) (h' : FrR rd cd g1 g2) : FrR rd cd g g2 := ⟨h'.1.trans h.1, fun a h1 h2 => (h'.2 a h1 h2).trans (h.2 a h1 h2)⟩
theorem h_putV {h : Hp} {a ci j : Nat} {fs : List Value} {v : Value} (he : h.1 a = some (.inl (ci, fs))) (hj : j < fs.length) : putV h ci a j v = some (setC h a (.inl (ci, fs.set j v))) := by
  unfold putV
  rw [he]
  simp [hj]
section RS
variable {len : Nat} (hR : RdS b len use rd cd g sz ax lx fu)
theorem RdS.ee (hR : RdS b len use rd cd g sz ax lx fu) : (E b S Q g).1 rd = some (.inl (3, rdF b len use cd sz ax lx)) := by rw [E_off (Or.inr hR.2.2.1)]; exact hR.1
theorem RdS.ec (hR : RdS b len use rd cd g sz ax lx fu) : (E b S Q g).1 cd = some (arC len fu) := by rw [E_off (Or.inr hR.2.2.2.1)]; exact hR.2.1
theorem RdS.gO (hR : RdS b len use rd cd g sz ax lx fu) {α : Type} {B : Option α} : gO (E b S Q g) 3 rd B = B := h_gO hR.ee
theorem RdS.r0 (hR : RdS b len use rd cd g sz ax lx fu) : getR (E b S Q g) 3 rd 0 = some (b + 9) := h_getR hR.ee rfl
theorem RdS.r3 (hR : RdS b len use rd cd g sz ax lx fu) : getR (E b S Q g) 3 rd 3 = some cd := h_getR hR.ee rfl
theorem RdS.i1 (hR : RdS b len use rd cd g sz ax lx fu) : getI (E b S Q g) 3 rd 1 = some (nI len) := h_getI hR.ee rfl
theorem RdS.i2 (hR : RdS b len use rd cd g sz ax lx fu) : getI (E b S Q g) 3 rd 2 = some (nI use) := h_getI hR.ee rfl
theorem RdS.i4 (hR : RdS b len use rd cd g sz ax lx fu) : getI (E b S Q g) 3 rd 4 = some sz := h_getI hR.ee rfl
theorem RdS.i5 (hR : RdS b len use rd cd g sz ax lx fu) : getI (E b S Q g) 3 rd 5 = some ax := h_getI hR.ee rfl
theorem RdS.i6 (hR : RdS b len use rd cd g sz ax lx fu) : getI (E b S Q g) 3 rd 6 = some lx := h_getI hR.ee rfl
theorem RdS.put (hR : RdS b len use rd cd g sz ax lx fu) {sz' ax' lx' : Int32} (j : Nat) (x : Int32) (hj : j < 7) (hs : (rdF b len use cd sz ax lx).set j (.int x) = rdF b len use cd sz' ax' lx') : ∃ g', putV (E b S Q g) 3 rd j (.int x) = some (E b S Q g') ∧ RdS b len use rd cd g' sz' ax' lx' fu ∧ FrR rd cd g g' := by
  refine ⟨setC g rd (.inl (3, rdF b len use cd sz' ax' lx')), ?_, ⟨setC_at, ?_, hR.2.2⟩, ⟨rfl, fun a h1 h2 => setC_ne h1⟩⟩
  · rw [h_putV hR.ee hj, hs, E_setC (Or.inr hR.2.2.1)]
  · rw [setC_ne (fun q => hR.2.2.2.2 q.symm)]; exact hR.2.1
theorem RdS.p5 (hR : RdS b len use rd cd g sz ax lx fu) (x : Int32) : ∃ g', putV (E b S Q g) 3 rd 5 (.int x) = some (E b S Q g') ∧ RdS b len use rd cd g' sz x lx fu ∧ FrR rd cd g g' := hR.put 5 x (by decide) rfl
theorem RdS.p6 (hR : RdS b len use rd cd g sz ax lx fu) (x : Int32) : ∃ g', putV (E b S Q g) 3 rd 6 (.int x) = some (E b S Q g') ∧ RdS b len use rd cd g' sz ax x fu ∧ FrR rd cd g g' := hR.put 6 x (by decide) rfl
theorem c_write (hR : RdS b len use rd cd g (nI n) ax lx fu) (hn : n < len) (hl : len ≤ 60) (x : Int32) : ∃ g', fX3_write (E b S Q g) rd x = some (E b S Q g') ∧ RdS b len use rd cd g' (nI (n + 1)) ax lx (upd fu n x) ∧ FrR rd cd g g' := by
  have hne := hR.2.2.2.2
  have hw : wrI (E b S Q g) cd (nI n) x = some (E b S Q (setC g cd (arC len (upd fu n x)))) := by
    rw [h_wrI hR.ec hn (by omega), E_setC (Or.inr hR.2.2.2.1)]
  have hR2 : RdS b len use rd cd (setC g cd (arC len (upd fu n x))) (nI n) ax lx (upd fu n x) := ⟨by rw [setC_ne hne]; exact hR.1, setC_at, hR.2.2⟩
  obtain ⟨g2, e2, r2, f2⟩ := hR2.put (S := S) (Q := Q) (sz' := nI (n + 1)) (ax' := ax) (lx' := lx) 4 (nI (n + 1)) (by decide) rfl
  refine ⟨g2, ?_, r2, FrR.tr (g1 := setC g cd (arC len (upd fu n x))) ⟨rfl, fun a h1 h2 => setC_ne h2⟩ f2⟩
  unfold fX3_write
  rw [hR.gO, hR.i4, bind_sm, hR.r3, bind_sm, h_lenA hR.ec, bind_sm, if_neg (fun q => absurd ((nI_leI (by omega) (by omega)).mp q) (by omega)), bind_sm, bind_sm, hw, bind_sm, hR2.i4, bind_sm, show nI n + 1 = nI (n + 1) from nI_add n 1, e2, bind_sm]
theorem c_writeAny (hR : RdS b len use rd cd g (nI n) ax lx fu) (hl : len ≤ 60) (hn : n ≤ 60) (x : Int32) : ∃ g' n' fu', fX3_write (E b S Q g) rd x = some (E b S Q g') ∧ RdS b len use rd cd g' (nI n') ax lx fu' ∧ n' ≤ 60 ∧ FrR rd cd g g' := by
  by_cases h : n < len
  · obtain ⟨g', e1, r1, f1⟩ := c_write (S := S) (Q := Q) hR h hl x
    exact ⟨g', n + 1, _, e1, r1, by omega, f1⟩
  · refine ⟨g, n, fu, ?_, hR, hn, FrR.rf⟩
    unfold fX3_write
    rw [hR.gO, hR.i4, bind_sm, hR.r3, bind_sm, h_lenA hR.ec, bind_sm, if_pos ((nI_leI (by omega) (by omega)).mpr (by omega))]
end RS
/-- the byte at hand; behind the end none -/
def lookN (tp : List Nat) (a : Nat) : Nat := match tp[a]? with
  | some v => v
  | none => 1000
def Tape (S : Nat → Nat → Int32) (tp : List Nat) : Prop := rowIs (S 9) 0 tp ∧ tp.length ≤ 60 ∧ ∀ x ∈ tp, x < 256
theorem look_in (h : at_ < tp.length) : lookN tp at_ = tp[at_] := by unfold lookN; rw [List.getElem?_eq_getElem h]
theorem look_out (h : ¬ at_ < tp.length) : lookN tp at_ = 1000 := by unfold lookN; rw [List.getElem?_eq_none (by omega)]
theorem tape_rd (hT : Tape S tp) (h : at_ < tp.length) : rdI (E b S Q g) (b + 9) (nI at_) = some (nI (lookN tp at_)) := by
  have h60 := hT.2.1
  rw [E_rdI (c := 9) (n := 60) rfl (by omega) (by decide), hT.1.at0 h, look_in h]
theorem look_lt (hT : Tape S tp) (h : at_ < tp.length) : lookN tp at_ < 256 := by rw [look_in h]; exact hT.2.2 _ (List.getElem_mem h)
def lvN (v : Nat) : Nat := if v = 124 then 0 else if v = 38 then 1 else if v = 60 ∨ v = 61 ∨ v = 62 then 2 else if v = 43 ∨ v = 45 then 3 else if v = 42 ∨ v = 47 ∨ v = 37 then 4 else 9
theorem lv_tab : ∀ v < 256, fX3_levelOf (nI v) = some (if lvN v = 9 then -1 else nI (lvN v)) := by decide +kernel
theorem lvN_le (v : Nat) : lvN v ≤ 9 := by unfold lvN; (repeat' split) <;> omega
section RP
variable {len : Nat}
theorem c_sees (hR : RdS b tp.length use rd cd g sz (nI at_) (nI 0) fu) (hT : Tape S tp) (ha : at_ ≤ tp.length) (hc : c < 256) : fX3_sees (E b S Q g) rd (nI c) = some (if lookN tp at_ = c then nI 1 else nI 0) := by
  have h60 := hT.2.1
  unfold fX3_sees
  rw [hR.gO, hR.i6, bind_sm, if_pos (show nI 0 = 0 from rfl), hR.i5, bind_sm, hR.i1, bind_sm]
  by_cases h : at_ < tp.length
  · have hl := look_lt hT h
    rw [if_neg (fun q => absurd ((nI_leI (by omega) (by omega)).mp q) (by omega)), hR.r0, bind_sm, bind_sm, tape_rd hT h, bind_sm]
    by_cases hq : lookN tp at_ = c
    · rw [if_pos (by rw [hq]), if_pos hq]; rfl
    · rw [if_neg (fun q => hq ((nI_eq (by omega) (by omega)).mp q)), if_neg hq]; rfl
  · rw [if_pos ((nI_leI (by omega) (by omega)).mpr (by omega)), look_out h, if_neg (by omega)]; rfl
theorem c_seesL (hR : RdS b len use rd cd g sz ax (nI 1) fu) : fX3_sees (E b S Q g) rd x = some (nI 0) := by
  unfold fX3_sees
  rw [hR.gO, hR.i6, bind_sm, if_neg (by decide)]
  rfl
theorem c_joins (hR : RdS b tp.length use rd cd g sz (nI at_) (nI 0) fu) (hT : Tape S tp) (ha : at_ ≤ tp.length) (hc : lv ≤ 4) : fX3_joinsAt (E b S Q g) rd (nI lv) = some (if lvN (lookN tp at_) = lv then nI 1 else nI 0) := by
  have h60 := hT.2.1
  unfold fX3_joinsAt
  rw [hR.gO, hR.i6, bind_sm, if_pos (show nI 0 = 0 from rfl), hR.i5, bind_sm, hR.i1, bind_sm]
  by_cases h : at_ < tp.length
  · have hl := look_lt hT h
    have h9 := lvN_le (lookN tp at_)
    rw [if_neg (fun q => absurd ((nI_leI (by omega) (by omega)).mp q) (by omega)), hR.r0, bind_sm, bind_sm, tape_rd hT h, bind_sm, lv_tab _ hl, bind_sm]
    by_cases h9' : lvN (lookN tp at_) = 9
    · rw [if_pos h9', if_neg (show ¬ (-1 : Int32) = nI lv from fun q => nI_m1 (n := lv) (by omega) q.symm), if_neg (by omega)]; rfl
    · rw [if_neg h9']
      by_cases hq : lvN (lookN tp at_) = lv
      · rw [if_pos (by rw [hq]), if_pos hq]; rfl
      · rw [if_neg (fun q => hq ((nI_eq (by omega) (by omega)).mp q)), if_neg hq]; rfl
  · rw [if_pos ((nI_leI (by omega) (by omega)).mpr (by omega)), look_out h, if_neg (by rw [show lvN 1000 = 9 from rfl]; omega)]; rfl
theorem c_joinsL (hR : RdS b len use rd cd g sz ax (nI 1) fu) : fX3_joinsAt (E b S Q g) rd x = some (nI 0) := by
  unfold fX3_joinsAt
  rw [hR.gO, hR.i6, bind_sm, if_neg (by decide)]
  rfl
def dgB (v : Nat) : Bool := decide (48 ≤ v) && decide (v ≤ 57)
theorem dgB_iff {v : Nat} : dgB v = true ↔ 48 ≤ v ∧ v ≤ 57 := by unfold dgB; rw [Bool.and_eq_true, decide_eq_true_eq, decide_eq_true_eq]
theorem c_seesDigit (hR : RdS b tp.length use rd cd g sz (nI at_) (nI 0) fu) (hT : Tape S tp) (ha : at_ ≤ tp.length) : fX3_seesDigit (E b S Q g) rd = some (if dgB (lookN tp at_) = true then nI 1 else nI 0) := by
  have h60 := hT.2.1
  unfold fX3_seesDigit
  rw [hR.gO, hR.i6, bind_sm, if_pos (show nI 0 = 0 from rfl), hR.i5, bind_sm, hR.i1, bind_sm]
  by_cases h : at_ < tp.length
  · have hl := look_lt hT h
    rw [if_neg (fun q => absurd ((nI_leI (by omega) (by omega)).mp q) (by omega)), hR.r0, bind_sm, bind_sm, tape_rd hT h, bind_sm, bind_sm, bind_sm, tape_rd hT h, bind_sm]
    by_cases h1 : lookN tp at_ < 48
    · rw [if_pos (show nI (lookN tp at_) < 48 from (nI_ltI (by omega) (by decide) : nI (lookN tp at_) < nI 48 ↔ _).mpr h1), if_neg (by rw [dgB_iff]; omega)]; rfl
    · rw [if_neg (show ¬ nI (lookN tp at_) < 48 from fun q => h1 ((nI_ltI (by omega) (by decide) : nI (lookN tp at_) < nI 48 ↔ _).mp q))]
      by_cases h2 : 57 < lookN tp at_
      · rw [if_pos (show (57 : Int32) < nI (lookN tp at_) from (nI_ltI (by decide) (by omega) : nI 57 < nI (lookN tp at_) ↔ _).mpr h2), if_neg (by rw [dgB_iff]; omega)]; rfl
      · rw [if_neg (show ¬ (57 : Int32) < nI (lookN tp at_) from fun q => h2 ((nI_ltI (by decide) (by omega) : nI 57 < nI (lookN tp at_) ↔ _).mp q)), if_pos (by rw [dgB_iff]; omega)]; rfl
  · rw [if_pos ((nI_leI (by omega) (by omega)).mpr (by omega)), look_out h, if_neg (by rw [dgB_iff]; omega)]; rfl
/-- the number of a name; none: 9 -/
def nmN (use v : Nat) : Nat := if v = nmc use 0 then 0 else if v = nmc use 1 then 1 else if v = nmc use 2 then 2 else 9
theorem c_nameOf (hR : RdS b len use rd cd g sz ax lx fu) (hu : use < 2) (hv : v' < 256) : fX3_nameOf (E b S Q g) rd (nI v') = some (if nmN use v' = 9 then -1 else nI (nmN use v')) := by
  have key : ∀ v < 256, (nI v = 109 ↔ v = 109) ∧ (nI v = 107 ↔ v = 107) ∧ (nI v = 116 ↔ v = 116) ∧ (nI v = 98 ↔ v = 98) ∧ (nI v = 112 ↔ v = 112) := fun v hv => ⟨(nI_eq (by omega) (by decide) : nI v = nI 109 ↔ _), (nI_eq (by omega) (by decide) : nI v = nI 107 ↔ _), (nI_eq (by omega) (by decide) : nI v = nI 116 ↔ _), (nI_eq (by omega) (by decide) : nI v = nI 98 ↔ _), (nI_eq (by omega) (by decide) : nI v = nI 112 ↔ _)⟩
  obtain ⟨k1, k2, k3, k4, k5⟩ := key v' hv
  unfold fX3_nameOf fX3_nameOf_24 fX3_nameOf_45
  rw [hR.gO, hR.i2, bind_sm]
  simp only [k1, k2, k3, k4, k5, bind_sm]
  have : use = 0 ∨ use = 1 := by omega
  rcases this with rfl | rfl
  · rw [if_neg (show ¬ nI 0 = 1 by decide), if_neg (show ¬ nI 0 = 1 by decide)]
    unfold nmN nmc
    by_cases h1 : v' = 109
    · simp [h1]; rfl
    · by_cases h2 : v' = 116
      · simp [h2]; rfl
      · by_cases h3 : v' = 112
        · simp [h3]; rfl
        · simp [h1, h2, h3]
  · rw [if_pos (show nI 1 = 1 from rfl), if_pos (show nI 1 = 1 from rfl)]
    unfold nmN nmc
    by_cases h1 : v' = 109
    · simp [h1]; rfl
    · by_cases h2 : v' = 107
      · simp [h2]; rfl
      · by_cases h3 : v' = 98
        · simp [h3]; rfl
        · simp [h1, h2, h3]
end RP
/-- the reference's fields while it reads -/
def RfS (b : Nat) (tp : List Nat) (use : Nat) (S : Nat → Nat → Int32) (a op : Nat) (cdt : List Tk) : Prop := S 116 6 = nI a ∧ S 116 7 = nI op ∧ S 116 8 = nI cdt.length ∧ S 116 9 = nI use ∧ S 117 5 = nI tp.length ∧ rowIs (S 117) 374 tp ∧ ∀ i t, cdt[i]? = some t → S 122 (2 * i) = nI t.1 ∧ S 122 (2 * i + 1) = nI (encM use t)
def FrM (S S' : Nat → Nat → Int32) : Prop := (∀ r, r ≠ 116 → r ≠ 122 → S' r = S r) ∧ ∀ j, j ≠ 6 → j ≠ 7 → j ≠ 8 → S' 116 j = S 116 j
theorem FrM.rf : FrM S S := ⟨fun _ _ _ => rfl, fun _ _ _ _ => rfl⟩
theorem FrM.tr (h : FrM S S1) (h' : FrM S1 S2) : FrM S S2 := ⟨fun r h1 h2 => (h'.1 r h1 h2).trans (h.1 r h1 h2), fun j h1 h2 h3 => (h'.2 j h1 h2 h3).trans (h.2 j h1 h2 h3)⟩
theorem getI_M6 : getI (E b S Q g) 9 (b + 116) 6 = some (S 116 6) := by simp only [rM]
theorem getI_M7 : getI (E b S Q g) 9 (b + 116) 7 = some (S 116 7) := by simp only [rM]
theorem getI_M8 : getI (E b S Q g) 9 (b + 116) 8 = some (S 116 8) := by simp only [rM]
theorem getI_M9 : getI (E b S Q g) 9 (b + 116) 9 = some (S 116 9) := by simp only [rM]
theorem put6M {z : Int32} : putV (E b S Q g) 9 (b + 116) 6 (.int z) = some (E b (up2 S 116 6 z) Q g) := by simp only [rM]
theorem put7M {z : Int32} : putV (E b S Q g) 9 (b + 116) 7 (.int z) = some (E b (up2 S 116 7 z) Q g) := by simp only [rM]
theorem put8M {z : Int32} : putV (E b S Q g) 9 (b + 116) 8 (.int z) = some (E b (up2 S 116 8 z) Q g) := by simp only [rM]
theorem getR_M10 : getR (E b S Q g) 9 (b + 116) 10 = some (b + 122) := by simp only [rM]
theorem RfS.at6 (h : RfS b tp use S at_ op cdt) (a' : Nat) : RfS b tp use (up2 S 116 6 (nI a')) a' op cdt ∧ FrM S (up2 S 116 6 (nI a')) := by
  obtain ⟨h1, h2, h3, h4, h5, h6, h7⟩ := h
  exact ⟨⟨by rw [up2_at, if_pos rfl], by rw [up2_at, if_neg (by decide)]; exact h2, by rw [up2_at, if_neg (by decide)]; exact h3, by rw [up2_at, if_neg (by decide)]; exact h4, by rw [up2_row (by decide)]; exact h5, by rw [up2_row (by decide)]; exact h6, by rw [up2_row (by decide)]; exact h7⟩, ⟨fun r a1 a2 => up2_row (by omega), fun j a1 a2 a3 => by rw [up2_at, if_neg a1]⟩⟩
theorem RfS.op7 (h : RfS b tp use S at_ op cdt) (o' : Nat) : RfS b tp use (up2 S 116 7 (nI o')) at_ o' cdt ∧ FrM S (up2 S 116 7 (nI o')) := by
  obtain ⟨h1, h2, h3, h4, h5, h6, h7⟩ := h
  exact ⟨⟨by rw [up2_at, if_neg (by decide)]; exact h1, by rw [up2_at, if_pos rfl], by rw [up2_at, if_neg (by decide)]; exact h3, by rw [up2_at, if_neg (by decide)]; exact h4, by rw [up2_row (by decide)]; exact h5, by rw [up2_row (by decide)]; exact h6, by rw [up2_row (by decide)]; exact h7⟩, ⟨fun r a1 a2 => up2_row (by omega), fun j a1 a2 a3 => by rw [up2_at, if_neg a2]⟩⟩
theorem m_lays (h : RfS b tp use S at_ op cdt) (hn : cdt.length < 62) (t : Tk) : ∃ S', fX9_lays (E b S Q g) (b + 116) (nI t.1) (nI (encM use t)) = some (E b S' Q g) ∧ RfS b tp use S' at_ op (cdt ++ [t]) ∧ FrM S S' := by
  obtain ⟨h1, h2, h3, h4, h5, h6, h7⟩ := h
  obtain ⟨n, hn'⟩ : ∃ n, cdt.length = n := ⟨_, rfl⟩
  rw [hn'] at h3 hn
  obtain ⟨S1, hS1⟩ : ∃ S1, S1 = up2 (up2 (up2 S 122 (2 * n) (nI t.1)) 122 (2 * n + 1) (nI (encM use t))) 116 8 (nI (n + 1)) := ⟨_, rfl⟩
  have n1 : ∀ r, r ≠ 116 → r ≠ 122 → S1 r = S r := fun r a1 a2 => by rw [hS1, up2_row (by omega), up2_row (by omega), up2_row (by omega)]
  have n116 : ∀ j, j ≠ 8 → S1 116 j = S 116 j := fun j hj => by rw [hS1, up2_at, if_neg hj, up2_ne (by decide), up2_ne (by decide)]
  refine ⟨S1, ?_, ⟨by rw [n116 _ (by decide)]; exact h1, by rw [n116 _ (by decide)]; exact h2, by rw [hS1, up2_at, if_pos rfl, List.length_append, hn']; rfl, by rw [n116 _ (by decide)]; exact h4, by rw [n1 117 (by decide) (by decide)]; exact h5, by rw [n1 117 (by decide) (by decide)]; exact h6, fun i v hv => ?_⟩, ⟨n1, fun j a1 a2 a3 => n116 j a3⟩⟩
  · unfold fX9_lays
    rw [gO_M, getR_M10, bind_sm, getI_M8, h3, bind_sm, show (2 : Int32) = nI 2 from rfl, pk_mul, show wrI (E b S Q g) (b + 122) (nI (2 * n)) (nI t.1) = some (E b (up2 S 122 (2 * n) (nI t.1)) Q g) from E_wrI (c := 122) (n := 124) rfl (by omega) (by decide), bind_sm, getR_M10, bind_sm, getI_M8, up2_ne (show 116 ≠ 122 by decide), h3, bind_sm, pk_mul, show nI (2 * n) + 1 = nI (2 * n + 1) from nI_add _ 1, show wrI (E b (up2 S 122 (2 * n) (nI t.1)) Q g) (b + 122) (nI (2 * n + 1)) (nI (encM use t)) = some (E b (up2 (up2 S 122 (2 * n) (nI t.1)) 122 (2 * n + 1) (nI (encM use t))) Q g) from E_wrI (c := 122) (n := 124) rfl (by omega) (by decide), bind_sm, getI_M8, up2_ne (show 116 ≠ 122 by decide), up2_ne (show 116 ≠ 122 by decide), h3, bind_sm, show nI n + 1 = nI (n + 1) from nI_add n 1, put8M, bind_sm, ← hS1]
  · rw [hS1, up2_ne (show 122 ≠ 116 by decide), up2_ne (show 122 ≠ 116 by decide), up2_at, up2_at, up2_at, up2_at]
    by_cases hi : i < n
    · rw [List.getElem?_append_left (by omega)] at hv
      rw [if_neg (by omega), if_neg (by omega), if_neg (by omega), if_neg (by omega)]
      exact h7 i v hv
    · rw [List.getElem?_append_right (by omega)] at hv
      have hi2 : i - cdt.length = 0 := by
        have := (List.getElem?_eq_some_iff.mp hv).1
        simp at this; omega
      rw [hi2] at hv
      simp at hv
      have hin : i = n := by omega
      rw [hin, if_neg (by omega), if_pos rfl, if_pos rfl, ← hv]
      exact ⟨rfl, rfl⟩
theorem m_look (h : RfS b tp use S at_ op cdt) (h60 : tp.length ≤ 60) (ha : at_ ≤ tp.length) : fX9_look (E b S Q g) (b + 116) = some (if lookN tp at_ = 1000 ∧ ¬ at_ < tp.length then -1 else nI (lookN tp at_)) := by
  obtain ⟨h1, h2, h3, h4, h5, h6, h7⟩ := h
  unfold fX9_look
  rw [gO_M, getI_M6, h1, bind_sm, getR_M0, bind_sm, show (5 : Int32) = nI 5 from rfl, show rdI (E b S Q g) (b + 117) (nI 5) = some (S 117 5) from E_rdI (c := 117) (n := 458) rfl (by omega) (by decide), h5, bind_sm]
  by_cases h : at_ < tp.length
  · rw [if_neg (fun q => absurd ((nI_leI (by omega) (by omega)).mp q) (by omega)), if_neg (fun q => q.2 h), bind_sm, bind_sm, show (374 : Int32) = nI 374 from rfl, nI_add, show rdI (E b S Q g) (b + 117) (nI (374 + at_)) = some (S 117 (374 + at_)) from E_rdI (c := 117) (n := 458) rfl (by omega) (by decide), bind_sm, h6.at h, look_in h]
  · rw [if_pos ((nI_leI (by omega) (by omega)).mpr (by omega)), if_pos ⟨look_out h, h⟩]
end OZm
