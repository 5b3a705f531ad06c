/-! ===== texts: what is new beyond the picture ===== -/
section OZr
variable {b v' : Nat} {K K1 : Nat → Nat} {S S' S1 S2 S3 S5 S6 : Nat → Nat → Int32} {Q Q' Q1 Q2 : Nat → Nat → Nat} {g g' g1 g2 h : Hp} {f k j p q n u c c0 c1 lo hi i e m d rd cd a use op lv left len ci r : Nat} {x y z v sz ax lx : Int32} {T : Tx} {tp : List Nat} {fu fu' : Nat → Int32} {cdt toks ts : List Tk} {fs : List Value} {w : Value} {ce : Ce} {s : Fs}

theorem newC_at : (newC g ce).1 g.2 = some ce := by unfold newC; simp
theorem newC_ne (hq : q ≠ g.2) : (newC g ce).1 q = g.1 q := by unfold newC; simp [hq]
theorem E_newC (hg : b + 133 ≤ g.2) : newC (E b S Q g) ce = E b S Q (newC g ce) := by
  unfold newC E
  refine Prod.ext (funext fun q => ?_) rfl
  dsimp only
  by_cases h1 : b ≤ q ∧ q < b + 133
  · rw [if_pos h1, if_pos h1, if_neg (by omega)]
  · rw [if_neg h1, if_neg h1]
theorem x_newO (hg : b + 133 ≤ g.2) : newO (E b S Q g) ci fs = some (g.2, E b S Q (newC g (.inl (ci, fs)))) := by
  show some ((E b S Q g).2, newC (E b S Q g) (.inl (ci, fs))) = _
  rw [E_newC hg]
  rfl
theorem x_newA (hg : b + 133 ≤ g.2) (hn : n ≤ 60) : newA 60 (E b S Q g) (nI n) = some (g.2, E b S Q (newC g (arC n (fun _ => 0)))) := by
  unfold newA
  rw [nI_clamp (n := n) (by omega), if_neg (fun q => q.elim (nI_nneg (n := n) (by omega)) (fun q => by omega)), ← E_newC hg]
  rfl
theorem x_putV (ho : b + 133 ≤ rd) (he : g.1 rd = some (.inl (ci, fs))) (hj : j < fs.length) : putV (E b S Q g) ci rd j w = some (E b S Q (setC g rd (.inl (ci, fs.set j w)))) := by
  rw [h_putV (by rw [E_off (Or.inr ho)]; exact he) hj, E_setC (Or.inr ho)]
theorem x_acopy {n0 n1 : Nat} {f0 f1 : Nat → Int32} (h0 : h.1 c0 = some (arC n0 f0)) (h1 : h.1 c1 = some (arC n1 f1)) (hn0 : n ≤ n0) (hn1 : n ≤ n1) (hn : n ≤ 60) : acopy h c0 0 c1 0 (nI n) = some (setC h c1 (arC n1 (va_cpy f0 f1 0 0 n))) := by
  unfold acopy
  rw [h0, h1]
  simp only [arC]
  rw [nI_clamp (n := n) (by omega), show (0 : Int32).toNatClampNeg = 0 from rfl, if_neg]
  intro q
  rcases q with q | q | q | q | q
  · exact absurd q (by decide)
  · exact absurd q (by decide)
  · exact nI_nneg (n := n) (by omega) q
  · omega
  · omega
theorem RdS.mono (hR : RdS b len use rd cd g sz ax lx fu) (h1 : g1.1 rd = g.1 rd) (h2 : g1.1 cd = g.1 cd) : RdS b len use rd cd g1 sz ax lx fu := ⟨by rw [h1]; exact hR.1, by rw [h2]; exact hR.2.1, hR.2.2⟩
def L0 : List Value := [.null, .int 0, .int 0, .null, .int 0, .int 0, .int 0]
theorem c_init (hg : b + 133 ≤ g.2) (hl : len ≤ 60) : ∃ g1, fX3_init (E b S Q (newC g (.inl (3, L0)))) g.2 (b + 9) (nI len) (nI use) = some (E b S Q g1) ∧ RdS b len use g.2 (g.2 + 1) g1 (nI 0) (nI 0) (nI 0) (fun _ => 0) ∧ g1.2 = g.2 + 2 ∧ ∀ a, a < g.2 ∨ g.2 + 2 ≤ a → g1.1 a = g.1 a := by
  obtain ⟨gA, hA⟩ : ∃ gA, gA = setC (setC (setC (newC g (.inl (3, L0))) g.2 (.inl (3, L0.set 0 (.ref (b + 9))))) g.2 (.inl (3, (L0.set 0 (.ref (b + 9))).set 1 (.int (nI len))))) g.2 (.inl (3, ((L0.set 0 (.ref (b + 9))).set 1 (.int (nI len))).set 2 (.int (nI use)))) := ⟨_, rfl⟩
  have a1 : gA.1 g.2 = some (.inl (3, ((L0.set 0 (.ref (b + 9))).set 1 (.int (nI len))).set 2 (.int (nI use)))) := by rw [hA]; exact setC_at
  have a2 : gA.2 = g.2 + 1 := by rw [hA]; rfl
  have a3 : ∀ q, q ≠ g.2 → gA.1 q = g.1 q := fun q hq => by rw [hA, setC_ne hq, setC_ne hq, setC_ne hq, newC_ne hq]
  have b1 : (newC gA (arC len (fun _ => 0))).1 g.2 = some (.inl (3, ((L0.set 0 (.ref (b + 9))).set 1 (.int (nI len))).set 2 (.int (nI use)))) := by rw [newC_ne (by omega)]; exact a1
  refine ⟨setC (newC gA (arC len (fun _ => 0))) g.2 (.inl (3, (((L0.set 0 (.ref (b + 9))).set 1 (.int (nI len))).set 2 (.int (nI use))).set 3 (.ref gA.2))), ?_, ⟨?_, ?_, by omega, by omega, by omega⟩, by show gA.2 + 1 = _; omega, fun a ha => ?_⟩
  · unfold fX3_init
    rw [x_putV hg newC_at (by decide), bind_sm, x_putV hg setC_at (show (1 : Nat) < 7 by decide), bind_sm, x_putV hg setC_at (show (2 : Nat) < 7 by decide), bind_sm, ← hA, x_newA (by omega) hl, bind_sm]
    show (putV (E b S Q (newC gA (arC len (fun _ => 0)))) 3 g.2 3 (.ref gA.2)).bind (fun h23 => some h23) = _
    rw [x_putV hg b1 (show (3 : Nat) < 7 by decide), bind_sm]
  · rw [setC_at, a2]; rfl
  · rw [setC_ne (by omega), ← a2]; exact newC_at
  · rw [setC_ne (by omega), newC_ne (by omega), a3 a (by omega)]
theorem c_copy (hg : b + 133 ≤ g.2) (hc : g.1 cd = some (arC len fu)) (ho : b + 133 ≤ cd) (hcd : cd < g.2) (hl : len ≤ 60) (hn : n ≤ len) : ∃ f, (∀ i < n, f i = fu i) ∧ fJ7_copyOf_59c91 (E b S Q g) cd (nI n) = some (g.2, E b S Q (newC g (arC n f))) := by
  have ec : (E b S Q g).1 cd = some (arC len fu) := by rw [E_off (Or.inr ho)]; exact hc
  by_cases hq : n = len
  · subst hq
    refine ⟨fu, fun _ _ => rfl, ?_⟩
    unfold fJ7_copyOf_59c91
    rw [h_lenA ec, bind_sm, if_pos rfl]
    have e1 : cloneA 60 (E b S Q g) cd = some (g.2, E b S Q (newC g (arC n fu))) := by
      unfold cloneA
      rw [ec]
      simp only [arC]
      rw [if_neg (by omega), ← E_newC hg]
      rfl
    rw [e1, bind_sm]
    have e2 : castA (E b S Q (newC g (arC n fu))) g.2 = some () := by
      unfold castA
      rw [E_off (Or.inr hg), newC_at]
      rfl
    show (castA (E b S Q (newC g (arC n fu))) g.2).bind _ = _
    rw [e2, bind_sm]
  · refine ⟨va_cpy fu (fun _ => 0) 0 0 n, fun i hi => ?_, ?_⟩
    · show (if 0 ≤ i ∧ i < 0 + n then fu (0 + (i - 0)) else 0) = fu i
      rw [if_pos (by omega), Nat.zero_add, Nat.sub_zero]
    · unfold fJ7_copyOf_59c91
      have ec2 : (E b S Q (newC g (arC n (fun _ => 0)))).1 cd = some (arC len fu) := by rw [E_off (Or.inr ho), newC_ne (by omega)]; exact hc
      rw [h_lenA ec, bind_sm, if_neg (fun q => hq ((nI_eq (by omega) (by omega)).mp q)), x_newA hg (by omega), bind_sm]
      dsimp only
      rw [h_lenA ec2, bind_sm, imin_nI (by omega) (by omega), Nat.min_eq_right hn, x_acopy ec2 (by rw [E_off (Or.inr hg)]; exact newC_at) hn (Nat.le_refl _) (by omega), bind_sm, E_setC (Or.inr hg)]
      refine congrArg (fun q => some (g.2, E b S Q q)) ?_
      refine Prod.ext (funext fun q => ?_) rfl
      by_cases h1 : q = g.2
      · subst h1; rw [setC_at, newC_at]
      · rw [setC_ne h1, newC_ne h1, newC_ne h1]
theorem c_law (hg : b + 133 ≤ g.2) (hR : RdS b len use rd cd g (nI n) ax lx fu) (hl : len ≤ 60) (hn : n ≤ len) (hrd : rd < g.2) (hcd : cd < g.2) : ∃ g2 f f', fX3_law (E b S Q g) rd = some (g.2, E b S Q g2) ∧ g2.2 = g.2 + 3 ∧ (∀ a, a < g.2 ∨ g.2 + 3 ≤ a → g2.1 a = g.1 a) ∧ g2.1 g.2 = some (.inl (2, [.ref (g.2 + 1), .ref (g.2 + 2)])) ∧ g2.1 (g.2 + 1) = some (arC n f) ∧ (∀ i < n, f i = fu i) ∧ g2.1 (g.2 + 2) = some (arC n f') := by
  obtain ⟨gB, hB⟩ : ∃ gB, gB = newC g (.inl (2, [.null, .null])) := ⟨_, rfl⟩
  have b1 : gB.1 g.2 = some (.inl (2, [.null, .null])) := by rw [hB]; exact newC_at
  have b2 : gB.2 = g.2 + 1 := by rw [hB]; rfl
  have b3 : ∀ q, q ≠ g.2 → gB.1 q = g.1 q := fun q hq => by rw [hB, newC_ne hq]
  have hRB : RdS b len use rd cd gB (nI n) ax lx fu := hR.mono (b3 _ (by omega)) (b3 _ (by omega))
  obtain ⟨f, hf, e1⟩ := c_copy (b := b) (S := S) (Q := Q) (g := gB) (cd := cd) (len := len) (fu := fu) (n := n) (by omega) hRB.2.1 hRB.2.2.2.1 (by omega) hl hn
  obtain ⟨gC, hC⟩ : ∃ gC, gC = newC gB (arC n f) := ⟨_, rfl⟩
  rw [← hC] at e1
  have c2 : gC.2 = g.2 + 2 := by rw [hC]; show gB.2 + 1 = _; omega
  have c1' : gC.1 (g.2 + 1) = some (arC n f) := by rw [hC, ← b2]; exact newC_at
  have c3 : ∀ q, q ≠ g.2 + 1 → gC.1 q = gB.1 q := fun q hq => by rw [hC, newC_ne (by omega)]
  obtain ⟨gD, hD⟩ : ∃ gD, gD = setC gC g.2 (.inl (2, [Value.null, .null].set 0 (.ref (g.2 + 1)))) := ⟨_, rfl⟩
  have d2 : gD.2 = g.2 + 2 := by rw [hD]; exact c2
  have d1 : gD.1 g.2 = some (.inl (2, [.ref (g.2 + 1), .null])) := by rw [hD]; exact setC_at
  have d3 : ∀ q, q ≠ g.2 → gD.1 q = gC.1 q := fun q hq => by rw [hD, setC_ne hq]
  obtain ⟨gF, hF⟩ : ∃ gF, gF = newC gD (arC n (fun _ => 0)) := ⟨_, rfl⟩
  have f2 : gF.2 = g.2 + 3 := by rw [hF]; show gD.2 + 1 = _; omega
  have f1 : gF.1 (g.2 + 2) = some (arC n (fun _ => 0)) := by rw [hF, ← d2]; exact newC_at
  have f3 : ∀ q, q ≠ g.2 + 2 → gF.1 q = gD.1 q := fun q hq => by rw [hF, newC_ne (by omega)]
  have hgo : fX2_init (E b S Q gC) g.2 (g.2 + 1) = some (E b S Q (setC gF g.2 (.inl (2, [.ref (g.2 + 1), .ref (g.2 + 2)])))) := by
    unfold fX2_init
    rw [x_putV hg (show gC.1 g.2 = some (.inl (2, [.null, .null])) by rw [c3 _ (by omega)]; exact b1) (by decide), bind_sm]
    rw [← hD, h_lenA (by rw [E_off (Or.inr (by omega)), d3 _ (by omega)]; exact c1'), bind_sm, x_newA (by omega) (by omega), bind_sm]
    show (putV (E b S Q (newC gD (arC n (fun _ => 0)))) 2 g.2 1 (.ref gD.2)).bind (fun h14 => some h14) = _
    rw [← hF, x_putV hg (show gF.1 g.2 = some (.inl (2, [.ref (g.2 + 1), .null])) by rw [f3 _ (by omega)]; exact d1) (show (1 : Nat) < 2 by decide), bind_sm, d2]
    rfl
  refine ⟨setC gF g.2 (.inl (2, [.ref (g.2 + 1), .ref (g.2 + 2)])), f, fun _ => 0, ?_, by show gF.2 = _; exact f2, fun a ha => ?_, setC_at, ?_, hf, ?_⟩
  · unfold fX3_law
    rw [hR.gO, x_newO hg, bind_sm]
    dsimp only
    rw [← hB, hRB.r3, bind_sm, hRB.i4, bind_sm, e1, bind_sm]
    show (fX2_init (E b S Q gC) g.2 gB.2).bind (fun q15 => some (g.2, q15)) = _
    rw [b2, hgo, bind_sm]
  · rw [setC_ne (by omega), f3 _ (by omega), d3 _ (by omega), c3 _ (by omega), b3 _ (by omega)]
  · rw [setC_ne (by omega), f3 _ (by omega), d3 _ (by omega)]; exact c1'
  · rw [setC_ne (by omega)]; exact f1
/-- the picture beyond has grown -/
def Grow (K : Nat → Nat) (g : Hp) (K1 : Nat → Nat) (g1 : Hp) : Prop := ∀ a, a < g.2 → g1.1 a = g.1 a ∧ K1 a = K a
theorem LawAt.grow (h : LawAt K b g p ts) (hG : GlobK b K g) (hg : Grow K g K1 g1) : LawAt K1 b g1 p ts := by
  obtain ⟨c, s, f, f', h1, h2, h3, h4, k1, k2, k3, o⟩ := h
  have lt : ∀ a (e : Ce), g.1 a = some e → a < g.2 := fun a e he => by
    by_cases hq : a < g.2
    · exact hq
    · rw [(hG.2 a (by omega)).1] at he; cases he
  have l1 := hg p (lt _ _ h1)
  have l2 := hg c (lt _ _ h2)
  have l3 := hg s (lt _ _ h4)
  exact ⟨c, s, f, f', by rw [l1.1]; exact h1, by rw [l2.1]; exact h2, h3, by rw [l3.1]; exact h4, by rw [l1.2]; exact k1, by rw [l2.2]; exact k2, by rw [l3.2]; exact k3, o⟩
theorem LawQ.grow (h : LawQ K b g p ts) (hG : GlobK b K g) (hg : Grow K g K1 g1) : LawQ K1 b g1 p ts := h.imp id (fun q => ⟨q.1, q.2.grow hG hg⟩)
theorem FerC.grow (h : FerC b K S Q g f s) (hG : GlobK b K g) (hg : Grow K g K1 g1) : FerC b K1 S Q g1 f s := by
  obtain ⟨h1, ⟨h2, h3⟩, h4⟩ := h
  exact ⟨h1, ⟨h2.grow hG hg, h3.grow hG hg⟩, h4⟩
theorem Cur.grow (h : Cur b K S Q g f r) (hG : GlobK b K g) (hg : Grow K g K1 g1) : Cur b K1 S Q g1 f r := by
  obtain ⟨a, h1, h2, h3⟩ := h
  exact ⟨a, h1, h2.grow hG hg, h3⟩
theorem Sim.grow (h : Sim b K S Q g) (hg : Grow K g K1 g1) (hG1 : GlobK b K1 g1) : Sim b K1 S Q g1 := by
  obtain ⟨h1, ⟨h2, h3⟩, h4, h5, h6, h7⟩ := h
  exact ⟨h1.grow h7 hg, ⟨h2, fun q => (h3 q).grow h7 hg⟩, h4, h5, h6, hG1⟩
end OZr
