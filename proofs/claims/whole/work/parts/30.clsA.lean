/-! ===== the class: laws ===== -/
def encC (t : Tk) : Nat := if t.1 = 0 then 256 + t.2 else if t.1 = 2 then 33 else t.2
def arC (n : Nat) (f : Nat → Int32) : Ce := .inr (.inl (n, f))
/-- a law at p, beyond the picture: its code, its pile (any) -/
def LawAt (K : Nat → Nat) (b : Nat) (g : Hp) (p : Nat) (ts : List Tk) : Prop := ∃ (c s : Nat) (f f' : Nat → Int32), g.1 p = some (.inl (2, [.ref c, .ref s])) ∧ g.1 c = some (arC ts.length f) ∧ (∀ i t, ts[i]? = some t → f i = nI (encC t)) ∧ g.1 s = some (arC ts.length f') ∧ K p = 1 ∧ K c = 2 ∧ K s = 3 ∧ b + 133 ≤ p ∧ b + 133 ≤ c ∧ b + 133 ≤ s
def LawQ (K : Nat → Nat) (b : Nat) (g : Hp) (p : Nat) (ts : List Tk) : Prop := (ts = [] ∧ p = b + 1) ∨ (ts ≠ [] ∧ LawAt K b g p ts)
/-- only piles have changed -/
def Lkg (K : Nat → Nat) (g g' : Hp) : Prop := g'.2 = g.2 ∧ (∀ a, K a ≠ 3 → g'.1 a = g.1 a) ∧ ∀ a, K a = 3 → ∀ n f, g.1 a = some (arC n f) → ∃ f', g'.1 a = some (arC n f')
theorem Lkg.rf {K : Nat → Nat} {g : Hp} : Lkg K g g := ⟨rfl, fun _ _ => rfl, fun _ _ _ f h => ⟨f, h⟩⟩
theorem Lkg.tr {K : Nat → Nat} {g g' g'' : Hp} (h : Lkg K g g') (h' : Lkg K g' g'') : Lkg K g g'' :=
  ⟨h'.1.trans h.1, fun a ha => (h'.2.1 a ha).trans (h.2.1 a ha), fun a ha n f hf => by
    obtain ⟨f1, h1⟩ := h.2.2 a ha n f hf
    exact h'.2.2 a ha n f1 h1⟩
theorem LawAt.lk {K : Nat → Nat} {b : Nat} {g g' : Hp} {p : Nat} {ts : List Tk} (h : LawAt K b g p ts) (hk : Lkg K g g') : LawAt K b g' p ts := by
  obtain ⟨c, s, f, f', h1, h2, h3, h4, k1, k2, k3, o⟩ := h
  obtain ⟨f2, h5⟩ := hk.2.2 s k3 _ _ h4
  exact ⟨c, s, f, f2, by rw [hk.2.1 p (by omega)]; exact h1, by rw [hk.2.1 c (by omega)]; exact h2, h3, h5, k1, k2, k3, o⟩
theorem LawQ.lk {K : Nat → Nat} {b : Nat} {g g' : Hp} {p : Nat} {ts : List Tk} (h : LawQ K b g p ts) (hk : Lkg K g g') : LawQ K b g' p ts := by
  rcases h with h | ⟨h1, h2⟩
  · exact Or.inl h
  · exact Or.inr ⟨h1, h2.lk hk⟩
theorem setC_eta {h : Hp} {a : Nat} {e : Ce} (he : h.1 a = some e) : setC h a e = h := by
  unfold setC
  refine Prod.ext (funext fun q => ?_) rfl
  dsimp only
  split
  next hq => rw [hq, he]
  next => rfl
theorem setC_setC {h : Hp} {a : Nat} {e e' : Ce} : setC (setC h a e) a e' = setC h a e' := by
  unfold setC
  refine Prod.ext (funext fun q => ?_) rfl
  dsimp only
  split <;> rfl
theorem setC_at {h : Hp} {a : Nat} {e : Ce} : (setC h a e).1 a = some e := by simp [setC]
theorem setC_ne {h : Hp} {a q : Nat} {e : Ce} (hq : q ≠ a) : (setC h a e).1 q = h.1 q := by simp [setC, hq]
section CA
variable {b : Nat} {S : Nat → Nat → Int32} {Q : Nat → Nat → Nat} {g h : Hp} {k j p n u a ci i : Nat} {x y z v : Int32} {w : Wo} {T : Tx} {K : Nat → Nat} {fs : List Value} {f : Nat → Int32}
theorem h_gO {α : Type} {B : Option α} (he : h.1 a = some (.inl (ci, fs))) : gO h ci a B = B := by unfold gO isO; rw [he]; simp
theorem h_getR {o : Nat} (he : h.1 a = some (.inl (ci, fs))) (hj : fs[j]? = some (.ref o)) : getR h ci a j = some o := by unfold getR getV; rw [he]; simp [hj]
theorem h_getI (he : h.1 a = some (.inl (ci, fs))) (hj : fs[j]? = some (.int x)) : getI h ci a j = some x := by unfold getI getV; rw [he]; simp [hj]
theorem h_lenA (he : h.1 a = some (arC n f)) : lenA h a = some (nI n) := by unfold lenA; rw [he]; rfl
theorem h_rdI (he : h.1 a = some (arC n f)) (hi : i < n) (hn : n < 2 ^ 31) : rdI h a (nI i) = some (f i) := by
  unfold rdI
  rw [he]
  simp only [arC]
  rw [if_neg (nI_in hi hn), nI_clamp (by omega)]
theorem h_wrI (he : h.1 a = some (arC n f)) (hi : i < n) (hn : n < 2 ^ 31) : wrI h a (nI i) v = some (setC h a (arC n (upd f i v))) := by
  unfold wrI
  rw [he]
  simp only [arC]
  rw [if_neg (nI_in hi hn), nI_clamp (by omega)]
theorem E_setC {e : Ce} (ho : a < b ∨ b + 133 ≤ a) : setC (E b S Q g) a e = E b S Q (setC g a e) := by
  unfold setC E
  refine Prod.ext (funext fun q => ?_) rfl
  dsimp only
  by_cases h1 : b ≤ q ∧ q < b + 133
  · rw [if_pos h1, if_pos h1, if_neg (by omega)]
  · rw [if_neg h1, if_neg h1]
theorem c_join (c : Nat) (hc : isSg c) (x z : Int32) : fX2_join (nI c) x z = some (joinP c x z) := by
  unfold fX2_join joinP
  have hc31 : c < 2 ^ 31 := by unfold isSg at hc; omega
  have e : ∀ n : Nat, n < 2 ^ 31 → (nI c = nI n ↔ c = n) := fun n hn => nI_eq hc31 hn
  rw [show (38 : Int32) = nI 38 from rfl, show (42 : Int32) = nI 42 from rfl, show (43 : Int32) = nI 43 from rfl, show (45 : Int32) = nI 45 from rfl, show (47 : Int32) = nI 47 from rfl, show (60 : Int32) = nI 60 from rfl, show (61 : Int32) = nI 61 from rfl, show (62 : Int32) = nI 62 from rfl, show (124 : Int32) = nI 124 from rfl]
  simp only [e 38 (by decide), e 42 (by decide), e 43 (by decide), e 45 (by decide), e 47 (by decide), e 60 (by decide), e 61 (by decide), e 62 (by decide), e 124 (by decide)]
  clear e
  unfold isSg at hc
  rcases hc with rfl | rfl | rfl | rfl | rfl | rfl | rfl | rfl | rfl | rfl
  · by_cases h0 : z = 0 <;> simp [h0, rmz]
  · by_cases hx : x = 0 <;> by_cases hz : z = 0 <;> simp [hx, hz]
  · simp
  · simp
  · simp
  · by_cases h0 : z = 0 <;> simp [h0, dvz]
  · rcases i32_lt_or x z with h | h
    · have h2 : ¬ z ≤ x := fun q => (i32_le_iff z x).mp q h
      simp [h, h2]
    · have h2 : ¬ x < z := (i32_le_iff z x).mp h
      simp [h, h2]
  · by_cases h : x = z <;> simp [h]
  · rcases i32_lt_or z x with h | h
    · have h2 : ¬ x ≤ z := fun q => (i32_le_iff x z).mp q h
      simp [h, h2]
    · have h2 : ¬ z < x := (i32_le_iff x z).mp h
      simp [h, h2]
  · by_cases hx : x = 0 <;> by_cases hz : z = 0 <;> simp [hx, hz]
theorem c_value_loop (n p c s : Nat) (ts : List Tk) (f : Nat → Int32) (hn : n = ts.length) (hp : g.1 p = some (.inl (2, [.ref c, .ref s]))) (hc : g.1 c = some (arC n f)) (hf : ∀ i t, ts[i]? = some t → f i = nI (encC t)) (hpo : b + 133 ≤ p) (hco : b + 133 ≤ c) (hso : b + 133 ≤ s) (hps : p ≠ s) (hcs : c ≠ s) (hl60 : ts.length ≤ 60) (hok : ∀ t ∈ ts, tokOk t) (x1 x2 x3 : Int32) :
    ∀ (rest : List Tk) (m i : Nat) (st : List Int32) (f1 : Nat → Int32), ts.drop i = rest → i + rest.length = ts.length → rest.length < m → depP st.length rest = some 1 → st.length ≤ i → pileIs f1 st →
      ∃ f2, fX2_value_6 m (E b S Q (setC g s (arC n f1))) p x1 x2 x3 (nI st.length) (nI i) = some ((rest.foldl (ev1 (nm3 x1 x2 x3)) st).headD 0, E b S Q (setC g s (arC n f2))) := by
  intro rest
  have Hp : ∀ f1, (E b S Q (setC g s (arC n f1))).1 p = some (.inl (2, [.ref c, .ref s])) := fun f1 => by rw [E_off (by omega), setC_ne hps]; exact hp
  have Hc : ∀ f1, (E b S Q (setC g s (arC n f1))).1 c = some (arC n f) := fun f1 => by rw [E_off (by omega), setC_ne hcs]; exact hc
  have Hs : ∀ f1, (E b S Q (setC g s (arC n f1))).1 s = some (arC n f1) := fun f1 => by rw [E_off (by omega), setC_at]
  have rp0 : ∀ f1, getR (E b S Q (setC g s (arC n f1))) 2 p 0 = some c := fun f1 => h_getR (Hp f1) rfl
  have rp1 : ∀ f1, getR (E b S Q (setC g s (arC n f1))) 2 p 1 = some s := fun f1 => h_getR (Hp f1) rfl
  have rl : ∀ f1, lenA (E b S Q (setC g s (arC n f1))) c = some (nI n) := fun f1 => h_lenA (Hc f1)
  have rc : ∀ f1 i, i < n → rdI (E b S Q (setC g s (arC n f1))) c (nI i) = some (f i) := fun f1 i hi => h_rdI (Hc f1) hi (by omega)
  have rs : ∀ f1 i, i < n → rdI (E b S Q (setC g s (arC n f1))) s (nI i) = some (f1 i) := fun f1 i hi => h_rdI (Hs f1) hi (by omega)
  have ws : ∀ f1 i v, i < n → wrI (E b S Q (setC g s (arC n f1))) s (nI i) v = some (E b S Q (setC g s (arC n (upd f1 i v)))) := fun f1 i v hi => by
    rw [h_wrI (Hs f1) hi (by omega), E_setC (by omega), setC_setC]
  induction rest with
  | nil =>
    intro m i st f1 hd hi hm hdep hsi hpl
    obtain ⟨m, rfl⟩ : ∃ q, m = q + 1 := ⟨m - 1, by simp at hm; omega⟩
    have hL : i = ts.length := by simpa using hi
    rw [fX2_value_6, rp0, bind_sm, rl, bind_sm, if_pos ((nI_leI (by omega) (by omega)).mpr (by omega))]
    simp only [depP, Option.some.injEq] at hdep
    match st, hdep with
    | [y], _ =>
      simp only [List.length_singleton]
      have hn1 : 0 < n := by simp at hsi; omega
      rw [if_neg (by decide), rp1, bind_sm, show (0 : Int32) = nI 0 from rfl, rs _ _ hn1, bind_sm]
      exact ⟨f1, by rw [show f1 0 = y from hpl.top.1]; rfl⟩
  | cons t tl ih =>
    intro m i st f1 hd hi hm hdep hsi hpl
    obtain ⟨m, rfl⟩ : ∃ q, m = q + 1 := ⟨m - 1, by simp at hm; omega⟩
    simp only [List.length_cons] at hi hm
    have hlt : i < ts.length := by omega
    have hti : ts[i]? = some t := by
      have h1 := List.getElem?_drop (xs := ts) (i := i) (j := 0)
      rw [hd] at h1
      simpa using h1.symm
    have htm : t ∈ ts := List.mem_of_getElem? hti
    have hd' : ts.drop (i + 1) = tl := by
      have h1 : ts.drop (i + 1) = (ts.drop i).drop 1 := by rw [List.drop_drop]
      rw [h1, hd]; rfl
    have hv := hf i t hti
    have hk := hok t htm
    have hb9 : encC t < 2 ^ 31 := by
      unfold encC
      rcases hk with ⟨h0, hv'⟩ | ⟨h0, hv'⟩ | h0 | ⟨h0, hv'⟩
      · rw [if_pos h0]; omega
      · rw [if_neg (by omega), if_neg (by omega)]; omega
      · rw [if_neg (by omega), if_pos h0]; omega
      · rw [if_neg (by omega), if_neg (by omega)]; unfold isSg at hv'; omega
    rw [fX2_value_6, rp0, bind_sm, rl, bind_sm, if_neg (fun q => absurd ((nI_leI (by omega) (by omega)).mp q) (by omega)), bind_sm, rc _ _ (by omega), bind_sm, hv]
    simp only [rN]
    simp only [nI_ltI hb9 (show (256 : Nat) < 2 ^ 31 by decide), nI_leI (show (3 : Nat) < 2 ^ 31 by decide) hb9, nI_eq hb9 (show (33 : Nat) < 2 ^ 31 by decide), nI_eq hb9 (show (0 : Nat) < 2 ^ 31 by decide), nI_eq hb9 (show (1 : Nat) < 2 ^ 31 by decide)]
    have go : ∀ (st' : List Int32) (f2 : Nat → Int32), depP st'.length tl = some 1 → st'.length ≤ i + 1 → pileIs f2 st' → ev1 (nm3 x1 x2 x3) st t = st' →
        ∃ f3, fX2_value_6 m (E b S Q (setC g s (arC n f2))) p x1 x2 x3 (nI st'.length) (nI (i + 1)) = some (((t :: tl).foldl (ev1 (nm3 x1 x2 x3)) st).headD 0, E b S Q (setC g s (arC n f3))) := by
      intro st' f2 h1 h2 h3 h5
      have h6 := ih m (i + 1) st' f2 hd' (by omega) (by omega) h1 h2 h3
      rw [List.foldl_cons, h5]
      exact h6
    rcases hk with ⟨h0, hv'⟩ | ⟨h0, hv'⟩ | h0 | ⟨h0, hv'⟩
    · have hE : encC t = 256 + t.2 := by simp [encC, h0]
      rw [hE, if_neg (by omega)]
      simp (disch := omega) only [rp1, bind_sm, ws, nI_subI, Nat.add_sub_cancel_left, nI_add]
      have hdep' : depP (st.length + 1) tl = some 1 := by simpa [depP, h0] using hdep
      exact go (nI t.2 :: st) _ hdep' (by simp; omega) (hpl.push (by simp [upd]) (fun j hj => by simp [upd]; omega)) (by simp [ev1, h0])
    · have hE : encC t = t.2 := by simp [encC, h0]
      rw [hE, if_pos (by omega), if_neg (by omega)]
      have hdep' : depP (st.length + 1) tl = some 1 := by simpa [depP, h0] using hdep
      unfold fX2_value_84
      simp (disch := omega) only [rN, rp1, bind_sm, ws, nI_add, nI_eq]
      have h3 : t.2 = 0 ∨ t.2 = 1 ∨ t.2 = 2 := by omega
      rcases h3 with h3 | h3 | h3
      · rw [if_pos h3]
        exact go (x1 :: st) (upd f1 st.length x1) hdep' (by simp; omega) (hpl.push (by simp [upd]) (fun j hj => by simp [upd]; omega)) (by simp [ev1, h0, h3, nm3])
      · rw [if_neg (by omega), if_pos h3]
        exact go (x2 :: st) (upd f1 st.length x2) hdep' (by simp; omega) (hpl.push (by simp [upd]) (fun j hj => by simp [upd]; omega)) (by simp [ev1, h0, h3, nm3])
      · rw [if_neg (by omega), if_neg (by omega)]
        exact go (x3 :: st) (upd f1 st.length x3) hdep' (by simp; omega) (hpl.push (by simp [upd]) (fun j hj => by simp [upd]; omega)) (by simp [ev1, h0, h3, nm3])
    · have hE : encC t = 33 := by simp [encC, h0]
      rw [hE, if_pos (by omega), if_pos (by omega), if_pos rfl]
      have hd2 : 1 ≤ st.length ∧ depP st.length tl = some 1 := by
        simp only [depP, h0] at hdep
        by_cases h1 : 1 ≤ st.length
        · exact ⟨h1, by simpa [h1] using hdep⟩
        · simp [h1] at hdep
      match st, hpl, hd2, go, hsi with
      | y :: st, hpl, ⟨_, hd3⟩, go, hsi =>
        obtain ⟨p1, p2⟩ := hpl.top
        simp only [List.length_cons] at *
        rw [if_neg (fun q => absurd ((nI_ltI (by omega) (by omega)).mp q) (by omega))]
        simp (disch := omega) only [rp1, rs, ws, bind_sm, nI_subI, Nat.add_sub_cancel, p1, nI_add]
        by_cases hy : y = nI 0
        · rw [if_pos hy]
          exact go (nI 1 :: st) _ hd3 (by simp; omega) (p2.push (by simp [upd]) (fun j hj => by simp [upd]; omega)) (by
            have : y = 0 := hy
            simp [ev1, h0, this]; rfl)
        · rw [if_neg hy]
          exact go (nI 0 :: st) _ hd3 (by simp; omega) (p2.push (by simp [upd]) (fun j hj => by simp [upd]; omega)) (by
            have : ¬ y = 0 := hy
            simp [ev1, h0, this]; rfl)
    · have hE : encC t = t.2 := by simp [encC, h0]
      have hb' : 33 < t.2 ∧ t.2 < 256 := by unfold isSg at hv'; omega
      rw [hE, if_pos (by omega), if_pos (by omega), if_neg (by omega)]
      have hd2 : 2 ≤ st.length ∧ depP (st.length - 1) tl = some 1 := by
        simp only [depP, h0] at hdep
        by_cases h1 : 2 ≤ st.length
        · exact ⟨h1, by simpa [h1] using hdep⟩
        · simp [h1] at hdep
      unfold fX2_value_133
      match st, hpl, hd2, go, hsi with
      | y :: x :: st, hpl, ⟨_, hd3⟩, go, hsi =>
        obtain ⟨p1, p2⟩ := hpl.top
        obtain ⟨p3, p4⟩ := p2.top
        simp only [List.length_cons] at *
        simp (disch := omega) only [rN, nI_ltI]
        rw [if_neg (by omega)]
        simp (disch := omega) only [rp1, rs, ws, bind_sm, nI_subI, nI_addm1, Nat.add_sub_cancel, p1, p3, c_join t.2 hv', nI_add]
        exact go (joinP t.2 x y :: st) _ (by simpa using hd3) (by simp; omega) (p4.push (by simp [upd]) (fun j hj => by simp [upd]; omega)) (by simp [ev1, h0])
theorem c_isTold {ts : List Tk} (hq : LawQ K b g p ts) (hl : ts.length ≤ 60) : fX2_isTold (E b S Q g) p = some (if ts = [] then nI 0 else nI 1) := by
  unfold fX2_isTold
  rcases hq with ⟨rfl, rfl⟩ | ⟨hne, c, s, f, f', h1, h2, h3, h4, k1, k2, k3, o1, o2, o3⟩
  · rw [E_gO (c := 1) (fs := [some 2, some 3]) rfl, E_getR (c := 1) (o := 2) rfl rfl (by decide), bind_sm, E_lenA (c := 2) (n := 0) rfl, bind_sm]
    rfl
  · have e1 : (E b S Q g).1 p = some (.inl (2, [.ref c, .ref s])) := by rw [E_off (by omega)]; exact h1
    have e2 : (E b S Q g).1 c = some (arC ts.length f) := by rw [E_off (by omega)]; exact h2
    rw [h_gO e1, h_getR e1 rfl, bind_sm, h_lenA e2, bind_sm, if_neg hne]
    have : 0 < ts.length := List.length_pos_iff.mpr hne
    rw [show (0 : Int32) = nI 0 from rfl, if_neg (by rw [nI_leI (by omega) (by decide)]; omega)]
    rfl
theorem c_value {ts : List Tk} (hq : LawQ K b g p ts) (hne : ts ≠ []) (hok : txOk ts) : ∃ g', fX2_value (E b S Q g) p x y z = some (evT ts (nm3 x y z), E b S Q g') ∧ Lkg K g g' := by
  rcases hq with ⟨h, -⟩ | ⟨-, c, s, f, f', h1, h2, h3, h4, k1, k2, k3, o1, o2, o3⟩
  · exact absurd h hne
  · have e1 : (E b S Q g).1 p = some (.inl (2, [.ref c, .ref s])) := by rw [E_off (by omega)]; exact h1
    unfold fX2_value
    rw [h_gO e1]
    obtain ⟨f2, e2⟩ := c_value_loop (b := b) (S := S) (Q := Q) (g := g) ts.length p c s ts f rfl h1 h2 h3 o1 o2 o3 (fun q => by rw [q, k3] at k1; cases k1) (fun q => by rw [q, k3] at k2; cases k2) hok.1 hok.2.1 x y z ts 1000 0 [] f' (by simp) (by simp) (by have := hok.1; omega) (hok.2.2 hne) (Nat.le_refl _) (fun j x h => by simp at h)
    rw [setC_eta h4] at e2
    refine ⟨_, e2, rfl, fun a ha => setC_ne (fun q => ha (by rw [q]; exact k3)), fun a ha n f9 hf => ?_⟩
    by_cases hq : a = s
    · subst hq
      rw [h4] at hf
      cases hf
      exact ⟨f2, setC_at⟩
    · exact ⟨f9, by rw [setC_ne hq]; exact hf⟩
end CA
