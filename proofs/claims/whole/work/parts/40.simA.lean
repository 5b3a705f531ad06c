/-! ===== both objects over one state ===== -/
abbrev Dt : Type := Nat × Nat × Nat
/-- what an image keeps: world, texts, tape, waits, book, z, debts -/
abbrev Fs : Type := Wo × Tx × List Nat × List Int32 × List Nat × Int32 × List Dt
def fW (a : Fs) : Wo := a.1
def fT (a : Fs) : Tx := a.2.1
def fTp (a : Fs) : List Nat := a.2.2.1
def fWt (a : Fs) : List Int32 := a.2.2.2.1
def fBk (a : Fs) : List Nat := a.2.2.2.2.1
def fZ (a : Fs) : Int32 := a.2.2.2.2.2.1
def fDb (a : Fs) : List Dt := a.2.2.2.2.2.2
def rowV (f : Nat → Int32) (o : Nat) (l : List Int32) : Prop := ∀ i v, l[i]? = some v → f (o + i) = v
def Finv (a : Fs) : Prop := Winv (fW a) ∧ (fW a).1 0 0 ≤ 9999 ∧ (∀ u, txOk (fT a u)) ∧ ((fTp a).length ≤ 60 ∧ ∀ x ∈ fTp a, x < 256) ∧ (fWt a).length ≤ 24 ∧ ((fBk a).length ≤ 24 ∧ ∀ x ∈ fBk a, x / 10 < 4 ∧ x % 10 < 8) ∧ (fDb a).length ≤ 8 ∧ ∀ d ∈ fDb a, d.1 < (fW a).1 0 1 ∧ d.2.1 < (fW a).1 0 1 ∧ d.2.2 ≤ 999
def tapeC (S : Nat → Nat → Int32) (f : Nat) (l : List Nat) : Prop := S f 3 = nI l.length ∧ rowIs (S (f + 5)) 0 l
def waitC (S : Nat → Nat → Int32) (f : Nat) (l : List Int32) : Prop := S f 5 = nI l.length ∧ rowV (S (f + 6)) 0 l
def bookC (S : Nat → Nat → Int32) (f : Nat) (l : List Nat) : Prop := S f 7 = nI l.length ∧ rowIs (S (f + 7)) 0 l
def debtC (S : Nat → Nat → Int32) (f : Nat) (l : List Dt) : Prop := S (f + 1) 0 = nI l.length ∧ ∀ i d, l[i]? = some d → S (f + 2) i = nI d.1 ∧ S (f + 3) i = nI d.2.1 ∧ S (f + 4) i = nI d.2.2
def tapeM (s : Nat → Int32) (l : List Nat) : Prop := s 5 = nI l.length ∧ rowIs s 374 l
def waitM (s : Nat → Int32) (l : List Int32) : Prop := s 6 = nI l.length ∧ rowV s 434 l
def bookM (s : Nat → Int32) (l : List Nat) : Prop := s 4 = nI l.length ∧ rowIs s 100 l
def debtM (s : Nat → Int32) (l : List Dt) : Prop := s 3 = nI l.length ∧ ∀ i d, l[i]? = some d → s (76 + 3 * i) = nI d.1 ∧ s (76 + 3 * i + 1) = nI d.2.1 ∧ s (76 + 3 * i + 2) = nI d.2.2
/-- the class's Ferry at the cell f -/
def FerC (b : Nat) (K : Nat → Nat) (S : Nat → Nat → Int32) (Q : Nat → Nat → Nat) (g : Hp) (f : Nat) (a : Fs) : Prop := RepW S (f + 8) (fW a) ∧ (LawQ K b g (Q (f + 8) 11) (fT a 0) ∧ LawQ K b g (Q (f + 8) 12) (fT a 1)) ∧ tapeC S f (fTp a) ∧ waitC S f (fWt a) ∧ bookC S f (fBk a) ∧ S f 8 = fZ a ∧ debtC S f (fDb a)
/-- the reference's row -/
def FerM (s : Nat → Int32) (a : Fs) : Prop := RepM s (fW a) ∧ RepT s (fT a) ∧ tapeM s (fTp a) ∧ waitM s (fWt a) ∧ bookM s (fBk a) ∧ s 7 = fZ a ∧ debtM s (fDb a)
def SimE (S : Nat → Nat → Int32) : Prop := ∀ j < 7, S 115 j = S 121 j
def SimV (S : Nat → Nat → Int32) : Prop := ∃ n, n ≤ 30 ∧ S 113 1 = nI n ∧ S 116 20 = nI n ∧ ∀ i < n, S 114 i = S 128 i
def isWd (n : Nat) : Prop := n = 0 ∨ n = 8 ∨ n = 16 ∨ n = 32
def SimS (S : Nat → Nat → Int32) : Prop := ∀ k < 4, (∃ d, isWd d ∧ S 106 k = nI d ∧ S 129 k = nI d) ∧ (∃ n, n ≤ 24 ∧ S 107 k = nI n ∧ S 130 k = nI n) ∧ ∀ i < 24, S (109 + k) i = S 131 (24 * k + i)
def GlobK (b : Nat) (K : Nat → Nat) (g : Hp) : Prop := b + 133 ≤ g.2 ∧ ∀ a, g.2 ≤ a → g.1 a = none ∧ K a = 0
def Cur (b : Nat) (K : Nat → Nat) (S : Nat → Nat → Int32) (Q : Nat → Nat → Nat) (g : Hp) (f r : Nat) : Prop := ∃ a, Finv a ∧ FerC b K S Q g f a ∧ FerM (S r) a
def SimR (b : Nat) (K : Nat → Nat) (S : Nat → Nat → Int32) (Q : Nat → Nat → Nat) (g : Hp) : Prop := (S 0 7 = S 116 4 ∧ (S 116 4 ≠ 0 → Cur b K S Q g 21 118)) ∧ SimE S ∧ SimV S ∧ SimS S ∧ GlobK b K g
def Sim (b : Nat) (K : Nat → Nat) (S : Nat → Nat → Int32) (Q : Nat → Nat → Nat) (g : Hp) : Prop := Cur b K S Q g 4 117 ∧ SimR b K S Q g
section SA
variable {b : Nat} {S S' S1 S2 : Nat → Nat → Int32} {Q Q' : Nat → Nat → Nat} {g g' h : Hp} {f k j p n u c c0 c1 : Nat} {x y z v : Int32} {w : Wo} {T : Tx} {K : Nat → Nat} {a a' : Fs} {s s' : Nat → Int32}
theorem rowIs.fr {f f' : Nat → Int32} {o : Nat} {l : List Nat} (h : rowIs f o l) (hf : ∀ i < l.length, f' (o + i) = f (o + i)) : rowIs f' o l := fun i v hv => by
  rw [hf i (List.getElem?_eq_some_iff.mp hv).1]; exact h i v hv
theorem rowV.fr {f f' : Nat → Int32} {o : Nat} {l : List Int32} (h : rowV f o l) (hf : ∀ i < l.length, f' (o + i) = f (o + i)) : rowV f' o l := fun i v hv => by
  rw [hf i (List.getElem?_eq_some_iff.mp hv).1]; exact h i v hv
theorem RepW.fr (h : RepW S c w) (hf : ∀ m < 9, S' (c + m) = S (c + m)) : RepW S' c w := by
  have e : S' c = S c := hf 0 (by decide)
  have e1 := hf 1 (by decide)
  have e2 := hf 2 (by decide)
  have e3 := hf 3 (by decide)
  have e4 := hf 4 (by decide)
  have e5 := hf 5 (by decide)
  have e6 := hf 6 (by decide)
  have e7 := hf 7 (by decide)
  have e8 := hf 8 (by decide)
  unfold RepW
  rw [e, e1, e2, e3, e4, e5, e6, e7, e8]
  exact h
theorem FerC.fr (h : FerC b K S Q g f a) (hf : ∀ m < 17, S' (f + m) = S (f + m)) (hQ : Q' (f + 8) = Q (f + 8)) (hk : Lkg K g g') : FerC b K S' Q' g' f a := by
  obtain ⟨h1, ⟨h2, h3⟩, h4, h5, h6, h7, h8⟩ := h
  have e0 : S' f = S f := hf 0 (by decide)
  have e1 := hf 1 (by decide)
  have e2 := hf 2 (by decide)
  have e3 := hf 3 (by decide)
  have e4 := hf 4 (by decide)
  have e5 := hf 5 (by decide)
  have e6 := hf 6 (by decide)
  have e7 := hf 7 (by decide)
  refine ⟨h1.fr (fun m hm => ?_), ⟨?_, ?_⟩, ?_, ?_, ?_, ?_, ?_⟩
  · rw [Nat.add_assoc]; exact hf (8 + m) (by omega)
  · rw [hQ]; exact h2.lk hk
  · rw [hQ]; exact h3.lk hk
  · unfold tapeC; rw [e0, e5]; exact h4
  · unfold waitC; rw [e0, e6]; exact h5
  · unfold bookC; rw [e0, e7]; exact h6
  · rw [e0]; exact h7
  · unfold debtC; rw [e1, e2, e3, e4]; exact h8
theorem Cur.fr {r : Nat} (h : Cur b K S Q g f r) (hf : ∀ m < 17, S' (f + m) = S (f + m)) (hr : S' r = S r) (hQ : Q' (f + 8) = Q (f + 8)) (hk : Lkg K g g') : Cur b K S' Q' g' f r := by
  obtain ⟨a, h1, h2, h3⟩ := h
  exact ⟨a, h1, h2.fr hf hQ hk, by rw [hr]; exact h3⟩
theorem GlobK.lk (h : GlobK b K g) (hk : Lkg K g g') : GlobK b K g' := ⟨by rw [hk.1]; exact h.1, fun a ha => by
  rw [hk.1] at ha
  obtain ⟨h1, h2⟩ := h.2 a ha
  rw [hk.2.1 a (by rw [h2]; decide)]
  exact ⟨h1, h2⟩⟩
/-- an error told by both -/
theorem c_refuse (hx : j < 7) : fX8_refuse (E b S Q g) b (nI j) = some (-1000000000 - nI j, E b (up2 S 115 j (S 115 j + nI 1)) Q g) := by
  unfold fX8_refuse
  have r := rF b S Q g
  have r0 : (∀ {α : Type} {B : Option α}, gO (E b S Q g) 8 b B = B) := fun {α} {B} => by have := E_gO (b := b) (S := S) (Q := Q) (g := g) (c := 0) (B := B) rfl; simpa using this
  have r1 : getR (E b S Q g) 8 b 6 = some (b + 115) := by have := E_getR (b := b) (S := S) (Q := Q) (g := g) (c := 0) (j := 6) (o := 115) rfl rfl (by decide); simpa using this
  simp (disch := omega) only [r0, r1, rV, rN, bind_sm]
theorem m_error (hx : j < 7) : fX9_error (E b S Q g) (b + 116) (nI j) = some (-1000000000 - nI j, E b (up2 S 121 j (S 121 j + nI 1)) Q g) := by
  unfold fX9_error
  simp (disch := omega) only [rM, rN, bind_sm]
theorem Sim.err (h : Sim b K S Q g) (hj : j < 7) : Sim b K (up2 (up2 S 115 j (S 115 j + nI 1)) 121 j (up2 S 115 j (S 115 j + nI 1) 121 j + nI 1)) Q g := by
  obtain ⟨h1, ⟨h2, h3⟩, h4, h5, h6, h7⟩ := h
  have ne : ∀ r, r ≠ 115 → r ≠ 121 → up2 (up2 S 115 j (S 115 j + nI 1)) 121 j (up2 S 115 j (S 115 j + nI 1) 121 j + nI 1) r = S r := fun r a1 a2 => by rw [up2_row (by omega), up2_row (by omega)]
  refine ⟨h1.fr (fun m hm => ne _ (by omega) (by omega)) (ne _ (by omega) (by omega)) rfl Lkg.rf, ⟨by rw [ne 0 (by omega) (by omega), ne 116 (by omega) (by omega)]; exact h2, fun hn => ?_⟩, fun i hi => ?_, ?_, ?_, h7⟩
  · rw [ne 116 (by omega) (by omega)] at hn
    exact (h3 hn).fr (fun m hm => ne _ (by omega) (by omega)) (ne _ (by omega) (by omega)) rfl Lkg.rf
  · rw [up2_ne (by omega), up2_at, up2_at, up2_ne (by omega), up2_ne (by omega)]
    split
    · rw [h4 j hj]
    · exact h4 i hi
  · unfold SimV
    rw [ne 113 (by omega) (by omega), ne 116 (by omega) (by omega), ne 114 (by omega) (by omega), ne 128 (by omega) (by omega)]
    exact h5
  · intro k hk
    rw [ne 106 (by omega) (by omega), ne 107 (by omega) (by omega), ne 129 (by omega) (by omega), ne 130 (by omega) (by omega), ne 131 (by omega) (by omega), ne (109 + k) (by omega) (by omega)]
    exact h6 k hk
/-- what the class may change in an act on its state now, and the reference -/
def OffC (S S1 : Nat → Nat → Int32) : Prop := ∀ r, r < 4 ∨ (21 ≤ r ∧ r < 38) ∨ 105 ≤ r → S1 r = S r
def OffR (S S2 : Nat → Nat → Int32) : Prop := (∀ r, r < 116 ∨ r = 118 ∨ r = 121 ∨ (128 ≤ r ∧ r < 132) → S2 r = S r) ∧ S2 116 4 = S 116 4 ∧ S2 116 20 = S 116 20
theorem OffC.rf : OffC S S := fun _ _ => rfl
theorem OffR.rf : OffR S S := ⟨fun _ _ => rfl, rfl, rfl⟩
theorem OffR.of {X : List Nat} (h : Off X S S2) (hX : ∀ r ∈ X, ¬ (r ≤ 116 ∨ r = 118 ∨ r = 121 ∨ (128 ≤ r ∧ r < 132))) : OffR S S2 := ⟨fun r hr => h r (fun q => hX r q (by omega)), by rw [h 116 (fun q => hX 116 q (by omega))], by rw [h 116 (fun q => hX 116 q (by omega))]⟩
theorem OffC.ofW (h : OffW 12 S S1) : OffC S S1 := fun r hr => h r (by omega)
/-- an act on the state now: both sides told apart -/
theorem Sim.act (h : Sim b K S Q g) (hc : OffC S S1) (hr : OffR S1 S2) (hk : Lkg K g g') (hQ : Q' 29 = Q 29) (hg : GlobK b K g') (hF : Finv a) (h1 : FerC b K S1 Q' g' 4 a) (h2 : FerM (S2 117) a) : Sim b K S2 Q' g' := by
  obtain ⟨_, ⟨i1, i2⟩, i3, i4, i5, i6⟩ := h
  have ne : ∀ r, r < 4 ∨ (21 ≤ r ∧ r < 38) ∨ (105 ≤ r ∧ r < 116) ∨ r = 118 ∨ r = 121 ∨ (128 ≤ r ∧ r < 132) → S2 r = S r := fun r q => (hr.1 r (by omega)).trans (hc r (by omega))
  have e4 : S2 116 4 = S 116 4 := by rw [hr.2.1, hc 116 (by omega)]
  have e20 : S2 116 20 = S 116 20 := by rw [hr.2.2, hc 116 (by omega)]
  refine ⟨⟨a, hF, h1.fr (fun m hm => hr.1 _ (by omega)) rfl Lkg.rf, h2⟩, ⟨by rw [ne 0 (by omega), e4]; exact i1, fun hn => ?_⟩, fun j hj => ?_, ?_, ?_, hg⟩
  · rw [e4] at hn
    exact (i2 hn).fr (fun m hm => ne _ (by omega)) (ne _ (by omega)) hQ hk
  · rw [ne 115 (by omega), ne 121 (by omega)]; exact i3 j hj
  · unfold SimV
    rw [ne 113 (by omega), e20, ne 114 (by omega), ne 128 (by omega)]
    exact i4
  · intro k hk
    rw [ne 106 (by omega), ne 107 (by omega), ne 129 (by omega), ne 130 (by omega), ne 131 (by omega), ne (109 + k) (by omega)]
    exact i5 k hk
end SA
