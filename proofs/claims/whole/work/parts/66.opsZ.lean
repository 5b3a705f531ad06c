/-! ===== voices: the class ===== -/
section OZ
variable {b : Nat} {S S' S1 S2 S3 S5 S6 : Nat → Nat → Int32} {Q Q' Q1 : Nat → Nat → Nat} {g g' g1 h : Hp} {f k j p q n u c c0 c1 lo hi i e m k0 : Nat} {x y z v r : Int32} {w : Wo} {T : Tx} {K K2 : Nat → Nat} {a a' : Fs} {s s' s0 : Nat → Int32} {t : Dt} {l : List Nat} {st : List Nat × Bool}

/-- the numbers of bodies, as they stand for kinds and voices -/
def bodyP (kd vo : Nat) : Nat :=
  if vo = 0 then (if kd = 1 then 20 else if kd = 4 then 50 else if kd = 6 then 70 else 10)
  else if vo = 1 then (if kd = 2 then 30 else if kd = 5 then 60 else if kd = 6 then 71 else 11)
  else if vo = 2 then (if kd = 3 then 40 else if kd = 4 then 51 else 12)
  else (if kd = 1 then 21 else if kd = 4 then 21 else 13)
def begP (tr : List Nat) (B : Nat) : List Nat := if tr.length < 30 then tr ++ [B] else tr
def VC (k0 m k : Nat) (S : Nat → Nat → Int32) (st : List Nat × Bool) : Prop := S 113 3 = nI k0 ∧ S 113 4 = nI m ∧ S 113 5 = nI k ∧ S 113 1 = nI st.1.length ∧ S 113 2 = (if st.2 = true then nI 1 else nI 0) ∧ rowIs (S 114) 0 st.1 ∧ st.1.length ≤ 30
def OffV (S S' : Nat → Nat → Int32) : Prop := ∀ r, r ≠ 113 → r ≠ 114 → S' r = S r
theorem OffV.tr (h : OffV S S1) (h' : OffV S1 S2) : OffV S S2 := fun r h1 h2 => (h' r h1 h2).trans (h r h1 h2)
theorem gO_V {α : Type} {B : Option α} : gO (E b S Q g) 5 (b + 113) B = B := E_gO (c := 113) rfl
theorem getI_V1 : getI (E b S Q g) 5 (b + 113) 1 = some (S 113 1) := by simp only [rV]
theorem getI_V2 : getI (E b S Q g) 5 (b + 113) 2 = some (S 113 2) := by simp only [rV]
theorem getI_V3 : getI (E b S Q g) 5 (b + 113) 3 = some (S 113 3) := by simp only [rV]
theorem getI_V4 : getI (E b S Q g) 5 (b + 113) 4 = some (S 113 4) := by simp only [rV]
theorem getI_V5 : getI (E b S Q g) 5 (b + 113) 5 = some (S 113 5) := by simp only [rV]
theorem body_h (h h' : Hp) (x1 : Int32) : ∀ (m : Nat) (x2 x3 : Int32), fX5_bodyFrom_4 h m x1 x2 x3 = fX5_bodyFrom_4 h' m x1 x2 x3
  | 0, _, _ => rfl
  | m + 1, x2, x3 => by
    rw [fX5_bodyFrom_4, fX5_bodyFrom_4]
    simp only [body_h h h' x1 m]
theorem body_more (h : Hp) (x1 : Int32) (r : Int32) : ∀ (m d : Nat) (x2 x3 : Int32), fX5_bodyFrom_4 h m x1 x2 x3 = some r → fX5_bodyFrom_4 h (m + d) x1 x2 x3 = some r
  | 0, _, _, _, e => by cases e
  | m + 1, d, x2, x3, e => by
    rw [show m + 1 + d = (m + d) + 1 by omega]
    rw [fX5_bodyFrom_4] at e ⊢
    split
    next h1 => rw [if_pos h1] at e; exact e
    next h1 =>
      rw [if_neg h1] at e
      split
      next h2 => rw [if_pos h2] at e; exact e
      next h2 =>
        rw [if_neg h2] at e
        obtain ⟨v, hv, e⟩ := bind_some e
        rw [hv, bind_sm]
        split
        next h3 =>
          rw [if_pos h3] at e
          obtain ⟨v', hv', e⟩ := bind_some e
          rw [hv', bind_sm]
          exact body_more h x1 r m d v' _ e
        next h3 => rw [if_neg h3] at e; exact e
theorem body_tab : ∀ a < 7, ∀ c < 4, fX5_bodyFrom_4 (fun _ => none, 0) 9 (nI c) (nI a) 0 = some (nI (bodyP a c)) := by decide +kernel
theorem c_bodyFrom (h : Hp) {kd vo : Nat} (hk : kd < 7) (hv : vo < 4) : fX5_bodyFrom h (nI kd) (nI vo) = some (nI (bodyP kd vo)) := by
  unfold fX5_bodyFrom
  exact body_more h _ _ 9 991 _ _ ((body_h h (fun _ => none, 0) _ 9 _ _).trans (body_tab kd hk vo hv))
theorem begP_len {tr : List Nat} {B : Nat} (h : tr.length ≤ 30) : (begP tr B).length ≤ 30 := by
  unfold begP
  split
  · rw [List.length_append]; simp; omega
  · exact h
theorem c_begin (hV : VC k0 m k S st) (B : Nat) : ∃ S', fX5_begin (E b S Q g) (b + 113) (nI B) = some (E b S' Q g) ∧ VC k0 m k S' (begP st.1 B, st.2) ∧ OffV S S' := by
  obtain ⟨v3, v4, v5, v1, v2, v6, v7⟩ := hV
  obtain ⟨n, hn⟩ : ∃ n, st.1.length = n := ⟨_, rfl⟩
  rw [hn] at v1 v7
  by_cases h30 : n < 30
  · have e : begP st.1 B = st.1 ++ [B] := by unfold begP; rw [hn, if_pos h30]
    obtain ⟨S1, hS1⟩ : ∃ S1, S1 = up2 (up2 S 114 n (nI B)) 113 1 (nI (n + 1)) := ⟨_, rfl⟩
    have n3 : ∀ j, j ≠ 1 → S1 113 j = S 113 j := fun j hj => by rw [hS1, up2_at, if_neg hj, up2_ne (by decide)]
    refine ⟨S1, ?_, ⟨by rw [n3 _ (by decide)]; exact v3, by rw [n3 _ (by decide)]; exact v4, by rw [n3 _ (by decide)]; exact v5, ?_, by rw [n3 _ (by decide)]; exact v2, ?_, begP_len (by rw [hn]; exact v7)⟩, fun r h1 h2 => by rw [hS1, up2_row (by omega), up2_row (by omega)]⟩
    · unfold fX5_begin
      rw [gO_V, getI_V1, v1, bind_sm, if_neg (show ¬ (30 : Int32) ≤ nI n from fun q => absurd ((nI_leI (by decide) (by omega) : nI 30 ≤ nI n ↔ 30 ≤ n).mp q) (by omega))]
      simp (disch := omega) only [rV, bind_sm]
      rw [up2_ne (show 113 ≠ 114 by decide), v1, show (1 : Int32) = nI 1 from rfl, nI_add, ← hS1]
    · show S1 113 1 = nI (begP st.1 B).length
      rw [e, List.length_append, hn, hS1, up2_at, if_pos rfl]; rfl
    · show rowIs (S1 114) 0 (begP st.1 B)
      rw [e]
      refine v6.snoc ?_ (fun i hi => ?_)
      · rw [hn, Nat.zero_add, hS1, up2_ne (by decide), up2_at, if_pos rfl]
      · rw [hS1, up2_ne (by decide), up2_at, if_neg (by omega)]
  · have e : begP st.1 B = st.1 := by unfold begP; rw [hn, if_neg h30]
    refine ⟨S, ?_, ⟨v3, v4, v5, by show _ = nI (begP st.1 B).length; rw [e, hn]; exact v1, v2, by show rowIs _ 0 (begP st.1 B); rw [e]; exact v6, by show (begP st.1 B).length ≤ 30; rw [e, hn]; exact v7⟩, fun _ _ _ => rfl⟩
    unfold fX5_begin
    rw [gO_V, getI_V1, v1, bind_sm, if_pos (show (30 : Int32) ≤ nI n from (nI_leI (by decide) (by omega) : nI 30 ≤ nI n ↔ 30 ≤ n).mpr (by omega))]
theorem say_10 (hV : VC k0 m k S st) (hb : fX5_bodyFrom (E b S Q g) y z = some (nI 10)) {d : Nat} (hd : d < 30) : ∃ S1, VC k0 m k S1 (begP st.1 10, st.2) ∧ OffV S S1 ∧ gX5_say (n + 1) (E b S Q g) (b + 113) y z x (nI d) = some (x + nI k, E b S1 Q g) := by
  obtain ⟨S1, e1, v1, o1⟩ := c_begin (b := b) (Q := Q) (g := g) hV 10
  refine ⟨S1, v1, o1, ?_⟩
  rw [gX5_say, bX5_say, hb, bind_sm, if_neg (by decide), if_pos (show nI d < 30 from (nI_ltI (by omega) (by decide)).mpr hd), e1, bind_sm, show dvz (nI 10) 10 = some (nI 1) by decide, bind_sm, show rdT 7 tabA (nI 1 - 1) = some (-1) by decide, bind_sm, if_pos (by decide)]
  obtain ⟨v3, v4, v5, -⟩ := v1
  rw [getI_V5, v5, bind_sm]
theorem say_11 (hV : VC k0 m k S st) (hb : fX5_bodyFrom (E b S Q g) y z = some (nI 11)) {d : Nat} (hd : d < 30) : ∃ S1, VC k0 m k S1 (begP st.1 11, st.2) ∧ OffV S S1 ∧ gX5_say (n + 1) (E b S Q g) (b + 113) y z x (nI d) = (gX5_say n (E b S1 Q g) (b + 113) (nI k0) (nI 0) x (nI (d + 1))).bind fun q => some (q.1 * nI 2, q.2) := by
  obtain ⟨S1, e1, v1, o1⟩ := c_begin (b := b) (Q := Q) (g := g) hV 11
  refine ⟨S1, v1, o1, ?_⟩
  rw [gX5_say, bX5_say, hb, bind_sm, if_neg (by decide), if_pos (show nI d < 30 from (nI_ltI (by omega) (by decide)).mpr hd), e1, bind_sm, show dvz (nI 11) 10 = some (nI 1) by decide, bind_sm, show rdT 7 tabA (nI 1 - 1) = some (-1) by decide, bind_sm, if_neg (by decide), if_pos (by decide)]
  obtain ⟨v3, v4, v5, -⟩ := v1
  rw [getI_V3, v3, bind_sm, show nI d + 1 = nI (d + 1) from nI_add d 1]
  rfl
theorem say_12 (hV : VC k0 m k S st) (hb : fX5_bodyFrom (E b S Q g) y z = some (nI 12)) {d : Nat} (hd : d < 30) : ∃ S1, VC k0 m k S1 (begP st.1 12, st.2) ∧ OffV S S1 ∧ gX5_say (n + 1) (E b S Q g) (b + 113) y z x (nI d) = (gX5_say n (E b S1 Q g) (b + 113) (nI k0) (nI 1) x (nI (d + 1))).bind fun q195 => (getI q195.2 5 (b + 113) 4).bind fun v199 => some (q195.1 - v199, q195.2) := by
  obtain ⟨S1, e1, v1, o1⟩ := c_begin (b := b) (Q := Q) (g := g) hV 12
  refine ⟨S1, v1, o1, ?_⟩
  rw [gX5_say, bX5_say, hb, bind_sm, if_neg (by decide), if_pos (show nI d < 30 from (nI_ltI (by omega) (by decide)).mpr hd), e1, bind_sm, show dvz (nI 12) 10 = some (nI 1) by decide, bind_sm, show rdT 7 tabA (nI 1 - 1) = some (-1) by decide, bind_sm, if_neg (by decide), if_neg (by decide), if_pos (by decide)]
  obtain ⟨v3, v4, v5, -⟩ := v1
  rw [getI_V3, v3, bind_sm, show nI d + 1 = nI (d + 1) from nI_add d 1]
  rfl
theorem say_13 (hV : VC k0 m k S st) (hb : fX5_bodyFrom (E b S Q g) y z = some (nI 13)) {d : Nat} (hd : d < 30) : ∃ S1, VC k0 m k S1 (begP st.1 13, st.2) ∧ OffV S S1 ∧ gX5_say (n + 1) (E b S Q g) (b + 113) y z x (nI d) = (fX5_part (E b S1 Q g) (b + 113) x).bind fun q206 => some (q206.1, q206.2) := by
  obtain ⟨S1, e1, v1, o1⟩ := c_begin (b := b) (Q := Q) (g := g) hV 13
  refine ⟨S1, v1, o1, ?_⟩
  rw [gX5_say, bX5_say, hb, bind_sm, if_neg (by decide), if_pos (show nI d < 30 from (nI_ltI (by omega) (by decide)).mpr hd), e1, bind_sm, show dvz (nI 13) 10 = some (nI 1) by decide, bind_sm, show rdT 7 tabA (nI 1 - 1) = some (-1) by decide, bind_sm, if_neg (by decide), if_neg (by decide), if_neg (by decide), if_pos (by decide)]
theorem say_20 (hV : VC k0 m k S st) (hb : fX5_bodyFrom (E b S Q g) y z = some (nI 20)) {d : Nat} (hd : d < 30) : ∃ S1, VC k0 m k S1 (begP st.1 20, st.2) ∧ OffV S S1 ∧ gX5_say (n + 1) (E b S Q g) (b + 113) y z x (nI d) = (gX5_say n (E b S1 Q g) (b + 113) (nI 0) (nI 0) x (nI (d + 1))).bind fun q => some (q.1 - nI 5, q.2) := by
  obtain ⟨S1, e1, v1, o1⟩ := c_begin (b := b) (Q := Q) (g := g) hV 20
  refine ⟨S1, v1, o1, ?_⟩
  rw [gX5_say, bX5_say, hb, bind_sm, if_neg (by decide), if_pos (show nI d < 30 from (nI_ltI (by omega) (by decide)).mpr hd), e1, bind_sm, show dvz (nI 20) 10 = some (nI 2) by decide, bind_sm, show rdT 7 tabA (nI 2 - 1) = some (nI 0) by decide, bind_sm, if_neg (by decide), if_neg (by decide), if_neg (by decide), if_neg (by decide), if_pos (by decide)]
  obtain ⟨v3, v4, v5, -⟩ := v1
  rw [show nI d + 1 = nI (d + 1) from nI_add d 1]
  try rfl
theorem say_21 (hV : VC k0 m k S st) (hb : fX5_bodyFrom (E b S Q g) y z = some (nI 21)) {d : Nat} (hd : d < 30) : ∃ S1, VC k0 m k S1 (begP st.1 21, st.2) ∧ OffV S S1 ∧ gX5_say (n + 1) (E b S Q g) (b + 113) y z x (nI d) = (gX5_say n (E b S1 Q g) (b + 113) (nI 0) (nI 3) x (nI (d + 1))).bind fun q230 => (getI q230.2 5 (b + 113) 2).bind fun v236 => if v236 = nI 0 then (getI q230.2 5 (b + 113) 3).bind fun v250 => (gX5_say n q230.2 (b + 113) v250 (nI 1) (nI 1) (nI (d + 1))).bind fun q257 => some (q230.1 + q257.1, q257.2) else some (nI 0, q230.2) := by
  obtain ⟨S1, e1, v1, o1⟩ := c_begin (b := b) (Q := Q) (g := g) hV 21
  refine ⟨S1, v1, o1, ?_⟩
  rw [gX5_say, bX5_say, hb, bind_sm, if_neg (by decide), if_pos (show nI d < 30 from (nI_ltI (by omega) (by decide)).mpr hd), e1, bind_sm, show dvz (nI 21) 10 = some (nI 2) by decide, bind_sm, show rdT 7 tabA (nI 2 - 1) = some (nI 0) by decide, bind_sm, if_neg (by decide), if_neg (by decide), if_neg (by decide), if_neg (by decide), if_neg (by decide), if_pos (by decide)]
  obtain ⟨v3, v4, v5, -⟩ := v1
  rw [show nI d + 1 = nI (d + 1) from nI_add d 1]
  try rfl
theorem say_30 (hV : VC k0 m k S st) (hb : fX5_bodyFrom (E b S Q g) y z = some (nI 30)) {d : Nat} (hd : d < 30) : ∃ S1, VC k0 m k S1 (begP st.1 30, st.2) ∧ OffV S S1 ∧ gX5_say (n + 1) (E b S Q g) (b + 113) y z x (nI d) = (gX5_say n (E b S1 Q g) (b + 113) (nI 0) (nI 1) x (nI (d + 1))).bind fun q => some (-q.1, q.2) := by
  obtain ⟨S1, e1, v1, o1⟩ := c_begin (b := b) (Q := Q) (g := g) hV 30
  refine ⟨S1, v1, o1, ?_⟩
  rw [gX5_say, bX5_say, hb, bind_sm, if_neg (by decide), if_pos (show nI d < 30 from (nI_ltI (by omega) (by decide)).mpr hd), e1, bind_sm, show dvz (nI 30) 10 = some (nI 3) by decide, bind_sm, show rdT 7 tabA (nI 3 - 1) = some (nI 0) by decide, bind_sm, if_neg (by decide), if_neg (by decide), if_neg (by decide), if_neg (by decide), if_neg (by decide), if_neg (by decide), if_pos (by decide)]
  obtain ⟨v3, v4, v5, -⟩ := v1
  rw [show nI d + 1 = nI (d + 1) from nI_add d 1]
  try rfl
theorem say_40 (hV : VC k0 m k S st) (hb : fX5_bodyFrom (E b S Q g) y z = some (nI 40)) {d : Nat} (hd : d < 30) : ∃ S1, VC k0 m k S1 (begP st.1 40, st.2) ∧ OffV S S1 ∧ gX5_say (n + 1) (E b S Q g) (b + 113) y z x (nI d) = (gX5_say n (E b S1 Q g) (b + 113) (nI 0) (nI 2) (x / nI 2) (nI (d + 1))).bind fun q => some (q.1, q.2) := by
  obtain ⟨S1, e1, v1, o1⟩ := c_begin (b := b) (Q := Q) (g := g) hV 40
  refine ⟨S1, v1, o1, ?_⟩
  rw [gX5_say, bX5_say, hb, bind_sm, if_neg (by decide), if_pos (show nI d < 30 from (nI_ltI (by omega) (by decide)).mpr hd), e1, bind_sm, show dvz (nI 40) 10 = some (nI 4) by decide, bind_sm, show rdT 7 tabA (nI 4 - 1) = some (nI 0) by decide, bind_sm, if_neg (by decide), if_neg (by decide), if_neg (by decide), if_neg (by decide), if_neg (by decide), if_neg (by decide), if_neg (by decide), if_pos (by decide)]
  obtain ⟨v3, v4, v5, -⟩ := v1
  rw [show dvz x 2 = some (x / nI 2) from rfl, bind_sm, show nI d + 1 = nI (d + 1) from nI_add d 1]
  try rfl
theorem say_50 (hV : VC k0 m k S st) (hb : fX5_bodyFrom (E b S Q g) y z = some (nI 50)) {d : Nat} (hd : d < 30) : ∃ S1, VC k0 m k S1 (begP st.1 50, st.2) ∧ OffV S S1 ∧ gX5_say (n + 1) (E b S Q g) (b + 113) y z x (nI d) = (gX5_say n (E b S1 Q g) (b + 113) (nI 1) (nI 0) x (nI (d + 1))).bind fun q => some (q.1 * nI 3, q.2) := by
  obtain ⟨S1, e1, v1, o1⟩ := c_begin (b := b) (Q := Q) (g := g) hV 50
  refine ⟨S1, v1, o1, ?_⟩
  rw [gX5_say, bX5_say, hb, bind_sm, if_neg (by decide), if_pos (show nI d < 30 from (nI_ltI (by omega) (by decide)).mpr hd), e1, bind_sm, show dvz (nI 50) 10 = some (nI 5) by decide, bind_sm, show rdT 7 tabA (nI 5 - 1) = some (nI 1) by decide, bind_sm, if_neg (by decide), if_neg (by decide), if_neg (by decide), if_neg (by decide), if_neg (by decide), if_neg (by decide), if_neg (by decide), if_neg (by decide), if_pos (by decide)]
  obtain ⟨v3, v4, v5, -⟩ := v1
  rw [show nI d + 1 = nI (d + 1) from nI_add d 1]
  try rfl
theorem say_51 (hV : VC k0 m k S st) (hb : fX5_bodyFrom (E b S Q g) y z = some (nI 51)) {d : Nat} (hd : d < 30) : ∃ S1, VC k0 m k S1 (begP st.1 51, st.2) ∧ OffV S S1 ∧ gX5_say (n + 1) (E b S Q g) (b + 113) y z x (nI d) = (gX5_say n (E b S1 Q g) (b + 113) (nI 1) (nI 2) x (nI (d + 1))).bind fun q307 => (getI q307.2 5 (b + 113) 5).bind fun v311 => some (q307.1 ^^^ v311, q307.2) := by
  obtain ⟨S1, e1, v1, o1⟩ := c_begin (b := b) (Q := Q) (g := g) hV 51
  refine ⟨S1, v1, o1, ?_⟩
  rw [gX5_say, bX5_say, hb, bind_sm, if_neg (by decide), if_pos (show nI d < 30 from (nI_ltI (by omega) (by decide)).mpr hd), e1, bind_sm, show dvz (nI 51) 10 = some (nI 5) by decide, bind_sm, show rdT 7 tabA (nI 5 - 1) = some (nI 1) by decide, bind_sm, if_neg (by decide), if_neg (by decide), if_neg (by decide), if_neg (by decide), if_neg (by decide), if_neg (by decide), if_neg (by decide), if_neg (by decide), if_neg (by decide), if_pos (by decide)]
  obtain ⟨v3, v4, v5, -⟩ := v1
  rw [show nI d + 1 = nI (d + 1) from nI_add d 1]
  try rfl
theorem say_60 (hV : VC k0 m k S st) (hb : fX5_bodyFrom (E b S Q g) y z = some (nI 60)) {d : Nat} (hd : d < 30) : ∃ S1, VC k0 m k S1 (begP st.1 60, st.2) ∧ OffV S S1 ∧ gX5_say (n + 1) (E b S Q g) (b + 113) y z x (nI d) = (gX5_say n (E b S1 Q g) (b + 113) (nI 2) (nI 1) (x + nI 1) (nI (d + 1))).bind fun q => some (q.1, q.2) := by
  obtain ⟨S1, e1, v1, o1⟩ := c_begin (b := b) (Q := Q) (g := g) hV 60
  refine ⟨S1, v1, o1, ?_⟩
  rw [gX5_say, bX5_say, hb, bind_sm, if_neg (by decide), if_pos (show nI d < 30 from (nI_ltI (by omega) (by decide)).mpr hd), e1, bind_sm, show dvz (nI 60) 10 = some (nI 6) by decide, bind_sm, show rdT 7 tabA (nI 6 - 1) = some (nI 2) by decide, bind_sm, if_neg (by decide), if_neg (by decide), if_neg (by decide), if_neg (by decide), if_neg (by decide), if_neg (by decide), if_neg (by decide), if_neg (by decide), if_neg (by decide), if_neg (by decide), if_pos (by decide)]
  obtain ⟨v3, v4, v5, -⟩ := v1
  rw [show nI d + 1 = nI (d + 1) from nI_add d 1]
  try rfl
theorem say_70 (hV : VC k0 m k S st) (hb : fX5_bodyFrom (E b S Q g) y z = some (nI 70)) {d : Nat} (hd : d < 30) : ∃ S1, VC k0 m k S1 (begP st.1 70, st.2) ∧ OffV S S1 ∧ gX5_say (n + 1) (E b S Q g) (b + 113) y z x (nI d) = some (nI 3, E b S1 Q g) := by
  obtain ⟨S1, e1, v1, o1⟩ := c_begin (b := b) (Q := Q) (g := g) hV 70
  refine ⟨S1, v1, o1, ?_⟩
  rw [gX5_say, bX5_say, hb, bind_sm, if_neg (by decide), if_pos (show nI d < 30 from (nI_ltI (by omega) (by decide)).mpr hd), e1, bind_sm, show dvz (nI 70) 10 = some (nI 7) by decide, bind_sm, show rdT 7 tabA (nI 7 - 1) = some (nI 0) by decide, bind_sm, if_neg (by decide), if_neg (by decide), if_neg (by decide), if_neg (by decide), if_neg (by decide), if_neg (by decide), if_neg (by decide), if_neg (by decide), if_neg (by decide), if_neg (by decide), if_neg (by decide), if_pos (by decide)]
  rfl
theorem say_71 (hV : VC k0 m k S st) (hb : fX5_bodyFrom (E b S Q g) y z = some (nI 71)) {d : Nat} (hd : d < 30) : ∃ S1, VC k0 m k S1 (begP st.1 71, st.2) ∧ OffV S S1 ∧ gX5_say (n + 1) (E b S Q g) (b + 113) y z x (nI d) = (gX5_say n (E b S1 Q g) (b + 113) (nI 0) (nI 1) x (nI (d + 1))).bind fun q338 => (getI q338.2 5 (b + 113) 4).bind fun v342 => some (q338.1 + v342, q338.2) := by
  obtain ⟨S1, e1, v1, o1⟩ := c_begin (b := b) (Q := Q) (g := g) hV 71
  refine ⟨S1, v1, o1, ?_⟩
  rw [gX5_say, bX5_say, hb, bind_sm, if_neg (by decide), if_pos (show nI d < 30 from (nI_ltI (by omega) (by decide)).mpr hd), e1, bind_sm, show dvz (nI 71) 10 = some (nI 7) by decide, bind_sm, show rdT 7 tabA (nI 7 - 1) = some (nI 0) by decide, bind_sm, if_neg (by decide), if_neg (by decide), if_neg (by decide), if_neg (by decide), if_neg (by decide), if_neg (by decide), if_neg (by decide), if_neg (by decide), if_neg (by decide), if_neg (by decide), if_neg (by decide), if_neg (by decide), if_pos (by decide)]
  obtain ⟨v3, v4, v5, -⟩ := v1
  rw [show nI d + 1 = nI (d + 1) from nI_add d 1]
  try rfl
end OZ
