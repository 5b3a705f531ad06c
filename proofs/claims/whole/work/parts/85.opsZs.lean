/-! ===== texts: the act ===== -/
section OZs
variable {b v' : Nat} {K K1 : Nat → Nat} {S S' S1 S2 S3 S5 S6 : Nat → Nat → Int32} {Q Q' Q1 Q2 : Nat → Nat → Nat} {g g' g1 g2 h : Hp} {f k j p q n u c c0 c1 lo hi i e m d rd cd a use op lv left len ci r : Nat} {x y z v sz ax lx : Int32} {T : Tx} {tp : List Nat} {fu fu' : Nat → Int32} {cdt toks ts : List Tk} {fs : List Value} {w : Value} {ce : Ce} {s : Fs} {o : Ou}

theorem m_text101 (hu : use < 2) (hn : n ≤ 60) : ∀ m i S, i ≤ 2 * n → 2 * n - i < m → S 116 8 = nI n → ∃ S', fX9_text_101 m (E b S Q g) (b + 116) (nI (124 + 125 * use)) (nI i) = some (1, E b S' Q g) ∧ (∀ r, r ≠ 117 → S' r = S r) ∧ ∀ j, S' 117 j = if 125 + 125 * use + i ≤ j ∧ j < 125 + 125 * use + 2 * n then S 122 (j - (125 + 125 * use)) else S 117 j := by
  intro m
  induction m with
  | zero => intro i S h1 h2; omega
  | succ m ih =>
    intro i S hi hm h8
    rw [fX9_text_101, getI_M8, h8, bind_sm, show (2 : Int32) = nI 2 from rfl, pk_mul]
    by_cases hd : 2 * n ≤ i
    · rw [if_pos ((nI_leI (by omega) (by omega)).mpr hd)]
      exact ⟨S, rfl, fun _ _ => rfl, fun j => by rw [if_neg (by omega)]⟩
    · rw [if_neg (fun q => hd ((nI_leI (by omega) (by omega)).mp q)), getR_M0, bind_sm, getR_M10, bind_sm, show rdI (E b S Q g) (b + 122) (nI i) = some (S 122 i) from E_rdI (c := 122) (n := 124) rfl (by omega) (by decide), bind_sm, show nI (124 + 125 * use) + 1 = nI (124 + 125 * use + 1) from nI_add _ 1, nI_add, show wrI (E b S Q g) (b + 117) (nI (124 + 125 * use + 1 + i)) (S 122 i) = some (E b (up2 S 117 (124 + 125 * use + 1 + i) (S 122 i)) Q g) from E_wrI (c := 117) (n := 458) rfl (by omega) (by decide), bind_sm, show nI i + 1 = nI (i + 1) from nI_add i 1]
      obtain ⟨S', e1, f1, k1⟩ := ih (i + 1) (up2 S 117 (124 + 125 * use + 1 + i) (S 122 i)) (by omega) (by omega) (by rw [up2_row (by decide)]; exact h8)
      refine ⟨S', e1, fun r hr => by rw [f1 r hr, up2_row (by omega)], fun j => ?_⟩
      rw [k1 j, up2_row (by decide), up2_at]
      by_cases h1 : j = 124 + 125 * use + 1 + i
      · rw [if_neg (by omega), if_pos h1, if_pos (by omega), h1]
        exact congrArg _ (by omega)
      · rw [if_neg h1]
        by_cases h2 : 125 + 125 * use + (i + 1) ≤ j ∧ j < 125 + 125 * use + 2 * n
        · rw [if_pos h2, if_pos (by omega)]
        · rw [if_neg h2, if_neg (by omega)]
/-- the reference's act, from what its reading gives -/
theorem m_text (hu : use < 2) (h60 : tp.length ≤ 60) (go : GoodO tp 0 o) (rP : RfP b tp use 0 (fun h => gX9_both 64 5 h (b + 116)) 0 o) (hT : tapeM (S 117) tp) : ∃ S4, fX9_text (E b S Q g) (b + 116) (nI use) = some (if o.1 = true ∧ o.2.1 = tp.length then nI 1 else -10 - nI o.2.1, E b S4 Q g) ∧ OffR S S4 ∧ S4 117 5 = nI 0 ∧ (∀ j, j ≠ 5 → (¬ (o.1 = true ∧ o.2.1 = tp.length) ∨ ¬ (124 + 125 * use ≤ j ∧ j < 249 + 125 * use)) → S4 117 j = S 117 j) ∧ (o.1 = true ∧ o.2.1 = tp.length → S4 117 (124 + 125 * use) = nI o.2.2.length ∧ ∀ i t, o.2.2[i]? = some t → S4 117 (124 + 125 * use + 1 + 2 * i) = nI t.1 ∧ S4 117 (124 + 125 * use + 2 + 2 * i) = nI (encM use t)) := by
  obtain ⟨S2, hS2⟩ : ∃ S2, S2 = up2 (up2 (up2 (up2 S 116 9 (nI use)) 116 6 (nI 0)) 116 7 (nI 0)) 116 8 (nI 0) := ⟨_, rfl⟩
  have n2 : ∀ r, r ≠ 116 → S2 r = S r := fun r hr => by rw [hS2, up2_row (by omega), up2_row (by omega), up2_row (by omega), up2_row (by omega)]
  have n16 : ∀ j, j ≠ 6 → j ≠ 7 → j ≠ 8 → j ≠ 9 → S2 116 j = S 116 j := fun j a1 a2 a3 a4 => by rw [hS2, up2_at, if_neg a3, up2_at, if_neg a2, up2_at, if_neg a1, up2_at, if_neg a4]
  have hR : RfS b tp use S2 0 0 [] := by
    refine ⟨?_, ?_, ?_, ?_, by rw [n2 117 (by decide)]; exact hT.1, by rw [n2 117 (by decide)]; exact hT.2, fun i t ht => by simp at ht⟩
    · rw [hS2, up2_at, if_neg (by decide), up2_at, if_neg (by decide), up2_at, if_pos rfl]
    · rw [hS2, up2_at, if_neg (by decide), up2_at, if_pos rfl]
    · rw [hS2, up2_at, if_pos rfl]; rfl
    · rw [hS2, up2_at, if_neg (by decide), up2_at, if_neg (by decide), up2_at, if_neg (by decide), up2_at, if_pos rfl]
  obtain ⟨S3, e3, f3, k3⟩ := rP S2 Q g [] hR (Nat.zero_le _)
  have p9 : ∀ S : Nat → Nat → Int32, putV (E b S Q g) 9 (b + 116) 9 (.int (nI use)) = some (E b (up2 S 116 9 (nI use)) Q g) := fun S => by simp only [rM]
  have w5 : ∀ S : Nat → Nat → Int32, wrI (E b S Q g) (b + 117) 5 0 = some (E b (up2 S 117 5 (nI 0)) Q g) := fun S => show wrI (E b S Q g) (b + 117) (nI 5) (nI 0) = _ from E_wrI (c := 117) (n := 458) rfl (by decide) (by decide)
  have hgo : fX9_text (E b S Q g) (b + 116) (nI use) = if (if o.1 = true then nI 1 else nI 0) = 0 then fX9_text_59 (E b S3 Q g) (b + 116) (nI use) else (getI (E b S3 Q g) 9 (b + 116) 6).bind fun v43 => (getR (E b S3 Q g) 9 (b + 116) 0).bind fun r47 => (rdI (E b S3 Q g) r47 5).bind fun v51 => if v43 = v51 then fX9_text_60 (E b S3 Q g) (b + 116) (nI use) 1 else fX9_text_59 (E b S3 Q g) (b + 116) (nI use) := by
    unfold fX9_text
    rw [gO_M, show fX9_in (nI use) 0 1 = some (nI 1) from m_in1 (lo := 0) (hi := 1) (Nat.zero_le _) (by omega) (by decide), bind_sm, if_neg (show ¬ nI 1 = 0 by decide), p9, bind_sm, show (putV (E b (up2 S 116 9 (nI use)) Q g) 9 (b + 116) 6 (.int 0)) = some _ from put6M, bind_sm, show (putV (E b (up2 (up2 S 116 9 (nI use)) 116 6 0) Q g) 9 (b + 116) 7 (.int 0)) = some _ from put7M, bind_sm, show (putV (E b (up2 (up2 (up2 S 116 9 (nI use)) 116 6 0) 116 7 0) Q g) 9 (b + 116) 8 (.int 0)) = some (E b S2 Q g) from by rw [hS2]; exact put8M, bind_sm]
    unfold fX9_whole
    rw [gO_M, show gX9_both 64 5 (E b S2 Q g) (b + 116) = _ from e3, bind_sm]
  have r116 : ∀ j, j ≠ 6 → j ≠ 7 → j ≠ 8 → j ≠ 9 → S3 116 j = S 116 j := fun j a1 a2 a3 a4 => by rw [f3.2 j a1 a2 a3, n16 j a1 a2 a3 a4]
  have rr : ∀ r, r ≠ 116 → r ≠ 122 → S3 r = S r := fun r a1 a2 => by rw [f3.1 r a1 a2, n2 r a1]
  have at6 : S3 116 6 = nI o.2.1 := by
    by_cases ho : o.1 = true
    · rw [if_pos ho] at k3; exact k3.1
    · rw [if_neg ho] at k3; exact k3
  have fail : ¬ (o.1 = true ∧ o.2.1 = tp.length) → fX9_text (E b S Q g) (b + 116) (nI use) = fX9_text_59 (E b S3 Q g) (b + 116) (nI use) := by
    intro hok
    rw [hgo]
    by_cases ho : o.1 = true
    · have y2 := go.2.1
      rw [if_pos ho, if_neg (show ¬ nI 1 = 0 by decide), getI_M6, at6, bind_sm, getR_M0, bind_sm, show rdI (E b S3 Q g) (b + 117) 5 = some (S3 117 5) from show rdI (E b S3 Q g) (b + 117) (nI 5) = _ from E_rdI (c := 117) (n := 458) rfl (by decide) (by decide), bind_sm, rr 117 (by decide) (by decide), hT.1, if_neg (fun q => hok ⟨ho, (nI_eq (by omega) (by omega)).mp q⟩)]
    · rw [if_neg ho, if_pos (show nI 0 = 0 from rfl)]
  by_cases hok : o.1 = true ∧ o.2.1 = tp.length
  · obtain ⟨ho, hl⟩ := id hok
    rw [if_pos ho] at k3 hgo
    obtain ⟨q1, q2, q3, q4, q5, q6, q7⟩ := k3
    have z1 := (go.2.2 ho).1
    have hn : o.2.2.length ≤ 60 := by omega
    obtain ⟨S5, hS5⟩ : ∃ S5, S5 = up2 (up2 S3 117 5 (nI 0)) 117 (124 + 125 * use) (nI o.2.2.length) := ⟨_, rfl⟩
    have r5 : ∀ r, r ≠ 117 → S5 r = S3 r := fun r hr => by rw [hS5, up2_row (by omega), up2_row (by omega)]
    obtain ⟨S4, e4, f4, k4⟩ := m_text101 (b := b) (Q := Q) (g := g) (use := use) hu hn 1000 0 S5 (Nat.zero_le _) (by omega) (by rw [r5 116 (by decide)]; exact q3)
    refine ⟨S4, ?_, ⟨fun r hr => by rw [f4 r (by omega), r5 r (by omega), rr r (by omega) (by omega)], by rw [f4 116 (by decide), r5 116 (by decide), r116 4 (by decide) (by decide) (by decide) (by decide)], by rw [f4 116 (by decide), r5 116 (by decide), r116 20 (by decide) (by decide) (by decide) (by decide)]⟩, ?_, fun j hj hq => ?_, fun _ => ⟨?_, fun i t ht => ?_⟩⟩
    · rw [hgo, if_neg (show ¬ nI 1 = 0 by decide), getI_M6, at6, bind_sm, getR_M0, bind_sm, show rdI (E b S3 Q g) (b + 117) 5 = some (S3 117 5) from show rdI (E b S3 Q g) (b + 117) (nI 5) = _ from E_rdI (c := 117) (n := 458) rfl (by decide) (by decide), bind_sm, rr 117 (by decide) (by decide), hT.1, if_pos (show nI o.2.1 = nI tp.length by rw [hl]), if_pos hok]
      unfold fX9_text_60
      rw [getR_M0, bind_sm, w5, bind_sm, if_neg (show ¬ (1 : Int32) = 0 by decide), getR_M0, bind_sm, getI_M8, up2_row (by decide), show S3 116 8 = nI o.2.2.length from q3, bind_sm, show (125 : Int32) = nI 125 from rfl, pk_mul, show (124 : Int32) = nI 124 from rfl, nI_add, show wrI (E b (up2 S3 117 5 (nI 0)) Q g) (b + 117) (nI (124 + 125 * use)) (nI o.2.2.length) = some (E b S5 Q g) from by rw [hS5]; exact E_wrI (c := 117) (n := 458) rfl (by omega) (by decide), bind_sm, show fX9_text_101 1000 (E b S5 Q g) (b + 116) (nI (124 + 125 * use)) 0 = _ from e4]
      rfl
    · rw [k4, if_neg (by omega), hS5, up2_at, if_neg (by omega), up2_at, if_pos rfl]
    · have hq' := hq.resolve_left (fun q => q hok)
      rw [k4, if_neg (by omega), hS5, up2_at, if_neg (by omega), up2_at, if_neg hj, rr 117 (by decide) (by decide)]
    · rw [k4, if_neg (by omega), hS5, up2_at, if_pos rfl]
    · have hi := (List.getElem?_eq_some_iff.mp ht).1
      obtain ⟨p1, p2⟩ := q7 i t ht
      rw [k4, if_pos (by omega), k4, if_pos (by omega), r5 122 (by decide)]
      refine ⟨Eq.trans (congrArg _ ?_) p1, Eq.trans (congrArg _ ?_) p2⟩ <;> omega
  · refine ⟨up2 S3 117 5 (nI 0), ?_, ⟨fun r hr => by rw [up2_row (by omega), rr r (by omega) (by omega)], by rw [up2_row (by decide), r116 4 (by decide) (by decide) (by decide) (by decide)], by rw [up2_row (by decide), r116 20 (by decide) (by decide) (by decide) (by decide)]⟩, by rw [up2_at, if_pos rfl], fun j hj _ => by rw [up2_at, if_neg hj, rr 117 (by decide) (by decide)], fun q => absurd q hok⟩
    rw [fail hok, if_neg hok]
    unfold fX9_text_59 fX9_text_60
    rw [getR_M0, bind_sm, w5, bind_sm, if_pos rfl, getI_M6, up2_row (by decide), at6, bind_sm]
def txA (s : Fs) (u : Nat) (tk : Option (List Tk)) : Fs := (fW s, (fun v => match tk with | some t => if v = u then t else fT s v | none => fT s v), [], fWt s, fBk s, fZ s, fDb s)
theorem txA_inv (hI : Finv s) {tk : Option (List Tk)} (ht : ∀ t, tk = some t → txOk t) : Finv (txA s u tk) := by
  obtain ⟨i1, i2, i3, i4, i5, i6, i7, i8⟩ := hI
  refine ⟨i1, i2, fun v => ?_, ⟨Nat.zero_le _, fun x hx => (List.not_mem_nil hx).elim⟩, i5, i6, i7, i8⟩
  cases tk with
  | none => exact i3 v
  | some t =>
    show txOk (if v = u then t else fT s v)
    split
    · exact ht t rfl
    · exact i3 v
theorem txA_C (hC : FerC b K S Q g 4 s) {tk : Option (List Tk)} (hL : ∀ v, v < 2 → LawQ K b g (Q1 12 (11 + v)) (fT (txA s u tk) v)) : FerC b K (up2 S 4 3 (nI 0)) Q1 g 4 (txA s u tk) := by
  obtain ⟨c1, c2, c4, c5, c6, c7, c8⟩ := hC
  have ne : ∀ r, r ≠ 4 → up2 S 4 3 (nI 0) r = S r := fun r h1 => up2_row (by omega)
  have n4 : ∀ j, j ≠ 3 → up2 S 4 3 (nI 0) 4 j = S 4 j := fun j hj => by rw [up2_at, if_neg hj]
  refine ⟨c1.fr (fun m hm => ne _ (by omega)), ⟨hL 0 (by decide), hL 1 (by decide)⟩, ⟨?_, fun i v hv => ?_⟩, c5.fr (n4 _ (by omega)) (ne _ (by omega)), c6.fr (n4 _ (by omega)) (ne _ (by omega)), by rw [n4 _ (by omega)]; exact c7, c8.fr (by rw [ne _ (by omega)]) (ne _ (by omega)) (ne _ (by omega)) (ne _ (by omega))⟩
  · rw [up2_at, if_pos rfl]; rfl
  · have hv' : ([] : List Nat)[i]? = some v := hv
    simp at hv'
theorem txA_M (hM : FerM (S 117) s) (hI : Finv s) (hu : u < 2) {tk : Option (List Tk)} (h5 : S1 117 5 = nI 0) (hr : ∀ j, j ≠ 5 → (tk = none ∨ ¬ (124 + 125 * u ≤ j ∧ j < 249 + 125 * u)) → S1 117 j = S 117 j) (ht : ∀ t, tk = some t → S1 117 (124 + 125 * u) = nI t.length ∧ ∀ i w, t[i]? = some w → S1 117 (124 + 125 * u + 1 + 2 * i) = nI w.1 ∧ S1 117 (124 + 125 * u + 2 + 2 * i) = nI (encM u w)) : FerM (S1 117) (txA s u tk) := by
  obtain ⟨m1, m2, m3, m4, m5, m6, m7⟩ := hM
  obtain ⟨i1, i2, i3, i4, i5, i6, i7, i8⟩ := hI
  have e : ∀ j, j ≠ 5 → ¬ (124 + 125 * u ≤ j ∧ j < 249 + 125 * u) → S1 117 j = S 117 j := fun j h1 h2 => hr j h1 (Or.inr h2)
  refine ⟨m1.fr i1 (fun j hj => e j (by omega) (by omega)), fun v hv => ?_, ⟨h5, fun i v hv => ?_⟩, m4.fr i5 (fun j hj => e j (by omega) (by omega)), m5.fr i6.1 (fun j hj => e j (by omega) (by omega)), by rw [e _ (by omega) (by omega)]; exact m6, m7.fr i7 (fun j hj => e j (by omega) (by omega))⟩
  · obtain ⟨q1, q2⟩ := m2 v hv
    have hlv := (i3 v).1
    have old : (tk = none ∨ v ≠ u) → S1 117 (124 + 125 * v) = nI (fT s v).length ∧ ∀ i t, (fT s v)[i]? = some t → S1 117 (124 + 125 * v + 1 + 2 * i) = nI t.1 ∧ S1 117 (124 + 125 * v + 2 + 2 * i) = nI (encM v t) := by
      intro hn
      have e2 : ∀ j, 124 + 125 * v ≤ j → j < 249 + 125 * v → S1 117 j = S 117 j := fun j h1 h2 => hr j (by omega) (hn.imp id (fun q => by omega))
      refine ⟨by rw [e2 _ (by omega) (by omega)]; exact q1, fun i t ht => ?_⟩
      have := (List.getElem?_eq_some_iff.mp ht).1
      rw [e2 _ (by omega) (by omega), e2 _ (by omega) (by omega)]
      exact q2 i t ht
    cases tk with
    | none => exact old (Or.inl rfl)
    | some t =>
      show S1 117 (124 + 125 * v) = nI (if v = u then t else fT s v).length ∧ ∀ i w, (if v = u then t else fT s v)[i]? = some w → _
      by_cases hvu : v = u
      · rw [if_pos hvu, hvu]; exact ht t rfl
      · rw [if_neg hvu]; exact old (Or.inr hvu)
  · have hv' : ([] : List Nat)[i]? = some v := hv
    simp at hv'
theorem op_text (h : Sim b K S Q g) : Both b S Q g (fun h => fX8_text h b x) (fun h => fX9_text h (b + 116) x) := by
  obtain ⟨⟨s, hI, hC, hM⟩, -, -, -, -, hg⟩ := id h
  rcases isN_or x 2 with ⟨u, hu, rfl⟩ | hx
  · obtain ⟨tp, htp⟩ : ∃ tp, tp = fTp s := ⟨_, rfl⟩
    have h60 : tp.length ≤ 60 := by rw [htp]; exact hI.2.2.2.1.1
    have hb : ∀ x ∈ tp, x < 256 := by rw [htp]; exact hI.2.2.2.1.2
    have hlen : S 4 3 = nI tp.length := by rw [htp]; exact hC.2.2.1.1
    have hT : Tape S tp := ⟨by rw [htp]; exact hC.2.2.1.2, h60, hb⟩
    have hTM : tapeM (S 117) tp := by rw [htp]; exact hM.2.2.1
    obtain ⟨g1, e1, r1, s1, o1⟩ := c_init (b := b) (S := S) (Q := Q) (g := g) (len := tp.length) (use := u) hg.1 h60
    obtain ⟨o, go, cP, rP⟩ := (J_all (b := b) (rd := g.2) (cd := g.2 + 1) hu hb h60 5 0 rfl 0 (Nat.zero_le _)).2 0 (by decide)
    obtain ⟨g2, e2, f2, k2⟩ := cP 64 (by decide) S Q g1 [] (fun _ => 0) hT r1 (fun i t ht => by simp at ht) (Nat.zero_le _)
    have y2 := go.2.1
    have s2 : g2.2 = g.2 + 2 := by rw [f2.1, s1]
    have o2 : ∀ a, a < g.2 ∨ g.2 + 2 ≤ a → g2.1 a = g.1 a := fun a ha => by rw [f2.2 a (by omega) (by omega), o1 a ha]
    obtain ⟨n2, fu2, lx2, r2, hok2⟩ : ∃ n fu' lx, RdS b tp.length u g.2 (g.2 + 1) g2 (nI n) (nI o.2.1) lx fu' ∧ (o.1 = true → n = o.2.2.length ∧ EncR fu' o.2.2) := by
      by_cases ho : o.1 = true
      · rw [if_pos ho] at k2
        obtain ⟨fu', q1, q2⟩ := k2
        exact ⟨_, fu', _, q1, fun _ => ⟨rfl, q2⟩⟩
      · rw [if_neg ho] at k2
        obtain ⟨n, fu', -, q1⟩ := k2
        exact ⟨n, fu', _, q1, fun q => absurd q ho⟩
    have eRead : fX3_readsAll (E b S Q g1) g.2 = some (if o.1 = true ∧ o.2.1 = tp.length then nI 1 else nI 0, E b S Q g2) := by
      unfold fX3_readsAll fX3_readJoined
      rw [r1.gO, r1.gO, show gX3_readJoined 64 0 (E b S Q g1) g.2 0 0 = _ from e2, bind_sm]
      by_cases ho : o.1 = true
      · rw [if_pos ho] at k2
        obtain ⟨fu', q1, q2⟩ := k2
        rw [q1.i6, bind_sm, if_pos (show nI 0 = 0 from rfl), q1.i5, bind_sm, q1.i1, bind_sm]
        by_cases hl : o.2.1 = tp.length
        · rw [if_pos (by rw [hl]), if_pos ⟨ho, hl⟩]; rfl
        · rw [if_neg (fun q => hl ((nI_eq (by omega) (by omega)).mp q)), if_neg (fun q => hl q.2)]; rfl
      · rw [if_neg ho] at k2
        obtain ⟨n, fu', -, q1⟩ := k2
        rw [q1.i6, bind_sm, if_neg (show ¬ nI 1 = 0 by decide), if_neg (fun q => ho q.1)]; rfl
    have k1 : ∀ (S : Nat → Nat → Int32) (g : Hp), getR (E b S Q g) 8 b 1 = some (b + 4) := fun S g => (rO b S Q g).2.2.1
    have k2' : ∀ (S : Nat → Nat → Int32) (g : Hp), getR (E b S Q g) 1 (b + 4) 2 = some (b + 9) := fun S g => by simp only [rF]
    have k3 : ∀ (S : Nat → Nat → Int32) (g : Hp), getI (E b S Q g) 1 (b + 4) 3 = some (S 4 3) := fun S g => by simp only [rF]
    have k4 : ∀ (S : Nat → Nat → Int32) (g : Hp) (x : Int32), putV (E b S Q g) 1 (b + 4) 3 (.int x) = some (E b (up2 S 4 3 x) Q g) := fun S g x => by simp only [rF]
    have k5 : ∀ (S : Nat → Nat → Int32) (g : Hp), getR (E b S Q g) 1 (b + 4) 0 = some (b + 12) := fun S g => by simp only [rF]
    have hgo : fX8_text (E b S Q g) b (nI u) = if (if o.1 = true ∧ o.2.1 = tp.length then nI 1 else nI 0) = 0 then (fX3_place (E b (up2 S 4 3 (nI 0)) Q g2) g.2).bind fun q56 => some (-10 - q56, E b (up2 S 4 3 (nI 0)) Q g2) else (fX3_law (E b (up2 S 4 3 (nI 0)) Q g2) g.2).bind fun q70 => (fX7_setLaw q70.2 (b + 12) (nI u) q70.1).bind fun q73 => some (1, q73) := by
      unfold fX8_text
      rw [(rO b S Q g).1, c_isUse1 hu, bind_sm, if_neg (show ¬ nI 1 = 0 by decide), show newO (E b S Q g) 3 [.null, .int 0, .int 0, .null, .int 0, .int 0, .int 0] = some (g.2, E b S Q (newC g (.inl (3, L0)))) from x_newO hg.1, bind_sm]
      simp only [k1, k2', k3, bind_sm, hlen]
      rw [e1, bind_sm, eRead, bind_sm]
      simp only [k1, k4, k5, bind_sm]
      rfl
    obtain ⟨S1, hS1⟩ : ∃ S1, S1 = up2 S 4 3 (nI 0) := ⟨_, rfl⟩
    have oc : OffC S S1 := fun r hr => by rw [hS1, up2_row (by omega)]
    have hT1 : tapeM (S1 117) tp := by rw [oc 117 (by omega)]; exact hTM
    by_cases hok : o.1 = true ∧ o.2.1 = tp.length
    · obtain ⟨ho, hl⟩ := id hok
      obtain ⟨hn2, hE2⟩ := hok2 ho
      subst hn2
      obtain ⟨z1, z2, z3⟩ := go.2.2 ho
      obtain ⟨g3, fc, fs', e3, s3, o3, d1, d2, d3, d4⟩ := c_law (b := b) (S := S1) (Q := Q) (g := g2) (len := tp.length) (use := u) (n := o.2.2.length) (by have := hg.1; omega) r2 h60 (by omega) (by omega) (by omega)
      have hne : o.2.2 ≠ [] := fun q => by
        have := z3 0
        rw [q] at this
        exact absurd this (by decide)
      obtain ⟨K1, hK1⟩ : ∃ K1 : Nat → Nat, K1 = fun a => if a = g2.2 then 1 else if a = g2.2 + 1 then 2 else if a = g2.2 + 2 then 3 else K a := ⟨_, rfl⟩
      have hgr : Grow K g K1 g3 := fun a ha => ⟨by rw [o3 a (by omega), o2 a (by omega)], by rw [hK1]; show (if a = g2.2 then 1 else if a = g2.2 + 1 then 2 else if a = g2.2 + 2 then 3 else K a) = K a; rw [if_neg (by omega), if_neg (by omega), if_neg (by omega)]⟩
      have hG1 : GlobK b K1 g3 := ⟨by have := hg.1; omega, fun a ha => ⟨by rw [o3 a (by omega), o2 a (by omega)]; exact (hg.2 a (by omega)).1, by rw [hK1]; show (if a = g2.2 then 1 else if a = g2.2 + 1 then 2 else if a = g2.2 + 2 then 3 else K a) = 0; rw [if_neg (by omega), if_neg (by omega), if_neg (by omega)]; exact (hg.2 a (by omega)).2⟩⟩
      have hLaw : LawQ K1 b g3 g2.2 o.2.2 := by
        have hb0 := hg.1
        refine Or.inr ⟨hne, g2.2 + 1, g2.2 + 2, fc, fs', d1, d2, fun i t ht => ?_, d4, ?_, ?_, ?_, by omega, by omega, by omega⟩
        · rw [d3 i (List.getElem?_eq_some_iff.mp ht).1]; exact hE2 i t ht
        · rw [hK1]; show (if g2.2 = g2.2 then 1 else _) = 1; rw [if_pos rfl]
        · rw [hK1]; show (if g2.2 + 1 = g2.2 then 1 else if g2.2 + 1 = g2.2 + 1 then 2 else _) = 2; rw [if_neg (by omega), if_pos rfl]
        · rw [hK1]; show (if g2.2 + 2 = g2.2 then 1 else if g2.2 + 2 = g2.2 + 1 then 2 else if g2.2 + 2 = g2.2 + 2 then 3 else _) = 3; rw [if_neg (by omega), if_neg (by omega), if_pos rfl]
      obtain ⟨Q1, hQ1⟩ : ∃ Q1, Q1 = up2 Q 12 (11 + u) g2.2 := ⟨_, rfl⟩
      have hset : fX7_setLaw (E b S1 Q g3) (b + 12) (nI u) g2.2 = some (E b S1 Q1 g3) := by
        have pq : ∀ i, i = 11 ∨ i = 12 → putV (E b S1 Q g3) 7 (b + 12) i (.ref g2.2) = some (E b S1 (up2 Q 12 i g2.2) g3) := by
          intro i hi
          rcases hi with rfl | rfl <;> exact E_putQ (c := 12) rfl rfl
        have : u = 0 ∨ u = 1 := by omega
        rw [hQ1]
        unfold fX7_setLaw
        rcases this with rfl | rfl
        · simp (disch := omega) only [rW w12, rN, bind_sm, if_true, pq 11 (Or.inl rfl)]
        · simp (disch := omega) only [rW w12, rN, bind_sm, z10, if_false, pq 12 (Or.inr rfl)]
      obtain ⟨S4, e4, of4, p5, p6, p7⟩ := m_text (b := b) (S := S1) (Q := Q1) (g := g3) hu h60 go (rP 64 (by decide)) hT1
      have hs := h.grow hgr hG1
      have hC1 := hC.grow hg hgr
      refine ⟨nI 1, S1, Q1, g3, S4, K1, ?_, by rw [if_pos hok] at e4; exact e4, ?_⟩
      · show fX8_text (E b S Q g) b (nI u) = _
        rw [hgo, if_pos hok, if_neg (show ¬ nI 1 = 0 by decide), ← hS1, e3, bind_sm]
        show (fX7_setLaw (E b S1 Q g3) (b + 12) (nI u) g2.2).bind _ = _
        rw [hset, bind_sm]
        rfl
      · refine hs.act oc of4 Lkg.rf (by rw [hQ1, up2_row (by decide)]) hG1 (a := txA s u (some o.2.2)) (txA_inv hI (fun t ht => ?_)) (by
          rw [hS1]
          refine txA_C hC1 (fun v hv => ?_)
          show LawQ K1 b g3 _ (if v = u then o.2.2 else fT s v)
          rw [hQ1, up2_at]
          by_cases hvu : v = u
          · rw [if_pos (by omega), if_pos hvu]; exact hLaw
          · rw [if_neg (by omega), if_neg hvu]
            have : v = 0 ∨ v = 1 := by omega
            rcases this with rfl | rfl
            · exact hC1.2.1.1
            · exact hC1.2.1.2) (txA_M (S := S1) (by rw [oc 117 (by omega)]; exact hM) hI hu p5 (fun j hj hq => p6 j hj (Or.inr (hq.resolve_left (fun q => by cases q)))) (fun t ht => by
          rw [← Option.some.inj ht]; exact p7 hok))
        rw [← Option.some.inj ht]
        exact ⟨by omega, z2, fun _ => z3 0⟩
    · have hgr : Grow K g K g2 := fun a ha => ⟨o2 a (by omega), rfl⟩
      have hG1 : GlobK b K g2 := ⟨by have := hg.1; omega, fun a ha => ⟨by rw [o2 a (by omega)]; exact (hg.2 a (by omega)).1, (hg.2 a (by omega)).2⟩⟩
      obtain ⟨S4, e4, of4, p5, p6, p7⟩ := m_text (b := b) (S := S1) (Q := Q) (g := g2) hu h60 go (rP 64 (by decide)) hT1
      have hs := h.grow hgr hG1
      have hC1 := hC.grow hg hgr
      refine ⟨-10 - nI o.2.1, S1, Q, g2, S4, K, ?_, by rw [if_neg hok] at e4; exact e4, ?_⟩
      · show fX8_text (E b S Q g) b (nI u) = _
        rw [hgo, if_neg hok, if_pos (show nI 0 = 0 from rfl), ← hS1]
        unfold fX3_place
        rw [r2.gO, r2.i5, bind_sm, bind_sm]
      · exact hs.act oc of4 Lkg.rf rfl hG1 (a := txA s u none) (txA_inv hI (fun t ht => by cases ht)) (by
          rw [hS1]
          refine txA_C hC1 (fun v hv => ?_)
          show LawQ K b g2 _ (fT s v)
          have : v = 0 ∨ v = 1 := by omega
          rcases this with rfl | rfl
          · exact hC1.2.1.1
          · exact hC1.2.1.2) (txA_M (S := S1) (by rw [oc 117 (by omega)]; exact hM) hI hu p5 (fun j hj hq => p6 j hj (Or.inl hok)) (fun t ht => by cases ht))
  · refine Both.err h 1 (by decide) ?_ (fun S1 hS => ?_)
    · unfold fX8_text
      rw [(rO b S Q g).1, c_isUse0 hx, bind_sm, if_pos (by decide)]
      rfl
    · unfold fX9_text
      rw [(rM b S1 Q g).1, show fX9_in x 0 1 = some (nI 0) from m_in0 (hi := 1) hx (by decide), bind_sm, if_pos (by decide)]
      rfl
end OZs
