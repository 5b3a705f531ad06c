/-! ===== draws ===== -/
section OO
variable {b : Nat} {S S' S1 S2 : Nat → Nat → Int32} {Q Q' Q1 : Nat → Nat → Nat} {g g' g1 h : Hp} {f k j p q n u c c0 c1 lo hi i d e : Nat} {x y z v r : Int32} {w : Wo} {T : Tx} {K K2 : Nat → Nat} {a a' : Fs} {s s' : Nat → Int32}

def zA (a : Fs) (z : Int32) : Fs := (fW a, fT a, fTp a, fWt a, fBk a, z, fDb a)
theorem FerC.zz (hC : FerC b K S Q g 4 a) : FerC b K (up2 S 4 8 z) Q g 4 (zA a z) := by
  obtain ⟨c1, c2, c4, c5, c6, c7, c8⟩ := hC
  have ne : ∀ r, r ≠ 4 → up2 S 4 8 z r = S r := fun r hr => up2_row (fun q => hr q.symm)
  exact ⟨c1.fr (fun m hm => ne _ (by omega)), c2, c4.fr (by rw [up2_at, if_neg (by decide)]) (ne _ (by omega)), c5.fr (by rw [up2_at, if_neg (by decide)]) (ne _ (by omega)), c6.fr (by rw [up2_at, if_neg (by decide)]) (ne _ (by omega)), by rw [up2_at, if_pos rfl]; rfl, c8.fr (by rw [ne _ (by omega)]) (ne _ (by omega)) (ne _ (by omega)) (ne _ (by omega))⟩
theorem FerM.zz (hM : FerM (S 117) a) (hI : Finv a) : FerM (up2 S 117 7 z 117) (zA a z) := by
  obtain ⟨m1, m2, m3, m4, m5, m6, m7⟩ := hM
  obtain ⟨i1, i2, i3, i4, i5, i6, i7, i8⟩ := hI
  have e : ∀ j, j ≠ 7 → up2 S 117 7 z 117 j = S 117 j := fun j hj => by rw [up2_at, if_neg hj]
  exact ⟨m1.fr i1 (fun j hj => e j (by omega)), m2.fr i3 (fun j hj => e j (by omega)), m3.fr i4.1 (fun j hj => e j (by omega)), m4.fr i5 (fun j hj => e j (by omega)), m5.fr i6.1 (fun j hj => e j (by omega)), by rw [up2_at, if_pos rfl]; rfl, m7.fr i7 (fun j hj => e j (by omega))⟩
theorem aloneP_inv (h : Winv w) (ht : w.1 0 0 < 10020) : Winv (aloneP w k) := by
  obtain ⟨j1, j2, j3, j4, j5, j6, j7, j8, j9, j10⟩ := h
  refine ⟨by simp [aloneP]; omega, by simpa [aloneP] using j2, by simpa [aloneP] using j3, fun q => by simpa [aloneP] using j4 q, fun q => by simpa [aloneP] using j5 q, fun q => by simpa [aloneP] using j6 q, fun q => by simpa [aloneP] using j7 q, fun q => ?_, fun q => by simpa [aloneP] using j9 q, fun q => by simpa [aloneP] using j10 q⟩
  have := j8 q
  simp only [aloneP]
  simp
  split <;> omega
theorem m_goesAlone (hM : FerM (S 117) a) (hI : Finv a) (hk : k < (fW a).1 0 2) : ∃ S', fX9_goesAlone (E b S Q g) (b + 116) (nI k) = some (E b S' Q g) ∧ Off [117] S S' ∧ FerM (S' 117) (aloneP (fW a) k, a.2) := by
  have m1 := hM.1
  have i1 := hI.1
  have i3 := i1.2.2.1
  have ht := hI.2.1
  have hk4 : k < 4 := Nat.lt_of_lt_of_le hk i3
  have a8 := i1.2.2.2.2.2.2.2.1 k
  obtain ⟨p1, p2, p3, p4, p5, p6⟩ := m1.2.2.2.2 k hk
  have m2k : (aloneP (fW a) k).1 0 2 = (fW a).1 0 2 := by simp [aloneP]
  have b5 : (aloneP (fW a) k).1 5 k = 1 - (fW a).1 5 k := by simp [aloneP]
  refine ⟨up2 (up2 S 117 (24 + 13 * k + 2) (nI (1 - (fW a).1 5 k))) 117 2 (nI ((fW a).1 0 0 + 1)), ?_, (Off.up List.mem_cons_self).tr (Off.up List.mem_cons_self), ?_⟩
  · have e2 : up2 S 117 (24 + 13 * k + 2) (nI (1 - (fW a).1 5 k)) 117 2 = nI ((fW a).1 0 0) := by rw [up2_at, if_neg (by omega)]; exact m1.2.2.1
    unfold fX9_goesAlone
    simp (disch := omega) only [rM, rN, bind_sm, m_its, m_lays1, p3, nI_subI, e2, nI_add]
  · have e : ∀ j, j ≠ 2 → j ≠ 24 + 13 * k + 2 → up2 (up2 S 117 (24 + 13 * k + 2) (nI (1 - (fW a).1 5 k))) 117 2 (nI ((fW a).1 0 0 + 1)) 117 j = S 117 j := fun j h1 h2 => by rw [up2_at, if_neg h1, up2_at, if_neg h2]
    have q : ∀ r i, ¬ (r = 0 ∧ i = 0) → r ≠ 5 → (aloneP (fW a) k).1 r i = (fW a).1 r i := fun r i h h2 => by simp [aloneP, h, h2]
    have i2 := i1.2.1
    refine hM.wo hI (fun j hj => e j (by omega) (by omega)) ?_
    obtain ⟨t1, t2, t3, t4, t5⟩ := m1
    refine ⟨by rw [e _ (by omega) (by omega), t1, q _ _ (by omega) (by omega)], by rw [e _ (by omega) (by omega), t2, q _ _ (by omega) (by omega)], by rw [up2_at, if_pos rfl]; simp [aloneP], fun p hp => ?_, fun i hi => ?_⟩
    · rw [q _ _ (by omega) (by omega)] at hp
      rw [e _ (by omega) (by omega), e _ (by omega) (by omega), q _ _ (by omega) (by omega), q _ _ (by omega) (by omega)]
      exact t4 p hp
    · rw [m2k] at hi
      obtain ⟨u1, u2, u3, u4, u5, u6⟩ := t5 i hi
      have hl := i1.len i
      rw [e (24 + 13 * i) (by omega) (by omega), e (24 + 13 * i + 1) (by omega) (by omega), e (24 + 13 * i + 3) (by omega) (by omega), e (24 + 13 * i + 4) (by omega) (by omega), q 3 _ (by omega) (by omega), q 4 _ (by omega) (by omega), q 6 _ (by omega) (by omega)]
      refine ⟨u1, u2, ?_, u4, u5, u6.fr (fun j hj => e _ (by omega) (by have : j < ((fW a).2 i).length := hj; omega))⟩
      rw [up2_at, if_neg (by omega), up2_at]
      by_cases hik : i = k
      · subst hik; rw [if_pos rfl, b5]
      · rw [if_neg (by omega), u3]; simp [aloneP, hik]
theorem cntP_pick {f : Nat → Bool} : ∀ (n j : Nat), j < cntP f n → ∃ p, p < n ∧ f p = true ∧ cntP f p = j
  | 0, j, h => absurd h (Nat.not_lt_zero j)
  | n + 1, j, h => by
    rw [cntP] at h
    by_cases hj : j < cntP f n
    · obtain ⟨p, h1, h2, h3⟩ := cntP_pick n j hj
      exact ⟨p, by omega, h2, h3⟩
    · by_cases hf : f n = true
      · rw [if_pos hf] at h
        exact ⟨n, by omega, hf, by omega⟩
      · rw [if_neg hf] at h; omega
theorem c_draw1 (hC : FerC b K S Q g 4 a) {m : Nat} {z1 : Int32} (hz : nextZ (fZ a) = z1) (e1 : ushr z1 (nI 8) = nI m) : ∃ S', fX1_draw (E b S Q g) (b + 4) = some (nI m, E b S' Q g) ∧ OffC S S' ∧ FerC b K S' Q g 4 (zA a z1) := by
  have cz : S 4 8 = fZ a := hC.2.2.2.2.2.1
  refine ⟨up2 S 4 8 z1, ?_, fun r hr => up2_row (by omega), hC.zz⟩
  rw [c_draw, cz, hz, e1]
theorem m_draw1 (hM : FerM (S 117) a) (hI : Finv a) {m : Nat} {z1 : Int32} (hz : nextZ (fZ a) = z1) (e1 : ushr z1 (nI 8) = nI m) : ∃ S', fX9_draw (E b S Q g) (b + 116) = some (nI m, E b S' Q g) ∧ Off [117] S S' ∧ FerM (S' 117) (zA a z1) := by
  have cz : S 117 7 = fZ a := hM.2.2.2.2.2.1
  refine ⟨up2 S 117 7 z1, ?_, Off.up List.mem_cons_self, hM.zz hI⟩
  rw [m_draw, cz, hz, e1]
theorem draw_both (hI : Finv a) (hm : 0 < (fW a).1 0 2) (ht : (fW a).1 0 0 < 9999) : ∃ a', Finv a' ∧ (fW a').1 0 0 = (fW a).1 0 0 + 1 ∧ (fW a').1 0 2 = (fW a).1 0 2 ∧ (∀ (S : Nat → Nat → Int32) (g : Hp), FerC b K S Q g 4 a → ∃ S' g', fX1_crossByDraw (E b S Q g) (b + 4) = some (E b S' Q g') ∧ OffC S S' ∧ Lkg K g g' ∧ FerC b K S' Q g' 4 a') ∧ ∀ (S : Nat → Nat → Int32) (g : Hp), FerM (S 117) a → ∃ S', fX9_crossByDraws (E b S Q g) (b + 116) = some (E b S' Q g) ∧ Off [117, 123, 124] S S' ∧ FerM (S' 117) a' := by
  obtain ⟨z1, hz1⟩ : ∃ z1, nextZ (fZ a) = z1 := ⟨_, rfl⟩
  obtain ⟨z2, hz2⟩ : ∃ z2, nextZ z1 = z2 := ⟨_, rfl⟩
  have hz2' : nextZ (fZ (zA a z1)) = z2 := hz2
  obtain ⟨m1, hm1, e1⟩ := ush8 z1
  have i1 := hI.1
  have i2 := i1.2.1
  have i3 := i1.2.2.1
  have hk : m1 % (fW a).1 0 2 < (fW a).1 0 2 := Nat.mod_lt _ hm
  have rk := rmz_nI (m := m1) (n := (fW a).1 0 2) (by omega) ⟨hm, by omega⟩
  generalize m1 % (fW a).1 0 2 = k at hk rk
  have hcl := cntP_le (metP (fW a) k) ((fW a).1 0 1)
  generalize hcn : cntP (metP (fW a) k) ((fW a).1 0 1) = cnt at hcl
  -- the class up to who is there
  have cl : ∀ (S : Nat → Nat → Int32) (g : Hp), FerC b K S Q g 4 a → ∃ S1, OffC S S1 ∧ FerC b K S1 Q g 4 (zA a z1) ∧ fX1_crossByDraw (E b S Q g) (b + 4) = if nI cnt = nI 0 then (fX7_rowOver (E b S1 Q g) (b + 12) (nI k)).bind fun q42 => some q42 else (fX1_draw (E b S1 Q g) (b + 4)).bind fun q56 => (rmz q56.1 (nI cnt)).bind fun v60 => (fX7_oneWith q56.2 (b + 12) (nI k) v60).bind fun q61 => (fX1_carryAndBook q56.2 (b + 4) (nI k) q61).bind fun q64 => some q64.2 := by
    intro S g hC
    have c1 : RepW S 12 (fW a) := hC.1
    obtain ⟨S1, d1, o1, f1⟩ := c_draw1 (Q := Q) (g := g) hC hz1 e1
    have cw1 : RepW S1 12 (fW a) := f1.1
    refine ⟨S1, o1, f1, ?_⟩
    unfold fX1_crossByDraw
    simp (disch := omega) only [rF, rW w12, rN, bind_sm, c1.2.2.1, nI_eq, d1]
    rw [if_neg (by omega)]
    simp (disch := omega) only [rF, rW w12, bind_sm, cw1.2.2.1, rk, c_howManyWith w12 cw1 i1 hk, hcn, rN, nI_eq]
  have mo : ∀ (S : Nat → Nat → Int32) (g : Hp), FerM (S 117) a → ∃ S1, Off [117] S S1 ∧ FerM (S1 117) (zA a z1) ∧ fX9_crossByDraws (E b S Q g) (b + 116) = if nI cnt = nI 0 then (fX9_goesAlone (E b S1 Q g) (b + 116) (nI k)).bind fun q => some q else (fX9_draw (E b S1 Q g) (b + 116)).bind fun q60 => (rmz q60.1 (nI cnt)).bind fun v64 => fX9_crossByDraws_69 1000 q60.2 (b + 116) (nI k) v64 (nI 0) := by
    intro S g hM
    obtain ⟨S1, d1, o1, f1⟩ := m_draw1 (b := b) (Q := Q) (g := g) hM hI hz1 e1
    have mw1 : RepM (S1 117) (fW a) := f1.1
    refine ⟨S1, o1, f1, ?_⟩
    unfold fX9_crossByDraws
    simp (disch := omega) only [rM, d1, bind_sm]
    simp (disch := omega) only [rM, rN, bind_sm, mw1.2.1, rk]
    rw [m_there mw1 i1 hk, hcn]
    rfl
  by_cases h0 : cnt = 0
  · refine ⟨(aloneP (fW a) k, (zA a z1).2), ?_, ?_, ?_, fun S g hC => ?_, fun S g hM => ?_⟩
    · exact Finv.wo (a := zA a z1) hI (aloneP_inv i1 (by omega)) (by simp [aloneP]; omega) (by simp [aloneP, fW, zA])
    · simp [fW, aloneP]
    · simp [fW, aloneP]
    · obtain ⟨S1, o1, f1, e⟩ := cl S g hC
      have cw1 : RepW S1 12 (fW a) := f1.1
      obtain ⟨S2, e2, o2, r2⟩ := c_rowOver (b := b) (Q := Q) (g := g) w12 cw1 i1 hk
      refine ⟨S2, g, ?_, fun r hr => ?_, Lkg.rf, f1.wo (fun r hr => o2 r (by omega)) Lkg.rf r2⟩
      · rw [e, h0, if_pos rfl, e2, bind_sm]
      · rw [o2 r (by omega), o1 r hr]
    · obtain ⟨S1, o1, f1, e⟩ := mo S g hM
      obtain ⟨S2, e2, o2, f2⟩ := m_goesAlone (b := b) (Q := Q) (g := g) f1 hI hk
      refine ⟨S2, ?_, (o1.tr o2).mono (by decide), f2⟩
      rw [e, h0, if_pos rfl, e2, bind_sm]
  · obtain ⟨m2, hm2, e2⟩ := ush8 z2
    have hj : m2 % cnt < cnt := Nat.mod_lt _ (by omega)
    have rj := rmz_nI (m := m2) (n := cnt) (by omega) ⟨by omega, by omega⟩
    generalize m2 % cnt = j at hj rj
    obtain ⟨p, hp, hpm, hpj⟩ := cntP_pick (f := metP (fW a) k) ((fW a).1 0 1) j (by omega)
    have hne : ¬ nI cnt = nI 0 := fun q => h0 ((nI_eq (by omega) (by omega)).mp q)
    refine ⟨crossA (zA (zA a z1) z2) k p, ?_, ?_, ?_, fun S g hC => ?_, fun S g hM => ?_⟩
    · exact crossA_inv (a := zA (zA a z1) z2) hI hk hp ht
    · simp [crossA, fW, crossP, zA]
    · simp [crossA, fW, crossP, zA]
    · obtain ⟨S1, o1, f1, e⟩ := cl S g hC
      obtain ⟨S2, d2, o2, f2⟩ := c_draw1 (Q := Q) (g := g) f1 (m := m2) hz2' e2
      have cw2 : RepW S2 12 (fW a) := f2.1
      obtain ⟨p', hp', hpm', hpj', ep⟩ := c_oneWith (b := b) (Q := Q) (g := g) w12 cw2 i1 hk (j := j) (by omega)
      have hpp : p' = p := cntP_inj hpm' hpm (by omega)
      subst hpp
      obtain ⟨S3, g3, e3, o3, l3, f3⟩ := c_carryAndBook (b := b) (K := K) (a := zA (zA a z1) z2) f2 hI hk hp' hpm'
      refine ⟨S3, g3, ?_, fun r hr => ?_, l3, f3⟩
      · rw [e, if_neg hne, d2, bind_sm]
        simp only [rj, bind_sm, ep, e3]
      · rw [o3 r hr, o2 r hr, o1 r hr]
    · obtain ⟨S1, o1, f1, e⟩ := mo S g hM
      obtain ⟨S2, d2, o2, f2⟩ := m_draw1 (b := b) (Q := Q) (g := g) f1 hI (m := m2) hz2' e2
      have mw2 : RepM (S2 117) (fW a) := f2.1
      obtain ⟨p', hp', hpm', hpj', ep⟩ := m_seek (b := b) (Q := Q) (g := g) mw2 i1 hk (j := j) (by omega)
      have hpp : p' = p := cntP_inj hpm' hpm (by omega)
      subst hpp
      obtain ⟨S3, e3, o3, f3, -⟩ := m_cross (b := b) (Q := Q) (g := g) (a := zA (zA a z1) z2) f2 hI hk hp'
      refine ⟨S3, ?_, ((o1.tr o2).mono (by decide)).tr o3, f3⟩
      rw [e, if_neg hne, d2, bind_sm]
      simp only [rj, bind_sm, ep, e3]
theorem rng1 (n : Nat) (hn : n < 2 ^ 30) (x : Int32) : (∃ j, 1 ≤ j ∧ j ≤ n ∧ x = nI j) ∨ (x < nI 1 ∨ (¬ x < nI 1 ∧ ¬ x ≤ nI n)) := by
  by_cases h1 : x < nI 1
  · exact Or.inr (Or.inl h1)
  · rcases isN_or x (n + 1) with ⟨j, hj, rfl⟩ | hx
    · refine Or.inl ⟨j, ?_, by omega, rfl⟩
      rcases Nat.eq_zero_or_pos j with rfl | h
      · exact absurd (show nI 0 < nI 1 by decide) h1
      · exact h
    · rcases notN hx (by omega) with q | ⟨q, q2, q3⟩
      · exact absurd (lt01 q) h1
      · refine Or.inr (Or.inr ⟨h1, fun h6 => ?_⟩)
        rw [Int32.le_iff_toInt_le] at q2 h6
        rw [nI_toInt (by omega)] at q2 h6
        omega
theorem m_inR0 {n : Nat} (h : x < nI 1 ∨ (¬ x < nI 1 ∧ ¬ x ≤ nI n)) : fX9_in x (nI 1) (nI n) = some (nI 0) := by
  rw [m_in, if_pos (by
    rcases h with q | ⟨q, q2⟩
    · exact Or.inl q
    · exact Or.inr (Classical.byContradiction (fun q3 => q2 ((i32_le_iff _ _).mpr q3))))]
theorem drawsC (hn : n ≤ 60) : ∀ (d : Nat) (a : Fs), Finv a → 0 < (fW a).1 0 2 → (fW a).1 0 0 + d ≤ 9999 → ∃ a', Finv a' ∧ (∀ (S : Nat → Nat → Int32) (g : Hp) (i m : Nat), i + d = n → d < m → FerC b K S Q g 4 a → ∃ S' g', fX8_draws_56 m (E b S Q g) b (nI n) (nI i) = some (nI ((fW a').1 0 0), E b S' Q g') ∧ OffC S S' ∧ Lkg K g g' ∧ FerC b K S' Q g' 4 a') ∧ ∀ (S : Nat → Nat → Int32) (g : Hp) (i m : Nat), i + d = n → d < m → FerM (S 117) a → ∃ S', fX9_draws_47 m (E b S Q g) (b + 116) (nI n) (nI i) = some (nI ((fW a').1 0 0), E b S' Q g) ∧ Off [117, 123, 124] S S' ∧ FerM (S' 117) a' := by
  intro d
  induction d with
  | zero =>
    intro a hI hm ht
    refine ⟨a, hI, fun S g i m hi hd hC => ?_, fun S g i m hi hd hM => ?_⟩
    · have c1 : RepW S 12 (fW a) := hC.1
      obtain ⟨m, rfl⟩ : ∃ m', m = m' + 1 := ⟨m - 1, by omega⟩
      refine ⟨S, g, ?_, OffC.rf, Lkg.rf, hC⟩
      rw [fX8_draws_56, if_pos ((nI_leI (by omega) (by omega)).mpr (by omega))]
      simp (disch := omega) only [rO, rF, rW w12, rN, bind_sm, c1.1]
    · obtain ⟨m, rfl⟩ : ∃ m', m = m' + 1 := ⟨m - 1, by omega⟩
      refine ⟨S, ?_, Off.rf, hM⟩
      rw [fX9_draws_47, if_pos ((nI_leI (by omega) (by omega)).mpr (by omega))]
      simp (disch := omega) only [rM, rN, bind_sm, hM.1.2.2.1]
  | succ d ih =>
    intro a hI hm ht
    obtain ⟨a1, j1, j2, j3, jC, jM⟩ := draw_both (b := b) (K := K) (Q := Q) hI hm (by omega)
    obtain ⟨a2, k1, kC, kM⟩ := ih a1 j1 (by omega) (by omega)
    refine ⟨a2, k1, fun S g i m hi hd hC => ?_, fun S g i m hi hd hM => ?_⟩
    · obtain ⟨m, rfl⟩ : ∃ m', m = m' + 1 := ⟨m - 1, by omega⟩
      obtain ⟨S1, g1, e1, o1, l1, f1⟩ := jC S g hC
      obtain ⟨S2, g2, e2, o2, l2, f2⟩ := kC S1 g1 (i + 1) m (by omega) (by omega) f1
      refine ⟨S2, g2, ?_, fun r hr => by rw [o2 r hr, o1 r hr], l1.tr l2, f2⟩
      rw [fX8_draws_56, if_neg (fun q => absurd ((nI_leI (by omega) (by omega)).mp q) (by omega))]
      simp (disch := omega) only [rO, rN, bind_sm, e1, nI_add, e2]
    · obtain ⟨m, rfl⟩ : ∃ m', m = m' + 1 := ⟨m - 1, by omega⟩
      obtain ⟨S1, e1, o1, f1⟩ := jM S g hM
      obtain ⟨S2, e2, o2, f2⟩ := kM S1 g (i + 1) m (by omega) (by omega) f1
      refine ⟨S2, ?_, o1.tr o2, f2⟩
      rw [fX9_draws_47, if_neg (fun q => absurd ((nI_leI (by omega) (by omega)).mp q) (by omega))]
      simp (disch := omega) only [rN, bind_sm, e1, nI_add, e2]
theorem op_draws (h : Sim b K S Q g) : Both b S Q g (fun h => fX8_draws h b x) (fun h => fX9_draws h (b + 116) x) := by
  obtain ⟨⟨a, hI, hC, hM⟩, -, -, -, -, hg⟩ := id h
  have c1 : RepW S 12 (fW a) := hC.1
  have m1 := hM.1
  have i1 := hI.1
  have i3 := i1.2.2.1
  have it := hI.2.1
  have n117 : ∀ S1 : Nat → Nat → Int32, (∀ r, r ≠ 115 → S1 r = S r) → S1 117 = S 117 := fun S1 hS => hS _ (by decide)
  rcases rng1 60 (by decide) x with ⟨n, hn1, hn, rfl⟩ | hx
  · have cl1 : ¬ nI n < nI 1 := fun q => absurd ((nI_ltI (by omega) (by decide)).mp q) (by omega)
    have cl2 : nI n ≤ nI 60 := (nI_leI (by omega) (by decide)).mpr hn
    by_cases h0 : (fW a).1 0 2 = 0
    · refine Both.err h 3 (by decide) ?_ (fun S1 hS => ?_)
      · unfold fX8_draws
        simp (disch := omega) only [rO, rF, rW w12, rN, bind_sm, c1.2.2.1, h0, cl1, cl2, if_true, if_false]
      · have e1 : S1 117 1 = nI 0 := by rw [n117 S1 hS, m1.2.1, h0]
        unfold fX9_draws
        simp (disch := omega) only [rM, rN, bind_sm, m_in1, z10, if_false, e1, if_true]
    · by_cases h9 : (fW a).1 0 0 + n ≤ 9999
      · obtain ⟨a', j1, jC, jM⟩ := drawsC (b := b) (K := K) (Q := Q) hn n a hI (by omega) h9
        obtain ⟨S1, g1, e1, o1, l1, f1⟩ := jC S g 0 1000 (by omega) (by omega) hC
        have e117 : S1 117 = S 117 := o1 117 (by omega)
        obtain ⟨S2, e2, o2, f2⟩ := jM S1 g1 0 1000 (by omega) (by omega) (by rw [e117]; exact hM)
        refine Both.act h (a := a') (S1 := S1) (Q1 := Q) (g1 := g1) (r := nI ((fW a').1 0 0)) ?_ o1 l1 rfl (hg.lk l1) j1 f1 ⟨S2, ?_, OffR.of o2 (by decide), f2⟩
        · unfold fX8_draws
          simp (disch := omega) only [rO, rF, rW w12, rN, bind_sm, c1.2.2.1, c1.1, nI_eq, h0, cl1, cl2, if_true, if_false, nI_add, nI_leI, h9, e1]
        · have q1 : S1 117 1 = nI ((fW a).1 0 2) := by rw [e117, m1.2.1]
          have q2 : S1 117 2 = nI ((fW a).1 0 0) := by rw [e117, m1.2.2.1]
          unfold fX9_draws
          simp (disch := omega) only [rM, rN, bind_sm, m_in1, z10, if_false, q1, q2, nI_eq, h0, nI_add, nI_leI, h9, if_true, e2, Nat.one_ne_zero]
      · refine Both.err h 3 (by decide) ?_ (fun S1 hS => ?_)
        · unfold fX8_draws
          simp (disch := omega) only [rO, rF, rW w12, rN, bind_sm, c1.2.2.1, c1.1, nI_eq, h0, cl1, cl2, if_true, if_false, nI_add, nI_leI, h9]
        · have q1 : S1 117 1 = nI ((fW a).1 0 2) := by rw [n117 S1 hS, m1.2.1]
          have q2 : S1 117 2 = nI ((fW a).1 0 0) := by rw [n117 S1 hS, m1.2.2.1]
          unfold fX9_draws
          simp (disch := omega) only [rM, rN, bind_sm, m_in1, z10, if_false, q1, q2, nI_eq, h0, nI_add, nI_leI, h9, Nat.one_ne_zero]
  · refine Both.err h 1 (by decide) ?_ (fun S1 hS => ?_)
    · unfold fX8_draws
      simp only [rO, rN]
      rcases hx with q | ⟨q, q2⟩
      · rw [if_pos q]
      · rw [if_neg q, if_neg q2]
    · unfold fX9_draws
      simp only [rM, rN, m_inR0 hx, bind_sm, if_true]
end OO
