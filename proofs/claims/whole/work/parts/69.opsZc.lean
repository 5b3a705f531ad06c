/-! ===== voice ===== -/
section OZc
variable {b : Nat} {S S' S1 S2 S3 S5 S6 : Nat → Nat → Int32} {Q Q' Q1 : Nat → Nat → Nat} {g g' g1 h : Hp} {f k j p q n u c c0 c1 lo hi i e m k0 d kd vo : Nat} {x y z v r : Int32} {w : Wo} {T : Tx} {K K2 : Nat → Nat} {a a' : Fs} {s s' s0 : Nat → Int32} {t : Dt} {l : List Nat} {st : List Nat × Bool}
theorem sayP_10 (hB : bodyP kd vo = 10) (hd : d < 30) : sayP k0 m k (n + 1) d kd vo x st = ((x + nI k, (begP st.1 10, st.2))) := by
  rw [sayP, if_neg (by rw [hB]; omega)]
  simp only [hB]
  rw [if_true]
theorem sayP_11 (hB : bodyP kd vo = 11) (hd : d < 30) : sayP k0 m k (n + 1) d kd vo x st = (let q := sayP k0 m k n (d + 1) k0 0 x (begP st.1 11, st.2); (q.1 * nI 2, q.2)) := by
  rw [sayP, if_neg (by rw [hB]; omega)]
  simp only [hB]
  rw [if_neg (show ¬ 11 = 10 by decide), if_true]
theorem sayP_12 (hB : bodyP kd vo = 12) (hd : d < 30) : sayP k0 m k (n + 1) d kd vo x st = (let q := sayP k0 m k n (d + 1) k0 1 x (begP st.1 12, st.2); (q.1 - nI m, q.2)) := by
  rw [sayP, if_neg (by rw [hB]; omega)]
  simp only [hB]
  rw [if_neg (show ¬ 12 = 10 by decide), if_neg (show ¬ 12 = 11 by decide), if_true]
theorem sayP_13 (hB : bodyP kd vo = 13) (hd : d < 30) : sayP k0 m k (n + 1) d kd vo x st = ((if nI m - nI k = nI 0 then nI 0 else x / (nI m - nI k), ((begP st.1 13, st.2).1, if nI m - nI k = nI 0 then true else (begP st.1 13, st.2).2))) := by
  rw [sayP, if_neg (by rw [hB]; omega)]
  simp only [hB]
  rw [if_neg (show ¬ 13 = 10 by decide), if_neg (show ¬ 13 = 11 by decide), if_neg (show ¬ 13 = 12 by decide), if_true]
theorem sayP_20 (hB : bodyP kd vo = 20) (hd : d < 30) : sayP k0 m k (n + 1) d kd vo x st = (let q := sayP k0 m k n (d + 1) 0 0 x (begP st.1 20, st.2); (q.1 - nI 5, q.2)) := by
  rw [sayP, if_neg (by rw [hB]; omega)]
  simp only [hB]
  rw [if_neg (show ¬ 20 = 10 by decide), if_neg (show ¬ 20 = 11 by decide), if_neg (show ¬ 20 = 12 by decide), if_neg (show ¬ 20 = 13 by decide), if_true]
theorem sayP_21 (hB : bodyP kd vo = 21) (hd : d < 30) : sayP k0 m k (n + 1) d kd vo x st = (let q := sayP k0 m k n (d + 1) 0 3 x (begP st.1 21, st.2); if q.2.2 = true then (nI 0, q.2) else (let r := sayP k0 m k n (d + 1) k0 1 (nI 1) q.2; (q.1 + r.1, r.2))) := by
  rw [sayP, if_neg (by rw [hB]; omega)]
  simp only [hB]
  rw [if_neg (show ¬ 21 = 10 by decide), if_neg (show ¬ 21 = 11 by decide), if_neg (show ¬ 21 = 12 by decide), if_neg (show ¬ 21 = 13 by decide), if_neg (show ¬ 21 = 20 by decide), if_true]
theorem sayP_30 (hB : bodyP kd vo = 30) (hd : d < 30) : sayP k0 m k (n + 1) d kd vo x st = (let q := sayP k0 m k n (d + 1) 0 1 x (begP st.1 30, st.2); (-q.1, q.2)) := by
  rw [sayP, if_neg (by rw [hB]; omega)]
  simp only [hB]
  rw [if_neg (show ¬ 30 = 10 by decide), if_neg (show ¬ 30 = 11 by decide), if_neg (show ¬ 30 = 12 by decide), if_neg (show ¬ 30 = 13 by decide), if_neg (show ¬ 30 = 20 by decide), if_neg (show ¬ 30 = 21 by decide), if_true]
theorem sayP_40 (hB : bodyP kd vo = 40) (hd : d < 30) : sayP k0 m k (n + 1) d kd vo x st = (let q := sayP k0 m k n (d + 1) 0 2 (x / nI 2) (begP st.1 40, st.2); (q.1, q.2)) := by
  rw [sayP, if_neg (by rw [hB]; omega)]
  simp only [hB]
  rw [if_neg (show ¬ 40 = 10 by decide), if_neg (show ¬ 40 = 11 by decide), if_neg (show ¬ 40 = 12 by decide), if_neg (show ¬ 40 = 13 by decide), if_neg (show ¬ 40 = 20 by decide), if_neg (show ¬ 40 = 21 by decide), if_neg (show ¬ 40 = 30 by decide), if_true]
theorem sayP_50 (hB : bodyP kd vo = 50) (hd : d < 30) : sayP k0 m k (n + 1) d kd vo x st = (let q := sayP k0 m k n (d + 1) 1 0 x (begP st.1 50, st.2); (q.1 * nI 3, q.2)) := by
  rw [sayP, if_neg (by rw [hB]; omega)]
  simp only [hB]
  rw [if_neg (show ¬ 50 = 10 by decide), if_neg (show ¬ 50 = 11 by decide), if_neg (show ¬ 50 = 12 by decide), if_neg (show ¬ 50 = 13 by decide), if_neg (show ¬ 50 = 20 by decide), if_neg (show ¬ 50 = 21 by decide), if_neg (show ¬ 50 = 30 by decide), if_neg (show ¬ 50 = 40 by decide), if_true]
theorem sayP_51 (hB : bodyP kd vo = 51) (hd : d < 30) : sayP k0 m k (n + 1) d kd vo x st = (let q := sayP k0 m k n (d + 1) 1 2 x (begP st.1 51, st.2); (q.1 ^^^ nI k, q.2)) := by
  rw [sayP, if_neg (by rw [hB]; omega)]
  simp only [hB]
  rw [if_neg (show ¬ 51 = 10 by decide), if_neg (show ¬ 51 = 11 by decide), if_neg (show ¬ 51 = 12 by decide), if_neg (show ¬ 51 = 13 by decide), if_neg (show ¬ 51 = 20 by decide), if_neg (show ¬ 51 = 21 by decide), if_neg (show ¬ 51 = 30 by decide), if_neg (show ¬ 51 = 40 by decide), if_neg (show ¬ 51 = 50 by decide), if_true]
theorem sayP_60 (hB : bodyP kd vo = 60) (hd : d < 30) : sayP k0 m k (n + 1) d kd vo x st = (let q := sayP k0 m k n (d + 1) 2 1 (x + nI 1) (begP st.1 60, st.2); (q.1, q.2)) := by
  rw [sayP, if_neg (by rw [hB]; omega)]
  simp only [hB]
  rw [if_neg (show ¬ 60 = 10 by decide), if_neg (show ¬ 60 = 11 by decide), if_neg (show ¬ 60 = 12 by decide), if_neg (show ¬ 60 = 13 by decide), if_neg (show ¬ 60 = 20 by decide), if_neg (show ¬ 60 = 21 by decide), if_neg (show ¬ 60 = 30 by decide), if_neg (show ¬ 60 = 40 by decide), if_neg (show ¬ 60 = 50 by decide), if_neg (show ¬ 60 = 51 by decide), if_true]
theorem sayP_70 (hB : bodyP kd vo = 70) (hd : d < 30) : sayP k0 m k (n + 1) d kd vo x st = ((nI 3, (begP st.1 70, st.2))) := by
  rw [sayP, if_neg (by rw [hB]; omega)]
  simp only [hB]
  rw [if_neg (show ¬ 70 = 10 by decide), if_neg (show ¬ 70 = 11 by decide), if_neg (show ¬ 70 = 12 by decide), if_neg (show ¬ 70 = 13 by decide), if_neg (show ¬ 70 = 20 by decide), if_neg (show ¬ 70 = 21 by decide), if_neg (show ¬ 70 = 30 by decide), if_neg (show ¬ 70 = 40 by decide), if_neg (show ¬ 70 = 50 by decide), if_neg (show ¬ 70 = 51 by decide), if_neg (show ¬ 70 = 60 by decide), if_true]
theorem sayP_71 (hB : bodyP kd vo = 71) (hd : d < 30) : sayP k0 m k (n + 1) d kd vo x st = (let q := sayP k0 m k n (d + 1) 0 1 x (begP st.1 71, st.2); (q.1 + nI m, q.2)) := by
  rw [sayP, if_neg (by rw [hB]; omega)]
  simp only [hB]
  rw [if_neg (show ¬ 71 = 10 by decide), if_neg (show ¬ 71 = 11 by decide), if_neg (show ¬ 71 = 12 by decide), if_neg (show ¬ 71 = 13 by decide), if_neg (show ¬ 71 = 20 by decide), if_neg (show ¬ 71 = 21 by decide), if_neg (show ¬ 71 = 30 by decide), if_neg (show ¬ 71 = 40 by decide), if_neg (show ¬ 71 = 50 by decide), if_neg (show ¬ 71 = 51 by decide), if_neg (show ¬ 71 = 60 by decide), if_neg (show ¬ 71 = 70 by decide), if_true]
theorem say_rows (hk : kd < 7) (hd : d ≤ 20) : sayP k0 m k (n + 4) d kd 0 x st = rowsR k 8 kd x st := by
  have hc : kd = 0 ∨ kd = 1 ∨ kd = 2 ∨ kd = 3 ∨ kd = 4 ∨ kd = 5 ∨ kd = 6 := by omega
  rcases hc with rfl | rfl | rfl | rfl | rfl | rfl | rfl
  · rw [sayP_10 (by decide) (by omega)]; rfl
  · rw [sayP_20 (by decide) (by omega), sayP_10 (by decide) (by omega)]; rfl
  · rw [sayP_10 (by decide) (by omega)]; rfl
  · rw [sayP_10 (by decide) (by omega)]; rfl
  · rw [sayP_50 (by decide) (by omega), sayP_20 (by decide) (by omega), sayP_10 (by decide) (by omega)]; rfl
  · rw [sayP_10 (by decide) (by omega)]; rfl
  · rw [sayP_70 (by decide) (by omega)]; rfl
theorem neg0 (q : Int32) : nI 0 - q = -q := by
  show (0 : Int32) - q = -q
  rw [Int32.sub_eq_add_neg, Int32.zero_add]
theorem say_keeps0 (hk0 : k0 < 7) (hd : d ≤ 19) (hB : bodyP kd 1 = 11) : sayP k0 m k (n + 5) d kd 1 x st = keepsR k0 m k 1 0 x st := by
  rw [sayP_11 hB (by omega), say_rows hk0 (by omega)]
  rfl
theorem say_keeps2 (hk0 : k0 < 7) (hd : d ≤ 18) : sayP k0 m k (n + 6) d 2 1 x st = keepsR k0 m k 2 2 x st := by
  have e : keepsR k0 m k 2 2 x st = (nI 0 - (keepsR k0 m k 1 0 x (begP st.1 30, st.2)).1, (keepsR k0 m k 1 0 x (begP st.1 30, st.2)).2) := rfl
  rw [sayP_30 (by decide) (by omega), say_keeps0 hk0 (by omega) (by decide), e, neg0]
theorem keepsR_z (n : Nat) (x : Int32) (st : List Nat × Bool) : keepsR k0 m k (n + 1) 0 x st = keepsR k0 m k 1 0 x st := by
  rw [keepsR, keepsR, if_pos rfl, if_pos rfl]
theorem keepsR_u1 (n : Nat) (x : Int32) (st : List Nat × Bool) (hk : kd = 1 ∨ kd = 3 ∨ kd = 4) : keepsR k0 m k (n + 1) kd x st = keepsR k0 m k n (abP kd) x st := by
  rw [keepsR, if_neg (by omega), if_neg (by omega), if_neg (by omega), if_neg (by omega)]
theorem keepsR_2s (n : Nat) (x : Int32) (st : List Nat × Bool) : keepsR k0 m k (n + 1) 2 x st = (let q := keepsR k0 m k n 0 x (begP st.1 30, st.2); (nI 0 - q.1, q.2)) := by
  rw [keepsR, if_neg (by decide), if_pos rfl]
theorem keepsR_2 (n : Nat) (x : Int32) (st : List Nat × Bool) : keepsR k0 m k (n + 2) 2 x st = keepsR k0 m k 2 2 x st := by
  show keepsR k0 m k (n + 1 + 1) 2 x st = keepsR k0 m k (1 + 1) 2 x st
  rw [keepsR_2s (n + 1), keepsR_2s 1, keepsR_z n]
theorem keepsR_5 (n : Nat) (x : Int32) (st : List Nat × Bool) : keepsR k0 m k (n + 1) 5 x st = (let q := keepsR k0 m k n 2 (x + nI 1) (begP st.1 60, st.2); (q.1, q.2)) := by
  rw [keepsR, if_neg (by decide), if_neg (by decide), if_pos rfl]
theorem keepsR_6 (n : Nat) (x : Int32) (st : List Nat × Bool) : keepsR k0 m k (n + 1) 6 x st = (let q := keepsR k0 m k n 0 x (begP st.1 71, st.2); (q.1 + nI m, q.2)) := by
  rw [keepsR, if_neg (by decide), if_neg (by decide), if_neg (by decide), if_pos rfl]
theorem say_keeps (hk0 : k0 < 7) (hk : kd < 7) (hd : d ≤ 17) : sayP k0 m k (n + 7) d kd 1 x st = keepsR k0 m k 16 kd x st := by
  have hc : kd = 0 ∨ kd = 1 ∨ kd = 2 ∨ kd = 3 ∨ kd = 4 ∨ kd = 5 ∨ kd = 6 := by omega
  rcases hc with rfl | rfl | rfl | rfl | rfl | rfl | rfl
  · rw [say_keeps0 hk0 (by omega) (by decide), keepsR_z 15]
  · rw [say_keeps0 hk0 (by omega) (by decide), keepsR_u1 15 x st (by omega), show abP 1 = 0 from rfl, keepsR_z 14]
  · rw [say_keeps2 hk0 (by omega), keepsR_2 14]
  · rw [say_keeps0 hk0 (by omega) (by decide), keepsR_u1 15 x st (by omega), show abP 3 = 0 from rfl, keepsR_z 14]
  · rw [say_keeps0 hk0 (by omega) (by decide), keepsR_u1 15 x st (by omega), show abP 4 = 1 from rfl, keepsR_u1 14 x st (by omega), show abP 1 = 0 from rfl, keepsR_z 13]
  · rw [sayP_60 (by decide) (by omega), say_keeps2 hk0 (by omega), keepsR_5 15, keepsR_2 13]
  · rw [sayP_71 (by decide) (by omega), say_keeps0 hk0 (by omega) (by decide), keepsR_6 15, keepsR_z 14]
theorem say_asks0 (hk0 : k0 < 7) (hd : d ≤ 16) (hB : bodyP kd 2 = 12) : sayP k0 m k (n + 8) d kd 2 x st = asksR k0 m k 1 0 x st := by
  rw [sayP_12 hB (by omega), say_keeps hk0 hk0 (by omega)]
  rfl
theorem say_asks (hk0 : k0 < 7) (hk : kd < 7) (hd : d ≤ 15) : sayP k0 m k (n + 9) d kd 2 x st = asksR k0 m k 24 kd x st := by
  have hc : kd = 0 ∨ kd = 1 ∨ kd = 2 ∨ kd = 3 ∨ kd = 4 ∨ kd = 5 ∨ kd = 6 := by omega
  rcases hc with rfl | rfl | rfl | rfl | rfl | rfl | rfl
  · rw [say_asks0 hk0 (by omega) (by decide)]; rfl
  · rw [say_asks0 hk0 (by omega) (by decide)]; rfl
  · rw [say_asks0 hk0 (by omega) (by decide)]; rfl
  · rw [sayP_40 (by decide) (by omega), say_asks0 hk0 (by omega) (by decide)]; rfl
  · rw [sayP_51 (by decide) (by omega), say_asks0 hk0 (by omega) (by decide)]; rfl
  · rw [say_asks0 hk0 (by omega) (by decide)]; rfl
  · rw [say_asks0 hk0 (by omega) (by decide)]; rfl
theorem say_parts1 {tr : List Nat} (hk0 : k0 < 7) (hd : d ≤ 15) (hB : bodyP kd 3 = 21) : sayP k0 m k (n + 9) d kd 3 x (tr, false) = partsR k0 m k 2 1 x (tr, false) := by
  rw [sayP_21 hB (by omega), sayP_13 (by decide) (by omega)]
  dsimp only
  rw [say_keeps hk0 hk0 (by omega)]
  rfl
theorem say_parts {tr : List Nat} (hk0 : k0 < 7) (hk : kd < 7) (hd : d ≤ 15) : sayP k0 m k (n + 9) d kd 3 x (tr, false) = partsR k0 m k 32 kd x (tr, false) := by
  have hc : kd = 0 ∨ kd = 1 ∨ kd = 2 ∨ kd = 3 ∨ kd = 4 ∨ kd = 5 ∨ kd = 6 := by omega
  rcases hc with rfl | rfl | rfl | rfl | rfl | rfl | rfl
  · rw [sayP_13 (by decide) (by omega)]; rfl
  · rw [say_parts1 hk0 (by omega) (by decide)]; rfl
  · rw [sayP_13 (by decide) (by omega)]; rfl
  · rw [sayP_13 (by decide) (by omega)]; rfl
  · rw [say_parts1 hk0 (by omega) (by decide)]; rfl
  · rw [sayP_13 (by decide) (by omega)]; rfl
  · rw [sayP_13 (by decide) (by omega)]; rfl
theorem c_speak (hk0 : k0 < 7) (hv : vo < 4) : ∃ S', fX5_speak (E b S Q g) (b + 113) (nI k0) (nI m) (nI k) (nI vo) x = some ((sayP k0 m k 40 0 k0 vo x ([], false)).1, E b S' Q g) ∧ VC k0 m k S' (sayP k0 m k 40 0 k0 vo x ([], false)).2 ∧ OffV S S' := by
  obtain ⟨S1, hS1⟩ : ∃ S1, S1 = up2 (up2 (up2 (up2 (up2 S 113 3 (nI k0)) 113 4 (nI m)) 113 5 (nI k)) 113 1 (nI 0)) 113 2 (nI 0) := ⟨_, rfl⟩
  have v1 : VC k0 m k S1 ([], false) := by
    rw [hS1]
    refine ⟨?_, ?_, ?_, ?_, ?_, fun i v hv => by simp at hv, Nat.zero_le _⟩
    · rw [up2_at, if_neg (by decide), up2_at, if_neg (by decide), up2_at, if_neg (by decide), up2_at, if_neg (by decide), up2_at, if_pos rfl]
    · rw [up2_at, if_neg (by decide), up2_at, if_neg (by decide), up2_at, if_neg (by decide), up2_at, if_pos rfl]
    · rw [up2_at, if_neg (by decide), up2_at, if_neg (by decide), up2_at, if_pos rfl]
    · rw [up2_at, if_neg (by decide), up2_at, if_pos rfl]; rfl
    · rw [up2_at, if_pos rfl]; rfl
  obtain ⟨S2, e2, v2, o2⟩ := c_say (b := b) (Q := Q) (g := g) hk0 40 0 k0 vo x ([], false) S1 (by omega) (by omega) hk0 hv v1
  refine ⟨S2, ?_, v2, OffV.tr (fun r h1 h2 => by rw [hS1, up2_row (by omega), up2_row (by omega), up2_row (by omega), up2_row (by omega), up2_row (by omega)]) o2⟩
  unfold fX5_speak fX5_say
  simp (disch := omega) only [rV, rN, bind_sm, ← hS1, v1.1]
  rw [e2, bind_sm]
def OffX (S S' : Nat → Nat → Int32) : Prop := (∀ r, r ≠ 116 → r ≠ 128 → S' r = S r) ∧ S' 116 4 = S 116 4
theorem OffX.tr (h : OffX S S1) (h' : OffU S1 S2) : OffX S S2 := ⟨fun r h1 h2 => (h'.1 r h1 h2).trans (h.1 r h1 h2), (h'.2 4 (by decide) (by decide)).trans h.2⟩
theorem m_speak (hk : k < 4) (hk0 : k0 < 7) (hv : vo < 4) (h1 : S 117 (24 + 13 * k) = nI k0) (h2 : S 117 (24 + 13 * k + 1) = nI m) (hM : fX9_isMan (E b S Q g) (b + 116) (nI k) = some (nI 1)) : ∃ S', fX9_voice (E b S Q g) (b + 116) (nI k) (nI vo) x = fX9_voice_95 (E b S' Q g) (b + 116) (sayP k0 m k 40 0 k0 vo x ([], false)).1 ∧ VM k0 m k S' (sayP k0 m k 40 0 k0 vo x ([], false)).2 ∧ OffX S S' := by
  obtain ⟨S1, hS1⟩ : ∃ S1, S1 = up2 (up2 (up2 S 116 20 (nI 0)) 116 21 (nI k)) 116 22 (nI 0) := ⟨_, rfl⟩
  have n1 : ∀ r, r ≠ 116 → S1 r = S r := fun r hr => by rw [hS1, up2_row (by omega), up2_row (by omega), up2_row (by omega)]
  have v1 : VM k0 m k S1 ([], false) := by
    refine ⟨?_, by rw [n1 117 (by decide)]; exact h1, by rw [n1 117 (by decide)]; exact h2, ?_, ?_, fun i v hv => by simp at hv, Nat.zero_le _⟩
    · rw [hS1, up2_at, if_neg (by decide), up2_at, if_pos rfl]
    · rw [hS1, up2_at, if_neg (by decide), up2_at, if_neg (by decide), up2_at, if_pos rfl]; rfl
    · rw [hS1, up2_at, if_pos rfl]; rfl
  have o1 : OffX S S1 := ⟨fun r h1 h2 => n1 r h1, by rw [hS1, up2_at, if_neg (by decide), up2_at, if_neg (by decide), up2_at, if_neg (by decide)]⟩
  have e0 : fX9_voice (E b S Q g) (b + 116) (nI k) (nI vo) x = if nI vo = nI 0 then (fX9_rowsAs (E b S1 Q g) (b + 116) (nI k0) x).bind fun q52 => fX9_voice_95 q52.2 (b + 116) q52.1 else if nI vo = nI 1 then (fX9_keepsAs (E b S1 Q g) (b + 116) (nI k0) x).bind fun q67 => fX9_voice_95 q67.2 (b + 116) q67.1 else if nI vo = nI 2 then (fX9_asksAs (E b S1 Q g) (b + 116) (nI k0) x).bind fun q82 => fX9_voice_95 q82.2 (b + 116) q82.1 else (fX9_partsAs (E b S1 Q g) (b + 116) (nI k0) x).bind fun q92 => fX9_voice_95 q92.2 (b + 116) q92.1 := by
    unfold fX9_voice
    rw [gO_M, hM, bind_sm, if_neg (by decide), show (0 : Int32) = nI 0 from rfl, show (3 : Int32) = nI 3 from rfl, m_in1 (Nat.zero_le _) (by omega) (by decide), bind_sm, if_neg (by decide)]
    rw [show putV (E b S Q g) 9 (b + 116) 20 (.int (nI 0)) = some (E b (up2 S 116 20 (nI 0)) Q g) by simp only [rM], bind_sm]
    rw [show putV (E b (up2 S 116 20 (nI 0)) Q g) 9 (b + 116) 21 (.int (nI k)) = some (E b (up2 (up2 S 116 20 (nI 0)) 116 21 (nI k)) Q g) by simp only [rM], bind_sm]
    rw [show putV (E b (up2 (up2 S 116 20 (nI 0)) 116 21 (nI k)) Q g) 9 (b + 116) 22 (.int (nI 0)) = some (E b (up2 (up2 (up2 S 116 20 (nI 0)) 116 21 (nI k)) 116 22 (nI 0)) Q g) by simp only [rM], bind_sm, ← hS1, m_kindNow v1 hk, bind_sm]
    rfl
  have hv4 : vo = 0 ∨ vo = 1 ∨ vo = 2 ∨ vo = 3 := by omega
  rcases hv4 with rfl | rfl | rfl | rfl
  · obtain ⟨S2, e2, v2, o2⟩ := m_rowsAs (b := b) (Q := Q) (g := g) (x := x) hk hk0 v1
    rw [show sayP k0 m k 40 0 k0 0 x ([], false) = rowsR k 8 k0 x ([], false) from say_rows (n := 36) hk0 (by omega)]
    exact ⟨S2, by rw [e0, if_pos rfl, e2, bind_sm], v2, o1.tr o2⟩
  · obtain ⟨S2, e2, v2, o2⟩ := m_keepsAs (b := b) (Q := Q) (g := g) (x := x) hk hk0 hk0 v1
    rw [show sayP k0 m k 40 0 k0 1 x ([], false) = keepsR k0 m k 16 k0 x ([], false) from say_keeps (n := 33) hk0 hk0 (by omega)]
    exact ⟨S2, by rw [e0, if_neg (by decide), if_pos rfl, e2, bind_sm], v2, o1.tr o2⟩
  · obtain ⟨S2, e2, v2, o2⟩ := m_asksAs (b := b) (Q := Q) (g := g) (x := x) hk hk0 hk0 v1
    rw [show sayP k0 m k 40 0 k0 2 x ([], false) = asksR k0 m k 24 k0 x ([], false) from say_asks (n := 31) hk0 hk0 (by omega)]
    exact ⟨S2, by rw [e0, if_neg (by decide), if_neg (by decide), if_pos rfl, e2, bind_sm], v2, o1.tr o2⟩
  · obtain ⟨S2, e2, v2, o2⟩ := m_partsAs (b := b) (Q := Q) (g := g) (x := x) hk hk0 hk0 v1
    rw [show sayP k0 m k 40 0 k0 3 x ([], false) = partsR k0 m k 32 k0 x ([], false) from say_parts (n := 31) hk0 hk0 (by omega)]
    exact ⟨S2, by rw [e0, if_neg (by decide), if_neg (by decide), if_neg (by decide), e2, bind_sm], v2, o1.tr o2⟩
theorem Sim.voi (h : Sim b K S Q g) (ne : ∀ r, r ≠ 113 → r ≠ 114 → r ≠ 116 → r ≠ 128 → S2 r = S r) (n4 : S2 116 4 = S 116 4) (hv : SimV S2) : Sim b K S2 Q g := by
  obtain ⟨h1, ⟨h2, h3⟩, h4, h5, h6, h7⟩ := h
  refine ⟨h1.fr (fun m hm => ne _ (by omega) (by omega) (by omega) (by omega)) (ne _ (by omega) (by omega) (by omega) (by omega)) rfl Lkg.rf, ⟨by rw [ne 0 (by omega) (by omega) (by omega) (by omega), n4]; exact h2, fun hn => ?_⟩, fun i hi => ?_, hv, fun k hk => ?_, h7⟩
  · rw [n4] at hn
    exact (h3 hn).fr (fun m hm => ne _ (by omega) (by omega) (by omega) (by omega)) (ne _ (by omega) (by omega) (by omega) (by omega)) rfl Lkg.rf
  · rw [ne 115 (by omega) (by omega) (by omega) (by omega), ne 121 (by omega) (by omega) (by omega) (by omega)]; exact h4 i hi
  · rw [ne 106 (by omega) (by omega) (by omega) (by omega), ne 107 (by omega) (by omega) (by omega) (by omega), ne 129 (by omega) (by omega) (by omega) (by omega), ne 130 (by omega) (by omega) (by omega) (by omega), ne 131 (by omega) (by omega) (by omega) (by omega), ne (109 + k) (by omega) (by omega) (by omega) (by omega)]
    exact h6 k hk
/-- an error behind any change -/
theorem Both.errG {F G : Hp → Option (Int32 × Hp)} (j : Nat) (hj : j < 7) (hF : F (E b S Q g) = (fX8_refuse (E b S1 Q1 g1) b (nI j)).bind fun q => some (q.1, q.2))
    (hG : ∀ S2 : Nat → Nat → Int32, (∀ r, r ≠ 115 → S2 r = S1 r) → ∃ S3, G (E b S2 Q1 g1) = (fX9_error (E b S3 Q1 g1) (b + 116) (nI j)).bind (fun q => some (q.1, q.2)) ∧ S3 115 = S2 115 ∧ Sim b K (fun r => if r = 115 then S1 115 else S3 r) Q1 g1) : Both b S Q g F G := by
  rw [c_refuse hj, bind_sm] at hF
  obtain ⟨S3, e3, e115, hL⟩ := hG (up2 S1 115 j (S1 115 j + nI 1)) (fun r hr => up2_row (fun q => hr q.symm))
  rw [m_error hj, bind_sm] at e3
  have hE := hL.err hj
  have key : up2 (fun r => if r = 115 then S1 115 else S3 r) 115 j ((fun r => if r = 115 then S1 115 else S3 r) 115 j + nI 1) = S3 := by
    funext r i
    by_cases h5 : r = 115
    · subst h5
      rw [up2_at, e115, up2_at]
      simp only [if_true]
    · rw [up2_ne h5]
      simp only [h5, if_false]
  simp only [if_true] at hE key
  rw [key] at hE
  exact ⟨_, _, _, _, _, K, hF, e3, hE⟩
theorem op_voice (h : Sim b K S Q g) : Both b S Q g (fun h => fX8_voice h b x y z) (fun h => fX9_voice h (b + 116) x y z) := by
  obtain ⟨⟨a, hI, hC, hM⟩, -, -, -, -, hg⟩ := id h
  have c1 : RepW S 12 (fW a) := hC.1
  have m1 := hM.1
  have i1 := hI.1
  have i3 := i1.2.2.1
  have n117 : ∀ S1 : Nat → Nat → Int32, (∀ r, r ≠ 115 → S1 r = S r) → S1 117 = S 117 := fun S1 hS => hS _ (by decide)
  rcases isN_or x ((fW a).1 0 2) with ⟨k, hk, rfl⟩ | hx
  · have cM := c_hasMan1 (b := b) (Q := Q) (g := g) w12 c1.2.2.1 (by omega) hk
    obtain ⟨q1, q2, q3, q4, q5, q6⟩ := c1.2.2.2.2 k hk
    obtain ⟨p1, p2, p3, p4, p5, p6⟩ := m1.2.2.2.2 k hk
    have hk4 : k < 4 := by omega
    have hk0 : (fW a).1 3 k < 7 := by have := i1.2.2.2.2.2.1 k; omega
    rcases isN_or y 4 with ⟨vo, hv, rfl⟩ | hy
    · obtain ⟨S1, e1, v1, o1⟩ := c_speak (b := b) (S := S) (Q := Q) (g := g) (x := z) (m := (fW a).1 4 k) (k := k) hk0 hv
      have e117 : S1 117 = S 117 := o1 117 (by decide) (by decide)
      have cV : ∀ (r : Int32) (p : Bool), S1 113 2 = (if p = true then nI 1 else nI 0) → (fX5_speak (E b S Q g) (b + 113) (nI ((fW a).1 3 k)) (nI ((fW a).1 4 k)) (nI k) (nI vo) z = some (r, E b S1 Q g)) → fX8_voice (E b S Q g) b (nI k) (nI vo) z = if p = true then (fX8_refuse (E b S1 Q g) b (nI 6)).bind fun q => some (q.1, q.2) else some (r, E b S1 Q g) := by
        intro r p hp he
        unfold fX8_voice
        simp (disch := omega) only [rO, rF, rW w12, rN, bind_sm, cM, z10, if_false, nI_ltI, q1, q2, he]
        rw [if_neg (by omega), if_pos hv]
        simp (disch := omega) only [rO, rV, bind_sm, hp]
        cases p
        · rfl
        · rfl
      have mV : ∀ S2 : Nat → Nat → Int32, (∀ r, r ≠ 115 → S2 r = S1 r) → ∃ S3, fX9_voice (E b S2 Q g) (b + 116) (nI k) (nI vo) z = fX9_voice_95 (E b S3 Q g) (b + 116) (sayP ((fW a).1 3 k) ((fW a).1 4 k) k 40 0 ((fW a).1 3 k) vo z ([], false)).1 ∧ VM ((fW a).1 3 k) ((fW a).1 4 k) k S3 (sayP ((fW a).1 3 k) ((fW a).1 4 k) k 40 0 ((fW a).1 3 k) vo z ([], false)).2 ∧ OffX S2 S3 := by
        intro S2 hS
        have e2 : S2 117 = S 117 := by rw [hS _ (by decide), e117]
        exact m_speak (b := b) (S := S2) (Q := Q) (g := g) hk4 hk0 hv (by rw [e2]; exact p1) (by rw [e2]; exact p2) (m_isMan1 (S := S2) (by rw [e2]; exact m1.2.1) (by omega) hk)
      obtain ⟨w, hw⟩ : ∃ w, sayP ((fW a).1 3 k) ((fW a).1 4 k) k 40 0 ((fW a).1 3 k) vo z ([], false) = w := ⟨_, rfl⟩
      rw [hw] at e1 v1 mV
      have hF := cV w.1 w.2.2 v1.2.2.2.2.1 e1
      -- the state behind both
      have fin : ∀ S2 S3 : Nat → Nat → Int32, (∀ r, r ≠ 115 → S2 r = S1 r) → VM ((fW a).1 3 k) ((fW a).1 4 k) k S3 w.2 → OffX S2 S3 → Sim b K (fun r => if r = 115 then S1 115 else S3 r) Q g := by
        intro S2 S3 hS hV3 ho
        have n3 : ∀ r, r ≠ 113 → r ≠ 114 → r ≠ 116 → r ≠ 128 → (fun r => if r = 115 then S1 115 else S3 r) r = S r := by
          intro r h1 h2 h3 h4
          by_cases h5 : r = 115
          · simp only [h5, if_true]
            rw [o1 115 (by decide) (by decide)]
          · simp only [h5, if_false]
            rw [ho.1 r h3 h4, hS r h5, o1 r h1 h2]
        refine h.voi n3 ?_ ⟨w.2.1.length, v1.2.2.2.2.2.2, ?_, ?_, fun i hi => ?_⟩
        · show S3 116 4 = S 116 4
          rw [ho.2, hS 116 (by decide), o1 116 (by decide) (by decide)]
        · show S3 113 1 = _
          rw [ho.1 113 (by decide) (by decide), hS 113 (by decide)]; exact v1.2.2.2.1
        · exact hV3.2.2.2.1
        · show S3 114 i = S3 128 i
          rw [ho.1 114 (by decide) (by decide), hS 114 (by decide), v1.2.2.2.2.2.1.at0 hi, hV3.2.2.2.2.2.1.at0 hi]
      by_cases hp : w.2.2 = true
      · rw [if_pos hp] at hF
        refine Both.errG (K := K) 6 (by decide) hF (fun S2 hS => ?_)
        obtain ⟨S3, e3, v3, o3⟩ := mV S2 hS
        have hM : (fun h => fX9_voice h (b + 116) (nI k) (nI vo) z) (E b S2 Q g) = (fX9_error (E b S3 Q g) (b + 116) (nI 6)).bind fun q => some (q.1, q.2) := by
          show fX9_voice (E b S2 Q g) (b + 116) (nI k) (nI vo) z = _
          rw [e3]
          unfold fX9_voice_95
          rw [getI_M22, v3.2.2.2.2.1, bind_sm, if_pos hp, if_neg (by decide)]
          rfl
        exact ⟨S3, hM, o3.1 115 (by decide) (by decide), fin S2 S3 hS v3 o3⟩
      · rw [if_neg hp] at hF
        obtain ⟨S3, e3, v3, o3⟩ := mV S1 (fun _ _ => rfl)
        have hM : fX9_voice (E b S1 Q g) (b + 116) (nI k) (nI vo) z = some (w.1, E b S3 Q g) := by
          rw [e3]
          unfold fX9_voice_95
          rw [getI_M22, v3.2.2.2.2.1, bind_sm, if_neg hp, if_pos (by decide)]
        have hs := fin S1 S3 (fun _ _ => rfl) v3 o3
        have e115 : (fun r => if r = 115 then S1 115 else S3 r) = S3 := by
          funext r
          by_cases h5 : r = 115
          · simp only [h5, if_true]
            exact (o3.1 115 (by decide) (by decide)).symm
          · simp only [h5, if_false]
        rw [e115] at hs
        exact ⟨w.1, S1, Q, g, S3, K, hF, hM, hs⟩
    · refine Both.err h 1 (by decide) ?_ (fun S1 hS => ?_)
      · unfold fX8_voice
        rw [(rO b S Q g).1, (rO b S Q g).2.2.1, bind_sm, show getR (E b S Q g) 1 (b + 4) 0 = some (b + 12) by simp only [rF], bind_sm, cM, bind_sm, if_neg (by decide)]
        rcases notN hy (by decide) with q | ⟨q, -, q2⟩
        · rw [if_pos (show y < 0 from q)]; rfl
        · rw [if_neg (show ¬ y < 0 from q), if_neg (show ¬ y < 4 from q2)]; rfl
      · unfold fX9_voice
        rw [gO_M, m_isMan1 (S := S1) (by rw [n117 S1 hS]; exact m1.2.1) (by omega) hk, bind_sm, if_neg (by decide), show (0 : Int32) = nI 0 from rfl, show (3 : Int32) = nI 3 from rfl, m_in0 (hi := 3) hy (by decide), bind_sm, if_pos rfl]
        rfl
  · refine Both.err h 1 (by decide) ?_ (fun S1 hS => ?_)
    · unfold fX8_voice
      rw [(rO b S Q g).1, (rO b S Q g).2.2.1, bind_sm, show getR (E b S Q g) 1 (b + 4) 0 = some (b + 12) by simp only [rF], bind_sm, c_hasMan0 w12 c1.2.2.1 (by omega) hx, bind_sm, if_pos (by decide)]
      rfl
    · unfold fX9_voice
      rw [gO_M, m_isMan0 (S := S1) (by rw [n117 S1 hS]; exact m1.2.1) (by omega) hx, bind_sm, if_pos (by decide)]
      rfl
end OZc
