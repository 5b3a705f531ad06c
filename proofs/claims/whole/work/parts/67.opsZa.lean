/-! ===== voices: what the class says ===== -/
section OZa
variable {b : Nat} {S S' S1 S2 S3 S5 S6 : Nat → Nat → Int32} {Q Q' Q1 : Nat → Nat → Nat} {g g' g1 h : Hp} {f k j p q n u c c0 c1 lo hi i e m k0 : Nat} {x y z v r : Int32} {w : Wo} {T : Tx} {K K2 : Nat → Nat} {a a' : Fs} {s s' s0 : Nat → Int32} {t : Dt} {l : List Nat} {st : List Nat × Bool}

def sayP (k0 m k : Nat) : Nat → Nat → Nat → Nat → Int32 → List Nat × Bool → Int32 × (List Nat × Bool)
  | 0, _, _, _, _, st => (nI 0, st)
  | n + 1, d, kd, vo, x, st =>
    if bodyP kd vo = 0 ∨ 30 ≤ d then (nI 0, st) else
    let B := bodyP kd vo
    let st1 := (begP st.1 B, st.2)
    if B = 10 then ((x + nI k, st1))
    else if B = 11 then (let q := sayP k0 m k n (d + 1) k0 0 x st1; (q.1 * nI 2, q.2))
    else if B = 12 then (let q := sayP k0 m k n (d + 1) k0 1 x st1; (q.1 - nI m, q.2))
    else if B = 13 then ((if nI m - nI k = nI 0 then nI 0 else x / (nI m - nI k), (st1.1, if nI m - nI k = nI 0 then true else st1.2)))
    else if B = 20 then (let q := sayP k0 m k n (d + 1) 0 0 x st1; (q.1 - nI 5, q.2))
    else if B = 21 then (let q := sayP k0 m k n (d + 1) 0 3 x st1; if q.2.2 = true then (nI 0, q.2) else (let r := sayP k0 m k n (d + 1) k0 1 (nI 1) q.2; (q.1 + r.1, r.2)))
    else if B = 30 then (let q := sayP k0 m k n (d + 1) 0 1 x st1; (-q.1, q.2))
    else if B = 40 then (let q := sayP k0 m k n (d + 1) 0 2 (x / nI 2) st1; (q.1, q.2))
    else if B = 50 then (let q := sayP k0 m k n (d + 1) 1 0 x st1; (q.1 * nI 3, q.2))
    else if B = 51 then (let q := sayP k0 m k n (d + 1) 1 2 x st1; (q.1 ^^^ nI k, q.2))
    else if B = 60 then (let q := sayP k0 m k n (d + 1) 2 1 (x + nI 1) st1; (q.1, q.2))
    else if B = 70 then ((nI 3, st1))
    else if B = 71 then (let q := sayP k0 m k n (d + 1) 0 1 x st1; (q.1 + nI m, q.2))
    else (nI 0, st1)
theorem bodyP_in (kd vo : Nat) : bodyP kd vo = 10 ∨ bodyP kd vo = 11 ∨ bodyP kd vo = 12 ∨ bodyP kd vo = 13 ∨ bodyP kd vo = 20 ∨ bodyP kd vo = 21 ∨ bodyP kd vo = 30 ∨ bodyP kd vo = 40 ∨ bodyP kd vo = 50 ∨ bodyP kd vo = 51 ∨ bodyP kd vo = 60 ∨ bodyP kd vo = 70 ∨ bodyP kd vo = 71 := by
  unfold bodyP
  (repeat' split) <;> simp
theorem c_say (hk0 : k0 < 7) : ∀ (n d kd vo : Nat) (x : Int32) (st : List Nat × Bool) (S : Nat → Nat → Int32), n + d = 40 → d ≤ 30 → kd < 7 → vo < 4 → VC k0 m k S st → ∃ S', gX5_say n (E b S Q g) (b + 113) (nI kd) (nI vo) x (nI d) = some ((sayP k0 m k n d kd vo x st).1, E b S' Q g) ∧ VC k0 m k S' (sayP k0 m k n d kd vo x st).2 ∧ OffV S S' := by
  intro n
  induction n with
  | zero => intro d kd vo x st S h1 h2; omega
  | succ n ih =>
    intro d kd vo x st S hnd hd hk hv hV
    by_cases h30 : d = 30
    · subst h30
      have ev : sayP k0 m k (n + 1) 30 kd vo x st = (nI 0, st) := by rw [sayP, if_pos (Or.inr (Nat.le_refl _))]
      refine ⟨S, ?_, by rw [ev]; exact hV, fun _ _ _ => rfl⟩
      have hb0 : ¬ nI (bodyP kd vo) = 0 := by
        have := bodyP_in kd vo
        intro q
        have h0 := (nI_eq (a := bodyP kd vo) (b := 0) (by omega) (by decide)).mp q
        omega
      rw [ev, gX5_say, bX5_say, c_bodyFrom _ hk hv, bind_sm, if_neg hb0, if_neg (by decide)]
      rfl
    · rcases bodyP_in kd vo with hB | hB | hB | hB | hB | hB | hB | hB | hB | hB | hB | hB | hB
      · have ev : sayP k0 m k (n + 1) d kd vo x st = ((x + nI k, (begP st.1 10, st.2))) := by
          rw [sayP, if_neg (by rw [hB]; omega)]
          simp only [hB]
          rw [if_true]
        obtain ⟨S1, v1, o1, e1⟩ := say_10 (b := b) (Q := Q) (g := g) (x := x) (n := n) hV (by rw [c_bodyFrom _ hk hv, hB]) (d := d) (by omega)
        exact ⟨S1, by rw [ev, e1], by rw [ev]; exact v1, o1⟩
      · have ev : sayP k0 m k (n + 1) d kd vo x st = (let q := sayP k0 m k n (d + 1) k0 0 x (begP st.1 11, st.2); (q.1 * nI 2, q.2)) := by
          rw [sayP, if_neg (by rw [hB]; omega)]
          simp only [hB]
          rw [if_neg (show ¬ 11 = 10 by decide), if_true]
        obtain ⟨S1, v1, o1, e1⟩ := say_11 (b := b) (Q := Q) (g := g) (x := x) (n := n) hV (by rw [c_bodyFrom _ hk hv, hB]) (d := d) (by omega)
        obtain ⟨S2, e2, v2, o2⟩ := ih (d + 1) k0 0 x _ S1 (by omega) (by omega) hk0 (by omega) v1
        refine ⟨S2, ?_, by rw [ev]; exact v2, o1.tr o2⟩
        rw [ev, e1, e2, bind_sm]
      · have ev : sayP k0 m k (n + 1) d kd vo x st = (let q := sayP k0 m k n (d + 1) k0 1 x (begP st.1 12, st.2); (q.1 - nI m, q.2)) := by
          rw [sayP, if_neg (by rw [hB]; omega)]
          simp only [hB]
          rw [if_neg (show ¬ 12 = 10 by decide), if_neg (show ¬ 12 = 11 by decide), if_true]
        obtain ⟨S1, v1, o1, e1⟩ := say_12 (b := b) (Q := Q) (g := g) (x := x) (n := n) hV (by rw [c_bodyFrom _ hk hv, hB]) (d := d) (by omega)
        obtain ⟨S2, e2, v2, o2⟩ := ih (d + 1) k0 1 x _ S1 (by omega) (by omega) hk0 (by omega) v1
        refine ⟨S2, ?_, by rw [ev]; exact v2, o1.tr o2⟩
        rw [ev, e1, e2, bind_sm]
        dsimp only
        rw [getI_V4, v2.2.1, bind_sm]
      · have ev : sayP k0 m k (n + 1) d kd vo x st = ((if nI m - nI k = nI 0 then nI 0 else x / (nI m - nI k), ((begP st.1 13, st.2).1, if nI m - nI k = nI 0 then true else (begP st.1 13, st.2).2))) := by
          rw [sayP, if_neg (by rw [hB]; omega)]
          simp only [hB]
          rw [if_neg (show ¬ 13 = 10 by decide), if_neg (show ¬ 13 = 11 by decide), if_neg (show ¬ 13 = 12 by decide), if_true]
        obtain ⟨S1, v1, o1, e1⟩ := say_13 (b := b) (Q := Q) (g := g) (x := x) (n := n) hV (by rw [c_bodyFrom _ hk hv, hB]) (d := d) (by omega)
        obtain ⟨v3, v4, v5, v6, v7, v8, v9⟩ := id v1
        by_cases hby : nI m - nI k = nI 0
        · obtain ⟨S2, hS2⟩ : ∃ S2, S2 = up2 S1 113 2 (nI 1) := ⟨_, rfl⟩
          have n2 : ∀ j, j ≠ 2 → S2 113 j = S1 113 j := fun j hj => by rw [hS2, up2_at, if_neg hj]
          have e114 : S2 114 = S1 114 := by rw [hS2, up2_row (by decide)]
          refine ⟨S2, ?_, ?_, o1.tr (fun r h1 h2 => by rw [hS2, up2_row (by omega)])⟩
          · rw [ev, e1]
            simp only [if_pos hby]
            unfold fX5_part
            rw [gO_V, getI_V4, v4, bind_sm, getI_V5, v5, bind_sm, if_pos (show nI m - nI k = 0 from hby)]
            simp (disch := omega) only [rV, rN, bind_sm, ← hS2, if_pos hby]
          · rw [ev]
            simp only [if_pos hby]
            exact ⟨by rw [n2 _ (by decide)]; exact v3, by rw [n2 _ (by decide)]; exact v4, by rw [n2 _ (by decide)]; exact v5, by rw [n2 _ (by decide)]; exact v6, by rw [hS2, up2_at, if_pos rfl]; simp only [if_pos hby, if_true], by rw [e114]; exact v8, v9⟩
        · refine ⟨S1, ?_, ?_, o1⟩
          · rw [ev, e1]
            simp only [if_neg hby]
            unfold fX5_part
            rw [gO_V, getI_V4, v4, bind_sm, getI_V5, v5, bind_sm, if_neg (show ¬ nI m - nI k = 0 from hby)]
            rw [show dvz x (nI m - nI k) = some (x / (nI m - nI k)) from if_neg hby, bind_sm, bind_sm]
          · rw [ev]; simp only [if_neg hby]; exact v1
      · have ev : sayP k0 m k (n + 1) d kd vo x st = (let q := sayP k0 m k n (d + 1) 0 0 x (begP st.1 20, st.2); (q.1 - nI 5, q.2)) := by
          rw [sayP, if_neg (by rw [hB]; omega)]
          simp only [hB]
          rw [if_neg (show ¬ 20 = 10 by decide), if_neg (show ¬ 20 = 11 by decide), if_neg (show ¬ 20 = 12 by decide), if_neg (show ¬ 20 = 13 by decide), if_true]
        obtain ⟨S1, v1, o1, e1⟩ := say_20 (b := b) (Q := Q) (g := g) (x := x) (n := n) hV (by rw [c_bodyFrom _ hk hv, hB]) (d := d) (by omega)
        obtain ⟨S2, e2, v2, o2⟩ := ih (d + 1) 0 0 x _ S1 (by omega) (by omega) (by omega) (by omega) v1
        refine ⟨S2, ?_, by rw [ev]; exact v2, o1.tr o2⟩
        rw [ev, e1, e2, bind_sm]
      · have ev : sayP k0 m k (n + 1) d kd vo x st = (let q := sayP k0 m k n (d + 1) 0 3 x (begP st.1 21, st.2); if q.2.2 = true then (nI 0, q.2) else (let r := sayP k0 m k n (d + 1) k0 1 (nI 1) q.2; (q.1 + r.1, r.2))) := by
          rw [sayP, if_neg (by rw [hB]; omega)]
          simp only [hB]
          rw [if_neg (show ¬ 21 = 10 by decide), if_neg (show ¬ 21 = 11 by decide), if_neg (show ¬ 21 = 12 by decide), if_neg (show ¬ 21 = 13 by decide), if_neg (show ¬ 21 = 20 by decide), if_true]
        obtain ⟨S1, v1, o1, e1⟩ := say_21 (b := b) (Q := Q) (g := g) (x := x) (n := n) hV (by rw [c_bodyFrom _ hk hv, hB]) (d := d) (by omega)
        obtain ⟨S2, e2, v2, o2⟩ := ih (d + 1) 0 3 x _ S1 (by omega) (by omega) (by omega) (by omega) v1
        obtain ⟨q, hq⟩ : ∃ q, sayP k0 m k n (d + 1) 0 3 x (begP st.1 21, st.2) = q := ⟨_, rfl⟩
        rw [hq] at e2 v2 ev
        rw [e2, bind_sm] at e1
        dsimp only at e1
        rw [getI_V2, v2.2.2.2.2.1, bind_sm] at e1
        by_cases hp : q.2.2 = true
        · simp only [if_pos hp] at ev e1
          rw [if_neg (by decide)] at e1
          exact ⟨S2, by rw [ev, e1], by rw [ev]; exact v2, o1.tr o2⟩
        · simp only [if_neg hp, if_true] at ev e1
          rw [getI_V3, v2.1, bind_sm] at e1
          obtain ⟨S3, e3, v3, o3⟩ := ih (d + 1) k0 1 (nI 1) _ S2 (by omega) (by omega) hk0 (by omega) v2
          exact ⟨S3, by rw [ev, e1, e3, bind_sm], by rw [ev]; exact v3, (o1.tr o2).tr o3⟩
      · have ev : sayP k0 m k (n + 1) d kd vo x st = (let q := sayP k0 m k n (d + 1) 0 1 x (begP st.1 30, st.2); (-q.1, q.2)) := by
          rw [sayP, if_neg (by rw [hB]; omega)]
          simp only [hB]
          rw [if_neg (show ¬ 30 = 10 by decide), if_neg (show ¬ 30 = 11 by decide), if_neg (show ¬ 30 = 12 by decide), if_neg (show ¬ 30 = 13 by decide), if_neg (show ¬ 30 = 20 by decide), if_neg (show ¬ 30 = 21 by decide), if_true]
        obtain ⟨S1, v1, o1, e1⟩ := say_30 (b := b) (Q := Q) (g := g) (x := x) (n := n) hV (by rw [c_bodyFrom _ hk hv, hB]) (d := d) (by omega)
        obtain ⟨S2, e2, v2, o2⟩ := ih (d + 1) 0 1 x _ S1 (by omega) (by omega) (by omega) (by omega) v1
        refine ⟨S2, ?_, by rw [ev]; exact v2, o1.tr o2⟩
        rw [ev, e1, e2, bind_sm]
      · have ev : sayP k0 m k (n + 1) d kd vo x st = (let q := sayP k0 m k n (d + 1) 0 2 (x / nI 2) (begP st.1 40, st.2); (q.1, q.2)) := by
          rw [sayP, if_neg (by rw [hB]; omega)]
          simp only [hB]
          rw [if_neg (show ¬ 40 = 10 by decide), if_neg (show ¬ 40 = 11 by decide), if_neg (show ¬ 40 = 12 by decide), if_neg (show ¬ 40 = 13 by decide), if_neg (show ¬ 40 = 20 by decide), if_neg (show ¬ 40 = 21 by decide), if_neg (show ¬ 40 = 30 by decide), if_true]
        obtain ⟨S1, v1, o1, e1⟩ := say_40 (b := b) (Q := Q) (g := g) (x := x) (n := n) hV (by rw [c_bodyFrom _ hk hv, hB]) (d := d) (by omega)
        obtain ⟨S2, e2, v2, o2⟩ := ih (d + 1) 0 2 (x / nI 2) _ S1 (by omega) (by omega) (by omega) (by omega) v1
        refine ⟨S2, ?_, by rw [ev]; exact v2, o1.tr o2⟩
        rw [ev, e1, e2, bind_sm]
      · have ev : sayP k0 m k (n + 1) d kd vo x st = (let q := sayP k0 m k n (d + 1) 1 0 x (begP st.1 50, st.2); (q.1 * nI 3, q.2)) := by
          rw [sayP, if_neg (by rw [hB]; omega)]
          simp only [hB]
          rw [if_neg (show ¬ 50 = 10 by decide), if_neg (show ¬ 50 = 11 by decide), if_neg (show ¬ 50 = 12 by decide), if_neg (show ¬ 50 = 13 by decide), if_neg (show ¬ 50 = 20 by decide), if_neg (show ¬ 50 = 21 by decide), if_neg (show ¬ 50 = 30 by decide), if_neg (show ¬ 50 = 40 by decide), if_true]
        obtain ⟨S1, v1, o1, e1⟩ := say_50 (b := b) (Q := Q) (g := g) (x := x) (n := n) hV (by rw [c_bodyFrom _ hk hv, hB]) (d := d) (by omega)
        obtain ⟨S2, e2, v2, o2⟩ := ih (d + 1) 1 0 x _ S1 (by omega) (by omega) (by omega) (by omega) v1
        refine ⟨S2, ?_, by rw [ev]; exact v2, o1.tr o2⟩
        rw [ev, e1, e2, bind_sm]
      · have ev : sayP k0 m k (n + 1) d kd vo x st = (let q := sayP k0 m k n (d + 1) 1 2 x (begP st.1 51, st.2); (q.1 ^^^ nI k, q.2)) := by
          rw [sayP, if_neg (by rw [hB]; omega)]
          simp only [hB]
          rw [if_neg (show ¬ 51 = 10 by decide), if_neg (show ¬ 51 = 11 by decide), if_neg (show ¬ 51 = 12 by decide), if_neg (show ¬ 51 = 13 by decide), if_neg (show ¬ 51 = 20 by decide), if_neg (show ¬ 51 = 21 by decide), if_neg (show ¬ 51 = 30 by decide), if_neg (show ¬ 51 = 40 by decide), if_neg (show ¬ 51 = 50 by decide), if_true]
        obtain ⟨S1, v1, o1, e1⟩ := say_51 (b := b) (Q := Q) (g := g) (x := x) (n := n) hV (by rw [c_bodyFrom _ hk hv, hB]) (d := d) (by omega)
        obtain ⟨S2, e2, v2, o2⟩ := ih (d + 1) 1 2 x _ S1 (by omega) (by omega) (by omega) (by omega) v1
        refine ⟨S2, ?_, by rw [ev]; exact v2, o1.tr o2⟩
        rw [ev, e1, e2, bind_sm]
        dsimp only
        rw [getI_V5, v2.2.2.1, bind_sm]
      · have ev : sayP k0 m k (n + 1) d kd vo x st = (let q := sayP k0 m k n (d + 1) 2 1 (x + nI 1) (begP st.1 60, st.2); (q.1, q.2)) := by
          rw [sayP, if_neg (by rw [hB]; omega)]
          simp only [hB]
          rw [if_neg (show ¬ 60 = 10 by decide), if_neg (show ¬ 60 = 11 by decide), if_neg (show ¬ 60 = 12 by decide), if_neg (show ¬ 60 = 13 by decide), if_neg (show ¬ 60 = 20 by decide), if_neg (show ¬ 60 = 21 by decide), if_neg (show ¬ 60 = 30 by decide), if_neg (show ¬ 60 = 40 by decide), if_neg (show ¬ 60 = 50 by decide), if_neg (show ¬ 60 = 51 by decide), if_true]
        obtain ⟨S1, v1, o1, e1⟩ := say_60 (b := b) (Q := Q) (g := g) (x := x) (n := n) hV (by rw [c_bodyFrom _ hk hv, hB]) (d := d) (by omega)
        obtain ⟨S2, e2, v2, o2⟩ := ih (d + 1) 2 1 (x + nI 1) _ S1 (by omega) (by omega) (by omega) (by omega) v1
        refine ⟨S2, ?_, by rw [ev]; exact v2, o1.tr o2⟩
        rw [ev, e1, e2, bind_sm]
      · have ev : sayP k0 m k (n + 1) d kd vo x st = ((nI 3, (begP st.1 70, st.2))) := by
          rw [sayP, if_neg (by rw [hB]; omega)]
          simp only [hB]
          rw [if_neg (show ¬ 70 = 10 by decide), if_neg (show ¬ 70 = 11 by decide), if_neg (show ¬ 70 = 12 by decide), if_neg (show ¬ 70 = 13 by decide), if_neg (show ¬ 70 = 20 by decide), if_neg (show ¬ 70 = 21 by decide), if_neg (show ¬ 70 = 30 by decide), if_neg (show ¬ 70 = 40 by decide), if_neg (show ¬ 70 = 50 by decide), if_neg (show ¬ 70 = 51 by decide), if_neg (show ¬ 70 = 60 by decide), if_true]
        obtain ⟨S1, v1, o1, e1⟩ := say_70 (b := b) (Q := Q) (g := g) (x := x) (n := n) hV (by rw [c_bodyFrom _ hk hv, hB]) (d := d) (by omega)
        exact ⟨S1, by rw [ev, e1], by rw [ev]; exact v1, o1⟩
      · have ev : sayP k0 m k (n + 1) d kd vo x st = (let q := sayP k0 m k n (d + 1) 0 1 x (begP st.1 71, st.2); (q.1 + nI m, q.2)) := by
          rw [sayP, if_neg (by rw [hB]; omega)]
          simp only [hB]
          rw [if_neg (show ¬ 71 = 10 by decide), if_neg (show ¬ 71 = 11 by decide), if_neg (show ¬ 71 = 12 by decide), if_neg (show ¬ 71 = 13 by decide), if_neg (show ¬ 71 = 20 by decide), if_neg (show ¬ 71 = 21 by decide), if_neg (show ¬ 71 = 30 by decide), if_neg (show ¬ 71 = 40 by decide), if_neg (show ¬ 71 = 50 by decide), if_neg (show ¬ 71 = 51 by decide), if_neg (show ¬ 71 = 60 by decide), if_neg (show ¬ 71 = 70 by decide), if_true]
        obtain ⟨S1, v1, o1, e1⟩ := say_71 (b := b) (Q := Q) (g := g) (x := x) (n := n) hV (by rw [c_bodyFrom _ hk hv, hB]) (d := d) (by omega)
        obtain ⟨S2, e2, v2, o2⟩ := ih (d + 1) 0 1 x _ S1 (by omega) (by omega) (by omega) (by omega) v1
        refine ⟨S2, ?_, by rw [ev]; exact v2, o1.tr o2⟩
        rw [ev, e1, e2, bind_sm]
        dsimp only
        rw [getI_V4, v2.2.1, bind_sm]

end OZa
