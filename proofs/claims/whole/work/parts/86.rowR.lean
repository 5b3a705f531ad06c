/-! ===== rows of references ===== -/
def newR (cap : Nat) (h : Hp) (z : Int32) : Option (Nat × Hp) := if z < 0 ∨ cap < z.toNatClampNeg then none else some (h.2, newC h (.inr (.inr (1, z.toNatClampNeg, fun _ => none))))
def wrR (h : Hp) (a : Nat) (i : Int32) (v : Nat) : Option Hp := match h.1 a, h.1 v with
  | some (.inr (.inr (k, n, f))), some (.inl (c, _)) => if k = 1 ∧ c = 7 ∧ ¬ (i < 0 ∨ n ≤ i.toNatClampNeg) then some (setC h a (.inr (.inr (1, n, va_up f i.toNatClampNeg (some v))))) else none
  | _, _ => none
theorem wrR_some {h h' : Hp} {a v : Nat} {i : Int32} (hv : wrR h a i v = some h') : ∃ n f fs, h.1 a = some (.inr (.inr (1, n, f))) ∧ h.1 v = some (.inl (7, fs)) ∧ ¬ (i < 0 ∨ n ≤ i.toNatClampNeg) ∧ h' = setC h a (.inr (.inr (1, n, va_up f i.toNatClampNeg (some v)))) := by
  unfold wrR at hv
  split at hv
  next k n f c fs h1 h2 =>
    split at hv
    next hc =>
      obtain ⟨c1, c2, c3⟩ := hc
      subst c1; subst c2
      exact ⟨n, f, fs, h1, h2, c3, (Option.some.inj hv).symm⟩
    next => cases hv
  next => cases hv
theorem J_anew {X : Cx} {y : MethodName} {cc : ByteArray} {nL : Nat} {ret : Option FieldType} {d mc ms : Nat} {res : Option Value × Hp} {k n pc : Nat} {lv : List (Option Value)} {st : List Value} {h : Hp} (C : Jc X y cc nL ret d mc ms res) {α : Type} {K : Nat × Hp → Option α} {r : α} {ix cap : Nat} {z : Int32} (hd : decode cc pc = .ok (.anewarray ix, 3)) (hlk : Cond.classLink y.cls ix RX7 ∈ FT) (hcap : cap ≤ 1000) (hk : k + 1 ≤ mc) (hn : n + cap ≤ ms) (hF : (newR cap h z).bind K = some r) (kk : ∀ q, K q = some r → J X mc ms (k + 1) (n + cap) (pc + 3) lv (.ref q.1 :: st) q.2) : J X mc ms k n pc lv (.int z :: st) h := by
  obtain ⟨q, hq, hF⟩ := bind_some hF
  unfold newR at hq
  split at hq
  next => cases hq
  next hc =>
    have kk := kk q hF
    obtain rfl := Option.some.inj hq
    simp only [not_or, Nat.not_lt] at hc
    obtain ⟨p, l, e, R, s, m, args, below, meth, c, D, rs⟩ := X
    intro H locs ls hR hS hl hL
    obtain ⟨hx, hb, hml, ho, hts, hKk, hrt, hlk2, hnm, hRm, -⟩ := C
    obtain ⟨hRf, hRl, hRc, hRs⟩ := hRm
    refine W.anew hx hb ho (hts _ hlk) (va_AO.use hKk.2.2.2.2.2.2.1) rfl hd rfl hc.1 (by omega) (Nat.le_trans hk hRc) (by omega) fun cA kA comp f1 f2 f3 f4 => ?_
    obtain ⟨kA', comp', -, -, -, f1'⟩ := (hKk.1.2 2 _ rfl).2
    have hcA : cA = D.2.1 2 := Option.some.inj (f1.symm.trans f1')
    subst hcA
    generalize hH1 : H.push ({ cls := D.2.1 2, slots := Array.replicate z.toNatClampNeg .null, vm := .none } : Cell) = H1
    have z1 : H1.size = H.size + 1 := by rw [← hH1, Array.size_push]
    have e1 : H1[H.size]? = some (arrV (D.2.1 2) z.toNatClampNeg (fun _ => .null)) := by rw [← hH1, Array.getElem?_push_size, ← arrV_new]
    have o1 : ∀ q : Nat, q < H.size → H1[q]? = H[q]? := fun q hq => by rw [← hH1, Array.getElem?_push, if_neg (Nat.ne_of_lt hq)]
    refine W.widen (k := k + 1) (n := n + cap) (Nat.le_refl _) (by omega) ?_
    have := kk H1 locs ls (hR.new (Nat.le_trans hKk.2.1 hS.1) (by
      show H1[H.size]? = some (vp_cell _ _)
      rw [vp_cell_q]
      exact e1) z1 o1) (hS.new z1 o1) hl hL
    rw [← hR.1]
    exact this
theorem J_aast {X : Cx} {y : MethodName} {cc : ByteArray} {nL : Nat} {ret : Option FieldType} {d mc ms : Nat} {res : Option Value × Hp} {k n pc : Nat} {lv : List (Option Value)} {st : List Value} {h : Hp} (C : Jc X y cc nL ret d mc ms res) {α : Type} {K : Hp → Option α} {r : α} {a v : Nat} {i : Int32} (hd : decode cc pc = .ok (.aastore, 1)) (hF : (wrR h a i v).bind K = some r) (kk : ∀ h', K h' = some r → J X mc ms k n (pc + 1) lv st h') : J X mc ms k n pc lv (.ref v :: .int i :: .ref a :: st) h := by
  obtain ⟨h', hv, hF⟩ := bind_some hF
  have kk := kk h' hF
  obtain ⟨N, f, fs, he, hev, hin, rfl⟩ := wrR_some hv
  have hlt : i.toNatClampNeg < N := Nat.not_le.mp fun q => hin (Or.inr q)
  have h0 : ¬ i < 0 := fun q => hin (Or.inl q)
  obtain ⟨p, l, e, R, s, m, args, below, meth, c, D, rs⟩ := X
  intro H locs ls hR hS hl hL
  have hK := C.2.2.2.2.2.1.1
  obtain ⟨r', hr', cellV, g1, g2, g3, -⟩ := (hR.2 v _ hev).2
  have hcls := (hK.1 7 _ rfl).2
  obtain ⟨kA, comp, k1, k2, k3, -⟩ := (hK.2 2 _ rfl).2
  have hcomp : comp = D.1.1 7 := Option.some.inj (k3.symm.trans hcls.1)
  subst hcomp
  obtain ⟨kC, hkC, -⟩ := hcls.2
  refine W.aast C.1 C.2.1 ((hR.cell he) 0 _ rfl) (fun q h => by cases h) (fun h => by cases h) k1 k2 rfl hkC ⟨h0, by show _ < (arrV _ _ _).slots.size; rw [arrV_size]; exact hlt⟩ g1 (fun q h => by rw [g3] at h; cases h) (by rw [g2]; exact hkC) (by rw [g2]; exact va_assign hcls) rfl rfl hd fun H1 e1 z oq => ?_
  refine kk H1 _ ls (hR.set he ?_ z oq) (hS.put z oq (hR.2 a _ he).1) hl hL
  show H1[a]? = some (vp_cell _ _)
  rw [e1]
  rw [vp_cell_q, vp_cell_q, arrV_store]
  congr 2
  funext q
  by_cases hq : q = i.toNatClampNeg
  · subst hq
    simp [updV, va_up, va_rf]
  · simp [updV, va_up, hq]
