
/-! cells that come: rows, objects, copies; stretches copied -/
theorem Rl.new {D : Dc} {h : Hp} {H H1 : Heap} {e : Ce} (hR : Rl D h H) (hb : D.2.2.1 ≤ H.size) (h1 : va_at D.1 cls (H.size, ceE D.2.1 e) H1) (z : H1.size = H.size + 1) (o : ∀ q, q < H.size → H1[q]? = H[q]?) : Rl D (newC h e) H1 := by
  refine ⟨by show h.2 + 1 = _; rw [hR.1, z], fun b eb hb' => ?_⟩
  unfold newC at hb'
  dsimp only at hb'
  by_cases hq : b = h.2
  · subst hq
    rw [if_pos rfl] at hb'
    obtain rfl := Option.some.inj hb'
    rw [hR.1]
    exact ⟨hb, h1⟩
  · rw [if_neg hq] at hb'
    have h2 := hR.2 b eb hb'
    exact ⟨h2.1, h2.2.kept (o b h2.2.lt)⟩
theorem va_S.new {A : Nat → Prop} {H0 H H1 : Heap} {locs : List Loc} (h : va_S A H0 H locs) (z : H1.size = H.size + 1) (o : ∀ q, q < H.size → H1[q]? = H[q]?) : va_S A H0 H1 locs :=
  ⟨Nat.le_trans h.1 (by omega), fun x h1 h2 => (o x (Nat.lt_of_lt_of_le h1 h.1)).trans (h.2.1 x h1 h2), h.2.2⟩
theorem arI {D : Dc} {s : State} (h : Kk D s) {cA : ClassId} (hc : s.vm.findClass ("[" ++ (newarray.typeOf .int).toString) = some cA) : cA = D.2.1 0 :=
  Option.some.inj (hc.symm.trans (h.1.2 0 _ rfl).2)
theorem J_newarr {X : Cx} {y : MethodName} {cc : ByteArray} {nL : Nat} {ret : Option FieldType} {d mc ms : Nat} {res : Option Value × Hp} {k n pc : Nat} {lv : List (Option Value)} {st : List Value} {h : Hp} (C : Jc X y cc nL ret d mc ms res) {α : Type} {K : Nat × Hp → Option α} {r : α} {cap : Nat} {z : Int32} (hd : decode cc pc = .ok (.newarray .int, 2)) (hw : Cond.arrayClass .int ∈ FT) (hcap : cap ≤ 1000) (hk : k + 1 ≤ mc) (hn : n + cap ≤ ms) (hF : (newA cap h z).bind K = some r) (kk : ∀ q, K q = some r → J X mc ms (k + 1) (n + cap) (pc + 2) lv (.ref q.1 :: st) q.2) : J X mc ms k n pc lv (.int z :: st) h := by
  obtain ⟨q, hq, hF⟩ := bind_some hF
  unfold newA at hq
  split at hq
  next => cases hq
  next hc =>
    have kk := kk q hF
    obtain rfl := Option.some.inj hq
    simp only [not_or, Nat.not_lt] at hc
    obtain ⟨p, l, e, R, s, m, args, below, meth, c, D, rs⟩ := X
    intro H locs ls hR hS hl hL
    obtain ⟨hx, hb, hml, ho, hts, hKk, hrt, hlk2, hnm, hRm, -⟩ := C
    obtain ⟨hRf, hRl, hRc, hRs⟩ := hRm
    refine va_newaK (atype := .int) hx hb (hts _ hw) rfl hd rfl hc.1 rfl (by show _ * 4 ≤ _; omega) (Nat.le_trans hk hRc) (by omega) hR.1.symm fun H1 cA e1 z1 o1 hAr hNm => ?_
    have hcA := arI hKk hNm
    subst hcA
    have z2 : H1.size = H.size + 1 := by rw [z1, hR.1]
    have o2 : ∀ q, q < H.size → H1[q]? = H[q]? := fun q hq => o1 q (by rw [hR.1]; exact hq)
    refine W.widen (k := k + 1) (n := n + cap) (Nat.le_refl _) (by omega) ?_
    exact kk H1 _ ls (hR.new (Nat.le_trans hKk.2.1 hS.1) (by rw [hR.1] at e1; exact e1) z2 o2) (hS.new z2 o2) hl hL
def newO (h : Hp) (ci : Nat) (fs : List Value) : Option (Nat × Hp) := some (h.2, newC h (.inl (ci, fs)))
def Fn (own : String) (ix ci N : Nat) (fs : List Value) : Prop := ∃ (r : vw_C) (ty : Nat → FieldType), cls[ci]? = some r ∧ r.2.2 = N ∧ (∀ w ∈ u_ws r.1 r.2.1 r.2.2, w ∈ FT) ∧ (∀ k, k < r.2.2 → parseFieldDescriptor (r.2.1 k).2.2.1 = some (ty k)) ∧ Cond.classLink own ix r.1 ∈ FT ∧ Cond.instantiable r.1 r.2.2 ∈ FT ∧ Cond.initialized r.1 ∈ FT ∧ ∀ j, j < r.2.2 → defaultValue (ty j) = vp_V fs j
theorem J_new {X : Cx} {y : MethodName} {cc : ByteArray} {nL : Nat} {ret : Option FieldType} {d mc ms : Nat} {res : Option Value × Hp} {k n pc : Nat} {lv : List (Option Value)} {st : List Value} {h : Hp} (C : Jc X y cc nL ret d mc ms res) {α : Type} {K : Nat × Hp → Option α} {r : α} {ix ci N : Nat} {fs : List Value} (hd : decode cc pc = .ok (.new ix, 3)) (hf : Fn y.cls ix ci N fs) (hk : k + 1 ≤ mc) (hn : n + N ≤ ms) (hF : (newO h ci fs).bind K = some r) (kk : ∀ q, K q = some r → J X mc ms (k + 1) (n + N) (pc + 3) lv (.ref q.1 :: st) q.2) : J X mc ms k n pc lv st h := by
  obtain ⟨q, hq, hF⟩ := bind_some hF
  have kk := kk q hF
  obtain rfl := Option.some.inj hq
  obtain ⟨⟨C0, T0, N0⟩, ty, hc, rfl, hin, hty, hcl, hinst, hini, hfs⟩ := hf
  obtain ⟨p, l, e, R, s, m, args, below, meth, c, D, rs⟩ := X
  intro H locs ls hR hS hl hL
  obtain ⟨hx, hb, hml, ho, hts, hKk, hrt, hlk2, hnm, hRm, -⟩ := C
  obtain ⟨hRf, hRl, hRc, hRs⟩ := hRm
  have hKn := hKk.1.1 ci _ hc
  refine W.newcK hx hb ho (hts _ hcl) (hts _ hinst) (hts _ hini) rfl hd (Nat.le_trans hk hRc) (Nat.le_trans hn hRs) hKn.2.1 rfl fun H1 kC hkC e1 z1 o1 => ?_
  have := kk H1 locs ls (hR.new (Nat.le_trans hKk.2.1 hS.1) ⟨_, hc, (u_born ty hts hin hKn hkC e1 hty).to hfs⟩ z1 o1) (hS.new z1 o1) hl hL
  rw [← hR.1]
  exact this
theorem J_acopy {X : Cx} {y : MethodName} {cc : ByteArray} {nL : Nat} {ret : Option FieldType} {d mc ms : Nat} {res : Option Value × Hp} {k n pc : Nat} {lv : List (Option Value)} {st : List Value} {h : Hp} (C : Jc X y cc nL ret d mc ms res) {α : Type} {K : Hp → Option α} {r : α} {ix a0 a1 : Nat} {sp dp z : Int32} (hd : decode cc pc = .ok (.invokestatic ix, 3)) (hlk : Cond.methodLink y.cls ix arraycopyName ∈ FT) (h1w : Cond.native arraycopyName ∈ FT) (h2w : Cond.static arraycopyName ∈ FT) (h3w : Cond.initialized "java/lang/System" ∈ FT) (hdd : 1 ≤ d) (hcat : (st.map fun v => v.category).sum ≤ 8) (hF : (acopy h a0 sp a1 dp z).bind K = some r) (kk : ∀ h', K h' = some r → J X mc ms k n (pc + 3) lv st h') : J X mc ms k n pc lv (.int z :: .int dp :: .ref a1 :: .int sp :: .ref a0 :: st) h := by
  obtain ⟨h', hv, hF⟩ := bind_some hF
  have kk := kk h' hF
  obtain ⟨n0, f, n1, g, he0, he1, g1, g2, g3, g4, g5, rfl⟩ := acopy_some hv
  obtain ⟨p, l, e, R, s, m, args, below, meth, c, D, rs⟩ := X
  intro H locs ls hR hS hl hL
  obtain ⟨hx, hb, hml, ho, hts, hKk, hrt, hlk2, hnm, hRm, -⟩ := C
  obtain ⟨hRf, hRl, hRc, hRs⟩ := hRm
  have nn : ∀ z : Int32, ¬ z < 0 → z.toInt = (z.toNatClampNeg : Int) := by
    intro z hz
    have hz0 : (0 : Int) ≤ z.toInt := by
      have := Int32.not_lt.mp hz
      simpa using Int32.le_iff_toInt_le.mp this
    show z.toInt = ((z.toInt.toNat : Nat) : Int)
    omega
  intro T hT XS
  have hc0 : H[a0]? = some (vp_cell (D.2.1 0) (n0, .inl f)) := hR.cell he0 0 _ rfl
  have hc1 : H[a1]? = some (vp_cell (D.2.1 0) (n1, .inl g)) := hR.cell he1 0 _ rfl
  obtain ⟨-, k0, hk0, cm0, hkk0⟩ := (hKk.1.2 0 _ rfl).1 n0 (fun j => .int (f j))
  obtain ⟨-, k1, hk1, cm1, hkk1⟩ := (hKk.1.2 0 _ rfl).1 n1 (fun j => .int (g j))
  obtain ⟨vm', X', step⟩ := XS.arraycopy hx ho (hts _ hlk) (hts _ h1w) (hts _ h2w) (hts _ h3w) (src := a0) (dst := a1) (cs := vp_cell (D.2.1 0) (n0, .inl f)) (cd := vp_cell (D.2.1 0) (n1, .inl g)) (srcPos := sp) (destPos := dp) (n := z) (by rw [hT]; exact hc0) (by rw [hT]; exact hc1)
    (fun _ h => by cases h) (fun _ h => by cases h) (fun h => by cases h) (fun h => by cases h) hk0 hk1 hkk0 hkk1 (by simp [refKind]) g1 g2 g3
    (by rw [nn sp g1, nn z g3]; show ¬ _ > ((arrV (D.2.1 0) n0 (fun j => .int (f j))).slots.size : Int); rw [arrV_size]; omega)
    (by rw [nn dp g2, nn z g3]; show ¬ _ > ((arrV (D.2.1 0) n1 (fun j => .int (g j))).slots.size : Int); rw [arrV_size]; omega)
    (fun vm₁ _ i hi => by
      have e : (vp_cell (D.2.1 0) (n0, .inl f)).slots.getD (sp.toNatClampNeg + i) .null = .int (f (sp.toNatClampNeg + i)) := by
        show (arrV (D.2.1 0) n0 (fun j => .int (f j))).slots.getD _ _ = _
        rw [Array.getD_eq_getD_getElem?, arrV_read _ _ (by omega)]
        rfl
      refine ⟨?_, ?_⟩
      · rw [e]
        rfl
      · rw [e]
        exact trivial)
    (g := F0 m pc ls (.int z :: .int dp :: .ref a1 :: .int sp :: .ref a0 :: st)) rfl hl.1 (rest := st) rfl (by rw [hb]; exact hd) (Nat.le_trans hdd hRf) (by have h9 : nativeFrameWords "java/lang/System" "arraycopy" 5 + 11 ≤ 56 := (by decide +kernel); show 2 * 0 + (st.map fun v => v.category).sum + (nativeFrameWords "java/lang/System" "arraycopy" 5 + 11) ≤ R.locals; omega)
  have e1 : copied (vp_cell (D.2.1 0) (n0, .inl f)) (vp_cell (D.2.1 0) (n1, .inl g)) sp dp z = vp_cell (D.2.1 0) (n1, .inl (va_cpy f g sp.toNatClampNeg dp.toNatClampNeg z.toNatClampNeg)) := va_copied (fun z => .int z) (D.2.1 0) (D.2.1 0) f g g4
  rw [e1] at X' step
  have hla : a1 < H.size := (Array.getElem?_eq_some_iff.mp hc1).1
  have hheap : ((T.setVm vm').setCell a1 (vp_cell (D.2.1 0) (n1, .inl (va_cpy f g sp.toNatClampNeg dp.toNatClampNeg z.toNatClampNeg)))).heap = H.setIfInBounds a1 (vp_cell (D.2.1 0) (n1, .inl (va_cpy f g sp.toNatClampNeg dp.toNatClampNeg z.toNatClampNeg))) := by rw [← hT]; rfl
  have oq : ∀ q : Nat, q ≠ a1 → (H.setIfInBounds a1 (vp_cell (D.2.1 0) (n1, .inl (va_cpy f g sp.toNatClampNeg dp.toNatClampNeg z.toNatClampNeg))))[q]? = H[q]? := fun q hq => by simp [Array.getElem?_setIfInBounds, Ne.symm hq]
  have hA1 : frA D a1 := (hR.2 a1 _ he1).1
  obtain ⟨t, b1, b2⟩ := kk _ _ ls (hR.set he1 (show (H.setIfInBounds a1 _)[a1]? = some _ by simp [Array.getElem?_setIfInBounds, hla]) (by simp) oq) ⟨by simp; exact hS.1, fun q y1 y2 => by
      rw [oq q (fun e => y2 (by rw [e]; exact hA1))]
      exact hS.2.1 q y1 y2, fun q hq => by
      rcases List.mem_append.mp hq with h | h
      · exact hS.2.2 q h
      · obtain ⟨z, -, hz⟩ := List.mem_map.mp h
        rw [← hz]
        exact hA1⟩ hl hL _ hheap X'
  exact ⟨t, step t b1, b2⟩
def cloneA (cap : Nat) (h : Hp) (a : Nat) : Option (Nat × Hp) := match h.1 a with | some (.inr (.inl (n, f))) => if cap < n then none else some (h.2, newC h (.inr (.inl (n, f)))) | _ => none
def castA (h : Hp) (a : Nat) : Option Unit := match h.1 a with | some (.inr (.inl _)) => some () | _ => none
theorem cloneA_some {cap a : Nat} {h : Hp} {q : Nat × Hp} (hv : cloneA cap h a = some q) : ∃ n f, h.1 a = some (.inr (.inl (n, f))) ∧ n ≤ cap ∧ q = (h.2, newC h (.inr (.inl (n, f)))) := by
  unfold cloneA at hv
  split at hv
  next n f he =>
    split at hv
    next => cases hv
    next hc => exact ⟨n, f, he, by omega, (Option.some.inj hv).symm⟩
  next => cases hv
theorem castA_some {a : Nat} {h : Hp} {q : Unit} (hv : castA h a = some q) : ∃ n f, h.1 a = some (.inr (.inl (n, f))) := by
  unfold castA at hv
  split at hv
  next z he => exact ⟨z.1, z.2, he⟩
  next => cases hv
theorem J_castA {X : Cx} {y : MethodName} {cc : ByteArray} {nL : Nat} {ret : Option FieldType} {d mc ms : Nat} {res : Option Value × Hp} {k n pc : Nat} {lv : List (Option Value)} {st : List Value} {h : Hp} (C : Jc X y cc nL ret d mc ms res) {α : Type} {K : Unit → Option α} {r : α} {ix a : Nat} (hd : decode cc pc = .ok (.checkcast ix, 3)) (hlk : Cond.classLink y.cls ix "[I" ∈ FT) (hF : (castA h a).bind K = some r) (kk : K () = some r → J X mc ms k n (pc + 3) lv (.ref a :: st) h) : J X mc ms k n pc lv (.ref a :: st) h := by
  obtain ⟨h', hv, hF⟩ := bind_some hF
  have kk := kk hF
  obtain ⟨N, f, he⟩ := castA_some hv
  obtain ⟨p, l, e, R, s, m, args, below, meth, c, D, rs⟩ := X
  intro H locs ls hR hS hl hL
  obtain ⟨hx, hb, hml, ho, hts, hKk, hrt, hlk2, hnm, hRm, -⟩ := C
  exact va_castA hx hb ho (hts _ hlk) (hR.cell he) 0 rfl (hKk.1.2 0 _ rfl).2 hd (kk H locs ls hR hS hl hL)
def cloneN : MethodName := ⟨"java/lang/Object", "clone", "()Ljava/lang/Object;"⟩
def cloneI : MethodName := ⟨"[I", "clone", "()Ljava/lang/Object;"⟩
theorem J_clone {X : Cx} {y : MethodName} {cc : ByteArray} {nL : Nat} {ret : Option FieldType} {d mc ms : Nat} {res : Option Value × Hp} {k n pc : Nat} {lv : List (Option Value)} {st : List Value} {h : Hp} (C : Jc X y cc nL ret d mc ms res) {α : Type} {K : Nat × Hp → Option α} {r : α} {ix a cap : Nat} (hd : decode cc pc = .ok (.invokevirtual ix, 3)) (hlk : Cond.methodLink y.cls ix cloneI ∈ FT) (h1w : Cond.sameMethod "[I" "java/lang/Object" "clone" "()Ljava/lang/Object;" ∈ FT) (h2w : Cond.native cloneN ∈ FT) (h3w : Cond.instanceMethod cloneN ∈ FT) (h4w : Cond.selects "[I" cloneI cloneN ∈ FT) (hdd : 1 ≤ d) (hcat : (st.map fun v => v.category).sum ≤ 8) (hk : k + 1 ≤ mc) (hn : n + cap ≤ ms) (hF : (cloneA cap h a).bind K = some r) (kk : ∀ q, K q = some r → J X mc ms (k + 1) (n + cap) (pc + 3) lv (.ref q.1 :: st) q.2) : J X mc ms k n pc lv (.ref a :: st) h := by
  obtain ⟨q, hv, hF⟩ := bind_some hF
  have kk := kk q hF
  obtain ⟨N, f, he, hNc, rfl⟩ := cloneA_some hv
  obtain ⟨p, l, e, R, s, m, args, below, meth, c, D, rs⟩ := X
  intro H locs ls hR hS hl hL
  obtain ⟨hx, hb, hml, ho, hts, hKk, hrt, hlk2, hnm, hRm, -⟩ := C
  obtain ⟨hRf, hRl, hRc, hRs⟩ := hRm
  obtain ⟨c0, t0', f1, f2, f3⟩ := Cond.castable_spec (va_Nw.use (A := args) rfl hKk.2.2.2.2.2.2.2.2)
  have hnmI : s.vm.findClass "[I" = some (D.2.1 0) := (hKk.1.2 0 _ rfl).2
  cases hnmI.symm.trans f1
  intro T hT XS
  have hcellT : T.heap[a]? = some (vp_cell (D.2.1 0) (N, .inl f)) := by rw [hT]; exact hR.cell he 0 _ rfl
  obtain ⟨-, kA, hkA, comp, hkind⟩ := State.isArrayOf_alike XS.warmed.alike ((hKk.1.2 0 _ rfl).1 0 (fun _ => .null))
  obtain ⟨-, kS, hkS, compS, hkindS⟩ := (hKk.1.2 0 _ rfl).1 0 (fun _ => .null)
  obtain ⟨vm', X', st9⟩ := XS.cloneArray hx ho (hts _ hlk) (hts _ h1w) (hts _ h2w) (hts _ h3w) (hts _ h4w) (a := a) (cell := vp_cell (D.2.1 0) (N, .inl f)) hcellT (fun k h => by cases h) (fun h => by cases h) hnmI f2 f3
    (fun i v hv => by
      have hk' : T.vm.classes[D.2.1 0]? = some kA := hkA
      have hv2 : (arrV (D.2.1 0) N (fun j => .int (f j))).slots[i]? = some v := hv
      have hlt : i < N := by have := (Array.getElem?_eq_some_iff.mp hv2).1; rwa [arrV_size] at this
      rw [arrV_read _ _ hlt] at hv2
      obtain rfl := Option.some.inj hv2
      show T.fitsSlot (D.2.1 0) .none i (.int (f i)) = true
      simp [State.fitsSlot, State.slotType?, hk', hkind, fits])
    (g := F0 m pc ls (.ref a :: st)) rfl hl.1 rfl (by rw [hb]; exact hd) (Nat.le_trans hdd hRf) (by show 2 * 0 + _ + 14 ≤ R.locals; omega) (Nat.le_trans hk hRc) (by show n + (arrV (D.2.1 0) N (fun j => .int (f j))).slots.size ≤ R.slots; rw [arrV_size]; omega) (hloader := Vm.clonesLoader_of_array hkS hkindS)
  have hsz : (vp_cell (D.2.1 0) (N, .inl f)).slots.size = N := arrV_size _ _ _
  have hcellE : ({ cls := (vp_cell (D.2.1 0) (N, .inl f)).cls, slots := (vp_cell (D.2.1 0) (N, .inl f)).slots } : Cell) = vp_cell (D.2.1 0) (N, .inl f) := rfl
  rw [hcellE, hsz] at X'
  generalize hH1 : H.push (vp_cell (D.2.1 0) (N, .inl f)) = H1
  have z1 : H1.size = H.size + 1 := by rw [← hH1, Array.size_push]
  have e1 : H1[H.size]? = some (vp_cell (D.2.1 0) (N, .inl f)) := by rw [← hH1, Array.getElem?_push_size]
  have o1 : ∀ q : Nat, q < H.size → H1[q]? = H[q]? := fun q hq => by rw [← hH1, Array.getElem?_push, if_neg (Nat.ne_of_lt hq)]
  obtain ⟨t, b1, b2⟩ := kk H1 locs ls (hR.new (Nat.le_trans hKk.2.1 hS.1) e1 z1 o1) (hS.new z1 o1) hl hL _ (by rw [← hH1, ← hT]; rfl) (stand_widen X' (Nat.le_refl _) (by omega))
  refine ⟨t, st9 t ?_, b2⟩
  have e : T.heap.size = h.2 := by rw [hT, hR.1]
  rw [e]
  exact b1

