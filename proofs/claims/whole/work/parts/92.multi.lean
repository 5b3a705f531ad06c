/-! ===== a row of rows of ints: four of twenty-four ===== -/
def ot (a i : Nat) : Nat → Value := fun j => if j < i then .ref (a + 1 + j) else .null
theorem ot_up (a i : Nat) : updV (ot a i) i (.ref (a + 1 + i)) = ot a (i + 1) := by
  funext j
  unfold updV ot
  by_cases h : j = i
  · subst h; rw [if_pos rfl, if_pos (Nat.lt_succ_self _)]
  · rw [if_neg h]
    by_cases h2 : j < i
    · rw [if_pos h2, if_pos (by omega)]
    · rw [if_neg h2, if_neg (by omega)]
def rowO (cO : ClassId) (a i : Nat) : Cell := arrV cO 4 (ot a i)
def rowI (cI : ClassId) : Cell := arrV cI 24 fun _ => .int 0
theorem rowO_up (cO : ClassId) (a i : Nat) : (rowO cO a i).setSlot i (.ref (a + 1 + i)) = rowO cO a (i + 1) := by
  unfold rowO
  rw [arrV_store, ot_up]
/-- the state when i inner rows are made -/
def rows4 (U : State) (cO cI : ClassId) : Nat → State
  | 0 => U.pushCell (rowO cO U.heap.size 0)
  | i + 1 => ((rows4 U cO cI i).pushCell (rowI cI)).setCell U.heap.size (rowO cO U.heap.size (i + 1))
theorem rows4_top (U : State) (f : JFrame) (cO cI : ClassId) : ∀ i, rows4 (U.setTop f) cO cI i = (rows4 U cO cI i).setTop f
  | 0 => rfl
  | i + 1 => by
    show ((rows4 (U.setTop f) cO cI i).pushCell _).setCell _ _ = _
    rw [rows4_top U f cO cI i]
    rfl
theorem push_get {U : State} {x : Cell} {q : Nat} (h : q < U.heap.size) : (U.pushCell x).heap[q]? = U.heap[q]? := by
  show (U.heap.push x)[q]? = _
  rw [Array.getElem?_push, if_neg (Nat.ne_of_lt h)]
theorem push_last {U : State} {x : Cell} : (U.pushCell x).heap[U.heap.size]? = some x := by
  show (U.heap.push x)[U.heap.size]? = _
  rw [Array.getElem?_push_size]
theorem rows4_facts (U : State) (cO cI : ClassId) : ∀ i, (rows4 U cO cI i).vm = U.vm ∧ (rows4 U cO cI i).heap.size = U.heap.size + 1 + i ∧ (rows4 U cO cI i).heap[U.heap.size]? = some (rowO cO U.heap.size i) ∧ (∀ j, j < i → (rows4 U cO cI i).heap[U.heap.size + 1 + j]? = some (rowI cI)) ∧ ∀ q, q < U.heap.size → (rows4 U cO cI i).heap[q]? = U.heap[q]?
  | 0 => ⟨rfl, size_pushCell _ _, push_last, fun j hj => absurd hj (Nat.not_lt_zero _), fun q hq => push_get hq⟩
  | i + 1 => by
    obtain ⟨h1, h2, h3, h4, h5⟩ := rows4_facts U cO cI i
    have hlt : U.heap.size < (rows4 U cO cI i).heap.size := by omega
    have e := push_get (x := rowI cI) hlt
    rw [h3] at e
    refine ⟨h1, ?_, State.heap_setCell_self e, fun j hj => ?_, fun q hq => ?_⟩
    · show (((rows4 U cO cI i).pushCell _).setCell _ _).heap.size = _
      rw [size_setCell, size_pushCell, h2]
      omega
    · show (((rows4 U cO cI i).pushCell _).setCell _ _).heap[_]? = _
      rw [State.heap_setCell_other (show U.heap.size ≠ U.heap.size + 1 + j by omega)]
      by_cases hji : j < i
      · rw [push_get (by omega)]
        exact h4 j hji
      · rw [show U.heap.size + 1 + j = (rows4 U cO cI i).heap.size by omega]
        exact push_last
    · show (((rows4 U cO cI i).pushCell _).setCell _ _).heap[_]? = _
      rw [State.heap_setCell_other (show U.heap.size ≠ q by omega), push_get (by omega)]
      exact h5 q hq
section MU
variable {p : Program} {l : Launch} {e : Env} {R : Room} {s : State} {m : MethodId} {args : Array Value} {below : List Frame} {meth : Method} {c : Code} {H : Heap} {locs : List Loc} {cells slots : Nat} {Q : State → Prop}
theorem rows4_stand {U : State} (cO cI : ClassId) (X : Stand p l e R s m args below meth c U locs cells slots) : ∀ i, ∃ lo : List Loc, (∀ q ∈ lo, q.base = U.heap.size) ∧ Stand p l e R s m args below meth c (rows4 U cO cI i) (locs ++ lo) (cells + 1 + i) (slots + 4 + 24 * i)
  | 0 => ⟨[], fun q h => (by cases h), by
    have h := X.pushed (rowO cO U.heap.size 0)
    rw [show (rowO cO U.heap.size 0).slots.size = 4 from arrV_size _ _ _] at h
    rw [List.append_nil]
    exact h⟩
  | i + 1 => by
    obtain ⟨lo, hlo, Xi⟩ := rows4_stand cO cI X i
    obtain ⟨h1, h2, h3, h4, h5⟩ := rows4_facts U cO cI i
    have e := push_get (x := rowI cI) (show U.heap.size < (rows4 U cO cI i).heap.size by omega)
    rw [h3] at e
    have X2 := (Xi.pushed (rowI cI)).stored e i (.ref (U.heap.size + 1 + i))
    rw [show (rowI cI).slots.size = 24 from arrV_size _ _ _, rowO_up] at X2
    refine ⟨lo ++ [⟨U.heap.size, i⟩], fun q hq => ?_, ?_⟩
    · rcases List.mem_append.mp hq with hq | hq
      · exact hlo q hq
      · rw [List.mem_singleton.mp hq]
    · rw [← List.append_assoc, show slots + 4 + 24 * (i + 1) = slots + 4 + 24 * i + 24 by omega]
      exact X2
end MU
section MW
variable {E : CtlPost} {e : Env} {d : Bool} {acts : List Action} {s : State}
theorem wp_rowI {cI cc : ClassId} {kI : Class} (hk : s.vm.classes[cI]? = some kI) (hkind : kI.kind = .array cc .int) (hl : ¬ 24 > e.platform.arrayLengthLimit) (hh : ¬ 24 * 4 > e.platform.maxHeapBytes) (h1 : s.heap.size < e.platform.maxCells) (h2 : s.slotsUsed + 24 ≤ e.platform.maxSlots) {Q : Addr → Pre} (hq : ∀ acts', Q s.heap.size d acts' (s.pushCell (rowI cI))) : wp (Op.multianewarray.make cI [24]) Q E e d acts s := by
  rw [Op.multianewarray.make]
  simp only [wp_bind', W.ite, show ¬ ((24 : Int32) < 0) from by decide, if_false, wp_pure', W.theClass, hk, hkind, Option.some.injEq, exists_eq_left']
  refine W.newArray_of (howMany := 24) hk hkind hl hh h1 h2 rfl fun acts' => ?_
  rw [show ({ cls := cI, slots := Array.replicate 24 (defaultValue .int) } : Cell) = rowI cI from arrV_new cI 24 (.int 0)]
  exact hq _
theorem wp_rows4 {cO cI cc : ClassId} {kO kI : Class} (hk : s.vm.classes[cO]? = some kO) (hkind : kO.kind = .array cI (.array .int)) (hki : s.vm.classes[cI]? = some kI) (hkindi : kI.kind = .array cc .int) (hl : ¬ 24 > e.platform.arrayLengthLimit) (hh : ¬ 24 * 4 > e.platform.maxHeapBytes) (h1 : s.heap.size < e.platform.maxCells) (h2 : s.slotsUsed + 4 ≤ e.platform.maxSlots) (h3 : ∀ i, i < 4 → (rows4 s cO cI i).heap.size < e.platform.maxCells ∧ (rows4 s cO cI i).slotsUsed + 24 ≤ e.platform.maxSlots) {Q : Addr → Pre} (hq : ∀ d' acts', Q s.heap.size d' acts' (rows4 s cO cI 4)) : wp (Op.multianewarray.make cO [4, 24]) Q E e d acts s := by
  have turn : ∀ (i : Nat) (d' : Bool) (acts' : List Action) (Q' : ForInStep PUnit → Pre), i < 4 → (∀ d'' acts'', Q' (.yield PUnit.unit) d'' acts'' (rows4 s cO cI (i + 1))) → wp (do let a ← Op.multianewarray.make cI [24]; writeLoc s.heap.size i (.ref a); Pure.pure (ForInStep.yield PUnit.unit)) Q' E e d' acts' (rows4 s cO cI i) := by
    intro i d' acts' Q' hi hq'
    obtain ⟨f1, f2, f3, -, -⟩ := rows4_facts s cO cI i
    simp only [wp_bind']
    refine wp_rowI (by rw [f1]; exact hki) hkindi hl hh (h3 i hi).1 (h3 i hi).2 fun acts2 => ?_
    have e := push_get (x := rowI cI) (show s.heap.size < (rows4 s cO cI i).heap.size by omega)
    rw [f3] at e
    rw [wp_bind']
    simp only [W.writeLoc, wp_pure']
    refine ⟨_, e, fun h => (by cases h), by show i < (arrV _ _ _).slots.size; rw [arrV_size]; exact hi, ?_, ?_⟩
    · show ((rows4 s cO cI i).pushCell _).fitsSlot cO _ i _ = true
      have hk' : (rows4 s cO cI i).vm.classes[cO]? = some kO := by rw [f1]; exact hk
      simp [State.fitsSlot, State.slotType?, hk', hkind, rowO, arrV, fits]
    · rw [f2, rowO_up]
      exact hq' _ _
  rw [Op.multianewarray.make]
  simp only [wp_bind', W.ite, show ¬ ((4 : Int32) < 0) from by decide, if_false, wp_pure', W.theClass, hk, hkind, Option.some.injEq, exists_eq_left']
  refine W.newArray_of (howMany := 4) hk hkind (by omega) (by show ¬ 4 * 4 > _; omega) h1 h2 rfl fun acts' => ?_
  rw [show ({ cls := cO, slots := Array.replicate 4 .null } : Cell) = rowO cO s.heap.size 0 from (arrV_new cO 4 .null).trans (by
    unfold rowO
    refine congrArg (arrV cO 4) (funext fun j => ?_)
    unfold ot
    rw [if_neg (Nat.not_lt_zero j)])]
  rw [if_neg (by decide), wp_bind', Std.Legacy.Range.forIn_eq_forIn_range']
  rw [show List.range' ([:(4 : Int32).toNatClampNeg] : Std.Legacy.Range).start ([:(4 : Int32).toNatClampNeg] : Std.Legacy.Range).size ([:(4 : Int32).toNatClampNeg] : Std.Legacy.Range).step = [0, 1, 2, 3] from by decide]
  rw [List.forIn_cons, wp_bind']
  refine turn 0 _ _ _ (by decide) fun d1 k1 => ?_
  dsimp only
  rw [List.forIn_cons, wp_bind']
  refine turn 1 _ _ _ (by decide) fun d2 k2 => ?_
  dsimp only
  rw [List.forIn_cons, wp_bind']
  refine turn 2 _ _ _ (by decide) fun d3 k3 => ?_
  dsimp only
  rw [List.forIn_cons, wp_bind']
  refine turn 3 _ _ _ (by decide) fun d4 k4 => ?_
  dsimp only
  rw [List.forIn_nil, wp_pure', wp_pure']
  exact hq _ _
end MW
section MZ
variable {p : Program} {l : Launch} {e : Env} {R : Room} {s : State} {m : MethodId} {args : Array Value} {below : List Frame} {meth : Method} {c : Code} {H : Heap} {locs : List Loc} {cells slots : Nat} {Q : State → Prop}
theorem W.multi4 {cc : ByteArray} (hexec : p.tables.exec = Jvm.exec) (hb : c.code = cc) {own : String} {index : Nat} (hown : s.vm.findClass own = some m.cls) (hclink : (Cond.classLink own index "[[I").before args s = true) (hover : (Cond.arrayOver (.array .int)).before args s = true) (harr : (Cond.arrayClass .int).before args s = true)
    {g : JFrame} (hg : g.method = m) (hdg : decode cc g.pc = .ok (.multianewarray index 2, 4)) {rest : List Value} (hstack : g.stack = .int 24 :: .int 4 :: rest) (hcells : cells + 5 ≤ R.cells) (hslots : slots + 100 ≤ R.slots)
    (kk : ∀ (cO cI : ClassId) (H1 : Heap) (lo : List Loc), s.vm.findClass ("[" ++ (FieldType.array .int).toString) = some cO → s.vm.findClass ("[" ++ FieldType.int.toString) = some cI → (∀ q ∈ lo, q.base = H.size) → H1.size = H.size + 5 → H1[H.size]? = some (rowO cO H.size 4) → (∀ j, j < 4 → H1[H.size + 1 + j]? = some (rowI cI)) → (∀ q, q < H.size → H1[q]? = H[q]?) →
      W p l e R s m args below meth c H1 (locs ++ lo) (cells + 5) (slots + 100) Q { g with pc := g.pc + 4, stack := .ref H.size :: rest }) : W p l e R s m args below meth c H locs cells slots Q g := by
  intro T hT X
  subst hT; subst hb; subst hg
  have hpl : e.platform.magicAccessors = ({} : Platform).magicAccessors := by rw [X.admits.platform]
  obtain ⟨cI, cO, kO, hcI, -, hkO, hkindO, hnameO⟩ := arrayOverA_spec hover
  obtain ⟨cI', kI, cc', hcI', hkI, hkindI⟩ := Cond.arrayClass_spec harr
  have e1 : cI' = cI := Option.some.inj (hcI'.symm.trans hcI)
  subst e1
  obtain ⟨c0, hfc0, hcl⟩ := Cond.classLink_spec hown hclink e.platform hpl
  have e2 : c0 = cO := Option.some.inj (hfc0.symm.trans hnameO)
  subst e2
  obtain ⟨hg₁, hwarm₁, hready₁⟩ := State.classEntry (e := e) X.warmed hcl
  generalize T.vm.noted g.method.cls index (.cls c0) = vm₁ at hg₁ hwarm₁ hready₁
  have hal : s.vm.Alike vm₁ := hwarm₁.alike
  obtain ⟨kO₁, hkO₁, heO⟩ := hal.2.2 _ _ hkO
  obtain ⟨kI₁, hkI₁, heI⟩ := hal.2.2 _ _ hkI
  have hkindO₁ : kO₁.kind = .array cI' (.array .int) := by rw [heO]; exact hkindO
  have hkindI₁ : kI₁.kind = .array cc' .int := by rw [heI]; exact hkindI
  have X₁ := X.noted hwarm₁
  have hlim := Launch.admits_arrayLengthLimit X.admits
  have hmax := Launch.admits_maxHeapBytes X.admits
  have room : ∀ i, i < 4 → (rows4 (T.setVm vm₁) c0 cI' i).heap.size < e.platform.maxCells ∧ (rows4 (T.setVm vm₁) c0 cI' i).slotsUsed + 24 ≤ e.platform.maxSlots := fun i hi => by
    obtain ⟨lo, -, Xi⟩ := rows4_stand c0 cI' X₁ i
    obtain ⟨r1, r2⟩ := Xi.roomAbove (a := 1) (b := 24) (by omega) (by omega)
    exact ⟨r1, r2⟩
  obtain ⟨r1, r2⟩ := X₁.roomAbove (a := 1) (b := 4) (by omega) (by omega)
  obtain ⟨lo, hlo, XF⟩ := rows4_stand c0 cI' X₁ 4
  obtain ⟨f1, f2, f3, f4, f5⟩ := rows4_facts (T.setVm vm₁) c0 cI' 4
  obtain ⟨t', a1, b1⟩ := kk c0 cI' _ lo hnameO hcI hlo f2 f3 f4 f5 (rows4 (T.setVm vm₁) c0 cI' 4) rfl XF
  refine ⟨t', ?_, b1⟩
  jvm_step X.here [hexec, hdg]
  simp only [Op.multianewarray.sem, wp_bind', W.resolveClassAt_links (State.method?_setTop g X.here.top) hg₁]
  rw [W.popN, if_neg (by decide)]
  refine ⟨g, State.topJava?_setTop' (s := T.setVm vm₁) g X.here.top, [.int 4, .int 24], rest, rfl, hstack, ?_⟩
  simp only [List.mapM_cons, List.mapM_nil, wp_bind', wp_pure']
  have eS : ((T.setTop g).setVm vm₁).setTop { g with stack := rest } = (T.setVm vm₁).setTop { g with stack := rest } := by
    show ((T.setVm vm₁).setTop g).setTop _ = _
    rw [State.setTop_setTop]
  rw [eS]
  refine wp_rows4 (s := (T.setVm vm₁).setTop { g with stack := rest }) hkO₁ hkindO₁ hkI₁ hkindI₁ (by omega) (by omega) r1 r2 (fun i hi => by rw [rows4_top]; exact room i hi) fun d' acts' => ?_
  rw [rows4_top]
  simp only [wp_bind', W.mark, W.pushRef, State.topJava?_setTop' _ XF.here.top, Option.some.injEq, exists_eq_left', State.setTop_setTop, State.heap_setTop]
  intro acts
  simp [jvm, XF.here.top]
  exact a1
end MZ
/-! in the small machine -/
def eO (a : Nat) : Ce := .inr (.inr (0, 4, fun j => if j < 4 then some (a + 1 + j) else none))
def eI : Ce := .inr (.inl (24, fun _ => 0))
def newM (h : Hp) : Option (Nat × Hp) := some (h.2, newC (newC (newC (newC (newC h (eO h.2)) eI) eI) eI) eI)
theorem Rl.five {D : Dc} {h : Hp} {H H1 : Heap} {e0 e1 : Ce} (hR : Rl D h H) (hb : D.2.2.1 ≤ H.size) (z : H1.size = H.size + 5) (v0 : va_at D.1 cls (H.size, ceE D.2.1 e0) H1) (v1 : ∀ j, j < 4 → va_at D.1 cls (H.size + 1 + j, ceE D.2.1 e1) H1) (o : ∀ q, q < H.size → H1[q]? = H[q]?) : Rl D (newC (newC (newC (newC (newC h e0) e1) e1) e1) e1) H1 := by
  refine ⟨by show h.2 + 1 + 1 + 1 + 1 + 1 = _; rw [hR.1, z], fun a e ha => ?_⟩
  have hs := hR.1
  unfold newC at ha
  dsimp only at ha
  by_cases q4 : a = h.2 + 1 + 1 + 1 + 1
  · rw [if_pos q4] at ha
    obtain rfl := Option.some.inj ha
    obtain rfl : a = H.size + 1 + 3 := by omega
    exact ⟨by omega, v1 3 (by decide)⟩
  rw [if_neg q4] at ha
  by_cases q3 : a = h.2 + 1 + 1 + 1
  · rw [if_pos q3] at ha
    obtain rfl := Option.some.inj ha
    obtain rfl : a = H.size + 1 + 2 := by omega
    exact ⟨by omega, v1 2 (by decide)⟩
  rw [if_neg q3] at ha
  by_cases q2 : a = h.2 + 1 + 1
  · rw [if_pos q2] at ha
    obtain rfl := Option.some.inj ha
    obtain rfl : a = H.size + 1 + 1 := by omega
    exact ⟨by omega, v1 1 (by decide)⟩
  rw [if_neg q2] at ha
  by_cases q1 : a = h.2 + 1
  · rw [if_pos q1] at ha
    obtain rfl := Option.some.inj ha
    obtain rfl : a = H.size + 1 + 0 := by omega
    exact ⟨by omega, v1 0 (by decide)⟩
  rw [if_neg q1] at ha
  by_cases q0 : a = h.2
  · rw [if_pos q0] at ha
    obtain rfl := Option.some.inj ha
    obtain rfl : a = H.size := by omega
    exact ⟨hb, v0⟩
  rw [if_neg q0] at ha
  have h2 := hR.2 a e ha
  exact ⟨h2.1, h2.2.kept (o a h2.2.lt)⟩
theorem J_multi {X : Cx} {y : MethodName} {cc : ByteArray} {nL : Nat} {ret : Option FieldType} {d mc ms : Nat} {res : Option Value × Hp} {k n pc : Nat} {lv : List (Option Value)} {st : List Value} {h : Hp} (C : Jc X y cc nL ret d mc ms res) {α : Type} {K : Nat × Hp → Option α} {r : α} {ix : Nat} (hd : decode cc pc = .ok (.multianewarray ix 2, 4)) (hlk : Cond.classLink y.cls ix "[[I" ∈ FT) (hw : Cond.arrayClass .int ∈ FT) (hk : k + 5 ≤ mc) (hn : n + 100 ≤ ms) (hF : (newM h).bind K = some r) (kk : ∀ q, K q = some r → J X mc ms (k + 5) (n + 100) (pc + 4) lv (.ref q.1 :: st) q.2) : J X mc ms k n pc lv (.int 24 :: .int 4 :: st) h := by
  have kk := kk _ hF
  obtain ⟨p, l, e, R, s, m, args, below, meth, c, D, rs⟩ := X
  intro H locs ls hR hS hl hL
  obtain ⟨hx, hb, hml, ho, hts, hKk, hrt, hlk2, hnm, hRm, -⟩ := C
  obtain ⟨hRf, hRl, hRc, hRs⟩ := hRm
  have hov : (Cond.arrayOver (.array .int)).before args s = true := hKk.2.2.2.2.2.2.2.1
  refine W.multi4 hx hb ho (hts _ hlk) hov (hts _ hw) rfl hd rfl (Nat.le_trans hk hRc) (Nat.le_trans hn hRs) fun cO cI H1 lo n1 n2 hlo z e0 e1 oq => ?_
  have hcO : cO = D.2.1 1 := Option.some.inj (n1.symm.trans (hKk.1.2 1 _ rfl).2)
  have hcI := arI hKk n2
  subst hcO; subst hcI
  have hbs : D.2.2.1 ≤ H.size := Nat.le_trans hKk.2.1 hS.1
  have hh : h.2 = H.size := hR.1
  have := kk H1 (locs ++ lo) ls (hR.five hbs z (e0 := eO h.2) (e1 := eI) (by
    show H1[H.size]? = some (vp_cell _ _)
    rw [e0, vp_cell_q, hh]
    unfold rowO
    refine congrArg (fun f => some (arrV _ 4 f)) (funext fun j => ?_)
    unfold ot
    by_cases hj : j < 4
    · rw [if_pos hj, if_pos hj]; rfl
    · rw [if_neg hj, if_neg hj]; rfl) (fun j hj => by
    show H1[H.size + 1 + j]? = some (vp_cell _ _)
    rw [e1 j hj]
    rfl) oq) ⟨Nat.le_trans hS.1 (by rw [z]; omega), fun q y1 y2 => (oq q (Nat.lt_of_lt_of_le y1 hS.1)).trans (hS.2.1 q y1 y2), fun q hq => by
      rcases List.mem_append.mp hq with hq | hq
      · exact hS.2.2 q hq
      · rw [hlo q hq]; exact hbs⟩ hl hL
  rw [← hh]
  exact this
