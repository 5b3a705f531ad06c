
/-! ===== the small machine: heaps as functions, one judgement, a row an instruction ===== -/
def FT : List Cond := lw_tbl.filter goodWord
theorem FT_of {w : Cond} (i : Nat) (h : lw_tbl[i]? = some w) (g : goodWord w = true) : w ∈ FT := List.mem_filter.mpr ⟨List.mem_of_getElem? h, g⟩
abbrev Ce : Type := (Nat × List Value) ⊕ ((Nat × (Nat → Int32)) ⊕ (Nat × Nat × (Nat → Option Nat)))
abbrev Hp : Type := (Nat → Option Ce) × Nat
abbrev Dc : Type := va_G × (Nat → ClassId) × Nat × Nat × Nat
def cls : List vw_C := [(RX0, TX0, 4), (RX1, TX1, 9), (RX2, TX2, 2), (RX3, TX3, 7), (RX4, TX4, 3), (RX5, TX5, 6), (RX6, TX6, 8), (RX7, TX7, 13), (RX8, TX8, 8), (RX9, TX9, 27)]
def ceE (E : Nat → ClassId) : Ce → va_E
  | .inl x => .inr x
  | .inr (.inl (n, f)) => .inl (E 0, n, .inl f)
  | .inr (.inr (k, n, f)) => .inl (E (if k = 0 then 1 else 2), n, .inr (.inr (.inr (.inr f))))
def arT (D : Dc) : List (ClassId × FieldType) := [(D.2.1 0, .int), (D.2.1 1, .array .int), (D.2.1 2, .object RX7)]
def frA (D : Dc) : Nat → Prop := fun q => D.2.2.1 ≤ q
def Rl (D : Dc) (h : Hp) (H : Heap) : Prop := h.2 = H.size ∧ ∀ (a : Nat) (e : Ce), h.1 a = some e → D.2.2.1 ≤ a ∧ va_at D.1 cls (a, ceE D.2.1 e) H
def tabA : Nat → Int32 := fun j => if j = 0 then -1 else if j = 1 then 0 else if j = 2 then 0 else if j = 3 then 0 else if j = 4 then 1 else if j = 5 then 2 else 0
def tabB : Nat → Int32 := fun j => if j = 0 then 10 else if j = 1 then 11 else if j = 2 then 12 else if j = 3 then 13 else if j = 4 then 20 else if j = 7 then 21 else if j = 9 then 30 else if j = 14 then 40 else if j = 16 then 50 else if j = 18 then 51 else if j = 21 then 60 else if j = 24 then 70 else if j = 25 then 71 else 0
/-- the words of nest mates: own class, pool place, method, host -/
def nestM : List (String × Nat × MethodName) := [("FourthFace$Ferry", 11, ⟨"FourthFace$Debts", "<init>", "()V"⟩), ("FourthFace", 39, ⟨"FourthFace$Sheets", "<init>", "()V"⟩), ("FourthFace", 46, ⟨"FourthFace$Voices", "<init>", "()V"⟩), ("FourthFace$World", 69, ⟨"FourthFace", "held", "(II)I"⟩), ("FourthFace$World", 106, ⟨"FourthFace", "isUnder", "(II)Z"⟩)]
def Kk (D : Dc) (U : State) : Prop := va_K D.1 cls (arT D) U ∧ D.2.2.1 ≤ U.heap.size ∧
  (va_Z "FourthFace" "ABOVE" "[I" (.ref D.2.2.2.1) (frA D) U U.heap ∧ va_T .int D.2.2.2.1 7 (fun j => .int (tabA j)) (frA D) U U.heap) ∧
  (va_Z "FourthFace$Voices" "BODIES" "[I" (.ref D.2.2.2.2) (frA D) U U.heap ∧ va_T .int D.2.2.2.2 28 (fun j => .int (tabB j)) (frA D) U U.heap) ∧
  (∀ q ∈ nestM, va_Nw (.methodLinkNest q.1 q.2.1 q.2.2 "FourthFace") U) ∧ va_Nw (.fieldLinkNest "FourthFace$Voices" 44 "FourthFace" "ABOVE" "[I" "FourthFace") U ∧
  va_AO RX7 U ∧ (Cond.arrayOver (.array .int)).before #[] U = true ∧ va_Nw (.castable "[I" "java/lang/Cloneable") U
theorem aoI_moved {u U : State} (hvm : u.vm.Alike U.vm) (h : (Cond.arrayOver (.array .int)).before #[] u = true) : (Cond.arrayOver (.array .int)).before #[] U = true := by
  unfold Cond.before Cond.holds at h ⊢
  simp only [Cond.value] at h ⊢
  rw [hvm.findClass]
  cases hc : u.vm.findClass (FieldType.array FieldType.int).toString with
  | none => simp [hc] at h
  | some comp =>
    simp only [hc, Option.bind_some, beq_iff_eq, Option.bind_eq_some_iff, Option.map_eq_some_iff] at h ⊢
    obtain ⟨c, h2, k, h3, h4⟩ := h
    obtain ⟨k', hk', he⟩ := hvm.2.2 _ _ h3
    have e1 := va_idx_bare U.vm comp
    have e3 := va_idx_bare u.vm comp
    first | rw [hvm.bare_eq] at e3 | rw [← hvm.bare_eq] at e3
    refine ⟨c, e1.symm.trans (e3.trans h2), k', hk', ?_⟩
    have hkind : k'.kind = k.kind := by rw [he]
    rw [hkind, hvm.findClass]
    exact h4
theorem Kk.moved {D : Dc} {s U : State} {locs : List Loc} {H : Heap} (h : Kk D s) (hW : s.WarmedH U.vm) (hH : U.heap = H) (hS : va_S (frA D) s.heap H locs) : Kk D U := by
  obtain ⟨h1, h2, ⟨h3, h4⟩, ⟨h5, h6⟩, h7, h8, h9, h10, h11⟩ := h
  have hk : ∀ a : Nat, a < s.heap.size → ¬ frA D a → U.heap[a]? = s.heap[a]? := fun a x y => by rw [hH]; exact hS.2.1 a x y
  refine ⟨h1.moved hW.alike, Nat.le_trans h2 (by rw [hH]; exact hS.1), ⟨(h3.kept hk).moved hW.alike, (h4.kept hk).moved hW.alike⟩, ⟨(h5.kept hk).moved hW.alike, (h6.kept hk).moved hW.alike⟩, fun q hq => va_Nw.warmM hW (h7 q hq), va_Nw.warmF hW h8, h9.moved hW.alike, aoI_moved hW.alike h10, va_Nw.warmC hW h11⟩
abbrev Cx : Type := Program × Launch × Env × Room × State × MethodId × Array Value × List Frame × Method × Code × Dc × (Option Value × Hp)
def Qm (D : Dc) (res : Option Value × Hp) : Array Value → State → Outcome → State → Prop := fun _ st oc t => (oc = .returned res.1 ∧ Rl D res.2 t.heap) ∧ va_F (frA D) st t
def Jc (X : Cx) (y : MethodName) (cc : ByteArray) (nL : Nat) (ret : Option FieldType) (d mc ms : Nat) (res : Option Value × Hp) : Prop :=
  match X with
  | (p, l, e, R, s, m, args, below, meth, c, D, rs) => p.tables.exec = Jvm.exec ∧ c.code = cc ∧ c.maxLocals = nL ∧ s.vm.findClass y.cls = some m.cls ∧ (∀ w ∈ FT, w.before args s = true) ∧ Kk D s ∧ meth.sig.returnType = ret ∧ meth.locks = false ∧ meth.name = y.name ∧ (d ≤ R.frames ∧ 64 * d ≤ R.locals ∧ mc ≤ R.cells ∧ ms ≤ R.slots) ∧ rs = res
def ll : Nat → List (Option Value) → List (Nat × Value)
  | _, [] => []
  | i, none :: t => ll (i + 1) t
  | i, some v :: t => (i, v) :: ll (i + 1) t
def J (X : Cx) (mc ms k n pc : Nat) (lv : List (Option Value)) (st : List Value) (h : Hp) : Prop :=
  match X with
  | (p, l, e, R, s, m, args, below, meth, c, D, rs) => ∀ (H : Heap) (locs : List Loc) (ls : Array Slot), Rl D h H → va_S (frA D) s.heap H locs → lv_has ls c.maxLocals (ll 0 lv) → lv.length = c.maxLocals → W p l e R s m args below meth c H locs k n (MQ below (Qm D rs) args s mc ms (frA D)) (F0 m pc ls st)
/-- what a method owes: from every heap that holds h, it returns res -/
def Mc (y : MethodName) (cc : ByteArray) (nL : Nat) (ret : Option FieldType) (d mc ms : Nat) (av : List Value) (h : Hp) (res : Option Value × Hp) : Prop :=
  ∀ (l : Launch) (D : Dc), Met l y (.code y cc nL ret :: FT) { frames := d, cells := mc, slots := ms, locals := 64 * d } (va_Pc av (fun U => Rl D h U.heap ∧ Kk D U)) (Qm D res) mc ms (frA D)
theorem ll_mem : ∀ (lv : List (Option Value)) (b i : Nat) (v : Value), lv[i]? = some (some v) → (b + i, v) ∈ ll b lv
  | [], b, i, v, h => by simp at h
  | none :: t, b, 0, v, h => by simp at h
  | some w :: t, b, 0, v, h => by simp at h; subst h; exact List.mem_cons_self
  | none :: t, b, i + 1, v, h => by
    have := ll_mem t (b + 1) i v (by simpa using h)
    rw [show b + (i + 1) = b + 1 + i by omega]; exact this
  | some w :: t, b, i + 1, v, h => by
    have := ll_mem t (b + 1) i v (by simpa using h)
    rw [show b + (i + 1) = b + 1 + i by omega]; exact List.mem_cons_of_mem _ this
theorem ll_get : ∀ (lv : List (Option Value)) (b : Nat) (q : Nat × Value), q ∈ ll b lv → ∃ i, q.1 = b + i ∧ lv[i]? = some (some q.2)
  | [], b, q, h => by cases h
  | none :: t, b, q, h => by
    obtain ⟨i, h1, h2⟩ := ll_get t (b + 1) q h
    exact ⟨i + 1, by omega, by simpa using h2⟩
  | some w :: t, b, q, h => by
    rcases List.mem_cons.mp h with rfl | h
    · exact ⟨0, rfl, rfl⟩
    · obtain ⟨i, h1, h2⟩ := ll_get t (b + 1) q h
      exact ⟨i + 1, by omega, by simpa using h2⟩
def sto (lv : List (Option Value)) (i : Nat) (v : Value) : Option (List (Option Value)) :=
  bif Nat.blt i lv.length && (match lv[i - 1]? with | some (some w) => Nat.beq w.category 1 | _ => true) then some (lv.set i (some v)) else none
theorem sto_spec {lv lv' : List (Option Value)} {i : Nat} {v : Value} (h : sto lv i v = some lv') : i < lv.length ∧ lv'.length = lv.length ∧ ∀ q ∈ ll 0 lv', q = (i, v) ∨ q ∈ (ll 0 lv).filter (fun q => !(q.1 == i) && !(q.1 + 1 == i && q.2.category == 2)) := by
  unfold sto at h
  cases hb : (Nat.blt i lv.length && (match lv[i - 1]? with | some (some w) => Nat.beq w.category 1 | _ => true)) with
  | false => rw [hb] at h; cases h
  | true =>
    rw [hb] at h
    have h := Option.some.inj h
    rw [Bool.and_eq_true] at hb
    have h1 : i < lv.length := by have := hb.1; simp [Nat.blt] at this; omega
    subst h
    refine ⟨h1, List.length_set, fun q hq => ?_⟩
    obtain ⟨j, e1, e2⟩ := ll_get _ 0 q hq
    have e1 : q.1 = j := by omega
    by_cases hj : j = i
    · left
      subst hj
      rw [List.getElem?_set_self h1] at e2
      have := Option.some.inj (Option.some.inj e2)
      exact Prod.ext e1 this.symm
    · right
      rw [List.getElem?_set_ne (fun z => hj z.symm)] at e2
      refine List.mem_filter.mpr ⟨?_, ?_⟩
      · have := ll_mem lv 0 j q.2 e2
        rw [show ((0 + j, q.2) : Nat × Value) = q from Prod.ext (by show 0 + j = q.1; omega) rfl] at this
        exact this
      · by_cases hz : q.1 + 1 = i
        · have h2 := hb.2
          rw [show i - 1 = j by omega, e2] at h2
          have h3 : q.2.category = 1 := Nat.eq_of_beq_eq_true h2
          simp [h3, show ¬ q.1 = i by omega]
        · simp [hz, show ¬ q.1 = i by omega]
theorem sto_has {ls : Array Slot} {n i : Nat} {v : Value} {lv lv' : List (Option Value)} (hs : sto lv i v = some lv') (h : lv_has ls n ((i, v) :: (ll 0 lv).filter (fun q => !(q.1 == i) && !(q.1 + 1 == i && q.2.category == 2)))) : lv_has ls n (ll 0 lv') :=
  ⟨h.1, h.2.1, fun q hq => by
    rcases (sto_spec hs).2.2 q hq with h1 | h1
    · exact h.2.2 q (by rw [h1]; exact List.mem_cons_self)
    · exact h.2.2 q (List.mem_cons_of_mem _ h1)⟩
theorem ll_at {ls : Array Slot} {n i : Nat} {v : Value} {lv : List (Option Value)} (h : lv_has ls n (ll 0 lv)) (hi : lv[i]? = some (some v)) : ls[i]? = some (.val v) := by
  have := ll_mem lv 0 i v hi
  rw [Nat.zero_add] at this
  exact h.2.2 _ this
/-! the heap's own acts -/
def isO (h : Hp) (ci a : Nat) : Bool := match h.1 a with | some (.inl (c, _)) => c == ci | _ => false
def gO {α : Type} (h : Hp) (ci a : Nat) (B : Option α) : Option α := if isO h ci a = true then B else none
def getV (h : Hp) (ci a j : Nat) : Option Value := match h.1 a with | some (.inl (c, fs)) => if c = ci then fs[j]? else none | _ => none
def getI (h : Hp) (ci a j : Nat) : Option Int32 := match getV h ci a j with | some (.int v) => some v | _ => none
def getR (h : Hp) (ci a j : Nat) : Option Nat := match getV h ci a j with | some (.ref v) => some v | _ => none
def setC (h : Hp) (a : Nat) (e : Ce) : Hp := (fun q => if q = a then some e else h.1 q, h.2)
def putV (h : Hp) (ci a j : Nat) (v : Value) : Option Hp := match h.1 a with | some (.inl (c, fs)) => if c = ci ∧ j < fs.length then some (setC h a (.inl (ci, fs.set j v))) else none | _ => none
def rdI (h : Hp) (a : Nat) (i : Int32) : Option Int32 := match h.1 a with | some (.inr (.inl (n, f))) => if i < 0 ∨ n ≤ i.toNatClampNeg then none else some (f i.toNatClampNeg) | _ => none
def wrI (h : Hp) (a : Nat) (i v : Int32) : Option Hp := match h.1 a with | some (.inr (.inl (n, f))) => if i < 0 ∨ n ≤ i.toNatClampNeg then none else some (setC h a (.inr (.inl (n, upd f i.toNatClampNeg v)))) | _ => none
def lenA (h : Hp) (a : Nat) : Option Int32 := match h.1 a with | some (.inr (.inl (n, _))) => some (Int32.ofNat n) | _ => none
def rdR (h : Hp) (a : Nat) (i : Int32) : Option Nat := match h.1 a with | some (.inr (.inr (_, n, f))) => if i < 0 ∨ n ≤ i.toNatClampNeg then none else f i.toNatClampNeg | _ => none
def rdT (n : Nat) (f : Nat → Int32) (i : Int32) : Option Int32 := if i < 0 ∨ n ≤ i.toNatClampNeg then none else some (f i.toNatClampNeg)
def newC (h : Hp) (e : Ce) : Hp := (fun q => if q = h.2 then some e else h.1 q, h.2 + 1)
def newA (cap : Nat) (h : Hp) (n : Int32) : Option (Nat × Hp) := if n < 0 ∨ cap < n.toNatClampNeg then none else some (h.2, newC h (.inr (.inl (n.toNatClampNeg, fun _ => 0))))
def acopy (h : Hp) (a0 : Nat) (sp : Int32) (a1 : Nat) (dp n : Int32) : Option Hp :=
  match h.1 a0, h.1 a1 with
  | some (.inr (.inl (n0, f))), some (.inr (.inl (n1, g))) => if sp < 0 ∨ dp < 0 ∨ n < 0 ∨ n0 < sp.toNatClampNeg + n.toNatClampNeg ∨ n1 < dp.toNatClampNeg + n.toNatClampNeg then none else some (setC h a1 (.inr (.inl (n1, va_cpy f g sp.toNatClampNeg dp.toNatClampNeg n.toNatClampNeg))))
  | _, _ => none
def bz (v : Int32) : Option Int32 := if v = 0 ∨ v = 1 then some v else none
def dvz (x y : Int32) : Option Int32 := if y = 0 then none else some (x / y)
def rmz (x y : Int32) : Option Int32 := if y = 0 then none else some (x - x / y * y)
theorem gO_some {α : Type} {h : Hp} {ci a : Nat} {B : Option α} {z : α} (hF : gO h ci a B = some z) : (∃ fs, h.1 a = some (.inl (ci, fs))) ∧ B = some z := by
  unfold gO at hF
  split at hF
  next h1 =>
    refine ⟨?_, hF⟩
    unfold isO at h1
    split at h1
    next c fs he => exact ⟨fs, by rw [he]; simp at h1; rw [h1]⟩
    next => cases h1
  next => cases hF
theorem getV_some {h : Hp} {ci a j : Nat} {v : Value} (hv : getV h ci a j = some v) : ∃ fs, h.1 a = some (.inl (ci, fs)) ∧ fs[j]? = some v := by
  unfold getV at hv
  split at hv
  next c fs he =>
    split at hv
    next hc => exact ⟨fs, by rw [he, hc], hv⟩
    next => cases hv
  next => cases hv
theorem getI_some {h : Hp} {ci a j : Nat} {v : Int32} (hv : getI h ci a j = some v) : getV h ci a j = some (.int v) := by
  unfold getI at hv
  split at hv
  next w he => rw [he, Option.some.inj hv]
  next => cases hv
theorem getR_some {h : Hp} {ci a j v : Nat} (hv : getR h ci a j = some v) : getV h ci a j = some (.ref v) := by
  unfold getR at hv
  split at hv
  next w he => rw [he, Option.some.inj hv]
  next => cases hv
theorem putV_some {h h' : Hp} {ci a j : Nat} {v : Value} (hv : putV h ci a j v = some h') : ∃ fs, h.1 a = some (.inl (ci, fs)) ∧ j < fs.length ∧ h' = setC h a (.inl (ci, fs.set j v)) := by
  unfold putV at hv
  split at hv
  next c fs he =>
    split at hv
    next hc => exact ⟨fs, by rw [he, hc.1], hc.2, (Option.some.inj hv).symm⟩
    next => cases hv
  next => cases hv
theorem rdI_some {h : Hp} {a : Nat} {i v : Int32} (hv : rdI h a i = some v) : ∃ n f, h.1 a = some (.inr (.inl (n, f))) ∧ vp_in i n ∧ v = f i.toNatClampNeg := by
  unfold rdI at hv
  split at hv
  next n f he =>
    split at hv
    next => cases hv
    next hc => exact ⟨n, f, he, hc, (Option.some.inj hv).symm⟩
  next => cases hv
theorem wrI_some {h h' : Hp} {a : Nat} {i v : Int32} (hv : wrI h a i v = some h') : ∃ n f, h.1 a = some (.inr (.inl (n, f))) ∧ vp_in i n ∧ h' = setC h a (.inr (.inl (n, upd f i.toNatClampNeg v))) := by
  unfold wrI at hv
  split at hv
  next n f he =>
    split at hv
    next => cases hv
    next hc => exact ⟨n, f, he, hc, (Option.some.inj hv).symm⟩
  next => cases hv
theorem lenA_some {h : Hp} {a : Nat} {v : Int32} (hv : lenA h a = some v) : ∃ n f, h.1 a = some (.inr (.inl (n, f))) ∧ v = Int32.ofNat n := by
  unfold lenA at hv
  split at hv
  next n f he => exact ⟨n, f, he, (Option.some.inj hv).symm⟩
  next => cases hv
theorem rdR_some {h : Hp} {a v : Nat} {i : Int32} (hv : rdR h a i = some v) : ∃ k n f, h.1 a = some (.inr (.inr (k, n, f))) ∧ vp_in i n ∧ f i.toNatClampNeg = some v := by
  unfold rdR at hv
  split at hv
  next k n f he =>
    split at hv
    next => cases hv
    next hc => exact ⟨k, n, f, he, hc, hv⟩
  next => cases hv
theorem acopy_some {h h' : Hp} {a0 a1 : Nat} {sp dp n : Int32} (hv : acopy h a0 sp a1 dp n = some h') : ∃ n0 f n1 g, h.1 a0 = some (.inr (.inl (n0, f))) ∧ h.1 a1 = some (.inr (.inl (n1, g))) ∧ ¬ sp < 0 ∧ ¬ dp < 0 ∧ ¬ n < 0 ∧ sp.toNatClampNeg + n.toNatClampNeg ≤ n0 ∧ dp.toNatClampNeg + n.toNatClampNeg ≤ n1 ∧ h' = setC h a1 (.inr (.inl (n1, va_cpy f g sp.toNatClampNeg dp.toNatClampNeg n.toNatClampNeg))) := by
  unfold acopy at hv
  split at hv
  next n0 f n1 g e0 e1 =>
    split at hv
    next => cases hv
    next hc =>
      simp only [not_or] at hc
      exact ⟨n0, f, n1, g, e0, e1, hc.1, hc.2.1, hc.2.2.1, by omega, by omega, (Option.some.inj hv).symm⟩
  next => cases hv
theorem bind_some {α β : Type} {x : Option α} {K : α → Option β} {z : β} (h : x.bind K = some z) : ∃ v, x = some v ∧ K v = some z := by
  cases x with
  | none => cases h
  | some v => exact ⟨v, rfl, h⟩
theorem J_br {α : Type} {c : Prop} [Decidable c] {A B : Option α} {z : α} {P : Prop} (hF : (if c then A else B) = some z) (kt : c → A = some z → P) (kf : ¬ c → B = some z → P) : P := by
  by_cases hc : c
  · rw [if_pos hc] at hF; exact kt hc hF
  · rw [if_neg hc] at hF; exact kf hc hF

theorem J_iadd {X : Cx} {y : MethodName} {cc : ByteArray} {nL : Nat} {ret : Option FieldType} {d mc ms : Nat} {res : Option Value × Hp} {k n pc : Nat} {lv : List (Option Value)} {st : List Value} {h : Hp} (C : Jc X y cc nL ret d mc ms res) {x z : Int32} (hd : decode cc pc = .ok (.iadd, 1)) (kk : J X mc ms k n (pc + 1) lv (.int (x + z) :: st) h) : J X mc ms k n pc lv (.int z :: .int x :: st) h := by
  obtain ⟨p, l, e, R, s, m, args, below, meth, c, D, rs⟩ := X
  exact fun H locs ls hR hS hl hL => lv_iadd C.1 C.2.1 hd (kk H locs ls hR hS hl hL)
theorem J_isub {X : Cx} {y : MethodName} {cc : ByteArray} {nL : Nat} {ret : Option FieldType} {d mc ms : Nat} {res : Option Value × Hp} {k n pc : Nat} {lv : List (Option Value)} {st : List Value} {h : Hp} (C : Jc X y cc nL ret d mc ms res) {x z : Int32} (hd : decode cc pc = .ok (.isub, 1)) (kk : J X mc ms k n (pc + 1) lv (.int (x - z) :: st) h) : J X mc ms k n pc lv (.int z :: .int x :: st) h := by
  obtain ⟨p, l, e, R, s, m, args, below, meth, c, D, rs⟩ := X
  exact fun H locs ls hR hS hl hL => lv_isub C.1 C.2.1 hd (kk H locs ls hR hS hl hL)
theorem J_imul {X : Cx} {y : MethodName} {cc : ByteArray} {nL : Nat} {ret : Option FieldType} {d mc ms : Nat} {res : Option Value × Hp} {k n pc : Nat} {lv : List (Option Value)} {st : List Value} {h : Hp} (C : Jc X y cc nL ret d mc ms res) {x z : Int32} (hd : decode cc pc = .ok (.imul, 1)) (kk : J X mc ms k n (pc + 1) lv (.int (x * z) :: st) h) : J X mc ms k n pc lv (.int z :: .int x :: st) h := by
  obtain ⟨p, l, e, R, s, m, args, below, meth, c, D, rs⟩ := X
  exact fun H locs ls hR hS hl hL => lv_imul C.1 C.2.1 hd (kk H locs ls hR hS hl hL)
theorem J_iand {X : Cx} {y : MethodName} {cc : ByteArray} {nL : Nat} {ret : Option FieldType} {d mc ms : Nat} {res : Option Value × Hp} {k n pc : Nat} {lv : List (Option Value)} {st : List Value} {h : Hp} (C : Jc X y cc nL ret d mc ms res) {x z : Int32} (hd : decode cc pc = .ok (.iand, 1)) (kk : J X mc ms k n (pc + 1) lv (.int (x &&& z) :: st) h) : J X mc ms k n pc lv (.int z :: .int x :: st) h := by
  obtain ⟨p, l, e, R, s, m, args, below, meth, c, D, rs⟩ := X
  exact fun H locs ls hR hS hl hL => lv_iand C.1 C.2.1 hd (kk H locs ls hR hS hl hL)
theorem J_ior {X : Cx} {y : MethodName} {cc : ByteArray} {nL : Nat} {ret : Option FieldType} {d mc ms : Nat} {res : Option Value × Hp} {k n pc : Nat} {lv : List (Option Value)} {st : List Value} {h : Hp} (C : Jc X y cc nL ret d mc ms res) {x z : Int32} (hd : decode cc pc = .ok (.ior, 1)) (kk : J X mc ms k n (pc + 1) lv (.int (x ||| z) :: st) h) : J X mc ms k n pc lv (.int z :: .int x :: st) h := by
  obtain ⟨p, l, e, R, s, m, args, below, meth, c, D, rs⟩ := X
  exact fun H locs ls hR hS hl hL => lv_ior C.1 C.2.1 hd (kk H locs ls hR hS hl hL)
theorem J_ixor {X : Cx} {y : MethodName} {cc : ByteArray} {nL : Nat} {ret : Option FieldType} {d mc ms : Nat} {res : Option Value × Hp} {k n pc : Nat} {lv : List (Option Value)} {st : List Value} {h : Hp} (C : Jc X y cc nL ret d mc ms res) {x z : Int32} (hd : decode cc pc = .ok (.ixor, 1)) (kk : J X mc ms k n (pc + 1) lv (.int (x ^^^ z) :: st) h) : J X mc ms k n pc lv (.int z :: .int x :: st) h := by
  obtain ⟨p, l, e, R, s, m, args, below, meth, c, D, rs⟩ := X
  exact fun H locs ls hR hS hl hL => lv_ixor C.1 C.2.1 hd (kk H locs ls hR hS hl hL)
theorem J_ishl {X : Cx} {y : MethodName} {cc : ByteArray} {nL : Nat} {ret : Option FieldType} {d mc ms : Nat} {res : Option Value × Hp} {k n pc : Nat} {lv : List (Option Value)} {st : List Value} {h : Hp} (C : Jc X y cc nL ret d mc ms res) {x z : Int32} (hd : decode cc pc = .ok (.ishl, 1)) (kk : J X mc ms k n (pc + 1) lv (.int (x <<< (z &&& 31)) :: st) h) : J X mc ms k n pc lv (.int z :: .int x :: st) h := by
  obtain ⟨p, l, e, R, s, m, args, below, meth, c, D, rs⟩ := X
  exact fun H locs ls hR hS hl hL => lv_ishl C.1 C.2.1 hd (kk H locs ls hR hS hl hL)
theorem J_ishr {X : Cx} {y : MethodName} {cc : ByteArray} {nL : Nat} {ret : Option FieldType} {d mc ms : Nat} {res : Option Value × Hp} {k n pc : Nat} {lv : List (Option Value)} {st : List Value} {h : Hp} (C : Jc X y cc nL ret d mc ms res) {x z : Int32} (hd : decode cc pc = .ok (.ishr, 1)) (kk : J X mc ms k n (pc + 1) lv (.int (x >>> (z &&& 31)) :: st) h) : J X mc ms k n pc lv (.int z :: .int x :: st) h := by
  obtain ⟨p, l, e, R, s, m, args, below, meth, c, D, rs⟩ := X
  exact fun H locs ls hR hS hl hL => lv_ishr C.1 C.2.1 hd (kk H locs ls hR hS hl hL)
def ushr (x z : Int32) : Int32 := (x.toUInt32 >>> (z.toUInt32 &&& Int32.toUInt32 31)).toInt32
theorem J_iushr {X : Cx} {y : MethodName} {cc : ByteArray} {nL : Nat} {ret : Option FieldType} {d mc ms : Nat} {res : Option Value × Hp} {k n pc : Nat} {lv : List (Option Value)} {st : List Value} {h : Hp} (C : Jc X y cc nL ret d mc ms res) {x z : Int32} (hd : decode cc pc = .ok (.iushr, 1)) (kk : J X mc ms k n (pc + 1) lv (.int (ushr x z) :: st) h) : J X mc ms k n pc lv (.int z :: .int x :: st) h := by
  obtain ⟨p, l, e, R, s, m, args, below, meth, c, D, rs⟩ := X
  exact fun H locs ls hR hS hl hL => lv_iushr C.1 C.2.1 hd rfl (kk H locs ls hR hS hl hL)
theorem J_ineg {X : Cx} {y : MethodName} {cc : ByteArray} {nL : Nat} {ret : Option FieldType} {d mc ms : Nat} {res : Option Value × Hp} {k n pc : Nat} {lv : List (Option Value)} {st : List Value} {h : Hp} (C : Jc X y cc nL ret d mc ms res) {x : Int32} (hd : decode cc pc = .ok (.ineg, 1)) (kk : J X mc ms k n (pc + 1) lv (.int (-x) :: st) h) : J X mc ms k n pc lv (.int x :: st) h := by
  obtain ⟨p, l, e, R, s, m, args, below, meth, c, D, rs⟩ := X
  exact fun H locs ls hR hS hl hL => lv_ineg C.1 C.2.1 hd (kk H locs ls hR hS hl hL)
theorem J_i2b {X : Cx} {y : MethodName} {cc : ByteArray} {nL : Nat} {ret : Option FieldType} {d mc ms : Nat} {res : Option Value × Hp} {k n pc : Nat} {lv : List (Option Value)} {st : List Value} {h : Hp} (C : Jc X y cc nL ret d mc ms res) {x : Int32} (hd : decode cc pc = .ok (.i2b, 1)) (kk : J X mc ms k n (pc + 1) lv (.int (x.toInt8.toInt32) :: st) h) : J X mc ms k n pc lv (.int x :: st) h := by
  obtain ⟨p, l, e, R, s, m, args, below, meth, c, D, rs⟩ := X
  exact fun H locs ls hR hS hl hL => lv_i2b C.1 C.2.1 hd rfl (kk H locs ls hR hS hl hL)
theorem J_i2s {X : Cx} {y : MethodName} {cc : ByteArray} {nL : Nat} {ret : Option FieldType} {d mc ms : Nat} {res : Option Value × Hp} {k n pc : Nat} {lv : List (Option Value)} {st : List Value} {h : Hp} (C : Jc X y cc nL ret d mc ms res) {x : Int32} (hd : decode cc pc = .ok (.i2s, 1)) (kk : J X mc ms k n (pc + 1) lv (.int (x.toInt16.toInt32) :: st) h) : J X mc ms k n pc lv (.int x :: st) h := by
  obtain ⟨p, l, e, R, s, m, args, below, meth, c, D, rs⟩ := X
  exact fun H locs ls hR hS hl hL => lv_i2s C.1 C.2.1 hd rfl (kk H locs ls hR hS hl hL)
theorem J_i2l {X : Cx} {y : MethodName} {cc : ByteArray} {nL : Nat} {ret : Option FieldType} {d mc ms : Nat} {res : Option Value × Hp} {k n pc : Nat} {lv : List (Option Value)} {st : List Value} {h : Hp} (C : Jc X y cc nL ret d mc ms res) {x : Int32} (hd : decode cc pc = .ok (.i2l, 1)) (kk : J X mc ms k n (pc + 1) lv (.long x.toInt64 :: st) h) : J X mc ms k n pc lv (.int x :: st) h := by
  obtain ⟨p, l, e, R, s, m, args, below, meth, c, D, rs⟩ := X
  exact fun H locs ls hR hS hl hL => lv_i2l C.1 C.2.1 hd rfl (kk H locs ls hR hS hl hL)
theorem J_l2i {X : Cx} {y : MethodName} {cc : ByteArray} {nL : Nat} {ret : Option FieldType} {d mc ms : Nat} {res : Option Value × Hp} {k n pc : Nat} {lv : List (Option Value)} {st : List Value} {h : Hp} (C : Jc X y cc nL ret d mc ms res) {x : Int64} (hd : decode cc pc = .ok (.l2i, 1)) (kk : J X mc ms k n (pc + 1) lv (.int x.toInt32 :: st) h) : J X mc ms k n pc lv (.long x :: st) h := by
  obtain ⟨p, l, e, R, s, m, args, below, meth, c, D, rs⟩ := X
  exact fun H locs ls hR hS hl hL => lv_l2i C.1 C.2.1 hd rfl (kk H locs ls hR hS hl hL)
def lushr (x : Int64) (z : Int32) : Int64 := (x.toUInt64 >>> (z.toInt64.toUInt64 &&& Int64.toUInt64 63)).toInt64
def lshr (x : Int64) (z : Int32) : Int64 := x >>> (z.toInt64 &&& 63)
def lshl (x : Int64) (z : Int32) : Int64 := x <<< (z.toInt64 &&& 63)
theorem J_lushr {X : Cx} {y : MethodName} {cc : ByteArray} {nL : Nat} {ret : Option FieldType} {d mc ms : Nat} {res : Option Value × Hp} {k n pc : Nat} {lv : List (Option Value)} {st : List Value} {h : Hp} (C : Jc X y cc nL ret d mc ms res) {x : Int64} {z : Int32} (hd : decode cc pc = .ok (.lushr, 1)) (kk : J X mc ms k n (pc + 1) lv (.long (lushr x z) :: st) h) : J X mc ms k n pc lv (.int z :: .long x :: st) h := by
  obtain ⟨p, l, e, R, s, m, args, below, meth, c, D, rs⟩ := X
  exact fun H locs ls hR hS hl hL => lv_lushr C.1 C.2.1 hd rfl (kk H locs ls hR hS hl hL)
theorem J_lshr {X : Cx} {y : MethodName} {cc : ByteArray} {nL : Nat} {ret : Option FieldType} {d mc ms : Nat} {res : Option Value × Hp} {k n pc : Nat} {lv : List (Option Value)} {st : List Value} {h : Hp} (C : Jc X y cc nL ret d mc ms res) {x : Int64} {z : Int32} (hd : decode cc pc = .ok (.lshr, 1)) (kk : J X mc ms k n (pc + 1) lv (.long (lshr x z) :: st) h) : J X mc ms k n pc lv (.int z :: .long x :: st) h := by
  obtain ⟨p, l, e, R, s, m, args, below, meth, c, D, rs⟩ := X
  exact fun H locs ls hR hS hl hL => lv_lshr C.1 C.2.1 hd rfl (kk H locs ls hR hS hl hL)
theorem J_lshl {X : Cx} {y : MethodName} {cc : ByteArray} {nL : Nat} {ret : Option FieldType} {d mc ms : Nat} {res : Option Value × Hp} {k n pc : Nat} {lv : List (Option Value)} {st : List Value} {h : Hp} (C : Jc X y cc nL ret d mc ms res) {x : Int64} {z : Int32} (hd : decode cc pc = .ok (.lshl, 1)) (kk : J X mc ms k n (pc + 1) lv (.long (lshl x z) :: st) h) : J X mc ms k n pc lv (.int z :: .long x :: st) h := by
  obtain ⟨p, l, e, R, s, m, args, below, meth, c, D, rs⟩ := X
  exact fun H locs ls hR hS hl hL => lv_lshl C.1 C.2.1 hd rfl (kk H locs ls hR hS hl hL)
theorem J_land {X : Cx} {y : MethodName} {cc : ByteArray} {nL : Nat} {ret : Option FieldType} {d mc ms : Nat} {res : Option Value × Hp} {k n pc : Nat} {lv : List (Option Value)} {st : List Value} {h : Hp} (C : Jc X y cc nL ret d mc ms res) {x z : Int64} (hd : decode cc pc = .ok (.land, 1)) (kk : J X mc ms k n (pc + 1) lv (.long (x &&& z) :: st) h) : J X mc ms k n pc lv (.long z :: .long x :: st) h := by
  obtain ⟨p, l, e, R, s, m, args, below, meth, c, D, rs⟩ := X
  exact fun H locs ls hR hS hl hL => lv_land C.1 C.2.1 hd (kk H locs ls hR hS hl hL)
theorem J_lor {X : Cx} {y : MethodName} {cc : ByteArray} {nL : Nat} {ret : Option FieldType} {d mc ms : Nat} {res : Option Value × Hp} {k n pc : Nat} {lv : List (Option Value)} {st : List Value} {h : Hp} (C : Jc X y cc nL ret d mc ms res) {x z : Int64} (hd : decode cc pc = .ok (.lor, 1)) (kk : J X mc ms k n (pc + 1) lv (.long (x ||| z) :: st) h) : J X mc ms k n pc lv (.long z :: .long x :: st) h := by
  obtain ⟨p, l, e, R, s, m, args, below, meth, c, D, rs⟩ := X
  exact fun H locs ls hR hS hl hL => lv_lor C.1 C.2.1 hd (kk H locs ls hR hS hl hL)
theorem J_iconst {X : Cx} {y : MethodName} {cc : ByteArray} {nL : Nat} {ret : Option FieldType} {d mc ms : Nat} {res : Option Value × Hp} {k n pc : Nat} {lv : List (Option Value)} {st : List Value} {h : Hp} (C : Jc X y cc nL ret d mc ms res) {z : Int} {v : Int32} (hd : decode cc pc = .ok (.iconst z, 1)) (hv : Int32.ofInt z = v) (kk : J X mc ms k n (pc + 1) lv (.int v :: st) h) : J X mc ms k n pc lv (st) h := by
  obtain ⟨p, l, e, R, s, m, args, below, meth, c, D, rs⟩ := X
  exact fun H locs ls hR hS hl hL => lv_iconst C.1 C.2.1 hd hv (kk H locs ls hR hS hl hL)
theorem J_bipush {X : Cx} {y : MethodName} {cc : ByteArray} {nL : Nat} {ret : Option FieldType} {d mc ms : Nat} {res : Option Value × Hp} {k n pc : Nat} {lv : List (Option Value)} {st : List Value} {h : Hp} (C : Jc X y cc nL ret d mc ms res) {z : Int} {v : Int32} (hd : decode cc pc = .ok (.bipush z, 2)) (hv : (Int8.ofInt z).toInt32 = v) (kk : J X mc ms k n (pc + 2) lv (.int v :: st) h) : J X mc ms k n pc lv (st) h := by
  obtain ⟨p, l, e, R, s, m, args, below, meth, c, D, rs⟩ := X
  exact fun H locs ls hR hS hl hL => lv_bipush C.1 C.2.1 hd hv (kk H locs ls hR hS hl hL)
theorem J_sipush {X : Cx} {y : MethodName} {cc : ByteArray} {nL : Nat} {ret : Option FieldType} {d mc ms : Nat} {res : Option Value × Hp} {k n pc : Nat} {lv : List (Option Value)} {st : List Value} {h : Hp} (C : Jc X y cc nL ret d mc ms res) {z : Int} {v : Int32} (hd : decode cc pc = .ok (.sipush z, 3)) (hv : (Int16.ofInt z).toInt32 = v) (kk : J X mc ms k n (pc + 3) lv (.int v :: st) h) : J X mc ms k n pc lv (st) h := by
  obtain ⟨p, l, e, R, s, m, args, below, meth, c, D, rs⟩ := X
  exact fun H locs ls hR hS hl hL => lv_sipush C.1 C.2.1 hd hv (kk H locs ls hR hS hl hL)
theorem J_ldc {X : Cx} {y : MethodName} {cc : ByteArray} {nL : Nat} {ret : Option FieldType} {d mc ms : Nat} {res : Option Value × Hp} {k n pc : Nat} {lv : List (Option Value)} {st : List Value} {h : Hp} (C : Jc X y cc nL ret d mc ms res) {ix : Nat} {v : Int32} (hd : decode cc pc = .ok (.ldc ix, 2)) (hw : Cond.constant y.cls ix v ∈ FT) (kk : J X mc ms k n (pc + 2) lv (.int v :: st) h) : J X mc ms k n pc lv (st) h := by
  obtain ⟨p, l, e, R, s, m, args, below, meth, c, D, rs⟩ := X
  exact fun H locs ls hR hS hl hL => lv_ldc C.1 C.2.1 C.2.2.2.1 (C.2.2.2.2.1 _ hw) hd (kk H locs ls hR hS hl hL)
theorem J_ldcw {X : Cx} {y : MethodName} {cc : ByteArray} {nL : Nat} {ret : Option FieldType} {d mc ms : Nat} {res : Option Value × Hp} {k n pc : Nat} {lv : List (Option Value)} {st : List Value} {h : Hp} (C : Jc X y cc nL ret d mc ms res) {ix : Nat} {v : Int32} (hd : decode cc pc = .ok (.ldc_w ix, 3)) (hw : Cond.constant y.cls ix v ∈ FT) (kk : J X mc ms k n (pc + 3) lv (.int v :: st) h) : J X mc ms k n pc lv (st) h := by
  obtain ⟨p, l, e, R, s, m, args, below, meth, c, D, rs⟩ := X
  exact fun H locs ls hR hS hl hL => lv_ldcw C.1 C.2.1 C.2.2.2.1 (C.2.2.2.2.1 _ hw) hd (kk H locs ls hR hS hl hL)
theorem J_ldc2 {X : Cx} {y : MethodName} {cc : ByteArray} {nL : Nat} {ret : Option FieldType} {d mc ms : Nat} {res : Option Value × Hp} {k n pc : Nat} {lv : List (Option Value)} {st : List Value} {h : Hp} (C : Jc X y cc nL ret d mc ms res) {ix : Nat} {v : Int64} (hd : decode cc pc = .ok (.ldc2_w ix, 3)) (hw : Cond.constantLong y.cls ix v ∈ FT) (kk : J X mc ms k n (pc + 3) lv (.long v :: st) h) : J X mc ms k n pc lv (st) h := by
  obtain ⟨p, l, e, R, s, m, args, below, meth, c, D, rs⟩ := X
  exact fun H locs ls hR hS hl hL => lv_ldc2 C.1 C.2.1 C.2.2.2.1 (C.2.2.2.2.1 _ hw) hd (kk H locs ls hR hS hl hL)
theorem J_dup {X : Cx} {y : MethodName} {cc : ByteArray} {nL : Nat} {ret : Option FieldType} {d mc ms : Nat} {res : Option Value × Hp} {k n pc : Nat} {lv : List (Option Value)} {st : List Value} {h : Hp} (C : Jc X y cc nL ret d mc ms res) {v : Value} (hd : decode cc pc = .ok (.dup, 1)) (hc : v.category = 1) (kk : J X mc ms k n (pc + 1) lv (v :: v :: st) h) : J X mc ms k n pc lv (v :: st) h := by
  obtain ⟨p, l, e, R, s, m, args, below, meth, c, D, rs⟩ := X
  exact fun H locs ls hR hS hl hL => lv_dup C.1 C.2.1 hd hc (kk H locs ls hR hS hl hL)
theorem J_dup2 {X : Cx} {y : MethodName} {cc : ByteArray} {nL : Nat} {ret : Option FieldType} {d mc ms : Nat} {res : Option Value × Hp} {k n pc : Nat} {lv : List (Option Value)} {st : List Value} {h : Hp} (C : Jc X y cc nL ret d mc ms res) {v w : Value} (hd : decode cc pc = .ok (.dup2, 1)) (hc : v.category = 1) (hc2 : w.category = 1) (kk : J X mc ms k n (pc + 1) lv (v :: w :: v :: w :: st) h) : J X mc ms k n pc lv (v :: w :: st) h := by
  obtain ⟨p, l, e, R, s, m, args, below, meth, c, D, rs⟩ := X
  exact fun H locs ls hR hS hl hL => lv_dup2_11 C.1 C.2.1 hd hc hc2 (kk H locs ls hR hS hl hL)
theorem J_pop {X : Cx} {y : MethodName} {cc : ByteArray} {nL : Nat} {ret : Option FieldType} {d mc ms : Nat} {res : Option Value × Hp} {k n pc : Nat} {lv : List (Option Value)} {st : List Value} {h : Hp} (C : Jc X y cc nL ret d mc ms res) {v : Value} (hd : decode cc pc = .ok (.pop, 1)) (hc : v.category = 1) (kk : J X mc ms k n (pc + 1) lv (st) h) : J X mc ms k n pc lv (v :: st) h := by
  obtain ⟨p, l, e, R, s, m, args, below, meth, c, D, rs⟩ := X
  exact fun H locs ls hR hS hl hL => lv_pop C.1 C.2.1 hd hc (kk H locs ls hR hS hl hL)
theorem J_goto {X : Cx} {y : MethodName} {cc : ByteArray} {nL : Nat} {ret : Option FieldType} {d mc ms : Nat} {res : Option Value × Hp} {k n pc : Nat} {lv : List (Option Value)} {st : List Value} {h : Hp} (C : Jc X y cc nL ret d mc ms res) {off : Int} {tgt : Nat} (hd : decode cc pc = .ok (.goto off, 3)) (ht : (pc : Int) + off = (tgt : Int)) (kk : J X mc ms k n tgt lv (st) h) : J X mc ms k n pc lv (st) h := by
  obtain ⟨p, l, e, R, s, m, args, below, meth, c, D, rs⟩ := X
  exact fun H locs ls hR hS hl hL => lv_goto C.1 C.2.1 hd ht (kk H locs ls hR hS hl hL)
theorem J_iload_n {X : Cx} {y : MethodName} {cc : ByteArray} {nL : Nat} {ret : Option FieldType} {d mc ms : Nat} {res : Option Value × Hp} {k n pc : Nat} {lv : List (Option Value)} {st : List Value} {h : Hp} (C : Jc X y cc nL ret d mc ms res) {q : Fin 4} {x : Int32} (hd : decode cc pc = .ok (.iload_n q, 1)) (hx : lv[(q : Nat)]? = some (some (.int x))) (kk : J X mc ms k n (pc + 1) lv (.int x :: st) h) : J X mc ms k n pc lv (st) h := by
  obtain ⟨p, l, e, R, s, m, args, below, meth, c, D, rs⟩ := X
  exact fun H locs ls hR hS hl hL => lv_iload_n C.1 C.2.1 hd rfl (ll_at hl hx) (kk H locs ls hR hS hl hL)
theorem J_iload {X : Cx} {y : MethodName} {cc : ByteArray} {nL : Nat} {ret : Option FieldType} {d mc ms : Nat} {res : Option Value × Hp} {k n pc : Nat} {lv : List (Option Value)} {st : List Value} {h : Hp} (C : Jc X y cc nL ret d mc ms res) {i : Nat} {x : Int32} (hd : decode cc pc = .ok (.iload i, 2)) (hx : lv[i]? = some (some (.int x))) (kk : J X mc ms k n (pc + 2) lv (.int x :: st) h) : J X mc ms k n pc lv (st) h := by
  obtain ⟨p, l, e, R, s, m, args, below, meth, c, D, rs⟩ := X
  exact fun H locs ls hR hS hl hL => lv_iload C.1 C.2.1 hd (ll_at hl hx) (kk H locs ls hR hS hl hL)
theorem J_aload_n {X : Cx} {y : MethodName} {cc : ByteArray} {nL : Nat} {ret : Option FieldType} {d mc ms : Nat} {res : Option Value × Hp} {k n pc : Nat} {lv : List (Option Value)} {st : List Value} {h : Hp} (C : Jc X y cc nL ret d mc ms res) {q : Fin 4} {x : Nat} (hd : decode cc pc = .ok (.aload_n q, 1)) (hx : lv[(q : Nat)]? = some (some (.ref x))) (kk : J X mc ms k n (pc + 1) lv (.ref x :: st) h) : J X mc ms k n pc lv (st) h := by
  obtain ⟨p, l, e, R, s, m, args, below, meth, c, D, rs⟩ := X
  exact fun H locs ls hR hS hl hL => lv_aload_n C.1 C.2.1 hd rfl (ll_at hl hx) (kk H locs ls hR hS hl hL)
theorem J_aload {X : Cx} {y : MethodName} {cc : ByteArray} {nL : Nat} {ret : Option FieldType} {d mc ms : Nat} {res : Option Value × Hp} {k n pc : Nat} {lv : List (Option Value)} {st : List Value} {h : Hp} (C : Jc X y cc nL ret d mc ms res) {i : Nat} {x : Nat} (hd : decode cc pc = .ok (.aload i, 2)) (hx : lv[i]? = some (some (.ref x))) (kk : J X mc ms k n (pc + 2) lv (.ref x :: st) h) : J X mc ms k n pc lv (st) h := by
  obtain ⟨p, l, e, R, s, m, args, below, meth, c, D, rs⟩ := X
  exact fun H locs ls hR hS hl hL => lv_aload C.1 C.2.1 hd (ll_at hl hx) (kk H locs ls hR hS hl hL)
theorem J_lload_n {X : Cx} {y : MethodName} {cc : ByteArray} {nL : Nat} {ret : Option FieldType} {d mc ms : Nat} {res : Option Value × Hp} {k n pc : Nat} {lv : List (Option Value)} {st : List Value} {h : Hp} (C : Jc X y cc nL ret d mc ms res) {q : Fin 4} {x : Int64} (hd : decode cc pc = .ok (.lload_n q, 1)) (hx : lv[(q : Nat)]? = some (some (.long x))) (kk : J X mc ms k n (pc + 1) lv (.long x :: st) h) : J X mc ms k n pc lv (st) h := by
  obtain ⟨p, l, e, R, s, m, args, below, meth, c, D, rs⟩ := X
  exact fun H locs ls hR hS hl hL => lv_lload_n C.1 C.2.1 hd rfl (ll_at hl hx) (kk H locs ls hR hS hl hL)
theorem J_lload {X : Cx} {y : MethodName} {cc : ByteArray} {nL : Nat} {ret : Option FieldType} {d mc ms : Nat} {res : Option Value × Hp} {k n pc : Nat} {lv : List (Option Value)} {st : List Value} {h : Hp} (C : Jc X y cc nL ret d mc ms res) {i : Nat} {x : Int64} (hd : decode cc pc = .ok (.lload i, 2)) (hx : lv[i]? = some (some (.long x))) (kk : J X mc ms k n (pc + 2) lv (.long x :: st) h) : J X mc ms k n pc lv (st) h := by
  obtain ⟨p, l, e, R, s, m, args, below, meth, c, D, rs⟩ := X
  exact fun H locs ls hR hS hl hL => lv_lload C.1 C.2.1 hd (ll_at hl hx) (kk H locs ls hR hS hl hL)
theorem J_istore_n {X : Cx} {y : MethodName} {cc : ByteArray} {nL : Nat} {ret : Option FieldType} {d mc ms : Nat} {res : Option Value × Hp} {k n pc : Nat} {lv : List (Option Value)} {st : List Value} {h : Hp} (C : Jc X y cc nL ret d mc ms res) {lv' : List (Option Value)} {q : Fin 4} {x : Int32} (hd : decode cc pc = .ok (.istore_n q, 1)) (hs : sto lv (q : Nat) (.int x) = some lv') (kk : J X mc ms k n (pc + 1) lv' (st) h) : J X mc ms k n pc lv (.int x :: st) h := by
  obtain ⟨p, l, e, R, s, m, args, below, meth, c, D, rs⟩ := X
  exact fun H locs ls hR hS hl hL => lv_istore_n C.1 C.2.1 hd rfl hl (by rw [← hL]; exact (sto_spec hs).1) rfl (fun ls' hl' => kk H locs ls' hR hS (sto_has hs hl') (by rw [(sto_spec hs).2.1]; exact hL))
theorem J_istore {X : Cx} {y : MethodName} {cc : ByteArray} {nL : Nat} {ret : Option FieldType} {d mc ms : Nat} {res : Option Value × Hp} {k n pc : Nat} {lv : List (Option Value)} {st : List Value} {h : Hp} (C : Jc X y cc nL ret d mc ms res) {lv' : List (Option Value)} {i : Nat} {x : Int32} (hd : decode cc pc = .ok (.istore i, 2)) (hs : sto lv i (.int x) = some lv') (kk : J X mc ms k n (pc + 2) lv' (st) h) : J X mc ms k n pc lv (.int x :: st) h := by
  obtain ⟨p, l, e, R, s, m, args, below, meth, c, D, rs⟩ := X
  exact fun H locs ls hR hS hl hL => lv_istore C.1 C.2.1 hd hl (by rw [← hL]; exact (sto_spec hs).1) rfl (fun ls' hl' => kk H locs ls' hR hS (sto_has hs hl') (by rw [(sto_spec hs).2.1]; exact hL))
theorem J_astore_n {X : Cx} {y : MethodName} {cc : ByteArray} {nL : Nat} {ret : Option FieldType} {d mc ms : Nat} {res : Option Value × Hp} {k n pc : Nat} {lv : List (Option Value)} {st : List Value} {h : Hp} (C : Jc X y cc nL ret d mc ms res) {lv' : List (Option Value)} {q : Fin 4} {x : Nat} (hd : decode cc pc = .ok (.astore_n q, 1)) (hs : sto lv (q : Nat) (.ref x) = some lv') (kk : J X mc ms k n (pc + 1) lv' (st) h) : J X mc ms k n pc lv (.ref x :: st) h := by
  obtain ⟨p, l, e, R, s, m, args, below, meth, c, D, rs⟩ := X
  exact fun H locs ls hR hS hl hL => lv_astore_n C.1 C.2.1 hd rfl hl (by rw [← hL]; exact (sto_spec hs).1) rfl (fun ls' hl' => kk H locs ls' hR hS (sto_has hs hl') (by rw [(sto_spec hs).2.1]; exact hL))
theorem J_astore {X : Cx} {y : MethodName} {cc : ByteArray} {nL : Nat} {ret : Option FieldType} {d mc ms : Nat} {res : Option Value × Hp} {k n pc : Nat} {lv : List (Option Value)} {st : List Value} {h : Hp} (C : Jc X y cc nL ret d mc ms res) {lv' : List (Option Value)} {i : Nat} {x : Nat} (hd : decode cc pc = .ok (.astore i, 2)) (hs : sto lv i (.ref x) = some lv') (kk : J X mc ms k n (pc + 2) lv' (st) h) : J X mc ms k n pc lv (.ref x :: st) h := by
  obtain ⟨p, l, e, R, s, m, args, below, meth, c, D, rs⟩ := X
  exact fun H locs ls hR hS hl hL => lv_astore C.1 C.2.1 hd hl (by rw [← hL]; exact (sto_spec hs).1) rfl (fun ls' hl' => kk H locs ls' hR hS (sto_has hs hl') (by rw [(sto_spec hs).2.1]; exact hL))
theorem ll_idx {lv : List (Option Value)} {i : Nat} {v : Value} (h : lv[i]? = some (some v)) : ∃ k : Nat, (ll 0 lv)[k]? = some (i, v) := by
  have := ll_mem lv 0 i v h
  rw [Nat.zero_add] at this
  exact List.getElem?_of_mem this
theorem J_iinc {X : Cx} {y : MethodName} {cc : ByteArray} {nL : Nat} {ret : Option FieldType} {d mc ms : Nat} {res : Option Value × Hp} {k n pc : Nat} {lv : List (Option Value)} {st : List Value} {h : Hp} (C : Jc X y cc nL ret d mc ms res) {lv' : List (Option Value)} {i : Nat} {z : Int} {x v : Int32} (hd : decode cc pc = .ok (.iinc i z, 3)) (hx : lv[i]? = some (some (.int x))) (hv : Int32.ofInt z = v) (hs : sto lv i (.int (x + v)) = some lv') (kk : J X mc ms k n (pc + 3) lv' st h) : J X mc ms k n pc lv st h := by
  obtain ⟨p, l, e, R, s, m, args, below, meth, c, D, rs⟩ := X
  obtain ⟨kx, hkx⟩ := ll_idx hx
  subst hv
  exact fun H locs ls hR hS hl hL => lv_iinc C.1 C.2.1 hd hl hkx rfl (by rw [← hL]; exact (sto_spec hs).1) rfl (fun ls' hl' => kk H locs ls' hR hS (sto_has hs hl') (by rw [(sto_spec hs).2.1]; exact hL))
theorem J_icmp_eq {X : Cx} {y : MethodName} {cc : ByteArray} {nL : Nat} {ret : Option FieldType} {d mc ms : Nat} {res : Option Value × Hp} {k n pc : Nat} {lv : List (Option Value)} {st : List Value} {h : Hp} (C : Jc X y cc nL ret d mc ms res) {α : Type} {P B : Option α} {r : α} {off : Int} {tgt : Nat} {x z : Int32} (hd : decode cc pc = .ok (.if_icmp .eq off, 3)) (ht : (pc : Int) + off = (tgt : Int)) (hF : (if x = z then P else B) = some r) (kt : P = some r → J X mc ms k n tgt lv st h) (kf : B = some r → J X mc ms k n (pc + 3) lv st h) : J X mc ms k n pc lv (.int z :: .int x :: st) h := by
  obtain ⟨p, l, e, R, s, m, args, below, meth, c, D, rs⟩ := X
  exact fun H locs ls hR hS hl hL => lv_icmp_eq C.1 C.2.1 hd ht (fun hc => kt (by rw [if_pos hc] at hF; exact hF) H locs ls hR hS hl hL) (fun hc => kf (by rw [if_neg hc] at hF; exact hF) H locs ls hR hS hl hL)
theorem J_if_eq {X : Cx} {y : MethodName} {cc : ByteArray} {nL : Nat} {ret : Option FieldType} {d mc ms : Nat} {res : Option Value × Hp} {k n pc : Nat} {lv : List (Option Value)} {st : List Value} {h : Hp} (C : Jc X y cc nL ret d mc ms res) {α : Type} {P B : Option α} {r : α} {off : Int} {tgt : Nat} {x : Int32} (hd : decode cc pc = .ok (.ifCond .eq off, 3)) (ht : (pc : Int) + off = (tgt : Int)) (hF : (if x = 0 then P else B) = some r) (kt : P = some r → J X mc ms k n tgt lv st h) (kf : B = some r → J X mc ms k n (pc + 3) lv st h) : J X mc ms k n pc lv (.int x :: st) h := by
  obtain ⟨p, l, e, R, s, m, args, below, meth, c, D, rs⟩ := X
  exact fun H locs ls hR hS hl hL => lv_if_eq C.1 C.2.1 hd ht (fun hc => kt (by rw [if_pos hc] at hF; exact hF) H locs ls hR hS hl hL) (fun hc => kf (by rw [if_neg hc] at hF; exact hF) H locs ls hR hS hl hL)
theorem J_icmp_ne {X : Cx} {y : MethodName} {cc : ByteArray} {nL : Nat} {ret : Option FieldType} {d mc ms : Nat} {res : Option Value × Hp} {k n pc : Nat} {lv : List (Option Value)} {st : List Value} {h : Hp} (C : Jc X y cc nL ret d mc ms res) {α : Type} {P B : Option α} {r : α} {off : Int} {tgt : Nat} {x z : Int32} (hd : decode cc pc = .ok (.if_icmp .ne off, 3)) (ht : (pc : Int) + off = (tgt : Int)) (hF : (if x = z then P else B) = some r) (kf : P = some r → J X mc ms k n (pc + 3) lv st h) (kt : B = some r → J X mc ms k n tgt lv st h) : J X mc ms k n pc lv (.int z :: .int x :: st) h := by
  obtain ⟨p, l, e, R, s, m, args, below, meth, c, D, rs⟩ := X
  exact fun H locs ls hR hS hl hL => lv_icmp_ne C.1 C.2.1 hd ht (fun hc => kt (by rw [if_neg hc] at hF; exact hF) H locs ls hR hS hl hL) (fun hc => kf (by rw [if_pos hc] at hF; exact hF) H locs ls hR hS hl hL)
theorem J_if_ne {X : Cx} {y : MethodName} {cc : ByteArray} {nL : Nat} {ret : Option FieldType} {d mc ms : Nat} {res : Option Value × Hp} {k n pc : Nat} {lv : List (Option Value)} {st : List Value} {h : Hp} (C : Jc X y cc nL ret d mc ms res) {α : Type} {P B : Option α} {r : α} {off : Int} {tgt : Nat} {x : Int32} (hd : decode cc pc = .ok (.ifCond .ne off, 3)) (ht : (pc : Int) + off = (tgt : Int)) (hF : (if x = 0 then P else B) = some r) (kf : P = some r → J X mc ms k n (pc + 3) lv st h) (kt : B = some r → J X mc ms k n tgt lv st h) : J X mc ms k n pc lv (.int x :: st) h := by
  obtain ⟨p, l, e, R, s, m, args, below, meth, c, D, rs⟩ := X
  exact fun H locs ls hR hS hl hL => lv_if_ne C.1 C.2.1 hd ht (fun hc => kt (by rw [if_neg hc] at hF; exact hF) H locs ls hR hS hl hL) (fun hc => kf (by rw [if_pos hc] at hF; exact hF) H locs ls hR hS hl hL)
theorem J_icmp_lt {X : Cx} {y : MethodName} {cc : ByteArray} {nL : Nat} {ret : Option FieldType} {d mc ms : Nat} {res : Option Value × Hp} {k n pc : Nat} {lv : List (Option Value)} {st : List Value} {h : Hp} (C : Jc X y cc nL ret d mc ms res) {α : Type} {P B : Option α} {r : α} {off : Int} {tgt : Nat} {x z : Int32} (hd : decode cc pc = .ok (.if_icmp .lt off, 3)) (ht : (pc : Int) + off = (tgt : Int)) (hF : (if x < z then P else B) = some r) (kt : P = some r → J X mc ms k n tgt lv st h) (kf : B = some r → J X mc ms k n (pc + 3) lv st h) : J X mc ms k n pc lv (.int z :: .int x :: st) h := by
  obtain ⟨p, l, e, R, s, m, args, below, meth, c, D, rs⟩ := X
  exact fun H locs ls hR hS hl hL => lv_icmp_lt C.1 C.2.1 hd ht (fun hc => kt (by rw [if_pos hc] at hF; exact hF) H locs ls hR hS hl hL) (fun hc => kf (by rw [if_neg hc] at hF; exact hF) H locs ls hR hS hl hL)
theorem J_if_lt {X : Cx} {y : MethodName} {cc : ByteArray} {nL : Nat} {ret : Option FieldType} {d mc ms : Nat} {res : Option Value × Hp} {k n pc : Nat} {lv : List (Option Value)} {st : List Value} {h : Hp} (C : Jc X y cc nL ret d mc ms res) {α : Type} {P B : Option α} {r : α} {off : Int} {tgt : Nat} {x : Int32} (hd : decode cc pc = .ok (.ifCond .lt off, 3)) (ht : (pc : Int) + off = (tgt : Int)) (hF : (if x < 0 then P else B) = some r) (kt : P = some r → J X mc ms k n tgt lv st h) (kf : B = some r → J X mc ms k n (pc + 3) lv st h) : J X mc ms k n pc lv (.int x :: st) h := by
  obtain ⟨p, l, e, R, s, m, args, below, meth, c, D, rs⟩ := X
  exact fun H locs ls hR hS hl hL => lv_if_lt C.1 C.2.1 hd ht (fun hc => kt (by rw [if_pos hc] at hF; exact hF) H locs ls hR hS hl hL) (fun hc => kf (by rw [if_neg hc] at hF; exact hF) H locs ls hR hS hl hL)
theorem J_icmp_ge {X : Cx} {y : MethodName} {cc : ByteArray} {nL : Nat} {ret : Option FieldType} {d mc ms : Nat} {res : Option Value × Hp} {k n pc : Nat} {lv : List (Option Value)} {st : List Value} {h : Hp} (C : Jc X y cc nL ret d mc ms res) {α : Type} {P B : Option α} {r : α} {off : Int} {tgt : Nat} {x z : Int32} (hd : decode cc pc = .ok (.if_icmp .ge off, 3)) (ht : (pc : Int) + off = (tgt : Int)) (hF : (if z ≤ x then P else B) = some r) (kt : P = some r → J X mc ms k n tgt lv st h) (kf : B = some r → J X mc ms k n (pc + 3) lv st h) : J X mc ms k n pc lv (.int z :: .int x :: st) h := by
  obtain ⟨p, l, e, R, s, m, args, below, meth, c, D, rs⟩ := X
  exact fun H locs ls hR hS hl hL => lv_icmp_ge C.1 C.2.1 hd ht (fun hc => kt (by rw [if_pos hc] at hF; exact hF) H locs ls hR hS hl hL) (fun hc => kf (by rw [if_neg hc] at hF; exact hF) H locs ls hR hS hl hL)
theorem J_if_ge {X : Cx} {y : MethodName} {cc : ByteArray} {nL : Nat} {ret : Option FieldType} {d mc ms : Nat} {res : Option Value × Hp} {k n pc : Nat} {lv : List (Option Value)} {st : List Value} {h : Hp} (C : Jc X y cc nL ret d mc ms res) {α : Type} {P B : Option α} {r : α} {off : Int} {tgt : Nat} {x : Int32} (hd : decode cc pc = .ok (.ifCond .ge off, 3)) (ht : (pc : Int) + off = (tgt : Int)) (hF : (if 0 ≤ x then P else B) = some r) (kt : P = some r → J X mc ms k n tgt lv st h) (kf : B = some r → J X mc ms k n (pc + 3) lv st h) : J X mc ms k n pc lv (.int x :: st) h := by
  obtain ⟨p, l, e, R, s, m, args, below, meth, c, D, rs⟩ := X
  exact fun H locs ls hR hS hl hL => lv_if_ge C.1 C.2.1 hd ht (fun hc => kt (by rw [if_pos hc] at hF; exact hF) H locs ls hR hS hl hL) (fun hc => kf (by rw [if_neg hc] at hF; exact hF) H locs ls hR hS hl hL)
theorem J_icmp_gt {X : Cx} {y : MethodName} {cc : ByteArray} {nL : Nat} {ret : Option FieldType} {d mc ms : Nat} {res : Option Value × Hp} {k n pc : Nat} {lv : List (Option Value)} {st : List Value} {h : Hp} (C : Jc X y cc nL ret d mc ms res) {α : Type} {P B : Option α} {r : α} {off : Int} {tgt : Nat} {x z : Int32} (hd : decode cc pc = .ok (.if_icmp .gt off, 3)) (ht : (pc : Int) + off = (tgt : Int)) (hF : (if z < x then P else B) = some r) (kt : P = some r → J X mc ms k n tgt lv st h) (kf : B = some r → J X mc ms k n (pc + 3) lv st h) : J X mc ms k n pc lv (.int z :: .int x :: st) h := by
  obtain ⟨p, l, e, R, s, m, args, below, meth, c, D, rs⟩ := X
  exact fun H locs ls hR hS hl hL => lv_icmp_gt C.1 C.2.1 hd ht (fun hc => kt (by rw [if_pos hc] at hF; exact hF) H locs ls hR hS hl hL) (fun hc => kf (by rw [if_neg hc] at hF; exact hF) H locs ls hR hS hl hL)
theorem J_if_gt {X : Cx} {y : MethodName} {cc : ByteArray} {nL : Nat} {ret : Option FieldType} {d mc ms : Nat} {res : Option Value × Hp} {k n pc : Nat} {lv : List (Option Value)} {st : List Value} {h : Hp} (C : Jc X y cc nL ret d mc ms res) {α : Type} {P B : Option α} {r : α} {off : Int} {tgt : Nat} {x : Int32} (hd : decode cc pc = .ok (.ifCond .gt off, 3)) (ht : (pc : Int) + off = (tgt : Int)) (hF : (if 0 < x then P else B) = some r) (kt : P = some r → J X mc ms k n tgt lv st h) (kf : B = some r → J X mc ms k n (pc + 3) lv st h) : J X mc ms k n pc lv (.int x :: st) h := by
  obtain ⟨p, l, e, R, s, m, args, below, meth, c, D, rs⟩ := X
  exact fun H locs ls hR hS hl hL => lv_if_gt C.1 C.2.1 hd ht (fun hc => kt (by rw [if_pos hc] at hF; exact hF) H locs ls hR hS hl hL) (fun hc => kf (by rw [if_neg hc] at hF; exact hF) H locs ls hR hS hl hL)
theorem J_icmp_le {X : Cx} {y : MethodName} {cc : ByteArray} {nL : Nat} {ret : Option FieldType} {d mc ms : Nat} {res : Option Value × Hp} {k n pc : Nat} {lv : List (Option Value)} {st : List Value} {h : Hp} (C : Jc X y cc nL ret d mc ms res) {α : Type} {P B : Option α} {r : α} {off : Int} {tgt : Nat} {x z : Int32} (hd : decode cc pc = .ok (.if_icmp .le off, 3)) (ht : (pc : Int) + off = (tgt : Int)) (hF : (if x ≤ z then P else B) = some r) (kt : P = some r → J X mc ms k n tgt lv st h) (kf : B = some r → J X mc ms k n (pc + 3) lv st h) : J X mc ms k n pc lv (.int z :: .int x :: st) h := by
  obtain ⟨p, l, e, R, s, m, args, below, meth, c, D, rs⟩ := X
  exact fun H locs ls hR hS hl hL => lv_icmp_le C.1 C.2.1 hd ht (fun hc => kt (by rw [if_pos hc] at hF; exact hF) H locs ls hR hS hl hL) (fun hc => kf (by rw [if_neg hc] at hF; exact hF) H locs ls hR hS hl hL)
theorem J_if_le {X : Cx} {y : MethodName} {cc : ByteArray} {nL : Nat} {ret : Option FieldType} {d mc ms : Nat} {res : Option Value × Hp} {k n pc : Nat} {lv : List (Option Value)} {st : List Value} {h : Hp} (C : Jc X y cc nL ret d mc ms res) {α : Type} {P B : Option α} {r : α} {off : Int} {tgt : Nat} {x : Int32} (hd : decode cc pc = .ok (.ifCond .le off, 3)) (ht : (pc : Int) + off = (tgt : Int)) (hF : (if x ≤ 0 then P else B) = some r) (kt : P = some r → J X mc ms k n tgt lv st h) (kf : B = some r → J X mc ms k n (pc + 3) lv st h) : J X mc ms k n pc lv (.int x :: st) h := by
  obtain ⟨p, l, e, R, s, m, args, below, meth, c, D, rs⟩ := X
  exact fun H locs ls hR hS hl hL => lv_if_le C.1 C.2.1 hd ht (fun hc => kt (by rw [if_pos hc] at hF; exact hF) H locs ls hR hS hl hL) (fun hc => kf (by rw [if_neg hc] at hF; exact hF) H locs ls hR hS hl hL)
theorem J_tsIn {X : Cx} {y : MethodName} {cc : ByteArray} {nL : Nat} {ret : Option FieldType} {d mc ms : Nat} {res : Option Value × Hp} {k n pc : Nat} {lv : List (Option Value)} {st : List Value} {h : Hp} (C : Jc X y cc nL ret d mc ms res) {x : Int32} {dflt lo hi off : Int} {offs : Array Int} {len tgt : Nat} (c0 : Int32) (hx : x = c0) (hd : decode cc pc = .ok (.tableswitch dflt lo hi offs, len)) (h1 : ¬ c0.toInt < lo) (h2 : ¬ hi < c0.toInt) (ho : offs[(c0.toInt - lo).toNat]? = some off) (ht : (pc : Int) + off = (tgt : Int)) (kk : J X mc ms k n tgt lv st h) : J X mc ms k n pc lv (.int x :: st) h := by
  subst hx
  obtain ⟨p, l, e, R, s, m, args, below, meth, c, D, rs⟩ := X
  exact fun H locs ls hR hS hl hL => lv_tableIn C.1 C.2.1 hd h1 h2 ho ht (kk H locs ls hR hS hl hL)
theorem J_tsOut {X : Cx} {y : MethodName} {cc : ByteArray} {nL : Nat} {ret : Option FieldType} {d mc ms : Nat} {res : Option Value × Hp} {k n pc : Nat} {lv : List (Option Value)} {st : List Value} {h : Hp} (C : Jc X y cc nL ret d mc ms res) {x : Int32} {dflt lo hi : Int} {offs : Array Int} {len tgt : Nat} (hd : decode cc pc = .ok (.tableswitch dflt lo hi offs, len)) (hx : x.toInt < lo ∨ hi < x.toInt) (ht : (pc : Int) + dflt = (tgt : Int)) (kk : J X mc ms k n tgt lv st h) : J X mc ms k n pc lv (.int x :: st) h := by
  obtain ⟨p, l, e, R, s, m, args, below, meth, c, D, rs⟩ := X
  exact fun H locs ls hR hS hl hL => lv_tableOut C.1 C.2.1 hd hx ht (kk H locs ls hR hS hl hL)
theorem J_ls {X : Cx} {y : MethodName} {cc : ByteArray} {nL : Nat} {ret : Option FieldType} {d mc ms : Nat} {res : Option Value × Hp} {k n pc : Nat} {lv : List (Option Value)} {st : List Value} {h : Hp} (C : Jc X y cc nL ret d mc ms res) {x : Int32} {dflt off : Int} {ps : Array (Int × Int)} {len tgt : Nat} (hd : decode cc pc = .ok (.lookupswitch dflt ps, len)) (hp : (ps.toList.zip (ps.toList.drop 1)).all (fun (a, next) => a.1 < next.1) = true) (ho : Op.lookupswitch.offset ps.toList dflt x.toInt = off) (ht : (pc : Int) + off = (tgt : Int)) (kk : J X mc ms k n tgt lv st h) : J X mc ms k n pc lv (.int x :: st) h := by
  obtain ⟨p, l, e, R, s, m, args, below, meth, c, D, rs⟩ := X
  exact fun H locs ls hR hS hl hL => lv_lookup C.1 C.2.1 hd hp ho ht (kk H locs ls hR hS hl hL)
theorem J_lsC {X : Cx} {y : MethodName} {cc : ByteArray} {nL : Nat} {ret : Option FieldType} {d mc ms : Nat} {res : Option Value × Hp} {k n pc : Nat} {lv : List (Option Value)} {st : List Value} {h : Hp} (C : Jc X y cc nL ret d mc ms res) {x : Int32} {dflt off : Int} {ps : Array (Int × Int)} {len tgt : Nat} (c0 : Int32) (hx : x = c0) (hd : decode cc pc = .ok (.lookupswitch dflt ps, len)) (hp : (ps.toList.zip (ps.toList.drop 1)).all (fun (a, next) => a.1 < next.1) = true) (ho : Op.lookupswitch.offset ps.toList dflt c0.toInt = off) (ht : (pc : Int) + off = (tgt : Int)) (kk : J X mc ms k n tgt lv st h) : J X mc ms k n pc lv (.int x :: st) h := by
  subst hx
  exact J_ls C hd hp ho ht kk
theorem J_idiv {X : Cx} {y : MethodName} {cc : ByteArray} {nL : Nat} {ret : Option FieldType} {d mc ms : Nat} {res : Option Value × Hp} {k n pc : Nat} {lv : List (Option Value)} {st : List Value} {h : Hp} (C : Jc X y cc nL ret d mc ms res) {α : Type} {K : Int32 → Option α} {r : α} {x z : Int32} (hd : decode cc pc = .ok (.idiv, 1)) (hF : (dvz x z).bind K = some r) (kk : ∀ v, K v = some r → J X mc ms k n (pc + 1) lv (.int v :: st) h) : J X mc ms k n pc lv (.int z :: .int x :: st) h := by
  obtain ⟨v, hv, hF⟩ := bind_some hF
  have hz : ¬ z = 0 := fun hz => by rw [dvz, if_pos hz] at hv; cases hv
  have kk := kk v hF
  rw [dvz, if_neg hz] at hv
  obtain rfl := Option.some.inj hv
  obtain ⟨p, l, e, R, s, m, args, below, meth, c, D, rs⟩ := X
  exact fun H locs ls hR hS hl hL => lv_idiv C.1 C.2.1 hd hz (kk H locs ls hR hS hl hL)
theorem J_irem {X : Cx} {y : MethodName} {cc : ByteArray} {nL : Nat} {ret : Option FieldType} {d mc ms : Nat} {res : Option Value × Hp} {k n pc : Nat} {lv : List (Option Value)} {st : List Value} {h : Hp} (C : Jc X y cc nL ret d mc ms res) {α : Type} {K : Int32 → Option α} {r : α} {x z : Int32} (hd : decode cc pc = .ok (.irem, 1)) (hF : (rmz x z).bind K = some r) (kk : ∀ v, K v = some r → J X mc ms k n (pc + 1) lv (.int v :: st) h) : J X mc ms k n pc lv (.int z :: .int x :: st) h := by
  obtain ⟨v, hv, hF⟩ := bind_some hF
  have hz : ¬ z = 0 := fun hz => by rw [rmz, if_pos hz] at hv; cases hv
  have kk := kk v hF
  rw [rmz, if_neg hz] at hv
  obtain rfl := Option.some.inj hv
  obtain ⟨p, l, e, R, s, m, args, below, meth, c, D, rs⟩ := X
  exact fun H locs ls hR hS hl hL => lv_irem C.1 C.2.1 hd hz (kk H locs ls hR hS hl hL)

/-! fields and arrays -/
def Fg (own : String) (ix ci j : Nat) : Prop := ∃ r : vw_C, cls[ci]? = some r ∧ j < r.2.2 ∧ Cond.fieldLink own ix (r.2.1 j).1 (r.2.1 j).2.1 (r.2.1 j).2.2.1 ∈ FT ∧ ∀ w ∈ u_ws r.1 r.2.1 r.2.2, w ∈ FT
theorem Rl.cell {D : Dc} {h : Hp} {H : Heap} (hR : Rl D h H) {a : Nat} {e : Ce} (he : h.1 a = some e) : va_P D.1 cls [(a, ceE D.2.1 e)] H := by
  intro k q hq
  have hk : k < 1 := (List.getElem?_eq_some_iff.mp hq).1
  rw [show k = 0 by omega] at hq
  cases hq
  exact (hR.2 a e he).2
theorem J_getV {X : Cx} {y : MethodName} {cc : ByteArray} {nL : Nat} {ret : Option FieldType} {d mc ms : Nat} {res : Option Value × Hp} {k n pc : Nat} {lv : List (Option Value)} {st : List Value} {h : Hp} (C : Jc X y cc nL ret d mc ms res) {v : Value} {ix ci j a : Nat} (hd : decode cc pc = .ok (.getfield ix, 3)) (hg : Fg y.cls ix ci j) (hv : getV h ci a j = some v) (kk : J X mc ms k n (pc + 3) lv (v :: st) h) : J X mc ms k n pc lv (.ref a :: st) h := by
  obtain ⟨⟨C0, T0, N0⟩, hc, hj, hlink, hin⟩ := hg
  obtain ⟨fs, he, hfs⟩ := getV_some hv
  obtain ⟨p, l, e, R, s, m, args, below, meth, c, D, rs⟩ := X
  exact fun H locs ls hR hS hl hL => va_get C.1 C.2.1 C.2.2.2.2.1 hin C.2.2.2.1 C.2.2.2.2.2.1.1 (hR.cell he) 0 (fs := fs) (ci := ci) rfl hc j hj (C.2.2.2.2.1 _ hlink) (fun _ h9 => h9) hfs hd (kk H locs ls hR hS hl hL)
theorem J_getI {X : Cx} {y : MethodName} {cc : ByteArray} {nL : Nat} {ret : Option FieldType} {d mc ms : Nat} {res : Option Value × Hp} {k n pc : Nat} {lv : List (Option Value)} {st : List Value} {h : Hp} (C : Jc X y cc nL ret d mc ms res) {α : Type} {K : Int32 → Option α} {r : α} {ix ci j a : Nat} (hd : decode cc pc = .ok (.getfield ix, 3)) (hg : Fg y.cls ix ci j) (hF : (getI h ci a j).bind K = some r) (kk : ∀ v, K v = some r → J X mc ms k n (pc + 3) lv (.int v :: st) h) : J X mc ms k n pc lv (.ref a :: st) h := by
  obtain ⟨v, hv, hF⟩ := bind_some hF
  exact J_getV C hd hg (getI_some hv) (kk v hF)
theorem J_getR {X : Cx} {y : MethodName} {cc : ByteArray} {nL : Nat} {ret : Option FieldType} {d mc ms : Nat} {res : Option Value × Hp} {k n pc : Nat} {lv : List (Option Value)} {st : List Value} {h : Hp} (C : Jc X y cc nL ret d mc ms res) {α : Type} {K : Nat → Option α} {r : α} {ix ci j a : Nat} (hd : decode cc pc = .ok (.getfield ix, 3)) (hg : Fg y.cls ix ci j) (hF : (getR h ci a j).bind K = some r) (kk : ∀ v, K v = some r → J X mc ms k n (pc + 3) lv (.ref v :: st) h) : J X mc ms k n pc lv (.ref a :: st) h := by
  obtain ⟨v, hv, hF⟩ := bind_some hF
  exact J_getV C hd hg (getR_some hv) (kk v hF)
theorem J_iald {X : Cx} {y : MethodName} {cc : ByteArray} {nL : Nat} {ret : Option FieldType} {d mc ms : Nat} {res : Option Value × Hp} {k n pc : Nat} {lv : List (Option Value)} {st : List Value} {h : Hp} (C : Jc X y cc nL ret d mc ms res) {α : Type} {K : Int32 → Option α} {r : α} {a : Nat} {i : Int32} (hd : decode cc pc = .ok (.iaload, 1)) (hF : (rdI h a i).bind K = some r) (kk : ∀ v, K v = some r → J X mc ms k n (pc + 1) lv (.int v :: st) h) : J X mc ms k n pc lv (.int i :: .ref a :: st) h := by
  obtain ⟨v, hv, hF⟩ := bind_some hF
  have kk := kk v hF
  obtain ⟨N, f, he, hin, rfl⟩ := rdI_some hv
  obtain ⟨p, l, e, R, s, m, args, below, meth, c, D, rs⟩ := X
  exact fun H locs ls hR hS hl hL => va_iald C.1 C.2.1 C.2.2.2.2.2.1.1 (hR.cell he) 0 0 rfl rfl hin hd (kk H locs ls hR hS hl hL)
theorem J_alen {X : Cx} {y : MethodName} {cc : ByteArray} {nL : Nat} {ret : Option FieldType} {d mc ms : Nat} {res : Option Value × Hp} {k n pc : Nat} {lv : List (Option Value)} {st : List Value} {h : Hp} (C : Jc X y cc nL ret d mc ms res) {α : Type} {K : Int32 → Option α} {r : α} {a : Nat} (hd : decode cc pc = .ok (.arraylength, 1)) (hF : (lenA h a).bind K = some r) (kk : ∀ v, K v = some r → J X mc ms k n (pc + 1) lv (.int v :: st) h) : J X mc ms k n pc lv (.ref a :: st) h := by
  obtain ⟨v, hv, hF⟩ := bind_some hF
  have kk := kk v hF
  obtain ⟨N, f, he, rfl⟩ := lenA_some hv
  obtain ⟨p, l, e, R, s, m, args, below, meth, c, D, rs⟩ := X
  exact fun H locs ls hR hS hl hL => va_alen C.1 C.2.1 C.2.2.2.2.2.1.1 (hR.cell he) 0 0 rfl rfl rfl hd (kk H locs ls hR hS hl hL)
theorem J_aald {X : Cx} {y : MethodName} {cc : ByteArray} {nL : Nat} {ret : Option FieldType} {d mc ms : Nat} {res : Option Value × Hp} {k n pc : Nat} {lv : List (Option Value)} {st : List Value} {h : Hp} (C : Jc X y cc nL ret d mc ms res) {α : Type} {K : Nat → Option α} {r : α} {a : Nat} {i : Int32} (hd : decode cc pc = .ok (.aaload, 1)) (hF : (rdR h a i).bind K = some r) (kk : ∀ v, K v = some r → J X mc ms k n (pc + 1) lv (.ref v :: st) h) : J X mc ms k n pc lv (.int i :: .ref a :: st) h := by
  obtain ⟨v, hv, hF⟩ := bind_some hF
  have kk := kk v hF
  obtain ⟨kd, N, f, he, hin, hf⟩ := rdR_some hv
  have hlt : i.toNatClampNeg < N := Nat.not_le.mp fun q => hin (Or.inr q)
  obtain ⟨p, l, e, R, s, m, args, below, meth, c, D, rs⟩ := X
  intro H locs ls hR hS hl hL
  have kk := kk H locs ls hR hS hl hL
  have hK := C.2.2.2.2.2.1.1
  have hP := hR.cell he
  have go : ∀ ty : FieldType, ty.isReference = true → ArrOfT s (D.2.1 (if kd = 0 then 1 else 2)) ty → W p l e R s m args below meth c H locs k n (MQ below (Qm D rs) args s mc ms (frA D)) (F0 m pc ls (.int i :: .ref a :: st)) := fun ty hty hA =>
    W.aald (v := .ref v) (ty := ty) C.1 C.2.1 (hP 0 _ rfl) (hA N (fun j => va_rf (f j))) hty (fun q => by cases q) (by show ¬ (i < 0 ∨ (arrV _ _ _).slots.size ≤ _); rw [arrV_size]; exact hin) (by show (arrV _ _ _).slots[_]? = _; rw [arrV_read _ _ hlt, hf]; rfl) rfl rfl hd kk
  by_cases hk : kd = 0
  · exact go (.array .int) rfl (by rw [if_pos hk]; exact (hK.2 1 _ rfl).1)
  · exact go (.object RX7) rfl (by rw [if_neg hk]; exact (hK.2 2 _ rfl).1)
/-- a store into the cell a: what the small heap says afterwards -/
theorem Rl.set {D : Dc} {h : Hp} {H H1 : Heap} (hR : Rl D h H) {a : Nat} {e e' : Ce} (he : h.1 a = some e) (h1 : va_at D.1 cls (a, ceE D.2.1 e') H1) (z : H1.size = H.size) (o : ∀ q, q ≠ a → H1[q]? = H[q]?) : Rl D (setC h a e') H1 := by
  refine ⟨hR.1.trans z.symm, fun b eb hb => ?_⟩
  unfold setC at hb
  dsimp only at hb
  by_cases hq : b = a
  · subst hq
    rw [if_pos rfl] at hb
    obtain rfl := Option.some.inj hb
    exact ⟨(hR.2 b e he).1, h1⟩
  · rw [if_neg hq] at hb
    exact ⟨(hR.2 b eb hb).1, (hR.2 b eb hb).2.kept (o b hq)⟩
theorem J_iast {X : Cx} {y : MethodName} {cc : ByteArray} {nL : Nat} {ret : Option FieldType} {d mc ms : Nat} {res : Option Value × Hp} {k n pc : Nat} {lv : List (Option Value)} {st : List Value} {h : Hp} (C : Jc X y cc nL ret d mc ms res) {α : Type} {K : Hp → Option α} {r : α} {a : Nat} {i v : Int32} (hd : decode cc pc = .ok (.iastore, 1)) (hF : (wrI h a i v).bind K = some r) (kk : ∀ h', K h' = some r → J X mc ms k n (pc + 1) lv st h') : J X mc ms k n pc lv (.int v :: .int i :: .ref a :: st) h := by
  obtain ⟨h', hv, hF⟩ := bind_some hF
  have kk := kk h' hF
  obtain ⟨N, f, he, hin, rfl⟩ := wrI_some hv
  obtain ⟨p, l, e, R, s, m, args, below, meth, c, D, rs⟩ := X
  intro H locs ls hR hS hl hL
  refine W.iast C.1 C.2.1 ((hR.cell he) 0 _ rfl) ((C.2.2.2.2.2.1.1.2 0 _ rfl).1 N (fun j => .int (f j))) (fun q => by cases q) (by show ¬ (i < 0 ∨ (arrV _ _ _).slots.size ≤ _); rw [arrV_size]; exact hin) rfl rfl hd fun H1 e1 z oq => ?_
  refine kk H1 _ ls (hR.set he ?_ z oq) (hS.put z oq (hR.2 a _ he).1) hl hL
  show H1[a]? = some (vp_cell _ _)
  rw [e1]
  rw [vp_cell_i, vp_cell_i, arrV_store]
  congr 2
  funext q
  by_cases hq : q = i.toNatClampNeg
  · subst hq
    simp [updV, upd]
  · simp [updV, upd, hq]
/-- a field that may be written: not final, or in a constructor of its own class -/
def Fp (own : String) (nm : String) (ix ci j : Nat) (ty : FieldType) : Prop := Fg own ix ci j ∧ ∃ (r : vw_C) (ty0 : Nat → FieldType), cls[ci]? = some r ∧ (∀ k, k < r.2.2 → parseFieldDescriptor (r.2.1 k).2.2.1 = some (ty0 k)) ∧ (∀ a, a < r.2.2 → ∀ b, b < r.2.2 → a ≠ b → (r.2.1 a).2.1 ≠ (r.2.1 b).2.1) ∧ ty0 j = ty ∧ ((r.2.1 j).2.2.2 = false ∨ ((r.2.1 j).2.2.2 = true ∧ nm = "<init>" ∧ (r.2.1 j).1 = own))
theorem J_putV {X : Cx} {y : MethodName} {cc : ByteArray} {nL : Nat} {ret : Option FieldType} {d mc ms : Nat} {res : Option Value × Hp} {k n pc : Nat} {lv : List (Option Value)} {st : List Value} {h : Hp} (C : Jc X y cc nL ret d mc ms res) {ty : FieldType} {v : Value} {ix ci j a : Nat} {h' : Hp} (hd : decode cc pc = .ok (.putfield ix, 3)) (hg : Fp y.cls y.name ix ci j ty) (hv : putV h ci a j v = some h') (hn : narrow ty v = v) (hfit : fits ty v = true) (kk : J X mc ms k n (pc + 3) lv st h') : J X mc ms k n pc lv (v :: .ref a :: st) h := by
  obtain ⟨⟨⟨C0, T0, N0⟩, hc, hj, hlink, hin⟩, ⟨r, ty0, hcr, hty, hnm, htj, hfin⟩⟩ := hg
  have hr : r = (C0, T0, N0) := Option.some.inj (hcr.symm.trans hc)
  subst hr
  obtain ⟨fs, he, hlen, rfl⟩ := putV_some hv
  obtain ⟨p, l, e, R, s, m, args, below, meth, c, D, rs⟩ := X
  intro H locs ls hR hS hl hL
  have hts := C.2.2.2.2.1
  have hown := C.2.2.2.1
  have hK := C.2.2.2.2.2.1.1
  have hap := va_apart (own := y.cls) hts hin ty0 hty hnm hK hc
  obtain ⟨r, h1, cell, q1, q2, q3, q4⟩ := hR.cell he 0 _ rfl
  have hr : r = (C0, T0, N0) := Option.some.inj (h1.symm.trans hc)
  subst hr
  obtain ⟨hSl, hfc, kC, hkC, hkind⟩ := hK.1 ci _ hc
  obtain ⟨cf, kf, fi, f, hi, hsl⟩ := hSl j hj
  have hlay := hts _ (hin _ (u_in_lay hj))
  have hst := (u_facts hfc hkC (u_lays hts hin hj) hi).1
  have fin : ∀ (H' : Heap), H'[a]? = some (cell.setSlot f.slot v) → H'.size = H.size → (∀ q, q ≠ a → H'[q]? = H[q]?) → W p l e R s m args below meth c H' (locs ++ [⟨a, f.slot⟩]) k n (MQ below (Qm D rs) args s mc ms (frA D)) (F0 m (pc + 3) ls st) := by
    intro H' e1 e2 e3
    rw [hsl] at e1 ⊢
    exact kk H' _ ls (hR.set he ⟨_, hc, t_OB.to (V := updV (vp_V fs) j v) ⟨_, e1, q2, q3, t_set q4 hap hj v⟩ (fun i _ => vp_updV_set hlen v i)⟩ e2 e3) (hS.put e2 e3 (hR.2 a _ he).1) hl hL
  rcases hfin with hfin | ⟨hfin, hin2, hdecl⟩
  · unfold u_lay at hlay
    rw [if_neg (by rw [hfin]; decide)] at hlay
    have h6 := u_store hfc hkC hkind hlay hi (htj ▸ hty j hj) hn hfit
    exact W.putK C.1 C.2.1 (f := f) ⟨hown, hts _ hlink, ⟨_, _, _, hi⟩, hst⟩ (by rw [q2]; exact h6) q1 q3 (by rw [hsl]; exact k2_hasslot (q4 j hj)) rfl rfl hd fin
  · unfold u_lay at hlay
    rw [if_pos hfin] at hlay
    have hcf : m.cls = cf := by
      obtain ⟨_, _, c', _, _, _, -, -, hf', -, -, -, hown2, -⟩ := Cond.laysFinal_spec hlay
      have e1 : c' = cf := by have := hi.symm.trans hf'; simp at this; exact this.1.symm
      rw [hdecl] at hown2
      rw [← e1]; exact Option.some.inj (hown.symm.trans hown2)
    have h6 := u_fits hfc hkC hkind (Or.inr hlay) hi (htj ▸ hty j hj) hn hfit
    exact W.putFinK C.1 C.2.1 hown (hts _ hlink) hi hst hcf (C.2.2.2.2.2.2.2.2.1.trans hin2) (by rw [q2]; exact h6) q1 q3 (by rw [hsl]; exact k2_hasslot (q4 j hj)) rfl rfl hd fin
theorem J_put {X : Cx} {y : MethodName} {cc : ByteArray} {nL : Nat} {ret : Option FieldType} {d mc ms : Nat} {res : Option Value × Hp} {k n pc : Nat} {lv : List (Option Value)} {st : List Value} {h : Hp} (C : Jc X y cc nL ret d mc ms res) {α : Type} {K : Hp → Option α} {r : α} {ty : FieldType} {v : Value} {ix ci j a : Nat} (hd : decode cc pc = .ok (.putfield ix, 3)) (hg : Fp y.cls y.name ix ci j ty) (hF : (putV h ci a j v).bind K = some r) (hn : narrow ty v = v) (hfit : fits ty v = true) (kk : ∀ h', K h' = some r → J X mc ms k n (pc + 3) lv st h') : J X mc ms k n pc lv (v :: .ref a :: st) h := by
  obtain ⟨h', hv, hF⟩ := bind_some hF
  exact J_putV C hd hg hv hn hfit (kk h' hF)
theorem bz_some {v w : Int32} (h : bz v = some w) : w = v ∧ narrow .boolean (.int v) = .int v ∧ fits .boolean (.int v) = true := by
  unfold bz at h
  split at h
  next hc =>
    refine ⟨(Option.some.inj h).symm, ?_⟩
    rcases hc with rfl | rfl <;> exact ⟨rfl, rfl⟩
  next => cases h
theorem J_putB {X : Cx} {y : MethodName} {cc : ByteArray} {nL : Nat} {ret : Option FieldType} {d mc ms : Nat} {res : Option Value × Hp} {k n pc : Nat} {lv : List (Option Value)} {st : List Value} {h : Hp} (C : Jc X y cc nL ret d mc ms res) {α : Type} {K : Hp → Option α} {r : α} {v : Int32} {ix ci j a : Nat} (hd : decode cc pc = .ok (.putfield ix, 3)) (hg : Fp y.cls y.name ix ci j .boolean) (hF : (bz v).bind (fun v => (putV h ci a j (.int v)).bind K) = some r) (kk : ∀ h', K h' = some r → J X mc ms k n (pc + 3) lv st h') : J X mc ms k n pc lv (.int v :: .ref a :: st) h := by
  obtain ⟨w, hw, hF2⟩ := bind_some hF
  obtain ⟨rfl, h1, h2⟩ := bz_some hw
  obtain ⟨h', hv, hF3⟩ := bind_some hF2
  exact J_putV C hd hg hv h1 h2 (kk h' hF3)
/-! the statics: tables of numbers -/
def tAx (X : Cx) : Nat := X.2.2.2.2.2.2.2.2.2.2.1.2.2.2.1
def tBx (X : Cx) : Nat := X.2.2.2.2.2.2.2.2.2.2.1.2.2.2.2
theorem J_getsA {X : Cx} {y : MethodName} {cc : ByteArray} {nL : Nat} {ret : Option FieldType} {d mc ms : Nat} {res : Option Value × Hp} {k n pc : Nat} {lv : List (Option Value)} {st : List Value} {h : Hp} (C : Jc X y cc nL ret d mc ms res) {ix : Nat} (hd : decode cc pc = .ok (.getstatic ix, 3)) (hl : Cond.fieldLink y.cls ix "FourthFace" "ABOVE" "[I" ∈ FT) (kk : J X mc ms k n (pc + 3) lv (.ref (tAx X) :: st) h) : J X mc ms k n pc lv st h := by
  obtain ⟨p, l, e, R, s, m, args, below, meth, c, D, rs⟩ := X
  exact fun H locs ls hR hS hl' hL => va_gets C.1 C.2.1 C.2.2.2.2.2.1.2.2.1.1 hS C.2.2.2.1 (C.2.2.2.2.1 _ hl) (fun _ h9 => h9) hd (kk H locs ls hR hS hl' hL)
theorem J_getsB {X : Cx} {y : MethodName} {cc : ByteArray} {nL : Nat} {ret : Option FieldType} {d mc ms : Nat} {res : Option Value × Hp} {k n pc : Nat} {lv : List (Option Value)} {st : List Value} {h : Hp} (C : Jc X y cc nL ret d mc ms res) {ix : Nat} (hd : decode cc pc = .ok (.getstatic ix, 3)) (hl : Cond.fieldLink y.cls ix "FourthFace$Voices" "BODIES" "[I" ∈ FT) (kk : J X mc ms k n (pc + 3) lv (.ref (tBx X) :: st) h) : J X mc ms k n pc lv st h := by
  obtain ⟨p, l, e, R, s, m, args, below, meth, c, D, rs⟩ := X
  exact fun H locs ls hR hS hl' hL => va_gets C.1 C.2.1 C.2.2.2.2.2.1.2.2.2.1.1 hS C.2.2.2.1 (C.2.2.2.2.1 _ hl) (fun _ h9 => h9) hd (kk H locs ls hR hS hl' hL)
theorem J_getsAN {X : Cx} {y : MethodName} {cc : ByteArray} {nL : Nat} {ret : Option FieldType} {d mc ms : Nat} {res : Option Value × Hp} {k n pc : Nat} {lv : List (Option Value)} {st : List Value} {h : Hp} (C : Jc X y cc nL ret d mc ms res) (hd : decode cc pc = .ok (.getstatic 44, 3)) (hy : y.cls = "FourthFace$Voices") (kk : J X mc ms k n (pc + 3) lv (.ref (tAx X) :: st) h) : J X mc ms k n pc lv st h := by
  obtain ⟨p, l, e, R, s, m, args, below, meth, c, D, rs⟩ := X
  exact fun H locs ls hR hS hl' hL => va_getsN C.1 C.2.1 C.2.2.2.2.2.1.2.2.1.1 hS (own := "FourthFace$Voices") (by rw [← hy]; exact C.2.2.2.1) (va_Nw.use rfl C.2.2.2.2.2.1.2.2.2.2.2.1) (fun _ h9 => h9) hd (kk H locs ls hR hS hl' hL)
theorem rdT_some {N : Nat} {f : Nat → Int32} {i v : Int32} (hv : rdT N f i = some v) : vp_in i N ∧ v = f i.toNatClampNeg := by
  unfold rdT at hv
  split at hv
  next => cases hv
  next hc => exact ⟨hc, (Option.some.inj hv).symm⟩
theorem J_tiA {X : Cx} {y : MethodName} {cc : ByteArray} {nL : Nat} {ret : Option FieldType} {d mc ms : Nat} {res : Option Value × Hp} {k n pc : Nat} {lv : List (Option Value)} {st : List Value} {h : Hp} (C : Jc X y cc nL ret d mc ms res) {α : Type} {K : Int32 → Option α} {r : α} {i : Int32} (hd : decode cc pc = .ok (.iaload, 1)) (hF : (rdT 7 tabA i).bind K = some r) (kk : ∀ v, K v = some r → J X mc ms k n (pc + 1) lv (.int v :: st) h) : J X mc ms k n pc lv (.int i :: .ref (tAx X) :: st) h := by
  obtain ⟨v, hv, hF⟩ := bind_some hF
  obtain ⟨hin, hv⟩ := rdT_some hv
  have kk := kk v hF
  subst hv
  obtain ⟨p, l, e, R, s, m, args, below, meth, c, D, rs⟩ := X
  exact fun H locs ls hR hS hl hL => va_ti C.1 C.2.1 C.2.2.2.2.2.1.2.2.1.2 hS hin rfl hd (kk H locs ls hR hS hl hL)
theorem J_tiB {X : Cx} {y : MethodName} {cc : ByteArray} {nL : Nat} {ret : Option FieldType} {d mc ms : Nat} {res : Option Value × Hp} {k n pc : Nat} {lv : List (Option Value)} {st : List Value} {h : Hp} (C : Jc X y cc nL ret d mc ms res) {α : Type} {K : Int32 → Option α} {r : α} {i : Int32} (hd : decode cc pc = .ok (.iaload, 1)) (hF : (rdT 28 tabB i).bind K = some r) (kk : ∀ v, K v = some r → J X mc ms k n (pc + 1) lv (.int v :: st) h) : J X mc ms k n pc lv (.int i :: .ref (tBx X) :: st) h := by
  obtain ⟨v, hv, hF⟩ := bind_some hF
  obtain ⟨hin, hv⟩ := rdT_some hv
  have kk := kk v hF
  subst hv
  obtain ⟨p, l, e, R, s, m, args, below, meth, c, D, rs⟩ := X
  exact fun H locs ls hR hS hl hL => va_ti C.1 C.2.1 C.2.2.2.2.2.1.2.2.2.1.2 hS hin rfl hd (kk H locs ls hR hS hl hL)
/-! ends -/
theorem J_iret {X : Cx} {y : MethodName} {cc : ByteArray} {nL : Nat} {d mc ms : Nat} {k n pc : Nat} {lv : List (Option Value)} {h : Hp} {v : Int32} {z : Int32 × Hp} (C : Jc X y cc nL (some .int) d mc ms (some (.int z.1), z.2)) (hd : decode cc pc = .ok (.ireturn, 1)) (hF : some (v, h) = some z) (hk : k ≤ mc) (hn : n ≤ ms) : J X mc ms k n pc lv [.int v] h := by
  cases hF
  obtain ⟨p, l, e, R, s, m, args, below, meth, c, D, rs⟩ := X
  intro H locs ls hR hS hl hL
  obtain ⟨hx, hb, hml, ho, hts, hKk, hrt, hlk2, hnm, hRm, rfl⟩ := C
  refine W.widen (k := mc) (n := ms) hk hn ?_
  exact W.iret hx hb hrt (v := v) (fun t ht hW => ⟨⟨rfl, by rw [ht]; exact hR⟩, hS.F ht⟩) hS.2.2 hd hlk2
theorem J_iretP {X : Cx} {y : MethodName} {cc : ByteArray} {nL : Nat} {d mc ms : Nat} {k n pc : Nat} {lv : List (Option Value)} {h : Hp} {v : Int32} {z : Int32} (C : Jc X y cc nL (some .int) d mc ms (some (.int z), h)) (hd : decode cc pc = .ok (.ireturn, 1)) (hF : some v = some z) (hk : k ≤ mc) (hn : n ≤ ms) : J X mc ms k n pc lv [.int v] h := by
  cases hF
  obtain ⟨p, l, e, R, s, m, args, below, meth, c, D, rs⟩ := X
  intro H locs ls hR hS hl hL
  obtain ⟨hx, hb, hml, ho, hts, hKk, hrt, hlk2, hnm, hRm, rfl⟩ := C
  refine W.widen (k := mc) (n := ms) hk hn ?_
  exact W.iret hx hb hrt (v := v) (fun t ht hW => ⟨⟨rfl, by rw [ht]; exact hR⟩, hS.F ht⟩) hS.2.2 hd hlk2
theorem J_zret {X : Cx} {y : MethodName} {cc : ByteArray} {nL : Nat} {d mc ms : Nat} {k n pc : Nat} {lv : List (Option Value)} {h : Hp} {v : Int32} {z : Int32 × Hp} (C : Jc X y cc nL (some .boolean) d mc ms (some (.int z.1), z.2)) (hd : decode cc pc = .ok (.ireturn, 1)) (hnr : narrow .boolean (.int v) = .int v) (hF : some (v, h) = some z) (hk : k ≤ mc) (hn : n ≤ ms) : J X mc ms k n pc lv [.int v] h := by
  cases hF
  obtain ⟨p, l, e, R, s, m, args, below, meth, c, D, rs⟩ := X
  intro H locs ls hR hS hl hL
  obtain ⟨hx, hb, hml, ho, hts, hKk, hrt, hlk2, hnm, hRm, rfl⟩ := C
  refine W.widen (k := mc) (n := ms) hk hn ?_
  exact W.zret hx hb hrt hnr (v := v) (fun t ht hW => ⟨⟨rfl, by rw [ht]; exact hR⟩, hS.F ht⟩) hS.2.2 hd hlk2
theorem J_zretP {X : Cx} {y : MethodName} {cc : ByteArray} {nL : Nat} {d mc ms : Nat} {k n pc : Nat} {lv : List (Option Value)} {h : Hp} {v : Int32} {z : Int32} (C : Jc X y cc nL (some .boolean) d mc ms (some (.int z), h)) (hd : decode cc pc = .ok (.ireturn, 1)) (hnr : narrow .boolean (.int v) = .int v) (hF : some v = some z) (hk : k ≤ mc) (hn : n ≤ ms) : J X mc ms k n pc lv [.int v] h := by
  cases hF
  obtain ⟨p, l, e, R, s, m, args, below, meth, c, D, rs⟩ := X
  intro H locs ls hR hS hl hL
  obtain ⟨hx, hb, hml, ho, hts, hKk, hrt, hlk2, hnm, hRm, rfl⟩ := C
  refine W.widen (k := mc) (n := ms) hk hn ?_
  exact W.zret hx hb hrt hnr (v := v) (fun t ht hW => ⟨⟨rfl, by rw [ht]; exact hR⟩, hS.F ht⟩) hS.2.2 hd hlk2
theorem J_aret {X : Cx} {y : MethodName} {cc : ByteArray} {nL : Nat} {d mc ms : Nat} {k n pc : Nat} {lv : List (Option Value)} {h : Hp} {rt : FieldType} {v : Nat} {z : Nat × Hp} (C : Jc X y cc nL (some rt) d mc ms (some (.ref z.1), z.2)) (hd : decode cc pc = .ok (.areturn, 1)) (hrt0 : (∃ n, rt = .object n) ∨ ∃ t, rt = .array t) (hF : some (v, h) = some z) (hk : k ≤ mc) (hn : n ≤ ms) : J X mc ms k n pc lv [.ref v] h := by
  cases hF
  obtain ⟨p, l, e, R, s, m, args, below, meth, c, D, rs⟩ := X
  intro H locs ls hR hS hl hL
  obtain ⟨hx, hb, hml, ho, hts, hKk, hrt, hlk2, hnm, hRm, rfl⟩ := C
  refine W.widen (k := mc) (n := ms) hk hn ?_
  exact W.aret hx hb hrt hrt0 (Or.inr ⟨v, rfl⟩) (fun t ht hW => ⟨⟨rfl, by rw [ht]; exact hR⟩, hS.F ht⟩) hS.2.2 hd hlk2
theorem J_aretP {X : Cx} {y : MethodName} {cc : ByteArray} {nL : Nat} {d mc ms : Nat} {k n pc : Nat} {lv : List (Option Value)} {h : Hp} {rt : FieldType} {v : Nat} {z : Nat} (C : Jc X y cc nL (some rt) d mc ms (some (.ref z), h)) (hd : decode cc pc = .ok (.areturn, 1)) (hrt0 : (∃ n, rt = .object n) ∨ ∃ t, rt = .array t) (hF : some v = some z) (hk : k ≤ mc) (hn : n ≤ ms) : J X mc ms k n pc lv [.ref v] h := by
  cases hF
  obtain ⟨p, l, e, R, s, m, args, below, meth, c, D, rs⟩ := X
  intro H locs ls hR hS hl hL
  obtain ⟨hx, hb, hml, ho, hts, hKk, hrt, hlk2, hnm, hRm, rfl⟩ := C
  refine W.widen (k := mc) (n := ms) hk hn ?_
  exact W.aret hx hb hrt hrt0 (Or.inr ⟨v, rfl⟩) (fun t ht hW => ⟨⟨rfl, by rw [ht]; exact hR⟩, hS.F ht⟩) hS.2.2 hd hlk2
theorem J_vret {X : Cx} {y : MethodName} {cc : ByteArray} {nL : Nat} {d mc ms : Nat} {k n pc : Nat} {lv : List (Option Value)} {h : Hp} {z : Hp} (C : Jc X y cc nL none d mc ms (none, z)) (hd : decode cc pc = .ok (.return_, 1)) (hF : some h = some z) (hk : k ≤ mc) (hn : n ≤ ms) : J X mc ms k n pc lv [] h := by
  cases hF
  obtain ⟨p, l, e, R, s, m, args, below, meth, c, D, rs⟩ := X
  intro H locs ls hR hS hl hL
  obtain ⟨hx, hb, hml, ho, hts, hKk, hrt, hlk2, hnm, hRm, rfl⟩ := C
  refine W.widen (k := mc) (n := ms) hk hn ?_
  exact W.vret hx hb hrt (fun t ht hW => ⟨⟨rfl, by rw [ht]; exact hR⟩, hS.F ht⟩) hS.2.2 hd hlk2
theorem J_vretP {X : Cx} {y : MethodName} {cc : ByteArray} {nL : Nat} {d mc ms : Nat} {k n pc : Nat} {lv : List (Option Value)} {h : Hp} {z : Unit} (C : Jc X y cc nL none d mc ms (none, h)) (hd : decode cc pc = .ok (.return_, 1)) (hF : some () = some z) (hk : k ≤ mc) (hn : n ≤ ms) : J X mc ms k n pc lv [] h := by
  obtain ⟨p, l, e, R, s, m, args, below, meth, c, D, rs⟩ := X
  intro H locs ls hR hS hl hL
  obtain ⟨hx, hb, hml, ho, hts, hKk, hrt, hlk2, hnm, hRm, rfl⟩ := C
  refine W.widen (k := mc) (n := ms) hk hn ?_
  exact W.vret hx hb hrt (fun t ht hW => ⟨⟨rfl, by rw [ht]; exact hR⟩, hS.F ht⟩) hS.2.2 hd hlk2
/-! calls -/
theorem Kk.same {D : Dc} {s U : State} (hvm : s.vm = U.vm) (hh : s.heap = U.heap) (h : Kk D s) : Kk D U := by
  obtain ⟨h1, h2, ⟨h3, h4⟩, ⟨h5, h6⟩, h7, h8, h9, h10, h11⟩ := h
  have ha : s.vm.Alike U.vm := by rw [hvm]; exact Vm.Alike.refl _
  refine ⟨h1.moved ha, by rw [← hh]; exact h2, ⟨by rw [← hh]; exact h3.moved ha, by rw [← hh]; exact h4.moved ha⟩, ⟨by rw [← hh]; exact h5.moved ha, by rw [← hh]; exact h6.moved ha⟩, fun q hq => (h7 q hq).same rfl hvm, h8.same rfl hvm, h9.moved ha, aoI_moved ha h10, h11.same rfl hvm⟩
theorem FB {D : Dc} {av : List Value} {h : Hp} : FrameBlind (va_Pc av (fun U => Rl D h U.heap ∧ Kk D U)) := fun a U g mk q => ⟨q.1, q.2.1, q.2.2.same (U := U.calling g mk a) rfl rfl⟩
def Yw (y : MethodName) (cc : ByteArray) (nL : Nat) (ret : Option FieldType) (np : Nat) : Prop := Cond.code y cc nL ret ∈ FT ∧ Cond.initialized y.cls ∈ FT ∧ (y.cls ≠ "java/lang/invoke/MethodHandle" ∧ y.cls ≠ "java/lang/invoke/VarHandle") ∧ (parseMethodDescriptor y.desc).map (fun d => d.parameters.length) = some np ∧ nL ≤ 45
theorem Yw.len {y : MethodName} {cc : ByteArray} {nL np : Nat} {ret : Option FieldType} (h : Yw y cc nL ret np) : ∀ sig, parseMethodDescriptor y.desc = some sig → np = sig.parameters.length := fun sig hs => by
  have h2 := h.2.2.2.1
  rw [hs] at h2
  exact (Option.some.inj h2).symm
theorem FT_warm {s : State} {args : Array Value} (hts : ∀ w ∈ FT, w.before args s = true) {y : MethodName} {cc : ByteArray} {nL np : Nat} {ret : Option FieldType} (hy : Yw y cc nL ret np) : ∀ w ∈ (Cond.code y cc nL ret :: FT), ∀ (a' : Array Value) (U : State), s.WarmedH U.vm → w.before a' U = true := by
  intro w hw a' U hW
  have hw : w ∈ FT := by
    rcases List.mem_cons.mp hw with rfl | h
    · exact hy.1
    · exact h
  exact word_at hW (good_of_word (List.mem_filter.mp hw).2) (hts w hw)
/-- what every call comes to: the callee's end, the frame, and on -/
theorem J_run {p : Program} {l : Launch} {e : Env} {R : Room} {s : State} {m : MethodId} {args : Array Value} {below : List Frame} {meth : Method} {c : Code} {D : Dc} {rs rs' : Option Value × Hp} {H : Heap} {locs : List Loc} {ls : Array Slot} {k n mc ms mc' ms' pc : Nat} {lv : List (Option Value)} {st stk : List Value} {a : Array Value} {h : Hp}
    (run : va_Run p l e R s m args below meth c H locs k n mc' ms' (F0 m pc ls stk) st (Qm D rs' a) (frA D)) (hR : Rl D h H) (hS : va_S (frA D) s.heap H locs) (hl : lv_has ls c.maxLocals (ll 0 lv)) (hL : lv.length = c.maxLocals)
    (kk : J (p, l, e, R, s, m, args, below, meth, c, D, rs) mc ms (k + mc') (n + ms') (pc + 3) lv (rs'.1.toList ++ st) rs'.2) : W p l e R s m args below meth c H locs k n (MQ below (Qm D rs) args s mc ms (frA D)) (F0 m pc ls stk) := by
  intro T hT X
  obtain ⟨v, st₀, t, T', L, h0, X', hL', e1, e2, ⟨⟨hv, hr⟩, hz, hk⟩, st9⟩ := run T hT X
  cases hv
  rw [h0] at hz hk
  obtain ⟨t2, a1, b1⟩ := kk T'.heap (locs ++ L) ls (by rw [e1]; exact hr) ⟨Nat.le_trans hS.1 (by rw [e1]; exact hz), fun q h1 h2 => by rw [e1, hk q (Nat.lt_of_lt_of_le h1 hS.1) h2]; exact hS.2.1 q h1 h2, fun q hq => by
      rcases List.mem_append.mp hq with h | h
      · exact hS.2.2 q h
      · exact hL' q h⟩ hl hL T' rfl X'
  exact ⟨t2, st9 t2 a1, b1⟩
theorem J_callV {X : Cx} {y : MethodName} {cc : ByteArray} {nL : Nat} {ret : Option FieldType} {d mc ms : Nat} {res : Option Value × Hp} {k n pc : Nat} {lv : List (Option Value)} {st : List Value} {h : Hp} (C : Jc X y cc nL ret d mc ms res) {y' : MethodName} {cc' : ByteArray} {nL' np d' mc' ms' ix ci b : Nat} {ret' : Option FieldType} {As stk : List Value} {rs' : Option Value × Hp} (hd : decode cc pc = .ok (.invokevirtual ix, 3)) (hy : Yw y' cc' nL' ret' np) (hlk : Cond.methodLink y.cls ix y' ∈ FT) (hin : Cond.instanceMethod y' ∈ FT) (hsel : Cond.selects y'.cls y' y' ∈ FT) (hc : ∃ r, cls[ci]? = some r ∧ r.1 = y'.cls)
    (hM : Mc y' cc' nL' ret' d' mc' ms' (.ref b :: As) h rs') (hrecv : ∃ fs, h.1 b = some (.inl (ci, fs))) (hnp : As.length = np) (hdd : d' + 1 ≤ d) (hk : k + mc' ≤ mc) (hn : n + ms' ≤ ms) (hst : stk = As.reverse ++ .ref b :: st) (hcat : (st.map fun v => v.category).sum ≤ 8)
    (kk : J X mc ms (k + mc') (n + ms') (pc + 3) lv (rs'.1.toList ++ st) rs'.2) : J X mc ms k n pc lv stk h := by
  obtain ⟨p, l, e, R, s, m, args, below, meth, c, D, rs⟩ := X
  obtain ⟨fs, he⟩ := hrecv
  obtain ⟨r, hr, hrn⟩ := hc
  intro H locs ls hR hS hl hL
  obtain ⟨hx, hb, hml, ho, hts, hKk, hrt, hlk2, hnm, hRm, -⟩ := C
  obtain ⟨hRf, hRl, hRc, hRs⟩ := hRm
  refine J_run (va_runV (Ts := FT) (cc := cc) ⟨hx, hb, hml, ho, hts⟩ (hM l D) (C := y'.cls) (bytes := cc') (maxL := nL') (ret := ret') ⟨⟨rfl, rfl, Nat.le_trans hdd hRf, by have := hy.2.2.2.2; show 8 + (nL' + 11) + 64 * d' ≤ R.locals; omega, FT_warm hts hy, List.mem_cons_self, hts _ hy.1, hts _ hy.2.1, hy.2.2.1, hy.len, hts _ hlk⟩, hts _ hin, hts _ hsel⟩
    ⟨FB, by rw [← hrn]; exact va_recv (q0 := 0) (ci := ci) (fs := fs) hKk.1 (hR.cell he) hr rfl, fun U hU hW => ⟨rfl, by rw [hU]; exact hR, hKk.moved hW hU hS⟩⟩ rfl hnp (hl.1.trans hml) hst (by show 2 * 0 + _ ≤ 8; omega) hd ⟨Nat.le_trans hk hRc, Nat.le_trans hn hRs⟩) hR hS hl hL kk
theorem J_callS {X : Cx} {y : MethodName} {cc : ByteArray} {nL : Nat} {ret : Option FieldType} {d mc ms : Nat} {res : Option Value × Hp} {k n pc : Nat} {lv : List (Option Value)} {st : List Value} {h : Hp} (C : Jc X y cc nL ret d mc ms res) {y' : MethodName} {cc' : ByteArray} {nL' np d' mc' ms' ix : Nat} {ret' : Option FieldType} {As stk : List Value} {rs' : Option Value × Hp} (hd : decode cc pc = .ok (.invokestatic ix, 3)) (hy : Yw y' cc' nL' ret' np) (hlk : Cond.methodLink y.cls ix y' ∈ FT) (hin : Cond.static y' ∈ FT)
    (hM : Mc y' cc' nL' ret' d' mc' ms' As h rs') (hnp : As.length = np) (hdd : d' + 1 ≤ d) (hk : k + mc' ≤ mc) (hn : n + ms' ≤ ms) (hst : stk = As.reverse ++ st) (hcat : (st.map fun v => v.category).sum ≤ 8)
    (kk : J X mc ms (k + mc') (n + ms') (pc + 3) lv (rs'.1.toList ++ st) rs'.2) : J X mc ms k n pc lv stk h := by
  obtain ⟨p, l, e, R, s, m, args, below, meth, c, D, rs⟩ := X
  intro H locs ls hR hS hl hL
  obtain ⟨hx, hb, hml, ho, hts, hKk, hrt, hlk2, hnm, hRm, -⟩ := C
  obtain ⟨hRf, hRl, hRc, hRs⟩ := hRm
  refine J_run (va_runS (Ts := FT) (cc := cc) ⟨hx, hb, hml, ho, hts⟩ (hM l D) (bytes := cc') (maxL := nL') (ret := ret') ⟨⟨rfl, rfl, Nat.le_trans hdd hRf, by have := hy.2.2.2.2; show 8 + (nL' + 11) + 64 * d' ≤ R.locals; omega, FT_warm hts hy, List.mem_cons_self, hts _ hy.1, hts _ hy.2.1, hy.2.2.1, hy.len, hts _ hlk⟩, hts _ hin⟩
    ⟨FB, fun U hU hW => ⟨rfl, by rw [hU]; exact hR, hKk.moved hW hU hS⟩⟩ rfl hnp (hl.1.trans hml) hst (by show 2 * 0 + _ ≤ 8; omega) hd ⟨Nat.le_trans hk hRc, Nat.le_trans hn hRs⟩) hR hS hl hL kk
theorem J_callSN {X : Cx} {y : MethodName} {cc : ByteArray} {nL : Nat} {ret : Option FieldType} {d mc ms : Nat} {res : Option Value × Hp} {k n pc : Nat} {lv : List (Option Value)} {st : List Value} {h : Hp} (C : Jc X y cc nL ret d mc ms res) {y' : MethodName} {cc' : ByteArray} {nL' np d' mc' ms' ix : Nat} {ret' : Option FieldType} {As stk : List Value} {rs' : Option Value × Hp} (hd : decode cc pc = .ok (.invokestatic ix, 3)) (hy : Yw y' cc' nL' ret' np) (hlk : (y.cls, ix, y') ∈ nestM) (hin : Cond.static y' ∈ FT)
    (hM : Mc y' cc' nL' ret' d' mc' ms' As h rs') (hnp : As.length = np) (hdd : d' + 1 ≤ d) (hk : k + mc' ≤ mc) (hn : n + ms' ≤ ms) (hst : stk = As.reverse ++ st) (hcat : (st.map fun v => v.category).sum ≤ 8)
    (kk : J X mc ms (k + mc') (n + ms') (pc + 3) lv (rs'.1.toList ++ st) rs'.2) : J X mc ms k n pc lv stk h := by
  obtain ⟨p, l, e, R, s, m, args, below, meth, c, D, rs⟩ := X
  intro H locs ls hR hS hl hL
  obtain ⟨hx, hb, hml, ho, hts, hKk, hrt, hlk2, hnm, hRm, -⟩ := C
  obtain ⟨hRf, hRl, hRc, hRs⟩ := hRm
  refine J_run (va_runSN (Ts := FT) (cc := cc) (host := "FourthFace") ⟨hx, hb, hml, ho, hts⟩ (hM l D) (bytes := cc') (maxL := nL') (ret := ret') ⟨⟨⟨rfl, rfl, Nat.le_trans hdd hRf, by have := hy.2.2.2.2; show 8 + (nL' + 11) + 64 * d' ≤ R.locals; omega, FT_warm hts hy, List.mem_cons_self⟩, hts _ hy.1, hts _ hy.2.1, hy.2.2.1, hy.len, va_Nw.use rfl (hKk.2.2.2.2.1 _ hlk)⟩, hts _ hin, trivial⟩
    ⟨FB, fun U hU hW => ⟨rfl, by rw [hU]; exact hR, hKk.moved hW hU hS⟩⟩ rfl hnp (hl.1.trans hml) hst (by show 2 * 0 + _ ≤ 8; omega) hd ⟨Nat.le_trans hk hRc, Nat.le_trans hn hRs⟩) hR hS hl hL kk
theorem J_callI {X : Cx} {y : MethodName} {cc : ByteArray} {nL : Nat} {ret : Option FieldType} {d mc ms : Nat} {res : Option Value × Hp} {k n pc : Nat} {lv : List (Option Value)} {st : List Value} {h : Hp} (C : Jc X y cc nL ret d mc ms res) {y' : MethodName} {cc' : ByteArray} {nL' np d' mc' ms' ix b : Nat} {As stk : List Value} {rs' : Option Value × Hp} (hd : decode cc pc = .ok (.invokespecial ix, 3)) (hy : Yw y' cc' nL' none np) (hlk : Cond.methodLink y.cls ix y' ∈ FT) (hnmi : y'.name = "<init>") (hin : Cond.instanceMethod y' ∈ FT)
    (hM : Mc y' cc' nL' none d' mc' ms' (.ref b :: As) h rs') (hnp : As.length = np) (hdd : d' + 1 ≤ d) (hk : k + mc' ≤ mc) (hn : n + ms' ≤ ms) (hst : stk = As.reverse ++ .ref b :: st) (hcat : (st.map fun v => v.category).sum ≤ 8)
    (kk : J X mc ms (k + mc') (n + ms') (pc + 3) lv (rs'.1.toList ++ st) rs'.2) : J X mc ms k n pc lv stk h := by
  obtain ⟨p, l, e, R, s, m, args, below, meth, c, D, rs⟩ := X
  intro H locs ls hR hS hl hL
  obtain ⟨hx, hb, hml, ho, hts, hKk, hrt, hlk2, hnm, hRm, -⟩ := C
  obtain ⟨hRf, hRl, hRc, hRs⟩ := hRm
  refine J_run (va_runI (Ts := FT) (cc := cc) ⟨hx, hb, hml, ho, hts⟩ (hM l D) (bytes := cc') (maxL := nL') ⟨⟨rfl, rfl, Nat.le_trans hdd hRf, by have := hy.2.2.2.2; show 8 + (nL' + 11) + 64 * d' ≤ R.locals; omega, FT_warm hts hy, List.mem_cons_self, hts _ hy.1, hts _ hy.2.1, hy.2.2.1, hy.len, hts _ hlk⟩, hnmi, hts _ hin⟩
    ⟨FB, fun U hU hW => ⟨rfl, by rw [hU]; exact hR, hKk.moved hW hU hS⟩⟩ rfl hnp (hl.1.trans hml) hst (by show 2 * 0 + _ ≤ 8; omega) hd ⟨Nat.le_trans hk hRc, Nat.le_trans hn hRs⟩) hR hS hl hL kk
theorem J_callIN {X : Cx} {y : MethodName} {cc : ByteArray} {nL : Nat} {ret : Option FieldType} {d mc ms : Nat} {res : Option Value × Hp} {k n pc : Nat} {lv : List (Option Value)} {st : List Value} {h : Hp} (C : Jc X y cc nL ret d mc ms res) {y' : MethodName} {cc' : ByteArray} {nL' np d' mc' ms' ix b : Nat} {As stk : List Value} {rs' : Option Value × Hp} (hd : decode cc pc = .ok (.invokespecial ix, 3)) (hy : Yw y' cc' nL' none np) (hlk : (y.cls, ix, y') ∈ nestM) (hnmi : y'.name = "<init>") (hin : Cond.instanceMethod y' ∈ FT)
    (hM : Mc y' cc' nL' none d' mc' ms' (.ref b :: As) h rs') (hnp : As.length = np) (hdd : d' + 1 ≤ d) (hk : k + mc' ≤ mc) (hn : n + ms' ≤ ms) (hst : stk = As.reverse ++ .ref b :: st) (hcat : (st.map fun v => v.category).sum ≤ 8)
    (kk : J X mc ms (k + mc') (n + ms') (pc + 3) lv (rs'.1.toList ++ st) rs'.2) : J X mc ms k n pc lv stk h := by
  obtain ⟨p, l, e, R, s, m, args, below, meth, c, D, rs⟩ := X
  intro H locs ls hR hS hl hL
  obtain ⟨hx, hb, hml, ho, hts, hKk, hrt, hlk2, hnm, hRm, -⟩ := C
  obtain ⟨hRf, hRl, hRc, hRs⟩ := hRm
  refine J_run (va_runIN (Ts := FT) (cc := cc) (host := "FourthFace") ⟨hx, hb, hml, ho, hts⟩ (hM l D) (bytes := cc') (maxL := nL') ⟨⟨⟨rfl, rfl, Nat.le_trans hdd hRf, by have := hy.2.2.2.2; show 8 + (nL' + 11) + 64 * d' ≤ R.locals; omega, FT_warm hts hy, List.mem_cons_self⟩, hts _ hy.1, hts _ hy.2.1, hy.2.2.1, hy.len, va_Nw.use rfl (hKk.2.2.2.2.1 _ hlk)⟩, hnmi, hts _ hin⟩
    ⟨FB, fun U hU hW => ⟨rfl, by rw [hU]; exact hR, hKk.moved hW hU hS⟩⟩ rfl hnp (hl.1.trans hml) hst (by show 2 * 0 + _ ≤ 8; omega) hd ⟨Nat.le_trans hk hRc, Nat.le_trans hn hRs⟩) hR hS hl hL kk
theorem oi_inst : Cond.instanceMethod objectInit ∈ FT := FT_of 93 (by decide +kernel) (by decide +kernel)
theorem oi_code : Cond.code objectInit ⟨#[0xb1]⟩ 1 none ∈ FT := FT_of 94 (by decide +kernel) (by decide +kernel)
theorem J_objInit {X : Cx} {y : MethodName} {cc : ByteArray} {nL : Nat} {ret : Option FieldType} {d mc ms : Nat} {res : Option Value × Hp} {k n pc : Nat} {lv : List (Option Value)} {st : List Value} {h : Hp} (C : Jc X y cc nL ret d mc ms res) {ix a : Nat} (hd : decode cc pc = .ok (.invokespecial ix, 3)) (hlk : Cond.methodLink y.cls ix objectInit ∈ FT) (hdd : 1 ≤ d) (hcat : (st.map fun v => v.category).sum ≤ 8) (kk : J X mc ms k n (pc + 3) lv st h) : J X mc ms k n pc lv (.ref a :: st) h := by
  obtain ⟨p, l, e, R, s, m, args, below, meth, c, D, rs⟩ := X
  intro H locs ls hR hS hl hL
  obtain ⟨hx, hb, hml, ho, hts, hKk, hrt, hlk2, hnm, hRm, -⟩ := C
  obtain ⟨hRf, hRl, hRc, hRs⟩ := hRm
  exact W.objInit hx hb ho (hts _ hlk) (hts _ oi_inst) (hts _ oi_code) rfl hl.1 rfl hd (Nat.le_trans hdd hRf) (by show 2 * 0 + _ + 12 ≤ R.locals; omega) (kk H locs ls hR hS hl hL)
/-- a method's contract, out of its walk -/
theorem Mc_of {y : MethodName} {cc : ByteArray} {nL : Nat} {ret : Option FieldType} {d mc ms : Nat} {av : List Value} {h : Hp} {res : Option Value × Hp} (lv : List (Option Value)) (hy : plainName y.cls = true) (hll : lv_args 0 av = ll 0 lv) (hlen : lv.length = nL) (hsl : (lg_sl av).length ≤ nL) (hJ : ∀ X, Jc X y cc nL ret d mc ms res → J X mc ms 0 0 0 lv [] h) : Mc y cc nL ret d mc ms av h res := by
  intro l D
  refine Met.ofW (cc := cc) (maxL := nL) (ret := ret) hy rfl ?_
  intro p e s m args below meth c s₁ B hml hv
  obtain ⟨rfl, hR, hK⟩ := hv
  have hts := atoms_spec (ws := .code y cc nL ret :: FT) B.pre
  have hl := lv_entry av (n := nL) hsl
  rw [lg_entry_eq]
  generalize (lg_sl av ++ List.replicate (nL - (lg_sl av).length) Slot.unset).toArray = ls at hl ⊢
  rw [hll] at hl
  exact hJ (p, l, e, _, s, m, _, below, meth, c, D, res) ⟨B.exec, B.bytes, hml, findClass_of_methodNamed B.named, fun w hw => hts w (List.mem_cons_of_mem _ hw), hK, B.returns, B.notSynchronized, (name_of_methodNamed B.named B.method).1, ⟨Nat.le_refl _, Nat.le_refl _, Nat.le_refl _, Nat.le_refl _⟩, rfl⟩ s.heap [] ls hR va_S.rf (by rw [hml]; exact hl) (by rw [hml]; exact hlen)
theorem Mc.widen {y : MethodName} {cc : ByteArray} {nL : Nat} {ret : Option FieldType} {d mc ms : Nat} {av : List Value} {h : Hp} {res res' : Option Value × Hp} (hM : Mc y cc nL ret d mc ms av h res) (hr : res = res') : Mc y cc nL ret d mc ms av h res' := hr ▸ hM

