/-! new int[4][k]: the outer array, four rows. -/
def mkO (c : ClassId) (h0 i : Nat) : Cell := arrV c 4 (fun j => va_rf (if j < i then some (h0 + 1 + j) else none))
def mkI (c : ClassId) (k : Nat) : Cell := arrV c k (fun _ => .int 0)
def mkS (s : State) (c ci : ClassId) (k : Nat) : Nat → State
  | 0 => s.pushCell (mkO c s.heap.size 0)
  | i + 1 => ((mkS s c ci k i).pushCell (mkI ci k)).setCell s.heap.size (mkO c s.heap.size (i + 1))
theorem mkO_set (c : ClassId) (h0 i : Nat) : (mkO c h0 i).setSlot i (.ref (h0 + 1 + i)) = mkO c h0 (i + 1) := by
  unfold mkO
  rw [arrV_store]
  refine congrArg (arrV c 4) (funext fun j => ?_)
  unfold updV
  by_cases e : j = i
  · subst e
    simp [va_rf]
  · rw [if_neg e]
    by_cases h : j < i
    · show va_rf (if j < i then some (h0 + 1 + j) else none) = _
      rw [if_pos h, if_pos (by omega)]
    · show va_rf (if j < i then some (h0 + 1 + j) else none) = _
      rw [if_neg h, if_neg (by omega)]
theorem mkO_size (c : ClassId) (h0 i : Nat) : (mkO c h0 i).slots.size = 4 := arrV_size _ _ _
theorem mkI_size (c : ClassId) (k : Nat) : (mkI c k).slots.size = k := arrV_size _ _ _
theorem mkS_size (s : State) (c ci : ClassId) (k : Nat) : ∀ i, (mkS s c ci k i).heap.size = s.heap.size + 1 + i
  | 0 => by simp [mkS]
  | i + 1 => by
    have h := mkS_size s c ci k i
    simp [mkS, State.setCell, h]
    omega
theorem mkS_vm (s : State) (c ci : ClassId) (k : Nat) : ∀ i, (mkS s c ci k i).vm = s.vm
  | 0 => rfl
  | i + 1 => by
    have h := mkS_vm s c ci k i
    simp [mkS, h]
theorem mkS_out (s : State) (c ci : ClassId) (k : Nat) : ∀ i, (mkS s c ci k i).heap[s.heap.size]? = some (mkO c s.heap.size i)
  | 0 => by simp [mkS]
  | i + 1 => by
    have h := mkS_out s c ci k i
    have hz := mkS_size s c ci k i
    have hlt : s.heap.size < (mkS s c ci k i).heap.size := by omega
    exact State.heap_setCell_self (by rw [State.heap_pushCell_of_lt (h := hlt)]; exact h)
theorem mkS_slots (s : State) (c ci : ClassId) (k : Nat) : ∀ i, (mkS s c ci k i).slotsUsed = s.slotsUsed + 4 + i * k
  | 0 => by simp [mkS, mkO_size]
  | i + 1 => by
    have h := mkS_slots s c ci k i
    simp [mkS, h, mkI_size, Nat.succ_mul]
    omega
theorem mkS_old (s : State) (c ci : ClassId) (k : Nat) {a : Nat} (ha : a < s.heap.size) : ∀ i, (mkS s c ci k i).heap[a]? = s.heap[a]?
  | 0 => State.heap_pushCell_of_lt _ _ ha
  | i + 1 => by
    have hz := mkS_size s c ci k i
    have hlt : a < (mkS s c ci k i).heap.size := by omega
    show (((mkS s c ci k i).pushCell (mkI ci k)).setCell s.heap.size _).heap[a]? = _
    rw [State.heap_setCell_other (Nat.ne_of_gt ha), State.heap_pushCell_of_lt (h := hlt)]
    exact mkS_old s c ci k ha i
theorem mkS_row (s : State) (c ci : ClassId) (k : Nat) : ∀ i j, j < i → (mkS s c ci k i).heap[s.heap.size + 1 + j]? = some (mkI ci k)
  | 0, _, h => absurd h (Nat.not_lt_zero _)
  | i + 1, j, h => by
    have hz := mkS_size s c ci k i
    show (((mkS s c ci k i).pushCell (mkI ci k)).setCell s.heap.size _).heap[s.heap.size + 1 + j]? = _
    rw [State.heap_setCell_other (show s.heap.size ≠ s.heap.size + 1 + j by omega)]
    by_cases hj : j < i
    · have hlt : s.heap.size + 1 + j < (mkS s c ci k i).heap.size := by omega
      rw [State.heap_pushCell_of_lt (h := hlt)]
      exact mkS_row s c ci k i j hj
    · rw [show s.heap.size + 1 + j = (mkS s c ci k i).heap.size by omega]
      exact State.heap_pushCell_size _ _
theorem mkS_top (s : State) (f : JFrame) (c ci : ClassId) (k : Nat) : ∀ i, mkS (s.setTop f) c ci k i = (mkS s c ci k i).setTop f
  | 0 => rfl
  | i + 1 => by simp only [mkS, mkS_top s f c ci k i, State.heap_setTop, State.pushCell_setTop, State.setCell_setTop]
section MK
variable {p : Program} {l : Launch} {e : Env} {R : Room} {s : State} {m : MethodId} {args : Array Value} {below : List Frame} {meth : Method} {c : Code} {T : State} {locs : List Loc} {cells slots : Nat}
theorem mkS_stand (X : Stand p l e R s m args below meth c T locs cells slots) (cA ci : ClassId) (k : Nat) : ∀ i, Stand p l e R s m args below meth c (mkS T cA ci k i) (locs ++ (List.range i).map fun j => ⟨T.heap.size, j⟩) (cells + 1 + i) (slots + 4 + i * k)
  | 0 => by
    have h := X.pushed (mkO cA T.heap.size 0)
    rw [mkO_size] at h
    simpa [mkS] using h
  | i + 1 => by
    have Xi := mkS_stand X cA ci k i
    have hz := mkS_size T cA ci k i
    have ho := mkS_out T cA ci k i
    have hlt : T.heap.size < (mkS T cA ci k i).heap.size := by omega
    have h := (Xi.pushed (mkI ci k)).stored (show ((mkS T cA ci k i).pushCell (mkI ci k)).heap[T.heap.size]? = some (mkO cA T.heap.size i) by rw [State.heap_pushCell_of_lt (h := hlt)]; exact ho) i (.ref (T.heap.size + 1 + i))
    rw [mkO_set, mkI_size] at h
    rw [show (locs ++ (List.range (i + 1)).map fun j => (⟨T.heap.size, j⟩ : Loc)) = (locs ++ (List.range i).map fun j => (⟨T.heap.size, j⟩ : Loc)) ++ [⟨T.heap.size, i⟩] by simp [List.range_succ, List.append_assoc], show slots + 4 + (i + 1) * k = slots + 4 + i * k + k by rw [Nat.succ_mul]; omega]
    exact h
end MK
/-- the classes int[] and int[][], as the tables have them -/
def gAO (cI cA : ClassId) (U : State) : Prop := U.vm.findClass "[I" = some cI ∧ U.vm.findClass "[[I" = some cA ∧ (∃ kA, U.vm.classes[cA]? = some kA ∧ kA.kind = .array cI (.array .int)) ∧ ∃ kC cx, U.vm.classes[cI]? = some kC ∧ kC.kind = .array cx .int
theorem gAO.moved {cI cA : ClassId} {u U : State} (hvm : u.vm.Alike U.vm) (h : gAO cI cA u) : gAO cI cA U := by
  obtain ⟨h1, h2, ⟨kA, h3, h4⟩, kC, cx, h5, h6⟩ := h
  obtain ⟨kA', g3, eA⟩ := hvm.2.2 _ _ h3
  obtain ⟨kC', g5, eC⟩ := hvm.2.2 _ _ h5
  exact ⟨by rw [hvm.findClass]; exact h1, by rw [hvm.findClass]; exact h2, ⟨kA', g3, by rw [eA]; exact h4⟩, kC', cx, g5, by rw [eC]; exact h6⟩
section MX
variable {E : CtlPost} {e : Env} {d : Bool} {acts : List Action} {s : State} {c comp cx : ClassId} {k kc : Class} {m : Int32}
/-- one row: made, and laid into its place -/
theorem mk_step {i : Nat} (hi : i < 4) (hk : s.vm.classes[c]? = some k) (hkind : k.kind = .array comp (.array .int)) (hkc : s.vm.classes[comp]? = some kc) (hkindc : kc.kind = .array cx .int) (hm : ¬ m < 0)
    (hl2 : ¬ m.toNatClampNeg > e.platform.arrayLengthLimit) (hh2 : ¬ m.toNatClampNeg * componentBytes .int > e.platform.maxHeapBytes)
    (hc : s.heap.size + 5 ≤ e.platform.maxCells) (hs : s.slotsUsed + 4 + 4 * m.toNatClampNeg ≤ e.platform.maxSlots)
    {Q : ForInStep PUnit → Pre} (hq : ∀ d' acts', Q (.yield PUnit.unit) d' acts' (mkS s c comp m.toNatClampNeg (i + 1))) : wp (multianewarray.make comp [m]) (fun a => wp (do Jvm.writeLoc s.heap.size i (.ref a); Pure.pure (ForInStep.yield PUnit.unit)) Q E e) E e d acts (mkS s c comp m.toNatClampNeg i) := by
  have z1 := mkS_size s c comp m.toNatClampNeg i
  have z2 := mkS_out s c comp m.toNatClampNeg i
  have z3 := mkS_vm s c comp m.toNatClampNeg i
  have z4 := mkS_slots s c comp m.toNatClampNeg i
  have z5 : (i + 1) * m.toNatClampNeg ≤ 4 * m.toNatClampNeg := Nat.mul_le_mul_right _ hi
  rw [Nat.succ_mul] at z5
  have z6 : s.heap.size < (mkS s c comp m.toNatClampNeg i).heap.size := by omega
  rw [multianewarray.make]
  simp only [wp_bind', Jvm.W.ite, hm, if_false, wp_pure', Jvm.W.theClass, z3, hkc, hkindc, Option.some.injEq, exists_eq_left']
  refine Jvm.W.newArray_of (by rw [z3]; exact hkc) hkindc hl2 hh2 (by omega) (by omega) rfl (fun acts2 => ?_)
  have eI : ({ cls := comp, slots := Array.replicate m.toNatClampNeg (defaultValue .int) } : Cell) = mkI comp m.toNatClampNeg := arrV_new _ _ _
  rw [eI, wp_bind', Jvm.W.writeLoc]
  refine ⟨mkO c s.heap.size i, by rw [State.heap_pushCell_of_lt (h := z6)]; exact z2, (fun h => by cases h), by rw [mkO_size]; exact hi, ?_, ?_⟩
  · show ((mkS s c comp m.toNatClampNeg i).pushCell (mkI comp m.toNatClampNeg)).fitsSlot c .none i _ = true
    simp [State.fitsSlot, State.slotType?, z3, hk, hkind]
    rfl
  · rw [z1, mkO_set]
    exact hq _ _
theorem mk_grid (hk : s.vm.classes[c]? = some k) (hkind : k.kind = .array comp (.array .int)) (hkc : s.vm.classes[comp]? = some kc) (hkindc : kc.kind = .array cx .int) (hm : ¬ m < 0)
    (hl1 : ¬ 4 > e.platform.arrayLengthLimit) (hh1 : ¬ 4 * componentBytes (.array .int) > e.platform.maxHeapBytes)
    (hl2 : ¬ m.toNatClampNeg > e.platform.arrayLengthLimit) (hh2 : ¬ m.toNatClampNeg * componentBytes .int > e.platform.maxHeapBytes)
    (hc : s.heap.size + 5 ≤ e.platform.maxCells) (hs : s.slotsUsed + 4 + 4 * m.toNatClampNeg ≤ e.platform.maxSlots)
    {Q : Addr → Pre} (hq : ∀ d' acts', Q s.heap.size d' acts' (mkS s c comp m.toNatClampNeg 4)) : wp (multianewarray.make c [4, m]) Q E e d acts s := by
  have h4 : ¬ (4 : Int32) < 0 := by decide
  have h4n : (4 : Int32).toNatClampNeg = 4 := by decide
  have h40 : ((4 : Int32) == 0) = false := by decide
  have r4 : List.range' 0 4 1 = [0, 1, 2, 3] := by decide
  rw [multianewarray.make]
  simp only [wp_bind', Jvm.W.ite, h4, if_false, wp_pure', Jvm.W.theClass, hk, hkind, Option.some.injEq, exists_eq_left', h4n, h40]
  refine Jvm.W.newArray_of hk hkind hl1 hh1 (by omega) (by omega) rfl (fun acts2 => ?_)
  have eO : s.pushCell ({ cls := c, slots := Array.replicate 4 .null } : Cell) = mkS s c comp m.toNatClampNeg 0 := by
    show s.pushCell _ = s.pushCell (mkO c s.heap.size 0)
    refine congrArg s.pushCell ((arrV_new c 4 .null).trans ?_)
    unfold mkO
    refine congrArg (arrV c 4) (funext fun j => ?_)
    rw [if_neg (Nat.not_lt_zero j)]
    rfl
  rw [eO]
  simp only [Std.Legacy.Range.forIn_eq_forIn_range', Std.Legacy.Range.size, Nat.sub_zero, Nat.add_sub_cancel, Nat.div_one, r4, List.forIn_cons, List.forIn_nil, Bool.false_eq_true, if_false, wp_bind', wp_pure']
  have go := fun {i : Nat} (hi : i < 4) {d : Bool} {acts : List Action} {Q : ForInStep PUnit → Pre} => mk_step (E := E) (e := e) (d := d) (acts := acts) (Q := Q) hi hk hkind hkc hkindc hm hl2 hh2 hc hs
  refine go (i := 0) (by omega) (fun d1 a1 => ?_)
  simp only [wp_bind', wp_pure']
  refine go (i := 1) (by omega) (fun d2 a2 => ?_)
  simp only [wp_bind', wp_pure']
  refine go (i := 2) (by omega) (fun d3 a3 => ?_)
  simp only [wp_bind', wp_pure']
  refine go (i := 3) (by omega) (fun d4 a4 => ?_)
  exact hq _ _
end MX
section MY
variable {p : Program} {l : Launch} {e : Env} {R : Room} {s : State} {m : MethodId} {args : Array Value} {below : List Frame} {meth : Method} {c : Code} {H : Heap} {locs : List Loc} {cells slots : Nat} {Q : State → Prop}
variable {cc : ByteArray} {pc : Nat} {ls : Array Slot} {rest : List Value} {cI cA : ClassId}
theorem W_mul4 (hexec : p.tables.exec = Jvm.exec) (hb : c.code = cc) {own : String} {index : Nat} (hown : s.vm.findClass own = some m.cls) (hclink : (Cond.classLink own index "[[I").before args s = true) (hG : gAO cI cA s) {k : Int32} {K : Nat} (hk : ¬ k < 0) (hK : k.toNatClampNeg = K) (hb3 : K ≤ 1000)
    (hcells : cells + 5 ≤ R.cells) (hslots : slots + (4 + 4 * K) ≤ R.slots) (hdg : decode cc pc = .ok (.multianewarray index 2, 4))
    (kk : ∀ H1 : Heap, H1.size = H.size + 5 → H1[H.size]? = some (mkO cA H.size 4) → (∀ j, j < 4 → H1[H.size + 1 + j]? = some (mkI cI K)) → (∀ a : Nat, a < H.size → H1[a]? = H[a]?) → W p l e R s m args below meth c H1 (locs ++ (List.range 4).map fun j => ⟨H.size, j⟩) (cells + 5) (slots + (4 + 4 * K)) Q (F0 m (pc + 4) ls (.ref H.size :: rest))) :
    W p l e R s m args below meth c H locs cells slots Q (F0 m pc ls (.int k :: .int 4 :: rest)) := by
  intro T hT X
  subst hT
  subst hb
  subst hK
  obtain ⟨g1, g2, ⟨kA, g3, g4⟩, kC, cx, g5, g6⟩ := hG
  have hpl : e.platform.magicAccessors = ({} : Platform).magicAccessors := by rw [X.admits.platform]
  obtain ⟨c0, hfc0, hcl⟩ := Cond.classLink_spec hown hclink e.platform hpl
  cases g2.symm.trans hfc0
  obtain ⟨hg₁, hwarm₁, hready₁⟩ := State.classEntry (e := e) X.warmed hcl
  generalize T.vm.noted m.cls index (.cls cA) = vm₁ at hg₁ hwarm₁ hready₁
  have hal : s.vm.Alike vm₁ := hwarm₁.alike
  obtain ⟨kA₁, hkA₁, heA⟩ := hal.2.2 _ _ g3
  obtain ⟨kC₁, hkC₁, heC⟩ := hal.2.2 _ _ g5
  have X₁ := X.noted hwarm₁
  obtain ⟨hr1, hr2⟩ := X.roomAbove hcells hslots
  have XF := mkS_stand X₁ cA cI k.toNatClampNeg 4
  have hl1 : ¬ 4 > e.platform.arrayLengthLimit := by rw [Launch.admits_arrayLengthLimit X.admits]; omega
  have hh1 : ¬ 4 * componentBytes (.array .int) > e.platform.maxHeapBytes := by
    rw [Launch.admits_maxHeapBytes X.admits]; show ¬ 4 * 4 > 536870912; omega
  have hl2 : ¬ k.toNatClampNeg > e.platform.arrayLengthLimit := by rw [Launch.admits_arrayLengthLimit X.admits]; omega
  have hh2 : ¬ k.toNatClampNeg * componentBytes .int > e.platform.maxHeapBytes := by
    rw [Launch.admits_maxHeapBytes X.admits]; show ¬ k.toNatClampNeg * 4 > 536870912; omega
  obtain ⟨t, a1, b1⟩ := kk (mkS (T.setVm vm₁) cA cI k.toNatClampNeg 4).heap (mkS_size (T.setVm vm₁) cA cI k.toNatClampNeg 4) (mkS_out (T.setVm vm₁) cA cI k.toNatClampNeg 4) (fun j hj => mkS_row (T.setVm vm₁) cA cI k.toNatClampNeg 4 j hj) (fun a ha => mkS_old (T.setVm vm₁) cA cI k.toNatClampNeg ha 4) _ rfl (by rw [show slots + (4 + 4 * k.toNatClampNeg) = slots + 4 + 4 * k.toNatClampNeg by omega]; exact XF)
  refine ⟨t, ?_, b1⟩
  jvm_step X.here [hexec, hdg]
  simp only [multianewarray.sem, wp_bind', Jvm.W.resolveClassAt_links (State.method?_setTop (F0 m pc ls (.int k :: .int 4 :: rest)) X.here.top) hg₁]
  rw [Jvm.W.popN, if_neg (by decide)]
  refine ⟨F0 m pc ls (.int k :: .int 4 :: rest), State.topJava?_setTop' (s := T.setVm vm₁) _ X.here.top, [.int 4, .int k], rest, rfl, rfl, ?_⟩
  simp only [List.mapM_cons, List.mapM_nil, wp_bind', wp_pure']
  refine mk_grid (k := kA₁) (kc := kC₁) (comp := cI) (cx := cx) hkA₁ (by rw [heA]; exact g4) hkC₁ (by rw [heC]; exact g6) hk hl1 hh1 hl2 hh2 (by show T.heap.size + 5 ≤ _; omega) (by show T.slotsUsed + _ + _ ≤ _; omega) (fun d' acts' => ?_)
  have eS : ((T.setTop (F0 m pc ls (.int k :: .int 4 :: rest))).setVm vm₁).setTop (F0 m pc ls rest) = (T.setVm vm₁).setTop (F0 m pc ls rest) := by
    show ((T.setVm vm₁).setTop _).setTop _ = _
    rw [State.setTop_setTop]
  show wp _ _ _ _ _ _ (mkS (((T.setTop (F0 m pc ls (.int k :: .int 4 :: rest))).setVm vm₁).setTop (F0 m pc ls rest)) cA cI k.toNatClampNeg 4)
  rw [eS, mkS_top]
  simp only [wp_bind', Jvm.W.mark, Jvm.W.pushRef, State.topJava?_setTop' _ XF.here.top, Option.some.injEq, exists_eq_left', State.setTop_setTop, State.heap_setTop]
  intro acts
  simp [jvm, XF.here.top]
  exact a1
end MY
