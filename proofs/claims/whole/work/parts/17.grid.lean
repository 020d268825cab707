/-! new int[4][k]: the outer array, four rows. -/
def mkO (c : ClassId) (h0 i : Nat) : Cell := arrV c 4 (fun j => va_rf (if j < i then some (h0 + 1 + j) else none))
def mkI (c : ClassId) (k : Nat) : Cell := arrV c k (fun _ => .int 0)
def mkS (s : State) (c ci : ClassId) (k : Nat) : Nat → State
  | 0 => s.pushCell (mkO c s.heap.size 0)
  | i + 1 => ((mkS s c ci k i).pushCell (mkI ci k)).setCell s.heap.size (mkO c s.heap.size (i + 1))
theorem mkO_set (c : ClassId) (h0 i : Nat) : (mkO c h0 i).setSlot i (.ref (h0 + 1 + i)) = mkO c h0 (i + 1) := by
  unfold mkO
  rw [arrV_store]
  refine congrArg (arrV c 4) (funext fun j => ?_)
  unfold updV
  by_cases e : j = i
  · subst e
    simp [va_rf]
  · rw [if_neg e]
    by_cases h : j < i
    · show va_rf (if j < i then some (h0 + 1 + j) else none) = _
      rw [if_pos h, if_pos (by omega)]
    · show va_rf (if j < i then some (h0 + 1 + j) else none) = _
      rw [if_neg h, if_neg (by omega)]
theorem mkO_size (c : ClassId) (h0 i : Nat) : (mkO c h0 i).slots.size = 4 := arrV_size _ _ _
theorem mkI_size (c : ClassId) (k : Nat) : (mkI c k).slots.size = k := arrV_size _ _ _
theorem mkS_size (s : State) (c ci : ClassId) (k : Nat) : ∀ i, (mkS s c ci k i).heap.size = s.heap.size + 1 + i
  | 0 => by simp [mkS]
  | i + 1 => by
    have h := mkS_size s c ci k i
    simp [mkS, State.setCell, h]
    omega
theorem mkS_vm (s : State) (c ci : ClassId) (k : Nat) : ∀ i, (mkS s c ci k i).vm = s.vm
  | 0 => rfl
  | i + 1 => by
    have h := mkS_vm s c ci k i
    simp [mkS, h]
theorem mkS_out (s : State) (c ci : ClassId) (k : Nat) : ∀ i, (mkS s c ci k i).heap[s.heap.size]? = some (mkO c s.heap.size i)
  | 0 => by simp [mkS]
  | i + 1 => by
    have h := mkS_out s c ci k i
    have hz := mkS_size s c ci k i
    have hlt : s.heap.size < (mkS s c ci k i).heap.size := by omega
    exact State.heap_setCell_self (by rw [State.heap_pushCell_of_lt (h := hlt)]; exact h)
theorem mkS_slots (s : State) (c ci : ClassId) (k : Nat) : ∀ i, (mkS s c ci k i).slotsUsed = s.slotsUsed + 4 + i * k
  | 0 => by simp [mkS, mkO_size]
  | i + 1 => by
    have h := mkS_slots s c ci k i
    simp [mkS, h, mkI_size, Nat.succ_mul]
    omega
theorem mkS_old (s : State) (c ci : ClassId) (k : Nat) {a : Nat} (ha : a < s.heap.size) : ∀ i, (mkS s c ci k i).heap[a]? = s.heap[a]?
  | 0 => State.heap_pushCell_of_lt _ _ ha
  | i + 1 => by
    have hz := mkS_size s c ci k i
    have hlt : a < (mkS s c ci k i).heap.size := by omega
    show (((mkS s c ci k i).pushCell (mkI ci k)).setCell s.heap.size _).heap[a]? = _
    rw [State.heap_setCell_other (Nat.ne_of_gt ha), State.heap_pushCell_of_lt (h := hlt)]
    exact mkS_old s c ci k ha i
theorem mkS_row (s : State) (c ci : ClassId) (k : Nat) : ∀ i j, j < i → (mkS s c ci k i).heap[s.heap.size + 1 + j]? = some (mkI ci k)
  | 0, _, h => absurd h (Nat.not_lt_zero _)
  | i + 1, j, h => by
    have hz := mkS_size s c ci k i
    show (((mkS s c ci k i).pushCell (mkI ci k)).setCell s.heap.size _).heap[s.heap.size + 1 + j]? = _
    rw [State.heap_setCell_other (show s.heap.size ≠ s.heap.size + 1 + j by omega)]
    by_cases hj : j < i
    · have hlt : s.heap.size + 1 + j < (mkS s c ci k i).heap.size := by omega
      rw [State.heap_pushCell_of_lt (h := hlt)]
      exact mkS_row s c ci k i j hj
    · rw [show s.heap.size + 1 + j = (mkS s c ci k i).heap.size by omega]
      exact State.heap_pushCell_size _ _
theorem mkS_top (s : State) (f : JFrame) (c ci : ClassId) (k : Nat) : ∀ i, mkS (s.setTop f) c ci k i = (mkS s c ci k i).setTop f
  | 0 => rfl
  | i + 1 => by simp only [mkS, mkS_top s f c ci k i, State.heap_setTop, State.pushCell_setTop, State.setCell_setTop]
section MK
variable {p : Program} {l : Launch} {e : Env} {R : Room} {s : State} {m : MethodId} {args : Array Value} {below : List Frame} {meth : Method} {c : Code} {T : State} {locs : List Loc} {cells slots : Nat}
theorem mkS_stand (X : Stand p l e R s m args below meth c T locs cells slots) (cA ci : ClassId) (k : Nat) : ∀ i, Stand p l e R s m args below meth c (mkS T cA ci k i) (locs ++ (List.range i).map fun j => ⟨T.heap.size, j⟩) (cells + 1 + i) (slots + 4 + i * k)
  | 0 => by
    have h := X.pushed (mkO cA T.heap.size 0)
    rw [mkO_size] at h
    simpa [mkS] using h
  | i + 1 => by
    have Xi := mkS_stand X cA ci k i
    have hz := mkS_size T cA ci k i
    have ho := mkS_out T cA ci k i
    have hlt : T.heap.size < (mkS T cA ci k i).heap.size := by omega
    have h := (Xi.pushed (mkI ci k)).stored (show ((mkS T cA ci k i).pushCell (mkI ci k)).heap[T.heap.size]? = some (mkO cA T.heap.size i) by rw [State.heap_pushCell_of_lt (h := hlt)]; exact ho) i (.ref (T.heap.size + 1 + i))
    rw [mkO_set, mkI_size] at h
    rw [show (locs ++ (List.range (i + 1)).map fun j => (⟨T.heap.size, j⟩ : Loc)) = (locs ++ (List.range i).map fun j => (⟨T.heap.size, j⟩ : Loc)) ++ [⟨T.heap.size, i⟩] by simp [List.range_succ, List.append_assoc], show slots + 4 + (i + 1) * k = slots + 4 + i * k + k by rw [Nat.succ_mul]; omega]
    exact h
end MK
section MW
variable {E : CtlPost} {e : Env} {d : Bool} {acts : List Action} {s : State}
theorem mk_newArray {c comp : ClassId} {k : Class} {type : FieldType} {len : Nat} {init : Value} (hk : s.vm.classes[c]? = some k) (hkind : k.kind = .array comp type)
    (hlimit : ¬ len > e.platform.arrayLengthLimit) (hheap : ¬ len * componentBytes type > e.platform.maxHeapBytes) (hfit : fits type init = true) (hdef : init.isDefault = true) {Q : Addr → Pre}
    (h1 : s.heap.size < e.platform.maxCells) (h2 : s.slotsUsed + len ≤ e.platform.maxSlots)
    (hq : Q s.heap.size d acts (s.pushCell (arrV c len (fun _ => init)))) :
    wp (Jvm.newArray c len init) Q E e d acts s := by
  have hfits : ∀ i v, (Array.replicate len init)[i]? = some v → s.fitsSlot c .none i v = true := by
    intro i v hv
    rw [Array.getElem?_replicate] at hv
    split at hv
    · cases hv; simp [State.fitsSlot, State.slotType?, hk, hkind, hfit]
    · cases hv
  have hda : allocActs (Array.replicate len init) s.heap.size acts = acts := by
    have hall : ((Array.replicate len init).all (·.isDefault)) = true := by
      rw [Array.all_replicate]; split <;> simp [hdef]
    unfold allocActs; rw [if_pos hall]
  rw [← arrV_new] at hq
  simp only [Jvm.newArray, Jvm.arrayFits, wp_bind', Jvm.W.ask, Jvm.W.ite, hlimit, if_false, wp_pure', Jvm.W.theClass, hk, hkind, hheap, Jvm.W.alloc, Jvm.W.stop, Option.some.injEq, exists_eq_left', Array.size_replicate, hda]
  rw [if_neg (by omega)]
  exact ⟨h1, h2, hfits, hq⟩
end MW
/-- the classes int[] and int[][], as the tables have them -/
def gAO (cI cA : ClassId) (U : State) : Prop := U.vm.findClass "[I" = some cI ∧ U.vm.findClass "[[I" = some cA ∧ (∃ kA, U.vm.classes[cA]? = some kA ∧ kA.kind = .array cI (.array .int)) ∧ ∃ kC cx, U.vm.classes[cI]? = some kC ∧ kC.kind = .array cx .int
theorem gAO.moved {cI cA : ClassId} {u U : State} (hvm : u.vm.Alike U.vm) (h : gAO cI cA u) : gAO cI cA U := by
  obtain ⟨h1, h2, ⟨kA, h3, h4⟩, kC, cx, h5, h6⟩ := h
  obtain ⟨kA', g3, eA⟩ := hvm.2.2 _ _ h3
  obtain ⟨kC', g5, eC⟩ := hvm.2.2 _ _ h5
  exact ⟨by rw [hvm.findClass]; exact h1, by rw [hvm.findClass]; exact h2, ⟨kA', g3, by rw [eA]; exact h4⟩, kC', cx, g5, by rw [eC]; exact h6⟩
section MX
variable {E : CtlPost} {e : Env} {d : Bool} {acts : List Action} {s : State}
theorem mk_row {comp cx : ClassId} {kc : Class} {m : Int32} (hkc : s.vm.classes[comp]? = some kc) (hkindc : kc.kind = .array cx .int) (hm : ¬ m < 0)
    (hl2 : ¬ m.toNatClampNeg > e.platform.arrayLengthLimit) (hh2 : ¬ m.toNatClampNeg * componentBytes .int > e.platform.maxHeapBytes)
    (h1 : s.heap.size < e.platform.maxCells) (h2 : s.slotsUsed + m.toNatClampNeg ≤ e.platform.maxSlots)
    {Q : Addr → Pre} (hq : Q s.heap.size d acts (s.pushCell (mkI comp m.toNatClampNeg))) : wp (multianewarray.make comp [m]) Q E e d acts s := by
  rw [multianewarray.make]
  simp only [wp_bind', Jvm.W.ite, hm, if_false, wp_pure', Jvm.W.theClass, hkc, hkindc, Option.some.injEq, exists_eq_left']
  exact mk_newArray hkc hkindc hl2 hh2 rfl rfl h1 h2 hq
theorem mk_grid {c comp cx : ClassId} {k kc : Class} {m : Int32} (hk : s.vm.classes[c]? = some k) (hkind : k.kind = .array comp (.array .int)) (hkc : s.vm.classes[comp]? = some kc) (hkindc : kc.kind = .array cx .int) (hm : ¬ m < 0)
    (hl1 : ¬ 4 > e.platform.arrayLengthLimit) (hh1 : ¬ 4 * componentBytes (.array .int) > e.platform.maxHeapBytes)
    (hl2 : ¬ m.toNatClampNeg > e.platform.arrayLengthLimit) (hh2 : ¬ m.toNatClampNeg * componentBytes .int > e.platform.maxHeapBytes)
    (hc : s.heap.size + 5 ≤ e.platform.maxCells) (hs : s.slotsUsed + 4 + 4 * m.toNatClampNeg ≤ e.platform.maxSlots)
    {Q : Addr → Pre} (hq : ∀ d' acts', Q s.heap.size d' acts' (mkS s c comp m.toNatClampNeg 4)) : wp (multianewarray.make c [4, m]) Q E e d acts s := by
  have hfind : ([m].find? (· < 0)) = none := by simp [hm]
  have h4 : ¬ (4 : Int32) < 0 := by decide
  have h4n : (4 : Int32).toNatClampNeg = 4 := by decide
  rw [multianewarray.make]
  simp only [wp_bind', Jvm.W.ite, h4, if_false, wp_pure', Jvm.W.theClass, hk, hkind, Option.some.injEq, exists_eq_left', h4n]
  refine mk_newArray hk hkind hl1 hh1 rfl rfl (by omega) (by omega) ?_
  simp only [hfind]
  rw [ite_self, wp_bind', Std.Legacy.Range.forIn_eq_forIn_range']
  have hsz : ([:4] : Std.Legacy.Range).size = 4 := by simp [Std.Legacy.Range.size]
  rw [hsz]
  have h0 : s.pushCell (arrV c 4 (fun _ => .null)) = mkS s c comp m.toNatClampNeg 0 := by
    show _ = s.pushCell (mkO c s.heap.size 0)
    unfold mkO
    refine congrArg (fun f => s.pushCell (arrV c 4 f)) (funext fun j => ?_)
    rw [if_neg (Nat.not_lt_zero j)]
    rfl
  rw [h0]
  show wp (forIn (List.range' 0 4 1) PUnit.unit _) _ E e d acts _
  refine wp_forIn_inv (fun rest s' => ∃ i, i ≤ 4 ∧ rest = List.range' i (4 - i) ∧ s' = mkS s c comp m.toNatClampNeg i) _ _ ⟨0, Nat.zero_le _, rfl, rfl⟩ ?_ ?_
  · rintro x rest s' d' acts' Q' ⟨i, hi, hl, rfl⟩ hnext
    have hlt : i < 4 := by
      rcases Nat.lt_or_ge i 4 with h | h
      · exact h
      · rw [show 4 - i = 0 by omega] at hl
        cases hl
    rw [show 4 - i = (4 - (i + 1)) + 1 by omega, List.range'_succ] at hl
    obtain ⟨rfl, hrest⟩ := List.cons.inj hl
    have f1 := mkS_size s c comp m.toNatClampNeg x
    have f2 := mkS_out s c comp m.toNatClampNeg x
    have f3 := mkS_vm s c comp m.toNatClampNeg x
    have f4 := mkS_slots s c comp m.toNatClampNeg x
    have hmul : x * m.toNatClampNeg + m.toNatClampNeg ≤ 4 * m.toNatClampNeg := by
      have := Nat.mul_le_mul_right m.toNatClampNeg (show x + 1 ≤ 4 from hlt)
      rw [Nat.succ_mul] at this
      exact this
    have hlt0 : s.heap.size < (mkS s c comp m.toNatClampNeg x).heap.size := by omega
    simp only [wp_bind']
    refine mk_row (by rw [f3]; exact hkc) hkindc hm hl2 hh2 (by omega) (by omega) ?_
    simp only [wp_bind', Jvm.W.writeLoc, wp_pure']
    refine ⟨mkO c s.heap.size x, by rw [State.heap_pushCell_of_lt (h := hlt0)]; exact f2, (fun h => by cases h), by rw [mkO_size]; exact hlt, ?_, hnext _ _ _ ⟨x + 1, hlt, hrest, ?_⟩⟩
    · show ((mkS s c comp m.toNatClampNeg x).pushCell (mkI comp m.toNatClampNeg)).fitsSlot c .none x _ = true
      simp [State.fitsSlot, State.slotType?, f3, hk, hkind]
      rfl
    · rw [f1, mkO_set]
      rfl
  · rintro s' d' acts' ⟨i, hi, hl, rfl⟩
    have hi4 : i = 4 := by
      rcases Nat.lt_or_ge i 4 with h | h
      · rw [show 4 - i = (4 - (i + 1)) + 1 by omega, List.range'_succ] at hl
        cases hl
      · omega
    subst hi4
    simp only [wp_pure']
    exact hq _ _
end MX
section MY
variable {p : Program} {l : Launch} {e : Env} {R : Room} {s : State} {m : MethodId} {args : Array Value} {below : List Frame} {meth : Method} {c : Code} {H : Heap} {locs : List Loc} {cells slots : Nat} {Q : State → Prop}
variable {cc : ByteArray} {pc : Nat} {ls : Array Slot} {rest : List Value} {cI cA : ClassId}
theorem W_mul4 (hexec : p.tables.exec = Jvm.exec) (hb : c.code = cc) {own : String} {index : Nat} (hown : s.vm.findClass own = some m.cls) (hclink : (Cond.classLink own index "[[I").before args s = true) (hG : gAO cI cA s) {k : Int32} {K : Nat} (hk : ¬ k < 0) (hK : k.toNatClampNeg = K) (hb3 : K ≤ 1000)
    (hcells : cells + 5 ≤ R.cells) (hslots : slots + (4 + 4 * K) ≤ R.slots) (hdg : decode cc pc = .ok (.multianewarray index 2, 4))
    (kk : ∀ H1 : Heap, H1.size = H.size + 5 → H1[H.size]? = some (mkO cA H.size 4) → (∀ j, j < 4 → H1[H.size + 1 + j]? = some (mkI cI K)) → (∀ a : Nat, a < H.size → H1[a]? = H[a]?) → W p l e R s m args below meth c H1 (locs ++ (List.range 4).map fun j => ⟨H.size, j⟩) (cells + 5) (slots + (4 + 4 * K)) Q (F0 m (pc + 4) ls (.ref H.size :: rest))) :
    W p l e R s m args below meth c H locs cells slots Q (F0 m pc ls (.int k :: .int 4 :: rest)) := by
  intro T hT X
  subst hT
  subst hb
  subst hK
  obtain ⟨g1, g2, ⟨kA, g3, g4⟩, kC, cx, g5, g6⟩ := hG
  have hpl : e.platform.magicAccessors = ({} : Platform).magicAccessors := by rw [X.admits.platform]
  obtain ⟨c0, hfc0, hcl⟩ := Cond.classLink_spec hown hclink e.platform hpl
  cases g2.symm.trans hfc0
  obtain ⟨hg₁, hwarm₁, hready₁⟩ := State.classEntry (e := e) X.warmed hcl
  generalize T.vm.noted m.cls index (.cls cA) = vm₁ at hg₁ hwarm₁ hready₁
  have hal : s.vm.Alike vm₁ := hwarm₁.alike
  obtain ⟨kA₁, hkA₁, heA⟩ := hal.2.2 _ _ g3
  obtain ⟨kC₁, hkC₁, heC⟩ := hal.2.2 _ _ g5
  have X₁ := X.noted hwarm₁
  obtain ⟨hr1, hr2⟩ := X.roomAbove hcells hslots
  have XF := mkS_stand X₁ cA cI k.toNatClampNeg 4
  have hl1 : ¬ 4 > e.platform.arrayLengthLimit := by rw [Launch.admits_arrayLengthLimit X.admits]; omega
  have hh1 : ¬ 4 * componentBytes (.array .int) > e.platform.maxHeapBytes := by
    rw [Launch.admits_maxHeapBytes X.admits]; show ¬ 4 * 4 > 536870912; omega
  have hl2 : ¬ k.toNatClampNeg > e.platform.arrayLengthLimit := by rw [Launch.admits_arrayLengthLimit X.admits]; omega
  have hh2 : ¬ k.toNatClampNeg * componentBytes .int > e.platform.maxHeapBytes := by
    rw [Launch.admits_maxHeapBytes X.admits]; show ¬ k.toNatClampNeg * 4 > 536870912; omega
  obtain ⟨t, a1, b1⟩ := kk (mkS (T.setVm vm₁) cA cI k.toNatClampNeg 4).heap (mkS_size (T.setVm vm₁) cA cI k.toNatClampNeg 4) (mkS_out (T.setVm vm₁) cA cI k.toNatClampNeg 4) (fun j hj => mkS_row (T.setVm vm₁) cA cI k.toNatClampNeg 4 j hj) (fun a ha => mkS_old (T.setVm vm₁) cA cI k.toNatClampNeg ha 4) _ rfl (by rw [show slots + (4 + 4 * k.toNatClampNeg) = slots + 4 + 4 * k.toNatClampNeg by omega]; exact XF)
  refine ⟨t, ?_, b1⟩
  jvm_step X.here [hexec, hdg]
  simp only [multianewarray.sem, wp_bind', Jvm.W.resolveClassAt_links (State.method?_setTop (F0 m pc ls (.int k :: .int 4 :: rest)) X.here.top) hg₁]
  rw [Jvm.W.popN, if_neg (by decide)]
  refine ⟨F0 m pc ls (.int k :: .int 4 :: rest), State.topJava?_setTop' (s := T.setVm vm₁) _ X.here.top, [.int 4, .int k], rest, rfl, rfl, ?_⟩
  simp only [List.mapM_cons, List.mapM_nil, wp_bind', wp_pure']
  refine mk_grid (k := kA₁) (kc := kC₁) (comp := cI) (cx := cx) hkA₁ (by rw [heA]; exact g4) hkC₁ (by rw [heC]; exact g6) hk hl1 hh1 hl2 hh2 (by show T.heap.size + 5 ≤ _; omega) (by show T.slotsUsed + _ + _ ≤ _; omega) (fun d' acts' => ?_)
  have eS : ((T.setTop (F0 m pc ls (.int k :: .int 4 :: rest))).setVm vm₁).setTop (F0 m pc ls rest) = (T.setVm vm₁).setTop (F0 m pc ls rest) := by
    show ((T.setVm vm₁).setTop _).setTop _ = _
    rw [State.setTop_setTop]
  show wp _ _ _ _ _ _ (mkS (((T.setTop (F0 m pc ls (.int k :: .int 4 :: rest))).setVm vm₁).setTop (F0 m pc ls rest)) cA cI k.toNatClampNeg 4)
  rw [eS, mkS_top]
  simp only [wp_bind', Jvm.W.mark, Jvm.W.pushRef, State.topJava?_setTop' _ XF.here.top, Option.some.injEq, exists_eq_left', State.setTop_setTop, State.heap_setTop]
  intro acts
  simp [jvm, XF.here.top]
  exact a1
end MY
