/-! Calls that write nothing: the heap is a parameter of the contract, all that is known of it stands outside the contract. -/
def ro_no : Nat → Prop := fun _ => False
def ro_P (D : va_G) (cl : List vw_C) (tys : List (ClassId × FieldType)) (H : Heap) (av : List Value) : Array Value → State → Prop := va_Pc av (fun U => U.heap = H ∧ va_K D cl tys U)
def ro_Q (v : Value) (H : Heap) : Array Value → State → Outcome → State → Prop := fun _ _ oc t => oc = .returned (some v) ∧ t.heap = H
theorem ro_blind {D : va_G} {cl : List vw_C} {tys : List (ClassId × FieldType)} {H : Heap} {av : List Value} : FrameBlind (ro_P D cl tys H av) := fun a U g mk q => ⟨q.1, q.2.1, va_K.moved (u := U) (U := U.calling g mk a) (Vm.Alike.refl U.vm) q.2.2⟩
theorem ro_preV {D : va_G} {cl : List vw_C} {tys : List (ClassId × FieldType)} {H : Heap} {s : State} {C : String} {b : Nat} {As : List Value} (hK : va_K D cl tys s) (hr : ∃ cell : Cell, H[b]? = some cell ∧ cell.vm.isStatics = false ∧ s.vm.findClass C = some cell.cls) : PreV s H C b (ro_P D cl tys H (.ref b :: As)) As := ⟨ro_blind, hr, fun _ hU hW => ⟨rfl, hU, va_K.moved hW.alike hK⟩⟩
theorem ro_preS {D : va_G} {cl : List vw_C} {tys : List (ClassId × FieldType)} {H : Heap} {s : State} {As : List Value} (hK : va_K D cl tys s) : PreS s H (ro_P D cl tys H As) As := ⟨ro_blind, fun _ hU hW => ⟨rfl, hU, va_K.moved hW.alike hK⟩⟩
section RO
variable {p : Program} {l : Launch} {e : Env} {R : Room} {s : State} {m : MethodId} {args : Array Value} {below : List Frame} {meth : Method} {c : Code} {H : Heap} {locs : List Loc} {cells slots : Nat} {Q : State → Prop}
variable {pc : Nat} {ls : Array Slot} {rest st0 : List Value} {a : Array Value}
theorem ro_call {v : Value} (hr : va_Run p l e R s m args below meth c H locs cells slots 0 0 (F0 m pc ls st0) rest (ro_Q v H a) ro_no) (kk : W p l e R s m args below meth c H locs cells slots Q (F0 m (pc + 3) ls (v :: rest))) : W p l e R s m args below meth c H locs cells slots Q (F0 m pc ls st0) := by
  intro T hT X
  obtain ⟨v', st₀, t, T', L, h0, X', hL, e1, e2, ⟨hv, hh⟩, st⟩ := hr T hT X
  cases hv
  have hL0 : L = [] := List.eq_nil_iff_forall_not_mem.mpr (fun q hq => (hL q hq).elim)
  subst hL0
  rw [List.append_nil] at X'
  obtain ⟨t2, a1, b1⟩ := kk T' (by rw [e1, hh]) X'
  exact ⟨t2, st t2 a1, b1⟩
/-- the int on top, by an equation -/
theorem top_i {x y : Int32} (h : x = y) (k : W p l e R s m args below meth c H locs cells slots Q (F0 m pc ls (.int y :: rest))) : W p l e R s m args below meth c H locs cells slots Q (F0 m pc ls (.int x :: rest)) := h ▸ k
theorem top_l {x y : Int64} (h : x = y) (k : W p l e R s m args below meth c H locs cells slots Q (F0 m pc ls (.long y :: rest))) : W p l e R s m args below meth c H locs cells slots Q (F0 m pc ls (.long x :: rest)) := h ▸ k
end RO
section ROR
variable {p : Program} {l : Launch} {e : Env} {R : Room} {s : State} {m : MethodId} {args : Array Value} {below : List Frame} {meth : Method} {c : Code} {H : Heap} {cells slots : Nat}
variable {cc : ByteArray} {pc : Nat} {ls : Array Slot}
theorem ro_iret (hexec : p.tables.exec = Jvm.exec) (hb : c.code = cc) (hr : meth.sig.returnType = some .int) {v w : Int32} (hv : v = w) (hdg : decode cc pc = .ok (.ireturn, 1)) (hlocks : meth.locks = false) : W p l e R s m args below meth c H [] cells slots (MQ below (ro_Q (.int w) H) args s cells slots ro_no) (F0 m pc ls [.int v]) := by
  subst hv
  exact W.iret hexec hb hr (fun t ht _ => ⟨rfl, ht⟩) (fun q hq => by cases hq) hdg hlocks
theorem ro_zret (hexec : p.tables.exec = Jvm.exec) (hb : c.code = cc) {ty : FieldType} (hr : meth.sig.returnType = some ty) {v w : Int32} (hn : narrow ty (.int v) = .int v) (hv : v = w) (hdg : decode cc pc = .ok (.ireturn, 1)) (hlocks : meth.locks = false) : W p l e R s m args below meth c H [] cells slots (MQ below (ro_Q (.int w) H) args s cells slots ro_no) (F0 m pc ls [.int v]) := by
  subst hv
  exact W.zret hexec hb hr hn (fun t ht _ => ⟨rfl, ht⟩) (fun q hq => by cases hq) hdg hlocks
theorem ro_lret (hexec : p.tables.exec = Jvm.exec) (hb : c.code = cc) (hr : meth.sig.returnType = some .long) {v w : Int64} (hv : v = w) (hdg : decode cc pc = .ok (.lreturn, 1)) (hlocks : meth.locks = false) : W p l e R s m args below meth c H [] cells slots (MQ below (ro_Q (.long w) H) args s cells slots ro_no) (F0 m pc ls [.long v]) := by
  subst hv
  exact W.lret hexec hb hr (fun t ht _ => ⟨rfl, ht⟩) (fun q hq => by cases hq) hdg hlocks
theorem ro_aret (hexec : p.tables.exec = Jvm.exec) (hb : c.code = cc) {C : String} (hr : meth.sig.returnType = some (.object C)) {v w : Value} (hn : w = .null ∨ ∃ a, w = .ref a) (hv : v = w) (hdg : decode cc pc = .ok (.areturn, 1)) (hlocks : meth.locks = false) : W p l e R s m args below meth c H [] cells slots (MQ below (ro_Q w H) args s cells slots ro_no) (F0 m pc ls [v]) := by
  subst hv
  exact W.aret hexec hb hr (Or.inl ⟨C, rfl⟩) hn (fun t ht _ => ⟨rfl, ht⟩) (fun q hq => by cases hq) hdg hlocks
end ROR
section ALD
variable {p : Program} {l : Launch} {e : Env} {R : Room} {s : State} {m : MethodId} {args : Array Value} {below : List Frame} {meth : Method} {c : Code} {H : Heap} {locs : List Loc} {cells slots : Nat} {Q : State → Prop}
variable {cc : ByteArray} {pc : Nat} {ls : Array Slot} {rest : List Value} {D : va_G} {cl : List vw_C} {a : Nat} {tys : List (ClassId × FieldType)} {ws : va_W}
theorem ald_i {j : Nat} (hexec : p.tables.exec = Jvm.exec) (hb : c.code = cc) (hK : va_K D cl tys s) (hP : va_P D cl ws H) (q0 t0 : Nat) {cA : ClassId} {n : Nat} {f : Nat → Int32} (ha : ws[q0]? = some (a, .inl (cA, n, .inl f))) (ht : tys[t0]? = some (cA, .int)) (hj : j < n) (hn : n < 2 ^ 31) (hdg : decode cc pc = .ok (.iaload, 1))
    (kk : W p l e R s m args below meth c H locs cells slots Q (F0 m (pc + 1) ls (.int (f j) :: rest))) : W p l e R s m args below meth c H locs cells slots Q (F0 m pc ls (.int (nI j) :: .ref a :: rest)) :=
  va_iald hexec hb hK hP q0 t0 ha ht (vp_in_nI hj hn) hdg (by rw [nI_clamp (Nat.lt_trans hj hn)]; exact kk)
theorem ald_l {j : Nat} (hexec : p.tables.exec = Jvm.exec) (hb : c.code = cc) (hK : va_K D cl tys s) (hP : va_P D cl ws H) (q0 t0 : Nat) {cA : ClassId} {n : Nat} {f : Nat → Int64} (ha : ws[q0]? = some (a, .inl (cA, n, .inr (.inl f)))) (ht : tys[t0]? = some (cA, .long)) (hj : j < n) (hn : n < 2 ^ 31) (hdg : decode cc pc = .ok (.laload, 1))
    (kk : W p l e R s m args below meth c H locs cells slots Q (F0 m (pc + 1) ls (.long (f j) :: rest))) : W p l e R s m args below meth c H locs cells slots Q (F0 m pc ls (.int (nI j) :: .ref a :: rest)) :=
  va_lald hexec hb hK hP q0 t0 ha ht (vp_in_nI hj hn) hdg (by rw [nI_clamp (Nat.lt_trans hj hn)]; exact kk)
/-- a row of an array of int arrays -/
theorem ald_a {j : Nat} (hexec : p.tables.exec = Jvm.exec) (hb : c.code = cc) (hK : va_K D cl tys s) (hP : va_P D cl ws H) (q0 t0 : Nat) {cA : ClassId} {n : Nat} {f : Nat → Nat} (ha : ws[q0]? = some (a, .inl (cA, n, .inr (.inr (.inr (.inr (fun k => some (f k)))))))) (ht : tys[t0]? = some (cA, .array .int)) (hj : j < n) (hn : n < 2 ^ 31) (hdg : decode cc pc = .ok (.aaload, 1))
    (kk : W p l e R s m args below meth c H locs cells slots Q (F0 m (pc + 1) ls (.ref (f j) :: rest))) : W p l e R s m args below meth c H locs cells slots Q (F0 m pc ls (.int (nI j) :: .ref a :: rest)) :=
  W.aald (v := .ref (f j)) (ty := .array .int) hexec hb (hP q0 _ ha) ((hK.2 t0 _ ht).1 n (fun j => va_rf (some (f j)))) rfl (fun q => by cases q) (by show ¬ (nI j < 0 ∨ (arrV _ _ _).slots.size ≤ _); rw [arrV_size]; exact nI_in hj hn) (by show (arrV _ _ _).slots[_]? = _; rw [nI_clamp (Nat.lt_trans hj hn), arrV_read _ _ hj]; rfl) rfl rfl hdg kk
end ALD
theorem inc1 (a : Nat) : nI a + Int32.ofInt 1 = nI (a + 1) := nI_1 a
theorem dec1 (a : Nat) : nI (a + 1) + Int32.ofInt (-1) = nI a := pk_m1 a
abbrev tyL (cI cA cJ : ClassId) : List (ClassId × FieldType) := [(cI, .int), (cA, .array .int), (cJ, .long)]
