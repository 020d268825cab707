/-! Methods that write: the world before, the world behind; all else stays. -/
def wr_Q (v : Option Value) (D : va_G) (cl : List vw_C) (H : Heap) (ws ws' : va_W) : Array Value → State → Outcome → State → Prop := fun _ _ oc t => oc = .returned v ∧ va_P D cl ws' t.heap ∧ H.size ≤ t.heap.size ∧ ∀ q : Nat, q < H.size → ¬ va_A ws H.size q → t.heap[q]? = H[q]?
theorem va_D_of {A : Nat → Prop} {ws ws' : va_W} (hm : ws'.map (·.1) = ws.map (·.1)) (h : va_D A ws) : va_D A ws' := by
  have key : ∀ (k : Nat) (x : Nat × va_E), ws'[k]? = some x → ∃ y, ws[k]? = some y ∧ y.1 = x.1 := by
    intro k x hx
    have h1 : (ws'.map (·.1))[k]? = some x.1 := by rw [List.getElem?_map, hx]; rfl
    rw [hm, List.getElem?_map] at h1
    cases hy : ws[k]? with
    | none => rw [hy] at h1; cases h1
    | some y => rw [hy] at h1; exact ⟨y, rfl, Option.some.inj h1⟩
  refine ⟨fun i j x y hi hj hxy => ?_, fun k x hx => ?_⟩
  · obtain ⟨x', hx', ex⟩ := key i x hi
    obtain ⟨y', hy', ey⟩ := key j y hj
    exact h.1 i j x' y' hx' hy' (by rw [ex, ey, hxy])
  · obtain ⟨x', hx', ex⟩ := key k x hx
    rw [← ex]
    exact h.2 k x' hx'
section WR
variable {p : Program} {l : Launch} {e : Env} {R : Room} {s : State} {m : MethodId} {args : Array Value} {below : List Frame} {meth : Method} {c : Code} {H H0 : Heap} {locs : List Loc} {cells slots mc ms : Nat} {Q : State → Prop}
variable {cc : ByteArray} {pc : Nat} {ls : Array Slot} {rest st0 : List Value} {a : Array Value} {D : va_G} {cl : List vw_C} {A0 : Nat → Prop} {wc wc' ws ws' : va_W} {b : Nat} {tys : List (ClassId × FieldType)} {A : Nat → Prop}
theorem wr_call {v : Option Value} (hr : va_Run p l e R s m args below meth c H locs cells slots mc ms (F0 m pc ls st0) rest (wr_Q v D cl H wc wc' a) (va_A wc H.size)) (hS : va_S A0 H0 H locs) (hF : ∀ q, va_A wc H.size q → A0 q)
    (kk : ∀ (H1 : Heap) (locs1 : List Loc), va_P D cl wc' H1 → H.size ≤ H1.size → (∀ q : Nat, q < H.size → ¬ va_A wc H.size q → H1[q]? = H[q]?) → va_S A0 H0 H1 locs1 → W p l e R s m args below meth c H1 locs1 (cells + mc) (slots + ms) Q (F0 m (pc + 3) ls (v.toList ++ rest))) : W p l e R s m args below meth c H locs cells slots Q (F0 m pc ls st0) := by
  intro T hT X
  obtain ⟨v', st₀, t, T', L, h0, X', hL, e1, e2, ⟨hv, hp, hz, hk⟩, st⟩ := hr T hT X
  cases hv
  obtain ⟨t2, a1, b1⟩ := kk T'.heap (locs ++ L) (by rw [e1]; exact hp) (by rw [e1]; exact hz) (fun q h1 h2 => by rw [e1]; exact hk q h1 h2)
    ⟨Nat.le_trans hS.1 (by rw [e1]; exact hz), fun q h1 h2 => by rw [e1, hk q (Nat.lt_of_lt_of_le h1 hS.1) (fun z => h2 (hF q z))]; exact hS.2.1 q h1 h2, fun q hq => by
      rcases List.mem_append.mp hq with h | h
      · exact hS.2.2 q h
      · exact hF _ (hL q h)⟩ T' rfl X'
  exact ⟨t2, st t2 a1, b1⟩
theorem wr_vret (hexec : p.tables.exec = Jvm.exec) (hb : c.code = cc) (hr : meth.sig.returnType = none) (hP : va_P D cl ws' H) (hS : va_S (va_A ws H0.size) H0 H locs) (hdg : decode cc pc = .ok (.return_, 1)) (hlocks : meth.locks = false) : W p l e R s m args below meth c H locs cells slots (MQ below (wr_Q none D cl H0 ws ws') args s cells slots (va_A ws H0.size)) (F0 m pc ls []) :=
  W.vret hexec hb hr (fun t ht _ => ⟨rfl, by rw [ht]; exact hP, by rw [ht]; exact hS.1, fun q h1 h2 => by rw [ht]; exact hS.2.1 q h1 h2⟩) hS.2.2 hdg hlocks
theorem wr_iret (hexec : p.tables.exec = Jvm.exec) (hb : c.code = cc) (hr : meth.sig.returnType = some .int) {v w : Int32} (hv : v = w) (hP : va_P D cl ws' H) (hS : va_S (va_A ws H0.size) H0 H locs) (hdg : decode cc pc = .ok (.ireturn, 1)) (hlocks : meth.locks = false) : W p l e R s m args below meth c H locs cells slots (MQ below (wr_Q (some (.int w)) D cl H0 ws ws') args s cells slots (va_A ws H0.size)) (F0 m pc ls [.int v]) := by
  subst hv
  exact W.iret hexec hb hr (fun t ht _ => ⟨rfl, by rw [ht]; exact hP, by rw [ht]; exact hS.1, fun q h1 h2 => by rw [ht]; exact hS.2.1 q h1 h2⟩) hS.2.2 hdg hlocks
theorem ast_i {j : Nat} (hexec : p.tables.exec = Jvm.exec) (hb : c.code = cc) (hK : va_K D cl tys s) (hP : va_P D cl ws H) (hD : va_D A ws) (hS : va_S A H0 H locs) (q0 t0 : Nat) {cA : ClassId} {n : Nat} {f : Nat → Int32} (ha : ws[q0]? = some (b, .inl (cA, n, .inl f))) (ht : tys[t0]? = some (cA, .int)) (hj : j < n) (hn : n < 2 ^ 31) {x : Int32} (hdg : decode cc pc = .ok (.iastore, 1))
    (kk : ∀ (H1 : Heap) (locs1 : List Loc), va_P D cl (ws.set q0 (b, .inl (cA, n, .inl (upd f j x)))) H1 → va_D A (ws.set q0 (b, .inl (cA, n, .inl (upd f j x)))) → va_S A H0 H1 locs1 → W p l e R s m args below meth c H1 locs1 cells slots Q (F0 m (pc + 1) ls rest)) : W p l e R s m args below meth c H locs cells slots Q (F0 m pc ls (.int x :: .int (nI j) :: .ref b :: rest)) := by
  refine va_iast hexec hb hK hP hD hS q0 t0 ha ht (vp_in_nI hj hn) hdg ?_
  rw [nI_clamp (Nat.lt_trans hj hn)]
  exact kk
theorem ast_l {j : Nat} (hexec : p.tables.exec = Jvm.exec) (hb : c.code = cc) (hK : va_K D cl tys s) (hP : va_P D cl ws H) (hD : va_D A ws) (hS : va_S A H0 H locs) (q0 t0 : Nat) {cA : ClassId} {n : Nat} {f : Nat → Int64} (ha : ws[q0]? = some (b, .inl (cA, n, .inr (.inl f)))) (ht : tys[t0]? = some (cA, .long)) (hj : j < n) (hn : n < 2 ^ 31) {x : Int64} (hdg : decode cc pc = .ok (.lastore, 1))
    (kk : ∀ (H1 : Heap) (locs1 : List Loc), va_P D cl (ws.set q0 (b, .inl (cA, n, .inr (.inl (vp_updL f j x))))) H1 → va_D A (ws.set q0 (b, .inl (cA, n, .inr (.inl (vp_updL f j x))))) → va_S A H0 H1 locs1 → W p l e R s m args below meth c H1 locs1 cells slots Q (F0 m (pc + 1) ls rest)) : W p l e R s m args below meth c H locs cells slots Q (F0 m pc ls (.long x :: .int (nI j) :: .ref b :: rest)) := by
  refine va_last hexec hb hK hP hD hS q0 t0 ha ht (vp_in_nI hj hn) hdg ?_
  rw [nI_clamp (Nat.lt_trans hj hn)]
  exact kk
end WR
/-! a ring with one part anew -/
def u_h (r : rgV) (x : Nat) : rgV := (v_N r, v_w r, v_o r, x, v_g r, v_S r, v_F r)
def u_o (r : rgV) (x : Nat) : rgV := (v_N r, v_w r, x, v_h r, v_g r, v_S r, v_F r)
def u_g (r : rgV) (x : Int32) : rgV := (v_N r, v_w r, v_o r, v_h r, x, v_S r, v_F r)
def u_S (r : rgV) (x : Nat → Int32) : rgV := (v_N r, v_w r, v_o r, v_h r, v_g r, x, v_F r)
def u_F (r : rgV) (x : Nat → Nat → Int32) : rgV := (v_N r, v_w r, v_o r, v_h r, v_g r, v_S r, x)
theorem ok_h {r : rgV} {x : Nat} (hk : r_ok r) (hx : x ≤ v_N r) : r_ok (u_h r x) := by obtain ⟨k1, k2, k3, k4, k5, k6⟩ := hk; unfold r_ok; exact ⟨k1, k2, k3, hx, k5, k6⟩
theorem ok_o {r : rgV} {x : Nat} (hk : r_ok r) (hx : x < v_N r) : r_ok (u_o r x) := by obtain ⟨k1, k2, k3, k4, k5, k6⟩ := hk; unfold r_ok; exact ⟨k1, k2, hx, k4, k5, k6⟩
theorem ok_g {r : rgV} {x : Int32} (hk : r_ok r) : r_ok (u_g r x) := by obtain ⟨k1, k2, k3, k4, k5, k6⟩ := hk; unfold r_ok; exact ⟨k1, k2, k3, k4, k5, k6⟩
theorem ok_S {r : rgV} {x : Nat → Int32} (hk : r_ok r) : r_ok (u_S r x) := by obtain ⟨k1, k2, k3, k4, k5, k6⟩ := hk; unfold r_ok; exact ⟨k1, k2, k3, k4, k5, k6⟩
theorem ok_F {r : rgV} {x : Nat → Nat → Int32} (hk : r_ok r) : r_ok (u_F r x) := by obtain ⟨k1, k2, k3, k4, k5, k6⟩ := hk; unfold r_ok; exact ⟨k1, k2, k3, k4, k5, k6⟩
/-- one row anew -/
def fU (F : Nat → Nat → Int32) (k0 : Nat) (f : Nat → Int32) : Nat → Nat → Int32 := fun k => bif k == k0 then f else F k
/-- the place behind the oldest one -/
def nxo (r : rgV) : Nat := if v_o r + 1 < v_N r then v_o r + 1 else 0
/-- a new entry: where there is room, and where there is none -/
def opA (r : rgV) (b : Int32) : rgV := u_S (u_h r (v_h r + 1)) (upd (v_S r) (sl (u_h r (v_h r + 1)) (v_h r)) b)
def opB (r : rgV) (b : Int32) : rgV := u_S (u_o (u_g r (v_S r (v_o r))) (nxo r)) (upd (v_S r) (sl (u_o (u_g r (v_S r (v_o r))) (nxo r)) (v_h r - 1)) b)
def opV (r : rgV) (b : Int32) : rgV := if v_h r < v_N r then opA r b else opB r b
