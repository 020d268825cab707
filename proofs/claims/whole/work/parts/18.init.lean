theorem va_D_new {A : Nat → Prop} {ws : va_W} {n : Nat} {e : va_E} (hD : va_D A ws) (hlt : ∀ (k : Nat) (q : Nat × va_E), ws[k]? = some q → q.1 < n) (hA : A n) : va_D A (ws ++ [(n, e)]) ∧ ∀ (k : Nat) (q : Nat × va_E), (ws ++ [(n, e)])[k]? = some q → q.1 < n + 1 := by
  have key : ∀ (k : Nat) (q : Nat × va_E), (ws ++ [(n, e)])[k]? = some q → (k < ws.length ∧ ws[k]? = some q) ∨ (k = ws.length ∧ q = (n, e)) := by
    intro k q hq
    by_cases hl : k < ws.length
    · rw [List.getElem?_append_left hl] at hq
      exact Or.inl ⟨hl, hq⟩
    · rw [List.getElem?_append_right (by omega)] at hq
      have hz : k - ws.length < 1 := (List.getElem?_eq_some_iff.mp hq).1
      rw [show k - ws.length = 0 by omega] at hq
      cases hq
      exact Or.inr ⟨by omega, rfl⟩
  refine ⟨⟨fun i j x y hi hj hxy => ?_, fun k x hx => ?_⟩, fun k x hx => ?_⟩
  · rcases key i x hi with ⟨h1, h2⟩ | ⟨h1, rfl⟩ <;> rcases key j y hj with ⟨h3, h4⟩ | ⟨h3, rfl⟩
    · exact hD.1 i j x y h2 h4 hxy
    · have := hlt i x h2
      rw [hxy] at this
      exact absurd this (Nat.lt_irrefl _)
    · have := hlt j y h4
      rw [← hxy] at this
      exact absurd this (Nat.lt_irrefl _)
    · omega
  · rcases key k x hx with ⟨h1, h2⟩ | ⟨h1, rfl⟩
    · exact hD.2 k x h2
    · exact hA
  · rcases key k x hx with ⟨h1, h2⟩ | ⟨h1, rfl⟩
    · exact Nat.lt_succ_of_lt (hlt k x h2)
    · exact Nat.lt_succ_self _
theorem arrV_ext {c : ClassId} {n : Nat} {f g : Nat → Value} (h : ∀ j, j < n → f j = g j) : arrV c n f = arrV c n g := by
  unfold arrV
  have : (fun j : Fin n => f j.val) = (fun j : Fin n => g j.val) := funext fun j => h j.val j.isLt
  rw [this]
section MU
variable {p : Program} {l : Launch} {e : Env} {R : Room} {s : State} {m : MethodId} {args : Array Value} {below : List Frame} {meth : Method} {c : Code} {H : Heap} {locs : List Loc} {cells slots : Nat} {Q : State → Prop}
variable {cc : ByteArray} {pc : Nat} {ls : Array Slot} {rest : List Value} {cI cA : ClassId} {D : va_G} {cl : List vw_C} {A : Nat → Prop} {ws : va_W} {H0 : Heap}
theorem va_mul4 (hexec : p.tables.exec = Jvm.exec) (hb : c.code = cc) {own : String} {index : Nat} (hown : s.vm.findClass own = some m.cls) (hclink : (Cond.classLink own index "[[I").before args s = true) (hG : gAO cI cA s) (hP : va_P D cl ws H) (hD : va_D A ws) (hS : va_S A H0 H locs) (hA : ∀ q, H0.size ≤ q → A q) {k : Int32} {K : Nat} (hk : ¬ k < 0) (hK : k.toNatClampNeg = K) (hb3 : K ≤ 1000)
    (hcells : cells + 5 ≤ R.cells) (hslots : slots + (4 + 4 * K) ≤ R.slots) (hdg : decode cc pc = .ok (.multianewarray index 2, 4))
    (kk : ∀ (q : Nat) (b : Nat → Nat) (H1 : Heap) (locs1 : List Loc), va_P D cl (ws ++ [(q, .inl (cA, 4, .inr (.inr (.inr (.inr (fun k => some (b k))))))), (b 0, .inl (cI, K, .inl (fun _ => 0))), (b 1, .inl (cI, K, .inl (fun _ => 0))), (b 2, .inl (cI, K, .inl (fun _ => 0))), (b 3, .inl (cI, K, .inl (fun _ => 0)))]) H1 →
      va_D A (ws ++ [(q, .inl (cA, 4, .inr (.inr (.inr (.inr (fun k => some (b k))))))), (b 0, .inl (cI, K, .inl (fun _ => 0))), (b 1, .inl (cI, K, .inl (fun _ => 0))), (b 2, .inl (cI, K, .inl (fun _ => 0))), (b 3, .inl (cI, K, .inl (fun _ => 0)))]) → va_S A H0 H1 locs1 → W p l e R s m args below meth c H1 locs1 (cells + 5) (slots + (4 + 4 * K)) Q (F0 m (pc + 4) ls (.ref q :: rest))) :
    W p l e R s m args below meth c H locs cells slots Q (F0 m pc ls (.int k :: .int 4 :: rest)) := by
  refine W_mul4 hexec hb hown hclink hG hk hK hb3 hcells hslots hdg fun H1 z1 o1 r1 k1 => ?_
  have hHA : ∀ q, H.size ≤ q → A q := fun q h => hA q (Nat.le_trans hS.1 h)
  have hlt : ∀ (k : Nat) (q : Nat × va_E), ws[k]? = some q → q.1 < H.size := fun k q hq => (hP k q hq).lt
  have hP1 : va_P D cl ws H1 := hP.kept (fun k x hx => k1 x.1 (hlt k x hx))
  have eO : mkO cA H.size 4 = vp_cell cA (4, .inr (.inr (.inr (.inr (fun k => some (H.size + 1 + k)))))) := by
    rw [vp_cell_q]
    exact arrV_ext (fun j hj => by rw [if_pos hj])
  have hrow : ∀ j, j < 4 → va_at D cl (H.size + 1 + j, .inl (cI, K, .inl (fun _ => 0))) H1 := fun j hj => r1 j hj
  have hout : va_at D cl (H.size, .inl (cA, 4, .inr (.inr (.inr (.inr (fun k => some (H.size + 1 + k))))))) H1 := by
    show H1[H.size]? = some (vp_cell _ _)
    rw [o1, eO]
  obtain ⟨d1, l1⟩ := va_D_new (e := .inl (cA, 4, .inr (.inr (.inr (.inr (fun k => some (H.size + 1 + k))))))) hD hlt (hHA _ (Nat.le_refl _))
  obtain ⟨d2, l2⟩ := va_D_new (e := .inl (cI, K, .inl (fun _ => 0))) d1 l1 (hHA _ (by omega))
  obtain ⟨d3, l3⟩ := va_D_new (e := .inl (cI, K, .inl (fun _ => 0))) d2 l2 (hHA _ (by omega))
  obtain ⟨d4, l4⟩ := va_D_new (e := .inl (cI, K, .inl (fun _ => 0))) d3 l3 (hHA _ (by omega))
  obtain ⟨d5, l5⟩ := va_D_new (e := .inl (cI, K, .inl (fun _ => 0))) d4 l4 (hHA _ (by omega))
  refine kk H.size (fun k => H.size + 1 + k) H1 _ (hP1.app ?_) ?_ ⟨Nat.le_trans hS.1 (by omega), fun x h1 h2 => (k1 x (Nat.lt_of_lt_of_le h1 hS.1)).trans (hS.2.1 x h1 h2), fun q hq => ?_⟩
  · intro i q hq
    have hi : i < 5 := (List.getElem?_eq_some_iff.mp hq).1
    rcases (show i = 0 ∨ i = 1 ∨ i = 2 ∨ i = 3 ∨ i = 4 by omega) with rfl | rfl | rfl | rfl | rfl <;> cases hq
    · exact hout
    · exact hrow 0 (by omega)
    · exact hrow 1 (by omega)
    · exact hrow 2 (by omega)
    · exact hrow 3 (by omega)
  · rw [List.append_assoc, List.append_assoc, List.append_assoc, List.append_assoc] at d5
    exact d5
  · rcases List.mem_append.mp hq with h | h
    · exact hS.2.2 q h
    · obtain ⟨j, -, rfl⟩ := List.mem_map.mp h
      exact hHA _ (Nat.le_refl _)
end MU
theorem tyI {D : va_G} {cl : List vw_C} {cI cA cJ cX : ClassId} {s : State} (h : va_K D cl (tyL cI cA cJ) s) (h2 : va_K D cl (tyL cI cA cJ ++ [(cX, .int)]) s) : cX = cI := Option.some.inj (((h2.2 3 (cX, .int) rfl).2 : s.vm.findClass _ = some cX).symm.trans ((h.2 0 (cI, .int) rfl).2 : s.vm.findClass _ = some cI))
theorem tyJ {D : va_G} {cl : List vw_C} {cI cA cJ cX : ClassId} {s : State} (h : va_K D cl (tyL cI cA cJ) s) (h2 : va_K D cl (tyL cI cA cJ ++ [(cX, .long)]) s) : cX = cJ := Option.some.inj (((h2.2 3 (cX, .long) rfl).2 : s.vm.findClass _ = some cX).symm.trans ((h.2 2 (cJ, .long) rfl).2 : s.vm.findClass _ = some cJ))
/-- a constructor's start: the classes of the arrays are known too -/
def cr_P (D : va_G) (cl : List vw_C) (cI cA cJ : ClassId) (H : Heap) (av : List Value) : Array Value → State → Prop := va_Pc av (fun U => U.heap = H ∧ va_K D cl (tyL cI cA cJ) U ∧ gAO cI cA U)
theorem cr_blind {D : va_G} {cl : List vw_C} {cI cA cJ : ClassId} {H : Heap} {av : List Value} : FrameBlind (cr_P D cl cI cA cJ H av) := fun a U g mk q => ⟨q.1, q.2.1, va_K.moved (u := U) (U := U.calling g mk a) (Vm.Alike.refl U.vm) q.2.2.1, gAO.moved (u := U) (U := U.calling g mk a) (Vm.Alike.refl U.vm) q.2.2.2⟩
theorem cr_preS {D : va_G} {cl : List vw_C} {cI cA cJ : ClassId} {H : Heap} {s : State} {As : List Value} (hK : va_K D cl (tyL cI cA cJ) s) (hG : gAO cI cA s) : PreS s H (cr_P D cl cI cA cJ H As) As := ⟨cr_blind, fun _ hU hW => ⟨rfl, hU, va_K.moved hW.alike hK, gAO.moved hW.alike hG⟩⟩
/-- its end: cells of its own choice, which are new or were given -/
def cr_Q {S : Type} (D : va_G) (cl : List vw_C) (H : Heap) (ws : va_W) (P : S → Prop) (w : S → va_W) : Array Value → State → Outcome → State → Prop := fun _ _ oc t => oc = .returned none ∧ (∃ u : S, P u ∧ va_P D cl (w u) t.heap ∧ va_D (va_A ws H.size) (w u)) ∧ H.size ≤ t.heap.size ∧ ∀ q : Nat, q < H.size → ¬ va_A ws H.size q → t.heap[q]? = H[q]?
section CR
variable {p : Program} {l : Launch} {e : Env} {R : Room} {s : State} {m : MethodId} {args : Array Value} {below : List Frame} {meth : Method} {c : Code} {H H0 : Heap} {locs : List Loc} {cells slots mc ms : Nat} {Q : State → Prop}
variable {cc : ByteArray} {pc : Nat} {ls : Array Slot} {rest st0 : List Value} {a : Array Value} {D : va_G} {cl : List vw_C} {A0 : Nat → Prop} {wc ws : va_W} {S : Type} {P : S → Prop} {w : S → va_W}
theorem cr_call (hr : va_Run p l e R s m args below meth c H locs cells slots mc ms (F0 m pc ls st0) rest (cr_Q D cl H wc P w a) (va_A wc H.size)) (hS : va_S A0 H0 H locs) (hF : ∀ q, va_A wc H.size q → A0 q)
    (kk : ∀ (u : S) (H1 : Heap) (locs1 : List Loc), P u → va_P D cl (w u) H1 → va_D (va_A wc H.size) (w u) → H.size ≤ H1.size → (∀ q : Nat, q < H.size → ¬ va_A wc H.size q → H1[q]? = H[q]?) → va_S A0 H0 H1 locs1 → W p l e R s m args below meth c H1 locs1 (cells + mc) (slots + ms) Q (F0 m (pc + 3) ls rest)) : W p l e R s m args below meth c H locs cells slots Q (F0 m pc ls st0) := by
  intro T hT X
  obtain ⟨v', st₀, t, T', L, h0, X', hL, e1, e2, ⟨hv, ⟨u, hu, hp, hd⟩, hz, hk⟩, st⟩ := hr T hT X
  cases hv
  obtain ⟨t2, a1, b1⟩ := kk u T'.heap (locs ++ L) hu (by rw [e1]; exact hp) hd (by rw [e1]; exact hz) (fun q h1 h2 => by rw [e1]; exact hk q h1 h2)
    ⟨Nat.le_trans hS.1 (by rw [e1]; exact hz), fun q h1 h2 => by rw [e1, hk q (Nat.lt_of_lt_of_le h1 hS.1) (fun z => h2 (hF q z))]; exact hS.2.1 q h1 h2, fun q hq => by
      rcases List.mem_append.mp hq with h | h
      · exact hS.2.2 q h
      · exact hF _ (hL q h)⟩ T' rfl X'
  exact ⟨t2, st t2 a1, b1⟩
theorem cr_vret (hexec : p.tables.exec = Jvm.exec) (hb : c.code = cc) (hr : meth.sig.returnType = none) (u : S) (hu : P u) (hP : va_P D cl (w u) H) (hD : va_D (va_A ws H0.size) (w u)) (hS : va_S (va_A ws H0.size) H0 H locs) (hdg : decode cc pc = .ok (.return_, 1)) (hlocks : meth.locks = false) : W p l e R s m args below meth c H locs cells slots (MQ below (cr_Q D cl H0 ws P w) args s cells slots (va_A ws H0.size)) (F0 m pc ls []) :=
  W.vret hexec hb hr (fun t ht _ => ⟨rfl, ⟨u, hu, by rw [ht]; exact hP, hD⟩, by rw [ht]; exact hS.1, fun q h1 h2 => by rw [ht]; exact hS.2.1 q h1 h2⟩) hS.2.2 hdg hlocks
end CR
/-- a new ring -/
def rg0 (N w : Nat) : rgV := (N, w, 0, 0, -1, fun _ => 0, fun _ _ => 0)
