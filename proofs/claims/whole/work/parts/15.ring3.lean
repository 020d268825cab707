theorem rgW_D {X : Nat → Prop} {cI cA : ClassId} {A : rgA} {r q : rgV} (h : va_D X (rgW cI cA A r)) : va_D X (rgW cI cA A q) := va_D_of (ws := rgW cI cA A r) (by rfl) h
set_option maxHeartbeats 4000000 in
set_option maxRecDepth 100000 in
/-- open(begin), there is room -/
theorem c_X0_open_a (l : Launch) {D : va_G} {cI cA cJ : ClassId} {H : Heap} (A : rgA) (r : rgV) (hk : r_ok r) (hP : va_P D vwCl (rgW cI cA A r) H) {A0 : Nat → Prop} (hD0 : va_D A0 (rgW cI cA A r)) (b : Int32) (hh1 : v_h r < v_N r) : Met l yX0_open wsX0_open ({ frames := 1, cells := 0, slots := 0, locals := 22 }) (ro_P D vwCl (tyL cI cA cJ) H [.ref (a_o A), .int b]) (wr_Q (none) D vwCl H (rgW cI cA A r) (rgW cI cA A (opA r b))) 0 0 (va_A (rgW cI cA A r) H.size) := by
  refine Met.ofW (cc := cX0_open) (maxL := 2) (ret := none) (by decide) rfl ?_
  intro p e s m args below meth c s₁ B hml hv
  obtain ⟨rfl, hh, hK⟩ := hv
  subst hh
  have hx := B.exec
  have hb := B.bytes
  have hr := B.returns
  have hlocks := B.notSynchronized
  have hts := atoms_spec (ws := wsX0_open) B.pre
  have hown : s.vm.findClass RX0 = some m.cls := findClass_of_methodNamed B.named
  have hi0 : ∀ w ∈ wsX00, w ∈ wsX0_open := fun w h => List.mem_cons_of_mem _ (List.mem_append_right _ h)
  have hl := lv_entry ([.ref (a_o A), .int b]) (n := 2) (Nat.le_of_ble_eq_true rfl)
  rw [lg_entry_eq]
  generalize (lg_sl ([.ref (a_o A), .int b]) ++ List.replicate (2 - (lg_sl ([.ref (a_o A), .int b])).length) Slot.unset).toArray = ls at hl ⊢
  have hl : lv_has ls 2 [(0, .ref (a_o A)), (1, .int b)] := hl
  have hD := hD0.self (sz := s.heap.size)
  have hA : ∀ z : Nat, s.heap.size ≤ z → va_A (rgW cI cA A r) s.heap.size z := fun z h => Or.inr h
  have hS : va_S (va_A (rgW cI cA A r) s.heap.size) s.heap s.heap [] := va_S.rf
  obtain ⟨k1, k2, k3, k4, k5, k6⟩ := id hk
  have hP : va_P D vwCl [(a_o A, .inr (0, [.int (nI (v_N r)), .int (nI (v_w r)), .ref (a_s A), .ref (a_f A), .int (nI (v_o r)), .int (nI (v_h r)), .int (v_g r)])), (a_s A, .inl (cI, v_N r, .inl (v_S r))), (a_f A, .inl (cA, 4, .inr (.inr (.inr (.inr (fun k => some (a_b A k))))))), (a_b A 0, .inl (cI, v_N r, .inl (v_F r 0))), (a_b A 1, .inl (cI, v_N r, .inl (v_F r 1))), (a_b A 2, .inl (cI, v_N r, .inl (v_F r 2))), (a_b A 3, .inl (cI, v_N r, .inl (v_F r 3)))] s.heap := hP
  have hD : va_D (va_A (rgW cI cA A r) s.heap.size) [(a_o A, .inr (0, [.int (nI (v_N r)), .int (nI (v_w r)), .ref (a_s A), .ref (a_f A), .int (nI (v_o r)), .int (nI (v_h r)), .int (v_g r)])), (a_s A, .inl (cI, v_N r, .inl (v_S r))), (a_f A, .inl (cA, 4, .inr (.inr (.inr (.inr (fun k => some (a_b A k))))))), (a_b A 0, .inl (cI, v_N r, .inl (v_F r 0))), (a_b A 1, .inl (cI, v_N r, .inl (v_F r 1))), (a_b A 2, .inl (cI, v_N r, .inl (v_F r 2))), (a_b A 3, .inl (cI, v_N r, .inl (v_F r 3)))] := hD
  refine lv_aload_n hx hb dX0_open_0 rfl (lv_at hl 0 rfl) ?_
  refine va_get (D := D) (ci := 0) (v := .int (nI (v_h r))) (C := RX0) (T := TX0) (N := 7) hx hb hts hi0 hown hK hP 0 rfl rfl 5 (by decide) (hts (.fieldLink RX0 30 "RingSeries$Ring" "held" "I") (by decide +kernel)) (fun _ h9 => h9) rfl dX0_open_1 ?_
  refine lv_aload_n hx hb dX0_open_4 rfl (lv_at hl 0 rfl) ?_
  refine va_get (D := D) (ci := 0) (v := .int (nI (v_N r))) (C := RX0) (T := TX0) (N := 7) hx hb hts hi0 hown hK hP 0 rfl rfl 0 (by decide) (hts (.fieldLink RX0 15 "RingSeries$Ring" "room" "I") (by decide +kernel)) (fun _ h9 => h9) rfl dX0_open_5 ?_
  refine lv_icmp_ge (tgt := 24) hx hb dX0_open_8 (by decide) (fun c_8 => ?_) (fun c_8 => ?_)
  · have c_8 := (nI_leI (a := v_N r) (b := v_h r) (by omega) (by omega)).mp c_8
    exact absurd c_8 (by omega)
  · have c_8 := mt (nI_leI (a := v_N r) (b := v_h r) (by omega) (by omega)).mpr c_8
    refine lv_aload_n hx hb dX0_open_11 rfl (lv_at hl 0 rfl) ?_
    refine lv_dup hx hb dX0_open_12 rfl ?_
    refine va_get (D := D) (ci := 0) (v := .int (nI (v_h r))) (C := RX0) (T := TX0) (N := 7) hx hb hts hi0 hown hK hP 0 rfl rfl 5 (by decide) (hts (.fieldLink RX0 30 "RingSeries$Ring" "held" "I") (by decide +kernel)) (fun _ h9 => h9) rfl dX0_open_13 ?_
    refine lv_iconst (v := 1) hx hb dX0_open_16 (by decide) ?_
    refine lv_iadd hx hb dX0_open_17 ?_
    refine top_i (nI_add _ 1) ?_
    refine va_put (D := D) (ci := 0) (v := .int (nI ((v_h r) + 1))) (ty := .int) (C := RX0) (T := TX0) (N := 7) hx hb hts hi0 tyX0 tyX0_ok nmX0 hown hK hP hD hS 0 rfl rfl 5 (by decide) (hts (.fieldLink RX0 30 "RingSeries$Ring" "held" "I") (by decide +kernel)) (fun _ h9 => h9) rfl (by decide +kernel) rfl rfl (Nat.le_of_ble_eq_true rfl) dX0_open_18 (fun H locs hP hD hS => ?_)
    have hP : va_P D vwCl [(a_o A, .inr (0, [.int (nI (v_N r)), .int (nI (v_w r)), .ref (a_s A), .ref (a_f A), .int (nI (v_o r)), .int (nI ((v_h r) + 1)), .int (v_g r)])), (a_s A, .inl (cI, v_N r, .inl (v_S r))), (a_f A, .inl (cA, 4, .inr (.inr (.inr (.inr (fun k => some (a_b A k))))))), (a_b A 0, .inl (cI, v_N r, .inl (v_F r 0))), (a_b A 1, .inl (cI, v_N r, .inl (v_F r 1))), (a_b A 2, .inl (cI, v_N r, .inl (v_F r 2))), (a_b A 3, .inl (cI, v_N r, .inl (v_F r 3)))] H := hP
    have hD : va_D (va_A (rgW cI cA A r) s.heap.size) [(a_o A, .inr (0, [.int (nI (v_N r)), .int (nI (v_w r)), .ref (a_s A), .ref (a_f A), .int (nI (v_o r)), .int (nI ((v_h r) + 1)), .int (v_g r)])), (a_s A, .inl (cI, v_N r, .inl (v_S r))), (a_f A, .inl (cA, 4, .inr (.inr (.inr (.inr (fun k => some (a_b A k))))))), (a_b A 0, .inl (cI, v_N r, .inl (v_F r 0))), (a_b A 1, .inl (cI, v_N r, .inl (v_F r 1))), (a_b A 2, .inl (cI, v_N r, .inl (v_F r 2))), (a_b A 3, .inl (cI, v_N r, .inl (v_F r 3)))] := hD
    refine lv_goto (tgt := 64) hx hb dX0_open_21 (by decide) ?_
    refine lv_aload_n hx hb dX0_open_64 rfl (lv_at hl 0 rfl) ?_
    refine va_get (D := D) (ci := 0) (v := .ref (a_s A)) (C := RX0) (T := TX0) (N := 7) hx hb hts hi0 hown hK hP 0 rfl rfl 2 (by decide) (hts (.fieldLink RX0 21 "RingSeries$Ring" "starts" "[I") (by decide +kernel)) (fun _ h9 => h9) rfl dX0_open_65 ?_
    refine lv_aload_n hx hb dX0_open_68 rfl (lv_at hl 0 rfl) ?_
    refine lv_aload_n hx hb dX0_open_69 rfl (lv_at hl 0 rfl) ?_
    refine va_get (D := D) (ci := 0) (v := .int (nI ((v_h r) + 1))) (C := RX0) (T := TX0) (N := 7) hx hb hts hi0 hown hK hP 0 rfl rfl 5 (by decide) (hts (.fieldLink RX0 30 "RingSeries$Ring" "held" "I") (by decide +kernel)) (fun _ h9 => h9) rfl dX0_open_70 ?_
    refine lv_iconst (v := 1) hx hb dX0_open_73 (by decide) ?_
    refine lv_isub hx hb dX0_open_74 ?_
    refine top_i (pk_sub (a := (v_h r) + 1) (b := 1) (by omega)) ?_
    refine top_i (congrArg nI (Nat.add_sub_cancel (n := v_h r) (m := 1))) ?_
    refine ro_call (va_runV (As := [.int (nI (v_h r))]) (rest := [.ref (a_s A)]) ⟨hx, hb, hml, hown, hts⟩ (c_X0_slot l A (u_h r ((v_h r) + 1)) (ok_h hk (by omega)) (show va_P D vwCl (rgW cI cA A (u_h r ((v_h r) + 1))) _ from hP) (v_h r) (by show _ < v_N r; omega)) (cwV 1 hts gX0_open_X0_slot rfl rfl rfl (by decide +kernel) ⟨Nat.le_of_ble_eq_true rfl, Nat.le_of_ble_eq_true rfl⟩) (ro_preV hK (va_recv hK hP (ci := 0) (q0 := 0) rfl rfl)) rfl rfl hl.1 rfl (lv_room (Nat.le_of_ble_eq_true rfl)) dX0_open_75 ⟨Nat.zero_le _, Nat.zero_le _⟩) ?_
    refine lv_iload_n hx hb dX0_open_78 rfl (lv_at hl 1 rfl) ?_
    refine ast_i (j := (sl (u_h r ((v_h r) + 1)) (v_h r))) hx hb hK hP hD hS 1 0 rfl rfl (sl_lt (ok_h hk (by omega)) (by show _ < v_N r; omega)) (by omega) dX0_open_79 (fun H locs hP hD hS => ?_)
    have hP : va_P D vwCl [(a_o A, .inr (0, [.int (nI (v_N r)), .int (nI (v_w r)), .ref (a_s A), .ref (a_f A), .int (nI (v_o r)), .int (nI ((v_h r) + 1)), .int (v_g r)])), (a_s A, .inl (cI, v_N r, .inl (upd (v_S r) (sl (u_h r ((v_h r) + 1)) (v_h r)) b))), (a_f A, .inl (cA, 4, .inr (.inr (.inr (.inr (fun k => some (a_b A k))))))), (a_b A 0, .inl (cI, v_N r, .inl (v_F r 0))), (a_b A 1, .inl (cI, v_N r, .inl (v_F r 1))), (a_b A 2, .inl (cI, v_N r, .inl (v_F r 2))), (a_b A 3, .inl (cI, v_N r, .inl (v_F r 3)))] H := hP
    have hD : va_D (va_A (rgW cI cA A r) s.heap.size) [(a_o A, .inr (0, [.int (nI (v_N r)), .int (nI (v_w r)), .ref (a_s A), .ref (a_f A), .int (nI (v_o r)), .int (nI ((v_h r) + 1)), .int (v_g r)])), (a_s A, .inl (cI, v_N r, .inl (upd (v_S r) (sl (u_h r ((v_h r) + 1)) (v_h r)) b))), (a_f A, .inl (cA, 4, .inr (.inr (.inr (.inr (fun k => some (a_b A k))))))), (a_b A 0, .inl (cI, v_N r, .inl (v_F r 0))), (a_b A 1, .inl (cI, v_N r, .inl (v_F r 1))), (a_b A 2, .inl (cI, v_N r, .inl (v_F r 2))), (a_b A 3, .inl (cI, v_N r, .inl (v_F r 3)))] := hD
    exact wr_vret hx hb hr (show va_P D vwCl (rgW cI cA A (opA r b)) _ from hP) hS dX0_open_80 hlocks
set_option maxHeartbeats 4000000 in
set_option maxRecDepth 100000 in
/-- open(begin), there is no room -/
theorem c_X0_open_b (l : Launch) {D : va_G} {cI cA cJ : ClassId} {H : Heap} (A : rgA) (r : rgV) (hk : r_ok r) (hP : va_P D vwCl (rgW cI cA A r) H) {A0 : Nat → Prop} (hD0 : va_D A0 (rgW cI cA A r)) (b : Int32) (hh1 : ¬ v_h r < v_N r) : Met l yX0_open wsX0_open ({ frames := 1, cells := 0, slots := 0, locals := 22 }) (ro_P D vwCl (tyL cI cA cJ) H [.ref (a_o A), .int b]) (wr_Q (none) D vwCl H (rgW cI cA A r) (rgW cI cA A (opB r b))) 0 0 (va_A (rgW cI cA A r) H.size) := by
  refine Met.ofW (cc := cX0_open) (maxL := 2) (ret := none) (by decide) rfl ?_
  intro p e s m args below meth c s₁ B hml hv
  obtain ⟨rfl, hh, hK⟩ := hv
  subst hh
  have hx := B.exec
  have hb := B.bytes
  have hr := B.returns
  have hlocks := B.notSynchronized
  have hts := atoms_spec (ws := wsX0_open) B.pre
  have hown : s.vm.findClass RX0 = some m.cls := findClass_of_methodNamed B.named
  have hi0 : ∀ w ∈ wsX00, w ∈ wsX0_open := fun w h => List.mem_cons_of_mem _ (List.mem_append_right _ h)
  have hl := lv_entry ([.ref (a_o A), .int b]) (n := 2) (Nat.le_of_ble_eq_true rfl)
  rw [lg_entry_eq]
  generalize (lg_sl ([.ref (a_o A), .int b]) ++ List.replicate (2 - (lg_sl ([.ref (a_o A), .int b])).length) Slot.unset).toArray = ls at hl ⊢
  have hl : lv_has ls 2 [(0, .ref (a_o A)), (1, .int b)] := hl
  have hD := hD0.self (sz := s.heap.size)
  have hA : ∀ z : Nat, s.heap.size ≤ z → va_A (rgW cI cA A r) s.heap.size z := fun z h => Or.inr h
  have hS : va_S (va_A (rgW cI cA A r) s.heap.size) s.heap s.heap [] := va_S.rf
  obtain ⟨k1, k2, k3, k4, k5, k6⟩ := id hk
  have nx9 : nxo r < v_N r := by unfold nxo; split <;> omega
  have hP : va_P D vwCl [(a_o A, .inr (0, [.int (nI (v_N r)), .int (nI (v_w r)), .ref (a_s A), .ref (a_f A), .int (nI (v_o r)), .int (nI (v_h r)), .int (v_g r)])), (a_s A, .inl (cI, v_N r, .inl (v_S r))), (a_f A, .inl (cA, 4, .inr (.inr (.inr (.inr (fun k => some (a_b A k))))))), (a_b A 0, .inl (cI, v_N r, .inl (v_F r 0))), (a_b A 1, .inl (cI, v_N r, .inl (v_F r 1))), (a_b A 2, .inl (cI, v_N r, .inl (v_F r 2))), (a_b A 3, .inl (cI, v_N r, .inl (v_F r 3)))] s.heap := hP
  have hD : va_D (va_A (rgW cI cA A r) s.heap.size) [(a_o A, .inr (0, [.int (nI (v_N r)), .int (nI (v_w r)), .ref (a_s A), .ref (a_f A), .int (nI (v_o r)), .int (nI (v_h r)), .int (v_g r)])), (a_s A, .inl (cI, v_N r, .inl (v_S r))), (a_f A, .inl (cA, 4, .inr (.inr (.inr (.inr (fun k => some (a_b A k))))))), (a_b A 0, .inl (cI, v_N r, .inl (v_F r 0))), (a_b A 1, .inl (cI, v_N r, .inl (v_F r 1))), (a_b A 2, .inl (cI, v_N r, .inl (v_F r 2))), (a_b A 3, .inl (cI, v_N r, .inl (v_F r 3)))] := hD
  refine lv_aload_n hx hb dX0_open_0 rfl (lv_at hl 0 rfl) ?_
  refine va_get (D := D) (ci := 0) (v := .int (nI (v_h r))) (C := RX0) (T := TX0) (N := 7) hx hb hts hi0 hown hK hP 0 rfl rfl 5 (by decide) (hts (.fieldLink RX0 30 "RingSeries$Ring" "held" "I") (by decide +kernel)) (fun _ h9 => h9) rfl dX0_open_1 ?_
  refine lv_aload_n hx hb dX0_open_4 rfl (lv_at hl 0 rfl) ?_
  refine va_get (D := D) (ci := 0) (v := .int (nI (v_N r))) (C := RX0) (T := TX0) (N := 7) hx hb hts hi0 hown hK hP 0 rfl rfl 0 (by decide) (hts (.fieldLink RX0 15 "RingSeries$Ring" "room" "I") (by decide +kernel)) (fun _ h9 => h9) rfl dX0_open_5 ?_
  refine lv_icmp_ge (tgt := 24) hx hb dX0_open_8 (by decide) (fun c_8 => ?_) (fun c_8 => ?_)
  · have c_8 := (nI_leI (a := v_N r) (b := v_h r) (by omega) (by omega)).mp c_8
    refine lv_aload_n hx hb dX0_open_24 rfl (lv_at hl 0 rfl) ?_
    refine lv_aload_n hx hb dX0_open_25 rfl (lv_at hl 0 rfl) ?_
    refine va_get (D := D) (ci := 0) (v := .ref (a_s A)) (C := RX0) (T := TX0) (N := 7) hx hb hts hi0 hown hK hP 0 rfl rfl 2 (by decide) (hts (.fieldLink RX0 21 "RingSeries$Ring" "starts" "[I") (by decide +kernel)) (fun _ h9 => h9) rfl dX0_open_26 ?_
    refine lv_aload_n hx hb dX0_open_29 rfl (lv_at hl 0 rfl) ?_
    refine va_get (D := D) (ci := 0) (v := .int (nI (v_o r))) (C := RX0) (T := TX0) (N := 7) hx hb hts hi0 hown hK hP 0 rfl rfl 4 (by decide) (hts (.fieldLink RX0 79 "RingSeries$Ring" "oldest" "I") (by decide +kernel)) (fun _ h9 => h9) rfl dX0_open_30 ?_
    refine ald_i (j := (v_o r)) hx hb hK hP 1 0 rfl rfl (by omega) (by omega) dX0_open_33 ?_
    refine va_put (D := D) (ci := 0) (v := .int ((v_S r) (v_o r))) (ty := .int) (C := RX0) (T := TX0) (N := 7) hx hb hts hi0 tyX0 tyX0_ok nmX0 hown hK hP hD hS 0 rfl rfl 6 (by decide) (hts (.fieldLink RX0 9 "RingSeries$Ring" "gone" "I") (by decide +kernel)) (fun _ h9 => h9) rfl (by decide +kernel) rfl rfl (Nat.le_of_ble_eq_true rfl) dX0_open_34 (fun H locs hP hD hS => ?_)
    have hP : va_P D vwCl [(a_o A, .inr (0, [.int (nI (v_N r)), .int (nI (v_w r)), .ref (a_s A), .ref (a_f A), .int (nI (v_o r)), .int (nI (v_h r)), .int ((v_S r) (v_o r))])), (a_s A, .inl (cI, v_N r, .inl (v_S r))), (a_f A, .inl (cA, 4, .inr (.inr (.inr (.inr (fun k => some (a_b A k))))))), (a_b A 0, .inl (cI, v_N r, .inl (v_F r 0))), (a_b A 1, .inl (cI, v_N r, .inl (v_F r 1))), (a_b A 2, .inl (cI, v_N r, .inl (v_F r 2))), (a_b A 3, .inl (cI, v_N r, .inl (v_F r 3)))] H := hP
    have hD : va_D (va_A (rgW cI cA A r) s.heap.size) [(a_o A, .inr (0, [.int (nI (v_N r)), .int (nI (v_w r)), .ref (a_s A), .ref (a_f A), .int (nI (v_o r)), .int (nI (v_h r)), .int ((v_S r) (v_o r))])), (a_s A, .inl (cI, v_N r, .inl (v_S r))), (a_f A, .inl (cA, 4, .inr (.inr (.inr (.inr (fun k => some (a_b A k))))))), (a_b A 0, .inl (cI, v_N r, .inl (v_F r 0))), (a_b A 1, .inl (cI, v_N r, .inl (v_F r 1))), (a_b A 2, .inl (cI, v_N r, .inl (v_F r 2))), (a_b A 3, .inl (cI, v_N r, .inl (v_F r 3)))] := hD
    refine lv_aload_n hx hb dX0_open_37 rfl (lv_at hl 0 rfl) ?_
    refine lv_aload_n hx hb dX0_open_38 rfl (lv_at hl 0 rfl) ?_
    refine va_get (D := D) (ci := 0) (v := .int (nI (v_o r))) (C := RX0) (T := TX0) (N := 7) hx hb hts hi0 hown hK hP 0 rfl rfl 4 (by decide) (hts (.fieldLink RX0 79 "RingSeries$Ring" "oldest" "I") (by decide +kernel)) (fun _ h9 => h9) rfl dX0_open_39 ?_
    refine lv_iconst (v := 1) hx hb dX0_open_42 (by decide) ?_
    refine lv_iadd hx hb dX0_open_43 ?_
    refine top_i (nI_add _ 1) ?_
    refine lv_aload_n hx hb dX0_open_44 rfl (lv_at hl 0 rfl) ?_
    refine va_get (D := D) (ci := 0) (v := .int (nI (v_N r))) (C := RX0) (T := TX0) (N := 7) hx hb hts hi0 hown hK hP 0 rfl rfl 0 (by decide) (hts (.fieldLink RX0 15 "RingSeries$Ring" "room" "I") (by decide +kernel)) (fun _ h9 => h9) rfl dX0_open_45 ?_
    refine lv_icmp_ge (tgt := 60) hx hb dX0_open_48 (by decide) (fun c_48 => ?_) (fun c_48 => ?_)
    · have c_48 := (nI_leI (a := v_N r) (b := (v_o r) + 1) (by omega) (by omega)).mp c_48
      refine lv_iconst (v := 0) hx hb dX0_open_60 (by decide) ?_
      refine top_i (show (0 : Int32) = nI (nxo r) by unfold nxo; rw [if_neg (by omega)]; rfl) ?_
      refine va_put (D := D) (ci := 0) (v := .int (nI (nxo r))) (ty := .int) (C := RX0) (T := TX0) (N := 7) hx hb hts hi0 tyX0 tyX0_ok nmX0 hown hK hP hD hS 0 rfl rfl 4 (by decide) (hts (.fieldLink RX0 79 "RingSeries$Ring" "oldest" "I") (by decide +kernel)) (fun _ h9 => h9) rfl (by decide +kernel) rfl rfl (Nat.le_of_ble_eq_true rfl) dX0_open_61 (fun H locs hP hD hS => ?_)
      have hP : va_P D vwCl [(a_o A, .inr (0, [.int (nI (v_N r)), .int (nI (v_w r)), .ref (a_s A), .ref (a_f A), .int (nI (nxo r)), .int (nI (v_h r)), .int ((v_S r) (v_o r))])), (a_s A, .inl (cI, v_N r, .inl (v_S r))), (a_f A, .inl (cA, 4, .inr (.inr (.inr (.inr (fun k => some (a_b A k))))))), (a_b A 0, .inl (cI, v_N r, .inl (v_F r 0))), (a_b A 1, .inl (cI, v_N r, .inl (v_F r 1))), (a_b A 2, .inl (cI, v_N r, .inl (v_F r 2))), (a_b A 3, .inl (cI, v_N r, .inl (v_F r 3)))] H := hP
      have hD : va_D (va_A (rgW cI cA A r) s.heap.size) [(a_o A, .inr (0, [.int (nI (v_N r)), .int (nI (v_w r)), .ref (a_s A), .ref (a_f A), .int (nI (nxo r)), .int (nI (v_h r)), .int ((v_S r) (v_o r))])), (a_s A, .inl (cI, v_N r, .inl (v_S r))), (a_f A, .inl (cA, 4, .inr (.inr (.inr (.inr (fun k => some (a_b A k))))))), (a_b A 0, .inl (cI, v_N r, .inl (v_F r 0))), (a_b A 1, .inl (cI, v_N r, .inl (v_F r 1))), (a_b A 2, .inl (cI, v_N r, .inl (v_F r 2))), (a_b A 3, .inl (cI, v_N r, .inl (v_F r 3)))] := hD
      refine lv_aload_n hx hb dX0_open_64 rfl (lv_at hl 0 rfl) ?_
      refine va_get (D := D) (ci := 0) (v := .ref (a_s A)) (C := RX0) (T := TX0) (N := 7) hx hb hts hi0 hown hK hP 0 rfl rfl 2 (by decide) (hts (.fieldLink RX0 21 "RingSeries$Ring" "starts" "[I") (by decide +kernel)) (fun _ h9 => h9) rfl dX0_open_65 ?_
      refine lv_aload_n hx hb dX0_open_68 rfl (lv_at hl 0 rfl) ?_
      refine lv_aload_n hx hb dX0_open_69 rfl (lv_at hl 0 rfl) ?_
      refine va_get (D := D) (ci := 0) (v := .int (nI (v_h r))) (C := RX0) (T := TX0) (N := 7) hx hb hts hi0 hown hK hP 0 rfl rfl 5 (by decide) (hts (.fieldLink RX0 30 "RingSeries$Ring" "held" "I") (by decide +kernel)) (fun _ h9 => h9) rfl dX0_open_70 ?_
      refine lv_iconst (v := 1) hx hb dX0_open_73 (by decide) ?_
      refine lv_isub hx hb dX0_open_74 ?_
      refine top_i (pk_sub (a := v_h r) (b := 1) (by omega)) ?_
      refine ro_call (va_runV (As := [.int (nI ((v_h r) - 1))]) (rest := [.ref (a_s A)]) ⟨hx, hb, hml, hown, hts⟩ (c_X0_slot l A (u_o (u_g r ((v_S r) (v_o r))) (nxo r)) (ok_o (ok_g hk) nx9) (show va_P D vwCl (rgW cI cA A (u_o (u_g r ((v_S r) (v_o r))) (nxo r))) _ from hP) ((v_h r) - 1) (by show _ < v_N r; omega)) (cwV 1 hts gX0_open_X0_slot rfl rfl rfl (by decide +kernel) ⟨Nat.le_of_ble_eq_true rfl, Nat.le_of_ble_eq_true rfl⟩) (ro_preV hK (va_recv hK hP (ci := 0) (q0 := 0) rfl rfl)) rfl rfl hl.1 rfl (lv_room (Nat.le_of_ble_eq_true rfl)) dX0_open_75 ⟨Nat.zero_le _, Nat.zero_le _⟩) ?_
      refine lv_iload_n hx hb dX0_open_78 rfl (lv_at hl 1 rfl) ?_
      refine ast_i (j := (sl (u_o (u_g r ((v_S r) (v_o r))) (nxo r)) ((v_h r) - 1))) hx hb hK hP hD hS 1 0 rfl rfl (sl_lt (ok_o (ok_g hk) nx9) (by show _ < v_N r; omega)) (by omega) dX0_open_79 (fun H locs hP hD hS => ?_)
      have hP : va_P D vwCl [(a_o A, .inr (0, [.int (nI (v_N r)), .int (nI (v_w r)), .ref (a_s A), .ref (a_f A), .int (nI (nxo r)), .int (nI (v_h r)), .int ((v_S r) (v_o r))])), (a_s A, .inl (cI, v_N r, .inl (upd (v_S r) (sl (u_o (u_g r ((v_S r) (v_o r))) (nxo r)) ((v_h r) - 1)) b))), (a_f A, .inl (cA, 4, .inr (.inr (.inr (.inr (fun k => some (a_b A k))))))), (a_b A 0, .inl (cI, v_N r, .inl (v_F r 0))), (a_b A 1, .inl (cI, v_N r, .inl (v_F r 1))), (a_b A 2, .inl (cI, v_N r, .inl (v_F r 2))), (a_b A 3, .inl (cI, v_N r, .inl (v_F r 3)))] H := hP
      have hD : va_D (va_A (rgW cI cA A r) s.heap.size) [(a_o A, .inr (0, [.int (nI (v_N r)), .int (nI (v_w r)), .ref (a_s A), .ref (a_f A), .int (nI (nxo r)), .int (nI (v_h r)), .int ((v_S r) (v_o r))])), (a_s A, .inl (cI, v_N r, .inl (upd (v_S r) (sl (u_o (u_g r ((v_S r) (v_o r))) (nxo r)) ((v_h r) - 1)) b))), (a_f A, .inl (cA, 4, .inr (.inr (.inr (.inr (fun k => some (a_b A k))))))), (a_b A 0, .inl (cI, v_N r, .inl (v_F r 0))), (a_b A 1, .inl (cI, v_N r, .inl (v_F r 1))), (a_b A 2, .inl (cI, v_N r, .inl (v_F r 2))), (a_b A 3, .inl (cI, v_N r, .inl (v_F r 3)))] := hD
      exact wr_vret hx hb hr (show va_P D vwCl (rgW cI cA A (opB r b)) _ from hP) hS dX0_open_80 hlocks
    · have c_48 := mt (nI_leI (a := v_N r) (b := (v_o r) + 1) (by omega) (by omega)).mpr c_48
      refine lv_aload_n hx hb dX0_open_51 rfl (lv_at hl 0 rfl) ?_
      refine va_get (D := D) (ci := 0) (v := .int (nI (v_o r))) (C := RX0) (T := TX0) (N := 7) hx hb hts hi0 hown hK hP 0 rfl rfl 4 (by decide) (hts (.fieldLink RX0 79 "RingSeries$Ring" "oldest" "I") (by decide +kernel)) (fun _ h9 => h9) rfl dX0_open_52 ?_
      refine lv_iconst (v := 1) hx hb dX0_open_55 (by decide) ?_
      refine lv_iadd hx hb dX0_open_56 ?_
      refine top_i (nI_add _ 1) ?_
      refine lv_goto (tgt := 61) hx hb dX0_open_57 (by decide) ?_
      refine top_i (show nI (v_o r + 1) = nI (nxo r) by unfold nxo; rw [if_pos (by omega)]) ?_
      refine va_put (D := D) (ci := 0) (v := .int (nI (nxo r))) (ty := .int) (C := RX0) (T := TX0) (N := 7) hx hb hts hi0 tyX0 tyX0_ok nmX0 hown hK hP hD hS 0 rfl rfl 4 (by decide) (hts (.fieldLink RX0 79 "RingSeries$Ring" "oldest" "I") (by decide +kernel)) (fun _ h9 => h9) rfl (by decide +kernel) rfl rfl (Nat.le_of_ble_eq_true rfl) dX0_open_61 (fun H locs hP hD hS => ?_)
      have hP : va_P D vwCl [(a_o A, .inr (0, [.int (nI (v_N r)), .int (nI (v_w r)), .ref (a_s A), .ref (a_f A), .int (nI (nxo r)), .int (nI (v_h r)), .int ((v_S r) (v_o r))])), (a_s A, .inl (cI, v_N r, .inl (v_S r))), (a_f A, .inl (cA, 4, .inr (.inr (.inr (.inr (fun k => some (a_b A k))))))), (a_b A 0, .inl (cI, v_N r, .inl (v_F r 0))), (a_b A 1, .inl (cI, v_N r, .inl (v_F r 1))), (a_b A 2, .inl (cI, v_N r, .inl (v_F r 2))), (a_b A 3, .inl (cI, v_N r, .inl (v_F r 3)))] H := hP
      have hD : va_D (va_A (rgW cI cA A r) s.heap.size) [(a_o A, .inr (0, [.int (nI (v_N r)), .int (nI (v_w r)), .ref (a_s A), .ref (a_f A), .int (nI (nxo r)), .int (nI (v_h r)), .int ((v_S r) (v_o r))])), (a_s A, .inl (cI, v_N r, .inl (v_S r))), (a_f A, .inl (cA, 4, .inr (.inr (.inr (.inr (fun k => some (a_b A k))))))), (a_b A 0, .inl (cI, v_N r, .inl (v_F r 0))), (a_b A 1, .inl (cI, v_N r, .inl (v_F r 1))), (a_b A 2, .inl (cI, v_N r, .inl (v_F r 2))), (a_b A 3, .inl (cI, v_N r, .inl (v_F r 3)))] := hD
      refine lv_aload_n hx hb dX0_open_64 rfl (lv_at hl 0 rfl) ?_
      refine va_get (D := D) (ci := 0) (v := .ref (a_s A)) (C := RX0) (T := TX0) (N := 7) hx hb hts hi0 hown hK hP 0 rfl rfl 2 (by decide) (hts (.fieldLink RX0 21 "RingSeries$Ring" "starts" "[I") (by decide +kernel)) (fun _ h9 => h9) rfl dX0_open_65 ?_
      refine lv_aload_n hx hb dX0_open_68 rfl (lv_at hl 0 rfl) ?_
      refine lv_aload_n hx hb dX0_open_69 rfl (lv_at hl 0 rfl) ?_
      refine va_get (D := D) (ci := 0) (v := .int (nI (v_h r))) (C := RX0) (T := TX0) (N := 7) hx hb hts hi0 hown hK hP 0 rfl rfl 5 (by decide) (hts (.fieldLink RX0 30 "RingSeries$Ring" "held" "I") (by decide +kernel)) (fun _ h9 => h9) rfl dX0_open_70 ?_
      refine lv_iconst (v := 1) hx hb dX0_open_73 (by decide) ?_
      refine lv_isub hx hb dX0_open_74 ?_
      refine top_i (pk_sub (a := v_h r) (b := 1) (by omega)) ?_
      refine ro_call (va_runV (As := [.int (nI ((v_h r) - 1))]) (rest := [.ref (a_s A)]) ⟨hx, hb, hml, hown, hts⟩ (c_X0_slot l A (u_o (u_g r ((v_S r) (v_o r))) (nxo r)) (ok_o (ok_g hk) nx9) (show va_P D vwCl (rgW cI cA A (u_o (u_g r ((v_S r) (v_o r))) (nxo r))) _ from hP) ((v_h r) - 1) (by show _ < v_N r; omega)) (cwV 1 hts gX0_open_X0_slot rfl rfl rfl (by decide +kernel) ⟨Nat.le_of_ble_eq_true rfl, Nat.le_of_ble_eq_true rfl⟩) (ro_preV hK (va_recv hK hP (ci := 0) (q0 := 0) rfl rfl)) rfl rfl hl.1 rfl (lv_room (Nat.le_of_ble_eq_true rfl)) dX0_open_75 ⟨Nat.zero_le _, Nat.zero_le _⟩) ?_
      refine lv_iload_n hx hb dX0_open_78 rfl (lv_at hl 1 rfl) ?_
      refine ast_i (j := (sl (u_o (u_g r ((v_S r) (v_o r))) (nxo r)) ((v_h r) - 1))) hx hb hK hP hD hS 1 0 rfl rfl (sl_lt (ok_o (ok_g hk) nx9) (by show _ < v_N r; omega)) (by omega) dX0_open_79 (fun H locs hP hD hS => ?_)
      have hP : va_P D vwCl [(a_o A, .inr (0, [.int (nI (v_N r)), .int (nI (v_w r)), .ref (a_s A), .ref (a_f A), .int (nI (nxo r)), .int (nI (v_h r)), .int ((v_S r) (v_o r))])), (a_s A, .inl (cI, v_N r, .inl (upd (v_S r) (sl (u_o (u_g r ((v_S r) (v_o r))) (nxo r)) ((v_h r) - 1)) b))), (a_f A, .inl (cA, 4, .inr (.inr (.inr (.inr (fun k => some (a_b A k))))))), (a_b A 0, .inl (cI, v_N r, .inl (v_F r 0))), (a_b A 1, .inl (cI, v_N r, .inl (v_F r 1))), (a_b A 2, .inl (cI, v_N r, .inl (v_F r 2))), (a_b A 3, .inl (cI, v_N r, .inl (v_F r 3)))] H := hP
      have hD : va_D (va_A (rgW cI cA A r) s.heap.size) [(a_o A, .inr (0, [.int (nI (v_N r)), .int (nI (v_w r)), .ref (a_s A), .ref (a_f A), .int (nI (nxo r)), .int (nI (v_h r)), .int ((v_S r) (v_o r))])), (a_s A, .inl (cI, v_N r, .inl (upd (v_S r) (sl (u_o (u_g r ((v_S r) (v_o r))) (nxo r)) ((v_h r) - 1)) b))), (a_f A, .inl (cA, 4, .inr (.inr (.inr (.inr (fun k => some (a_b A k))))))), (a_b A 0, .inl (cI, v_N r, .inl (v_F r 0))), (a_b A 1, .inl (cI, v_N r, .inl (v_F r 1))), (a_b A 2, .inl (cI, v_N r, .inl (v_F r 2))), (a_b A 3, .inl (cI, v_N r, .inl (v_F r 3)))] := hD
      exact wr_vret hx hb hr (show va_P D vwCl (rgW cI cA A (opB r b)) _ from hP) hS dX0_open_80 hlocks
  · have c_8 := mt (nI_leI (a := v_N r) (b := v_h r) (by omega) (by omega)).mpr c_8
    exact absurd c_8 (by omega)
theorem c_X0_open (l : Launch) {D : va_G} {cI cA cJ : ClassId} {H : Heap} (A : rgA) (r : rgV) (hk : r_ok r) (hP : va_P D vwCl (rgW cI cA A r) H) {A0 : Nat → Prop} (hD0 : va_D A0 (rgW cI cA A r)) (b : Int32) : Met l yX0_open wsX0_open ({ frames := 1, cells := 0, slots := 0, locals := 22 }) (ro_P D vwCl (tyL cI cA cJ) H [.ref (a_o A), .int b]) (wr_Q none D vwCl H (rgW cI cA A r) (rgW cI cA A (opV r b))) 0 0 (va_A (rgW cI cA A r) H.size) := by
  unfold opV
  by_cases h : v_h r < v_N r
  · rw [if_pos h]; exact c_X0_open_a l A r hk hP hD0 b h
  · rw [if_neg h]; exact c_X0_open_b l A r hk hP hD0 b h
theorem opV_ok {r : rgV} {b : Int32} (hk : r_ok r) : r_ok (opV r b) ∧ v_N (opV r b) = v_N r ∧ v_w (opV r b) = v_w r ∧ v_F (opV r b) = v_F r ∧ 1 ≤ v_h (opV r b) := by
  obtain ⟨k1, k2, k3, k4, k5, k6⟩ := id hk
  unfold opV
  by_cases h : v_h r < v_N r
  · rw [if_pos h]
    exact ⟨ok_S (ok_h hk (by omega)), rfl, rfl, rfl, Nat.le_add_left 1 (v_h r)⟩
  · rw [if_neg h]
    refine ⟨ok_S (ok_o (ok_g hk) ?_), rfl, rfl, rfl, (show 1 ≤ v_h r by omega)⟩
    show nxo r < v_N r
    unfold nxo
    split <;> omega
/-- figures of a point joined to an entry's, or alone -/
def ow (k : Nat) (v : Int32) : Int32 := if k = 3 then 1 else v
def rowN (r : rgV) (v : Int32) : rgV := u_F r (fU (fU (fU (fU (v_F r) 0 (upd (v_F r 0) (sl r (v_h r - 1)) v)) 1 (upd (v_F r 1) (sl r (v_h r - 1)) v)) 2 (upd (v_F r 2) (sl r (v_h r - 1)) v)) 3 (upd (v_F r 3) (sl r (v_h r - 1)) 1))
def rowJ (r : rgV) (v : Int32) : rgV := u_F r (fU (fU (fU (fU (v_F r) 0 (upd (v_F r 0) (sl r (v_h r - 1)) (jn 0 (v_F r 0 (sl r (v_h r - 1))) v))) 1 (upd (v_F r 1) (sl r (v_h r - 1)) (jn 1 (v_F r 1 (sl r (v_h r - 1))) v))) 2 (upd (v_F r 2) (sl r (v_h r - 1)) (jn 2 (v_F r 2 (sl r (v_h r - 1))) v))) 3 (upd (v_F r 3) (sl r (v_h r - 1)) (jn 3 (v_F r 3 (sl r (v_h r - 1))) 1)))
/-- a point comes to a ring -/
abbrev opn (r : rgV) (tm : Nat) : Prop := v_h r = 0 ∨ ¬ v_E r (v_h r - 1) = nI (tm - tm % v_w r)
def tkV (r : rgV) (tm : Nat) (v : Int32) : rgV := if opn r tm then rowN (opV r (nI (tm - tm % v_w r))) v else rowJ r v
set_option maxHeartbeats 4000000 in
set_option maxRecDepth 100000 in
/-- take(time, value) -/
theorem c_X0_take_a (l : Launch) {D : va_G} {cI cA cJ : ClassId} {H : Heap} (A : rgA) (r : rgV) (hk : r_ok r) (hP : va_P D vwCl (rgW cI cA A r) H) {A0 : Nat → Prop} (hD0 : va_D A0 (rgW cI cA A r)) (tm : Nat) (ht : tm < 2 ^ 31) (v : Int32) (ho : opn r tm) : Met l yX0_take wsX0_take ({ frames := 2, cells := 0, slots := 0, locals := 43 }) (ro_P D vwCl (tyL cI cA cJ) H [.ref (a_o A), .int (nI tm), .int v]) (wr_Q (none) D vwCl H (rgW cI cA A r) (rgW cI cA A (rowN (opV r (nI (tm - tm % v_w r))) v))) 0 0 (va_A (rgW cI cA A r) H.size) := by
  refine Met.ofW (cc := cX0_take) (maxL := 9) (ret := none) (by decide) rfl ?_
  intro p e s m args below meth c s₁ B hml hv
  obtain ⟨rfl, hh, hK⟩ := hv
  subst hh
  have hx := B.exec
  have hb := B.bytes
  have hr := B.returns
  have hlocks := B.notSynchronized
  have hts := atoms_spec (ws := wsX0_take) B.pre
  have hown : s.vm.findClass RX0 = some m.cls := findClass_of_methodNamed B.named
  have hi0 : ∀ w ∈ wsX00, w ∈ wsX0_take := fun w h => List.mem_cons_of_mem _ (List.mem_append_right _ h)
  have hl := lv_entry ([.ref (a_o A), .int (nI tm), .int v]) (n := 9) (Nat.le_of_ble_eq_true rfl)
  rw [lg_entry_eq]
  generalize (lg_sl ([.ref (a_o A), .int (nI tm), .int v]) ++ List.replicate (9 - (lg_sl ([.ref (a_o A), .int (nI tm), .int v])).length) Slot.unset).toArray = ls at hl ⊢
  have hl : lv_has ls 9 [(0, .ref (a_o A)), (1, .int (nI tm)), (2, .int v)] := hl
  have hD := hD0.self (sz := s.heap.size)
  have hA : ∀ z : Nat, s.heap.size ≤ z → va_A (rgW cI cA A r) s.heap.size z := fun z h => Or.inr h
  have hS : va_S (va_A (rgW cI cA A r) s.heap.size) s.heap s.heap [] := va_S.rf
  obtain ⟨k1, k2, k3, k4, k5, k6⟩ := id hk
  have q9 : tm % v_w r ≤ tm := Nat.mod_le _ _
  have hP : va_P D vwCl [(a_o A, .inr (0, [.int (nI (v_N r)), .int (nI (v_w r)), .ref (a_s A), .ref (a_f A), .int (nI (v_o r)), .int (nI (v_h r)), .int (v_g r)])), (a_s A, .inl (cI, v_N r, .inl (v_S r))), (a_f A, .inl (cA, 4, .inr (.inr (.inr (.inr (fun k => some (a_b A k))))))), (a_b A 0, .inl (cI, v_N r, .inl (v_F r 0))), (a_b A 1, .inl (cI, v_N r, .inl (v_F r 1))), (a_b A 2, .inl (cI, v_N r, .inl (v_F r 2))), (a_b A 3, .inl (cI, v_N r, .inl (v_F r 3)))] s.heap := hP
  have hD : va_D (va_A (rgW cI cA A r) s.heap.size) [(a_o A, .inr (0, [.int (nI (v_N r)), .int (nI (v_w r)), .ref (a_s A), .ref (a_f A), .int (nI (v_o r)), .int (nI (v_h r)), .int (v_g r)])), (a_s A, .inl (cI, v_N r, .inl (v_S r))), (a_f A, .inl (cA, 4, .inr (.inr (.inr (.inr (fun k => some (a_b A k))))))), (a_b A 0, .inl (cI, v_N r, .inl (v_F r 0))), (a_b A 1, .inl (cI, v_N r, .inl (v_F r 1))), (a_b A 2, .inl (cI, v_N r, .inl (v_F r 2))), (a_b A 3, .inl (cI, v_N r, .inl (v_F r 3)))] := hD
  refine lv_iload_n hx hb dX0_take_0 rfl (lv_at hl 1 rfl) ?_
  refine lv_iload_n hx hb dX0_take_1 rfl (lv_at hl 1 rfl) ?_
  refine lv_aload_n hx hb dX0_take_2 rfl (lv_at hl 0 rfl) ?_
  refine va_get (D := D) (ci := 0) (v := .int (nI (v_w r))) (C := RX0) (T := TX0) (N := 7) hx hb hts hi0 hown hK hP 0 rfl rfl 1 (by decide) (hts (.fieldLink RX0 18 "RingSeries$Ring" "width" "I") (by decide +kernel)) (fun _ h9 => h9) rfl dX0_take_3 ?_
  refine lv_irem hx hb dX0_take_6 (nI_ne0 (by omega) (by omega)) ?_
  refine top_i (pk_rem (by omega) (by omega) (by omega)) ?_
  refine lv_isub hx hb dX0_take_7 ?_
  refine top_i (pk_sub (a := tm) (b := tm % v_w r) (Nat.mod_le _ _)) ?_
  refine lv_istore_n (lv' := [(3, .int (nI (tm - (tm % v_w r)))), (0, .ref (a_o A)), (1, .int (nI tm)), (2, .int v)]) hx hb dX0_take_8 rfl hl (by decide) rfl (fun ls hl => ?_)
  refine lv_aload_n hx hb dX0_take_9 rfl (lv_at hl 1 rfl) ?_
  refine va_get (D := D) (ci := 0) (v := .int (nI (v_h r))) (C := RX0) (T := TX0) (N := 7) hx hb hts hi0 hown hK hP 0 rfl rfl 5 (by decide) (hts (.fieldLink RX0 30 "RingSeries$Ring" "held" "I") (by decide +kernel)) (fun _ h9 => h9) rfl dX0_take_10 ?_
  refine lv_if_eq (tgt := 30) hx hb dX0_take_13 (by decide) (fun c_13 => ?_) (fun c_13 => ?_)
  · have c_13 := (nI_eq (a := v_h r) (b := 0) (by omega) (by omega)).mp c_13
    refine lv_iconst (v := 1) hx hb dX0_take_30 (by decide) ?_
    refine lv_goto (tgt := 35) hx hb dX0_take_31 (by decide) ?_
    refine lv_istore (lv' := [(4, .int 1), (3, .int (nI (tm - (tm % v_w r)))), (0, .ref (a_o A)), (1, .int (nI tm)), (2, .int v)]) hx hb dX0_take_35 hl (by decide) rfl (fun ls hl => ?_)
    refine lv_iload hx hb dX0_take_37 (lv_at hl 0 rfl) ?_
    refine lv_if_eq (tgt := 47) hx hb dX0_take_39 (by decide) (fun c_39 => ?_) (fun c_39 => ?_)
    · exact absurd c_39 (by decide)
    · refine lv_aload_n hx hb dX0_take_42 rfl (lv_at hl 2 rfl) ?_
      refine lv_iload_n hx hb dX0_take_43 rfl (lv_at hl 1 rfl) ?_
      refine wr_call (va_runV (As := [.int (nI (tm - (tm % v_w r)))]) (rest := []) ⟨hx, hb, hml, hown, hts⟩ (c_X0_open l A r hk (show va_P D vwCl (rgW cI cA A r) _ from hP) hD (nI (tm - tm % v_w r))) (cwV 1 hts gX0_take_X0_open rfl rfl rfl (by decide +kernel) ⟨Nat.le_of_ble_eq_true rfl, Nat.le_of_ble_eq_true rfl⟩) (ro_preV hK (va_recv hK hP (ci := 0) (q0 := 0) rfl rfl)) rfl rfl hl.1 rfl (lv_room (Nat.le_of_ble_eq_true rfl)) dX0_take_44 ⟨Nat.zero_le _, Nat.zero_le _⟩) hS (fun q h => h) (fun H locs hP _ _ hS => ?_)
      have hD : va_D (va_A (rgW cI cA A r) s.heap.size) (rgW cI cA A (opV r (nI (tm - tm % v_w r)))) := rgW_D (r := r) hD
      obtain ⟨o1, o2, o3, o4, o5⟩ := opV_ok (b := nI (tm - tm % v_w r)) hk
      generalize opV r (nI (tm - tm % v_w r)) = r1 at hP hD o1 o2 o3 o4 o5 ⊢
      obtain ⟨z1, z2, z3, z4, z5, z6⟩ := id o1
      have s9 : sl r1 (v_h r1 - 1) < v_N r1 := sl_lt o1 (by omega)
      have hP : va_P D vwCl [(a_o A, .inr (0, [.int (nI (v_N r1)), .int (nI (v_w r1)), .ref (a_s A), .ref (a_f A), .int (nI (v_o r1)), .int (nI (v_h r1)), .int (v_g r1)])), (a_s A, .inl (cI, v_N r1, .inl (v_S r1))), (a_f A, .inl (cA, 4, .inr (.inr (.inr (.inr (fun k => some (a_b A k))))))), (a_b A 0, .inl (cI, v_N r1, .inl (v_F r1 0))), (a_b A 1, .inl (cI, v_N r1, .inl (v_F r1 1))), (a_b A 2, .inl (cI, v_N r1, .inl (v_F r1 2))), (a_b A 3, .inl (cI, v_N r1, .inl (v_F r1 3)))] _ := hP
      have hD : va_D (va_A (rgW cI cA A r) s.heap.size) [(a_o A, .inr (0, [.int (nI (v_N r1)), .int (nI (v_w r1)), .ref (a_s A), .ref (a_f A), .int (nI (v_o r1)), .int (nI (v_h r1)), .int (v_g r1)])), (a_s A, .inl (cI, v_N r1, .inl (v_S r1))), (a_f A, .inl (cA, 4, .inr (.inr (.inr (.inr (fun k => some (a_b A k))))))), (a_b A 0, .inl (cI, v_N r1, .inl (v_F r1 0))), (a_b A 1, .inl (cI, v_N r1, .inl (v_F r1 1))), (a_b A 2, .inl (cI, v_N r1, .inl (v_F r1 2))), (a_b A 3, .inl (cI, v_N r1, .inl (v_F r1 3)))] := hD
      refine lv_aload_n hx hb dX0_take_47 rfl (lv_at hl 2 rfl) ?_
      refine lv_aload_n hx hb dX0_take_48 rfl (lv_at hl 2 rfl) ?_
      refine va_get (D := D) (ci := 0) (v := .int (nI (v_h r1))) (C := RX0) (T := TX0) (N := 7) hx hb hts hi0 hown hK hP 0 rfl rfl 5 (by decide) (hts (.fieldLink RX0 30 "RingSeries$Ring" "held" "I") (by decide +kernel)) (fun _ h9 => h9) rfl dX0_take_49 ?_
      refine lv_iconst (v := 1) hx hb dX0_take_52 (by decide) ?_
      refine lv_isub hx hb dX0_take_53 ?_
      refine top_i (pk_sub (a := v_h r1) (b := 1) (by omega)) ?_
      refine ro_call (va_runV (As := [.int (nI ((v_h r1) - 1))]) (rest := []) ⟨hx, hb, hml, hown, hts⟩ (c_X0_slot l A r1 o1 (show va_P D vwCl (rgW cI cA A r1) _ from hP) ((v_h r1) - 1) (by omega)) (cwV 1 hts gX0_take_X0_slot rfl rfl rfl (by decide +kernel) ⟨Nat.le_of_ble_eq_true rfl, Nat.le_of_ble_eq_true rfl⟩) (ro_preV hK (va_recv hK hP (ci := 0) (q0 := 0) rfl rfl)) rfl rfl hl.1 rfl (lv_room (Nat.le_of_ble_eq_true rfl)) dX0_take_54 ⟨Nat.zero_le _, Nat.zero_le _⟩) ?_
      refine lv_istore (lv' := [(5, .int (nI (sl r1 ((v_h r1) - 1)))), (4, .int 1), (3, .int (nI (tm - tm % v_w r))), (0, .ref (a_o A)), (1, .int (nI tm)), (2, .int v)]) hx hb dX0_take_57 hl (by decide) rfl (fun ls hl => ?_)
      refine lv_iconst (v := 0) hx hb dX0_take_59 (by decide) ?_
      refine lv_istore (lv' := [(6, .int 0), (5, .int (nI (sl r1 ((v_h r1) - 1)))), (4, .int 1), (3, .int (nI (tm - tm % v_w r))), (0, .ref (a_o A)), (1, .int (nI tm)), (2, .int v)]) hx hb dX0_take_60 hl (by decide) rfl (fun ls hl => ?_)
      refine lv_iload hx hb dX0_take_62 (lv_at hl 0 rfl) ?_
      refine lv_iconst (v := 4) hx hb dX0_take_64 (by decide) ?_
      refine lv_icmp_ge (tgt := 123) hx hb dX0_take_65 (by decide) (fun c_65 => ?_) (fun c_65 => ?_)
      · exact absurd c_65 (by decide)
      · refine lv_iload hx hb dX0_take_68 (lv_at hl 0 rfl) ?_
        refine lv_iconst (v := 3) hx hb dX0_take_70 (by decide) ?_
        refine lv_icmp_ne (tgt := 78) hx hb dX0_take_71 (by decide) (fun c_71 => ?_) (fun c_71 => ?_)
        · refine lv_iload_n hx hb dX0_take_78 rfl (lv_at hl 6 rfl) ?_
          refine lv_istore (lv' := [(7, .int v), (6, .int 0), (5, .int (nI (sl r1 ((v_h r1) - 1)))), (4, .int 1), (3, .int (nI (tm - tm % v_w r))), (0, .ref (a_o A)), (1, .int (nI tm)), (2, .int v)]) hx hb dX0_take_79 hl (by decide) rfl (fun ls hl => ?_)
          refine lv_aload_n hx hb dX0_take_81 rfl (lv_at hl 5 rfl) ?_
          refine va_get (D := D) (ci := 0) (v := .ref (a_f A)) (C := RX0) (T := TX0) (N := 7) hx hb hts hi0 hown hK hP 0 rfl rfl 3 (by decide) (hts (.fieldLink RX0 27 "RingSeries$Ring" "figures" "[[I") (by decide +kernel)) (fun _ h9 => h9) rfl dX0_take_82 ?_
          refine lv_iload hx hb dX0_take_85 (lv_at hl 1 rfl) ?_
          refine ald_a (j := 0) hx hb hK hP 2 1 rfl rfl (by omega) (by omega) dX0_take_87 ?_
          refine lv_astore (lv' := [(8, .ref (a_b A 0)), (7, .int v), (6, .int 0), (5, .int (nI (sl r1 ((v_h r1) - 1)))), (4, .int 1), (3, .int (nI (tm - tm % v_w r))), (0, .ref (a_o A)), (1, .int (nI tm)), (2, .int v)]) hx hb dX0_take_88 hl (by decide) rfl (fun ls hl => ?_)
          refine lv_aload hx hb dX0_take_90 (lv_at hl 0 rfl) ?_
          refine lv_iload hx hb dX0_take_92 (lv_at hl 3 rfl) ?_
          refine lv_iload hx hb dX0_take_94 (lv_at hl 4 rfl) ?_
          refine lv_if_eq (tgt := 104) hx hb dX0_take_96 (by decide) (fun c_96 => ?_) (fun c_96 => ?_)
          · exact absurd c_96 (by decide)
          · refine lv_iload hx hb dX0_take_99 (lv_at hl 1 rfl) ?_
            refine lv_goto (tgt := 116) hx hb dX0_take_101 (by decide) ?_
            refine ast_i (j := (sl r1 ((v_h r1) - 1))) hx hb hK hP hD hS 3 0 rfl rfl s9 (by omega) dX0_take_116 (fun H locs hP hD hS => ?_)
            have hP : va_P D vwCl [(a_o A, .inr (0, [.int (nI (v_N r1)), .int (nI (v_w r1)), .ref (a_s A), .ref (a_f A), .int (nI (v_o r1)), .int (nI (v_h r1)), .int (v_g r1)])), (a_s A, .inl (cI, v_N r1, .inl (v_S r1))), (a_f A, .inl (cA, 4, .inr (.inr (.inr (.inr (fun k => some (a_b A k))))))), (a_b A 0, .inl (cI, v_N r1, .inl (upd (v_F r1 0) (sl r1 ((v_h r1) - 1)) v))), (a_b A 1, .inl (cI, v_N r1, .inl (v_F r1 1))), (a_b A 2, .inl (cI, v_N r1, .inl (v_F r1 2))), (a_b A 3, .inl (cI, v_N r1, .inl (v_F r1 3)))] H := hP
            have hD : va_D (va_A (rgW cI cA A r) s.heap.size) [(a_o A, .inr (0, [.int (nI (v_N r1)), .int (nI (v_w r1)), .ref (a_s A), .ref (a_f A), .int (nI (v_o r1)), .int (nI (v_h r1)), .int (v_g r1)])), (a_s A, .inl (cI, v_N r1, .inl (v_S r1))), (a_f A, .inl (cA, 4, .inr (.inr (.inr (.inr (fun k => some (a_b A k))))))), (a_b A 0, .inl (cI, v_N r1, .inl (upd (v_F r1 0) (sl r1 ((v_h r1) - 1)) v))), (a_b A 1, .inl (cI, v_N r1, .inl (v_F r1 1))), (a_b A 2, .inl (cI, v_N r1, .inl (v_F r1 2))), (a_b A 3, .inl (cI, v_N r1, .inl (v_F r1 3)))] := hD
            refine lv_iinc (v := 1) (lv' := [(6, .int 1), (8, .ref (a_b A 0)), (7, .int v), (5, .int (nI (sl r1 ((v_h r1) - 1)))), (4, .int 1), (3, .int (nI (tm - tm % v_w r))), (0, .ref (a_o A)), (1, .int (nI tm)), (2, .int v)]) hx hb dX0_take_117 hl (k := 2) rfl (by decide) (by decide) rfl (fun ls hl => ?_)
            refine lv_goto (tgt := 62) hx hb dX0_take_120 (by decide) ?_
            refine lv_iload hx hb dX0_take_62 (lv_at hl 0 rfl) ?_
            refine lv_iconst (v := 4) hx hb dX0_take_64 (by decide) ?_
            refine lv_icmp_ge (tgt := 123) hx hb dX0_take_65 (by decide) (fun c_65 => ?_) (fun c_65 => ?_)
            · exact absurd c_65 (by decide)
            · refine lv_iload hx hb dX0_take_68 (lv_at hl 0 rfl) ?_
              refine lv_iconst (v := 3) hx hb dX0_take_70 (by decide) ?_
              refine lv_icmp_ne (tgt := 78) hx hb dX0_take_71 (by decide) (fun c_71 => ?_) (fun c_71 => ?_)
              · refine lv_iload_n hx hb dX0_take_78 rfl (lv_at hl 8 rfl) ?_
                refine lv_istore (lv' := [(7, .int v), (6, .int 1), (8, .ref (a_b A 0)), (5, .int (nI (sl r1 ((v_h r1) - 1)))), (4, .int 1), (3, .int (nI (tm - tm % v_w r))), (0, .ref (a_o A)), (1, .int (nI tm)), (2, .int v)]) hx hb dX0_take_79 hl (by decide) rfl (fun ls hl => ?_)
                refine lv_aload_n hx hb dX0_take_81 rfl (lv_at hl 6 rfl) ?_
                refine va_get (D := D) (ci := 0) (v := .ref (a_f A)) (C := RX0) (T := TX0) (N := 7) hx hb hts hi0 hown hK hP 0 rfl rfl 3 (by decide) (hts (.fieldLink RX0 27 "RingSeries$Ring" "figures" "[[I") (by decide +kernel)) (fun _ h9 => h9) rfl dX0_take_82 ?_
                refine lv_iload hx hb dX0_take_85 (lv_at hl 1 rfl) ?_
                refine ald_a (j := 1) hx hb hK hP 2 1 rfl rfl (by omega) (by omega) dX0_take_87 ?_
                refine lv_astore (lv' := [(8, .ref (a_b A 1)), (7, .int v), (6, .int 1), (5, .int (nI (sl r1 ((v_h r1) - 1)))), (4, .int 1), (3, .int (nI (tm - tm % v_w r))), (0, .ref (a_o A)), (1, .int (nI tm)), (2, .int v)]) hx hb dX0_take_88 hl (by decide) rfl (fun ls hl => ?_)
                refine lv_aload hx hb dX0_take_90 (lv_at hl 0 rfl) ?_
                refine lv_iload hx hb dX0_take_92 (lv_at hl 3 rfl) ?_
                refine lv_iload hx hb dX0_take_94 (lv_at hl 4 rfl) ?_
                refine lv_if_eq (tgt := 104) hx hb dX0_take_96 (by decide) (fun c_96 => ?_) (fun c_96 => ?_)
                · exact absurd c_96 (by decide)
                · refine lv_iload hx hb dX0_take_99 (lv_at hl 1 rfl) ?_
                  refine lv_goto (tgt := 116) hx hb dX0_take_101 (by decide) ?_
                  refine ast_i (j := (sl r1 ((v_h r1) - 1))) hx hb hK hP hD hS 4 0 rfl rfl s9 (by omega) dX0_take_116 (fun H locs hP hD hS => ?_)
                  have hP : va_P D vwCl [(a_o A, .inr (0, [.int (nI (v_N r1)), .int (nI (v_w r1)), .ref (a_s A), .ref (a_f A), .int (nI (v_o r1)), .int (nI (v_h r1)), .int (v_g r1)])), (a_s A, .inl (cI, v_N r1, .inl (v_S r1))), (a_f A, .inl (cA, 4, .inr (.inr (.inr (.inr (fun k => some (a_b A k))))))), (a_b A 0, .inl (cI, v_N r1, .inl (upd (v_F r1 0) (sl r1 ((v_h r1) - 1)) v))), (a_b A 1, .inl (cI, v_N r1, .inl (upd (v_F r1 1) (sl r1 ((v_h r1) - 1)) v))), (a_b A 2, .inl (cI, v_N r1, .inl (v_F r1 2))), (a_b A 3, .inl (cI, v_N r1, .inl (v_F r1 3)))] H := hP
                  have hD : va_D (va_A (rgW cI cA A r) s.heap.size) [(a_o A, .inr (0, [.int (nI (v_N r1)), .int (nI (v_w r1)), .ref (a_s A), .ref (a_f A), .int (nI (v_o r1)), .int (nI (v_h r1)), .int (v_g r1)])), (a_s A, .inl (cI, v_N r1, .inl (v_S r1))), (a_f A, .inl (cA, 4, .inr (.inr (.inr (.inr (fun k => some (a_b A k))))))), (a_b A 0, .inl (cI, v_N r1, .inl (upd (v_F r1 0) (sl r1 ((v_h r1) - 1)) v))), (a_b A 1, .inl (cI, v_N r1, .inl (upd (v_F r1 1) (sl r1 ((v_h r1) - 1)) v))), (a_b A 2, .inl (cI, v_N r1, .inl (v_F r1 2))), (a_b A 3, .inl (cI, v_N r1, .inl (v_F r1 3)))] := hD
                  refine lv_iinc (v := 2) (lv' := [(6, .int 2), (8, .ref (a_b A 1)), (7, .int v), (5, .int (nI (sl r1 ((v_h r1) - 1)))), (4, .int 1), (3, .int (nI (tm - tm % v_w r))), (0, .ref (a_o A)), (1, .int (nI tm)), (2, .int v)]) hx hb dX0_take_117 hl (k := 2) rfl (by decide) (by decide) rfl (fun ls hl => ?_)
                  refine lv_goto (tgt := 62) hx hb dX0_take_120 (by decide) ?_
                  refine lv_iload hx hb dX0_take_62 (lv_at hl 0 rfl) ?_
                  refine lv_iconst (v := 4) hx hb dX0_take_64 (by decide) ?_
                  refine lv_icmp_ge (tgt := 123) hx hb dX0_take_65 (by decide) (fun c_65 => ?_) (fun c_65 => ?_)
                  · exact absurd c_65 (by decide)
                  · refine lv_iload hx hb dX0_take_68 (lv_at hl 0 rfl) ?_
                    refine lv_iconst (v := 3) hx hb dX0_take_70 (by decide) ?_
                    refine lv_icmp_ne (tgt := 78) hx hb dX0_take_71 (by decide) (fun c_71 => ?_) (fun c_71 => ?_)
                    · refine lv_iload_n hx hb dX0_take_78 rfl (lv_at hl 8 rfl) ?_
                      refine lv_istore (lv' := [(7, .int v), (6, .int 2), (8, .ref (a_b A 1)), (5, .int (nI (sl r1 ((v_h r1) - 1)))), (4, .int 1), (3, .int (nI (tm - tm % v_w r))), (0, .ref (a_o A)), (1, .int (nI tm)), (2, .int v)]) hx hb dX0_take_79 hl (by decide) rfl (fun ls hl => ?_)
                      refine lv_aload_n hx hb dX0_take_81 rfl (lv_at hl 6 rfl) ?_
                      refine va_get (D := D) (ci := 0) (v := .ref (a_f A)) (C := RX0) (T := TX0) (N := 7) hx hb hts hi0 hown hK hP 0 rfl rfl 3 (by decide) (hts (.fieldLink RX0 27 "RingSeries$Ring" "figures" "[[I") (by decide +kernel)) (fun _ h9 => h9) rfl dX0_take_82 ?_
                      refine lv_iload hx hb dX0_take_85 (lv_at hl 1 rfl) ?_
                      refine ald_a (j := 2) hx hb hK hP 2 1 rfl rfl (by omega) (by omega) dX0_take_87 ?_
                      refine lv_astore (lv' := [(8, .ref (a_b A 2)), (7, .int v), (6, .int 2), (5, .int (nI (sl r1 ((v_h r1) - 1)))), (4, .int 1), (3, .int (nI (tm - tm % v_w r))), (0, .ref (a_o A)), (1, .int (nI tm)), (2, .int v)]) hx hb dX0_take_88 hl (by decide) rfl (fun ls hl => ?_)
                      refine lv_aload hx hb dX0_take_90 (lv_at hl 0 rfl) ?_
                      refine lv_iload hx hb dX0_take_92 (lv_at hl 3 rfl) ?_
                      refine lv_iload hx hb dX0_take_94 (lv_at hl 4 rfl) ?_
                      refine lv_if_eq (tgt := 104) hx hb dX0_take_96 (by decide) (fun c_96 => ?_) (fun c_96 => ?_)
                      · exact absurd c_96 (by decide)
                      · refine lv_iload hx hb dX0_take_99 (lv_at hl 1 rfl) ?_
                        refine lv_goto (tgt := 116) hx hb dX0_take_101 (by decide) ?_
                        refine ast_i (j := (sl r1 ((v_h r1) - 1))) hx hb hK hP hD hS 5 0 rfl rfl s9 (by omega) dX0_take_116 (fun H locs hP hD hS => ?_)
                        have hP : va_P D vwCl [(a_o A, .inr (0, [.int (nI (v_N r1)), .int (nI (v_w r1)), .ref (a_s A), .ref (a_f A), .int (nI (v_o r1)), .int (nI (v_h r1)), .int (v_g r1)])), (a_s A, .inl (cI, v_N r1, .inl (v_S r1))), (a_f A, .inl (cA, 4, .inr (.inr (.inr (.inr (fun k => some (a_b A k))))))), (a_b A 0, .inl (cI, v_N r1, .inl (upd (v_F r1 0) (sl r1 ((v_h r1) - 1)) v))), (a_b A 1, .inl (cI, v_N r1, .inl (upd (v_F r1 1) (sl r1 ((v_h r1) - 1)) v))), (a_b A 2, .inl (cI, v_N r1, .inl (upd (v_F r1 2) (sl r1 ((v_h r1) - 1)) v))), (a_b A 3, .inl (cI, v_N r1, .inl (v_F r1 3)))] H := hP
                        have hD : va_D (va_A (rgW cI cA A r) s.heap.size) [(a_o A, .inr (0, [.int (nI (v_N r1)), .int (nI (v_w r1)), .ref (a_s A), .ref (a_f A), .int (nI (v_o r1)), .int (nI (v_h r1)), .int (v_g r1)])), (a_s A, .inl (cI, v_N r1, .inl (v_S r1))), (a_f A, .inl (cA, 4, .inr (.inr (.inr (.inr (fun k => some (a_b A k))))))), (a_b A 0, .inl (cI, v_N r1, .inl (upd (v_F r1 0) (sl r1 ((v_h r1) - 1)) v))), (a_b A 1, .inl (cI, v_N r1, .inl (upd (v_F r1 1) (sl r1 ((v_h r1) - 1)) v))), (a_b A 2, .inl (cI, v_N r1, .inl (upd (v_F r1 2) (sl r1 ((v_h r1) - 1)) v))), (a_b A 3, .inl (cI, v_N r1, .inl (v_F r1 3)))] := hD
                        refine lv_iinc (v := 3) (lv' := [(6, .int 3), (8, .ref (a_b A 2)), (7, .int v), (5, .int (nI (sl r1 ((v_h r1) - 1)))), (4, .int 1), (3, .int (nI (tm - tm % v_w r))), (0, .ref (a_o A)), (1, .int (nI tm)), (2, .int v)]) hx hb dX0_take_117 hl (k := 2) rfl (by decide) (by decide) rfl (fun ls hl => ?_)
                        refine lv_goto (tgt := 62) hx hb dX0_take_120 (by decide) ?_
                        refine lv_iload hx hb dX0_take_62 (lv_at hl 0 rfl) ?_
                        refine lv_iconst (v := 4) hx hb dX0_take_64 (by decide) ?_
                        refine lv_icmp_ge (tgt := 123) hx hb dX0_take_65 (by decide) (fun c_65 => ?_) (fun c_65 => ?_)
                        · exact absurd c_65 (by decide)
                        · refine lv_iload hx hb dX0_take_68 (lv_at hl 0 rfl) ?_
                          refine lv_iconst (v := 3) hx hb dX0_take_70 (by decide) ?_
                          refine lv_icmp_ne (tgt := 78) hx hb dX0_take_71 (by decide) (fun c_71 => ?_) (fun c_71 => ?_)
                          · exact absurd rfl c_71
                          · refine lv_iconst (v := 1) hx hb dX0_take_74 (by decide) ?_
                            refine lv_goto (tgt := 79) hx hb dX0_take_75 (by decide) ?_
                            refine lv_istore (lv' := [(7, .int 1), (6, .int 3), (8, .ref (a_b A 2)), (5, .int (nI (sl r1 ((v_h r1) - 1)))), (4, .int 1), (3, .int (nI (tm - tm % v_w r))), (0, .ref (a_o A)), (1, .int (nI tm)), (2, .int v)]) hx hb dX0_take_79 hl (by decide) rfl (fun ls hl => ?_)
                            refine lv_aload_n hx hb dX0_take_81 rfl (lv_at hl 6 rfl) ?_
                            refine va_get (D := D) (ci := 0) (v := .ref (a_f A)) (C := RX0) (T := TX0) (N := 7) hx hb hts hi0 hown hK hP 0 rfl rfl 3 (by decide) (hts (.fieldLink RX0 27 "RingSeries$Ring" "figures" "[[I") (by decide +kernel)) (fun _ h9 => h9) rfl dX0_take_82 ?_
                            refine lv_iload hx hb dX0_take_85 (lv_at hl 1 rfl) ?_
                            refine ald_a (j := 3) hx hb hK hP 2 1 rfl rfl (by omega) (by omega) dX0_take_87 ?_
                            refine lv_astore (lv' := [(8, .ref (a_b A 3)), (7, .int 1), (6, .int 3), (5, .int (nI (sl r1 ((v_h r1) - 1)))), (4, .int 1), (3, .int (nI (tm - tm % v_w r))), (0, .ref (a_o A)), (1, .int (nI tm)), (2, .int v)]) hx hb dX0_take_88 hl (by decide) rfl (fun ls hl => ?_)
                            refine lv_aload hx hb dX0_take_90 (lv_at hl 0 rfl) ?_
                            refine lv_iload hx hb dX0_take_92 (lv_at hl 3 rfl) ?_
                            refine lv_iload hx hb dX0_take_94 (lv_at hl 4 rfl) ?_
                            refine lv_if_eq (tgt := 104) hx hb dX0_take_96 (by decide) (fun c_96 => ?_) (fun c_96 => ?_)
                            · exact absurd c_96 (by decide)
                            · refine lv_iload hx hb dX0_take_99 (lv_at hl 1 rfl) ?_
                              refine lv_goto (tgt := 116) hx hb dX0_take_101 (by decide) ?_
                              refine ast_i (j := (sl r1 ((v_h r1) - 1))) hx hb hK hP hD hS 6 0 rfl rfl s9 (by omega) dX0_take_116 (fun H locs hP hD hS => ?_)
                              have hP : va_P D vwCl [(a_o A, .inr (0, [.int (nI (v_N r1)), .int (nI (v_w r1)), .ref (a_s A), .ref (a_f A), .int (nI (v_o r1)), .int (nI (v_h r1)), .int (v_g r1)])), (a_s A, .inl (cI, v_N r1, .inl (v_S r1))), (a_f A, .inl (cA, 4, .inr (.inr (.inr (.inr (fun k => some (a_b A k))))))), (a_b A 0, .inl (cI, v_N r1, .inl (upd (v_F r1 0) (sl r1 ((v_h r1) - 1)) v))), (a_b A 1, .inl (cI, v_N r1, .inl (upd (v_F r1 1) (sl r1 ((v_h r1) - 1)) v))), (a_b A 2, .inl (cI, v_N r1, .inl (upd (v_F r1 2) (sl r1 ((v_h r1) - 1)) v))), (a_b A 3, .inl (cI, v_N r1, .inl (upd (v_F r1 3) (sl r1 ((v_h r1) - 1)) 1)))] H := hP
                              have hD : va_D (va_A (rgW cI cA A r) s.heap.size) [(a_o A, .inr (0, [.int (nI (v_N r1)), .int (nI (v_w r1)), .ref (a_s A), .ref (a_f A), .int (nI (v_o r1)), .int (nI (v_h r1)), .int (v_g r1)])), (a_s A, .inl (cI, v_N r1, .inl (v_S r1))), (a_f A, .inl (cA, 4, .inr (.inr (.inr (.inr (fun k => some (a_b A k))))))), (a_b A 0, .inl (cI, v_N r1, .inl (upd (v_F r1 0) (sl r1 ((v_h r1) - 1)) v))), (a_b A 1, .inl (cI, v_N r1, .inl (upd (v_F r1 1) (sl r1 ((v_h r1) - 1)) v))), (a_b A 2, .inl (cI, v_N r1, .inl (upd (v_F r1 2) (sl r1 ((v_h r1) - 1)) v))), (a_b A 3, .inl (cI, v_N r1, .inl (upd (v_F r1 3) (sl r1 ((v_h r1) - 1)) 1)))] := hD
                              refine lv_iinc (v := 4) (lv' := [(6, .int 4), (8, .ref (a_b A 3)), (7, .int 1), (5, .int (nI (sl r1 ((v_h r1) - 1)))), (4, .int 1), (3, .int (nI (tm - tm % v_w r))), (0, .ref (a_o A)), (1, .int (nI tm)), (2, .int v)]) hx hb dX0_take_117 hl (k := 2) rfl (by decide) (by decide) rfl (fun ls hl => ?_)
                              refine lv_goto (tgt := 62) hx hb dX0_take_120 (by decide) ?_
                              refine lv_iload hx hb dX0_take_62 (lv_at hl 0 rfl) ?_
                              refine lv_iconst (v := 4) hx hb dX0_take_64 (by decide) ?_
                              refine lv_icmp_ge (tgt := 123) hx hb dX0_take_65 (by decide) (fun c_65 => ?_) (fun c_65 => ?_)
                              · exact wr_vret hx hb hr (show va_P D vwCl (rgW cI cA A (rowN r1 v)) _ from hP) hS dX0_take_123 hlocks
                              · exact absurd (show (4 : Int32) ≤ 4 by decide) c_65
                    · exact absurd c_71 (by decide)
              · exact absurd c_71 (by decide)
        · exact absurd c_71 (by decide)
  · have c_13 := mt (nI_eq (a := v_h r) (b := 0) (by omega) (by omega)).mpr c_13
    refine lv_aload_n hx hb dX0_take_16 rfl (lv_at hl 1 rfl) ?_
    refine lv_aload_n hx hb dX0_take_17 rfl (lv_at hl 1 rfl) ?_
    refine va_get (D := D) (ci := 0) (v := .int (nI (v_h r))) (C := RX0) (T := TX0) (N := 7) hx hb hts hi0 hown hK hP 0 rfl rfl 5 (by decide) (hts (.fieldLink RX0 30 "RingSeries$Ring" "held" "I") (by decide +kernel)) (fun _ h9 => h9) rfl dX0_take_18 ?_
    refine lv_iconst (v := 1) hx hb dX0_take_21 (by decide) ?_
    refine lv_isub hx hb dX0_take_22 ?_
    refine top_i (pk_sub (a := v_h r) (b := 1) (by omega)) ?_
    refine ro_call (va_runV (As := [.int (nI ((v_h r) - 1))]) (rest := []) ⟨hx, hb, hml, hown, hts⟩ (c_X0_startOf l A r hk (show va_P D vwCl (rgW cI cA A r) _ from hP) ((v_h r) - 1) (by omega)) (cwV 1 hts gX0_take_X0_startOf rfl rfl rfl (by decide +kernel) ⟨Nat.le_of_ble_eq_true rfl, Nat.le_of_ble_eq_true rfl⟩) (ro_preV hK (va_recv hK hP (ci := 0) (q0 := 0) rfl rfl)) rfl rfl hl.1 rfl (lv_room (Nat.le_of_ble_eq_true rfl)) dX0_take_23 ⟨Nat.zero_le _, Nat.zero_le _⟩) ?_
    refine lv_iload_n hx hb dX0_take_26 rfl (lv_at hl 0 rfl) ?_
    refine lv_icmp_eq (tgt := 34) hx hb dX0_take_27 (by decide) (fun c_27 => ?_) (fun c_27 => ?_)
    · exact absurd ho (fun z => z.elim c_13 (fun z => z c_27))
    · refine lv_iconst (v := 1) hx hb dX0_take_30 (by decide) ?_
      refine lv_goto (tgt := 35) hx hb dX0_take_31 (by decide) ?_
      refine lv_istore (lv' := [(4, .int 1), (3, .int (nI (tm - (tm % v_w r)))), (0, .ref (a_o A)), (1, .int (nI tm)), (2, .int v)]) hx hb dX0_take_35 hl (by decide) rfl (fun ls hl => ?_)
      refine lv_iload hx hb dX0_take_37 (lv_at hl 0 rfl) ?_
      refine lv_if_eq (tgt := 47) hx hb dX0_take_39 (by decide) (fun c_39 => ?_) (fun c_39 => ?_)
      · exact absurd c_39 (by decide)
      · refine lv_aload_n hx hb dX0_take_42 rfl (lv_at hl 2 rfl) ?_
        refine lv_iload_n hx hb dX0_take_43 rfl (lv_at hl 1 rfl) ?_
        refine wr_call (va_runV (As := [.int (nI (tm - (tm % v_w r)))]) (rest := []) ⟨hx, hb, hml, hown, hts⟩ (c_X0_open l A r hk (show va_P D vwCl (rgW cI cA A r) _ from hP) hD (nI (tm - tm % v_w r))) (cwV 1 hts gX0_take_X0_open rfl rfl rfl (by decide +kernel) ⟨Nat.le_of_ble_eq_true rfl, Nat.le_of_ble_eq_true rfl⟩) (ro_preV hK (va_recv hK hP (ci := 0) (q0 := 0) rfl rfl)) rfl rfl hl.1 rfl (lv_room (Nat.le_of_ble_eq_true rfl)) dX0_take_44 ⟨Nat.zero_le _, Nat.zero_le _⟩) hS (fun q h => h) (fun H locs hP _ _ hS => ?_)
        have hD : va_D (va_A (rgW cI cA A r) s.heap.size) (rgW cI cA A (opV r (nI (tm - tm % v_w r)))) := rgW_D (r := r) hD
        obtain ⟨o1, o2, o3, o4, o5⟩ := opV_ok (b := nI (tm - tm % v_w r)) hk
        generalize opV r (nI (tm - tm % v_w r)) = r1 at hP hD o1 o2 o3 o4 o5 ⊢
        obtain ⟨z1, z2, z3, z4, z5, z6⟩ := id o1
        have s9 : sl r1 (v_h r1 - 1) < v_N r1 := sl_lt o1 (by omega)
        have hP : va_P D vwCl [(a_o A, .inr (0, [.int (nI (v_N r1)), .int (nI (v_w r1)), .ref (a_s A), .ref (a_f A), .int (nI (v_o r1)), .int (nI (v_h r1)), .int (v_g r1)])), (a_s A, .inl (cI, v_N r1, .inl (v_S r1))), (a_f A, .inl (cA, 4, .inr (.inr (.inr (.inr (fun k => some (a_b A k))))))), (a_b A 0, .inl (cI, v_N r1, .inl (v_F r1 0))), (a_b A 1, .inl (cI, v_N r1, .inl (v_F r1 1))), (a_b A 2, .inl (cI, v_N r1, .inl (v_F r1 2))), (a_b A 3, .inl (cI, v_N r1, .inl (v_F r1 3)))] _ := hP
        have hD : va_D (va_A (rgW cI cA A r) s.heap.size) [(a_o A, .inr (0, [.int (nI (v_N r1)), .int (nI (v_w r1)), .ref (a_s A), .ref (a_f A), .int (nI (v_o r1)), .int (nI (v_h r1)), .int (v_g r1)])), (a_s A, .inl (cI, v_N r1, .inl (v_S r1))), (a_f A, .inl (cA, 4, .inr (.inr (.inr (.inr (fun k => some (a_b A k))))))), (a_b A 0, .inl (cI, v_N r1, .inl (v_F r1 0))), (a_b A 1, .inl (cI, v_N r1, .inl (v_F r1 1))), (a_b A 2, .inl (cI, v_N r1, .inl (v_F r1 2))), (a_b A 3, .inl (cI, v_N r1, .inl (v_F r1 3)))] := hD
        refine lv_aload_n hx hb dX0_take_47 rfl (lv_at hl 2 rfl) ?_
        refine lv_aload_n hx hb dX0_take_48 rfl (lv_at hl 2 rfl) ?_
        refine va_get (D := D) (ci := 0) (v := .int (nI (v_h r1))) (C := RX0) (T := TX0) (N := 7) hx hb hts hi0 hown hK hP 0 rfl rfl 5 (by decide) (hts (.fieldLink RX0 30 "RingSeries$Ring" "held" "I") (by decide +kernel)) (fun _ h9 => h9) rfl dX0_take_49 ?_
        refine lv_iconst (v := 1) hx hb dX0_take_52 (by decide) ?_
        refine lv_isub hx hb dX0_take_53 ?_
        refine top_i (pk_sub (a := v_h r1) (b := 1) (by omega)) ?_
        refine ro_call (va_runV (As := [.int (nI ((v_h r1) - 1))]) (rest := []) ⟨hx, hb, hml, hown, hts⟩ (c_X0_slot l A r1 o1 (show va_P D vwCl (rgW cI cA A r1) _ from hP) ((v_h r1) - 1) (by omega)) (cwV 1 hts gX0_take_X0_slot rfl rfl rfl (by decide +kernel) ⟨Nat.le_of_ble_eq_true rfl, Nat.le_of_ble_eq_true rfl⟩) (ro_preV hK (va_recv hK hP (ci := 0) (q0 := 0) rfl rfl)) rfl rfl hl.1 rfl (lv_room (Nat.le_of_ble_eq_true rfl)) dX0_take_54 ⟨Nat.zero_le _, Nat.zero_le _⟩) ?_
        refine lv_istore (lv' := [(5, .int (nI (sl r1 ((v_h r1) - 1)))), (4, .int 1), (3, .int (nI (tm - tm % v_w r))), (0, .ref (a_o A)), (1, .int (nI tm)), (2, .int v)]) hx hb dX0_take_57 hl (by decide) rfl (fun ls hl => ?_)
        refine lv_iconst (v := 0) hx hb dX0_take_59 (by decide) ?_
        refine lv_istore (lv' := [(6, .int 0), (5, .int (nI (sl r1 ((v_h r1) - 1)))), (4, .int 1), (3, .int (nI (tm - tm % v_w r))), (0, .ref (a_o A)), (1, .int (nI tm)), (2, .int v)]) hx hb dX0_take_60 hl (by decide) rfl (fun ls hl => ?_)
        refine lv_iload hx hb dX0_take_62 (lv_at hl 0 rfl) ?_
        refine lv_iconst (v := 4) hx hb dX0_take_64 (by decide) ?_
        refine lv_icmp_ge (tgt := 123) hx hb dX0_take_65 (by decide) (fun c_65 => ?_) (fun c_65 => ?_)
        · exact absurd c_65 (by decide)
        · refine lv_iload hx hb dX0_take_68 (lv_at hl 0 rfl) ?_
          refine lv_iconst (v := 3) hx hb dX0_take_70 (by decide) ?_
          refine lv_icmp_ne (tgt := 78) hx hb dX0_take_71 (by decide) (fun c_71 => ?_) (fun c_71 => ?_)
          · refine lv_iload_n hx hb dX0_take_78 rfl (lv_at hl 6 rfl) ?_
            refine lv_istore (lv' := [(7, .int v), (6, .int 0), (5, .int (nI (sl r1 ((v_h r1) - 1)))), (4, .int 1), (3, .int (nI (tm - tm % v_w r))), (0, .ref (a_o A)), (1, .int (nI tm)), (2, .int v)]) hx hb dX0_take_79 hl (by decide) rfl (fun ls hl => ?_)
            refine lv_aload_n hx hb dX0_take_81 rfl (lv_at hl 5 rfl) ?_
            refine va_get (D := D) (ci := 0) (v := .ref (a_f A)) (C := RX0) (T := TX0) (N := 7) hx hb hts hi0 hown hK hP 0 rfl rfl 3 (by decide) (hts (.fieldLink RX0 27 "RingSeries$Ring" "figures" "[[I") (by decide +kernel)) (fun _ h9 => h9) rfl dX0_take_82 ?_
            refine lv_iload hx hb dX0_take_85 (lv_at hl 1 rfl) ?_
            refine ald_a (j := 0) hx hb hK hP 2 1 rfl rfl (by omega) (by omega) dX0_take_87 ?_
            refine lv_astore (lv' := [(8, .ref (a_b A 0)), (7, .int v), (6, .int 0), (5, .int (nI (sl r1 ((v_h r1) - 1)))), (4, .int 1), (3, .int (nI (tm - tm % v_w r))), (0, .ref (a_o A)), (1, .int (nI tm)), (2, .int v)]) hx hb dX0_take_88 hl (by decide) rfl (fun ls hl => ?_)
            refine lv_aload hx hb dX0_take_90 (lv_at hl 0 rfl) ?_
            refine lv_iload hx hb dX0_take_92 (lv_at hl 3 rfl) ?_
            refine lv_iload hx hb dX0_take_94 (lv_at hl 4 rfl) ?_
            refine lv_if_eq (tgt := 104) hx hb dX0_take_96 (by decide) (fun c_96 => ?_) (fun c_96 => ?_)
            · exact absurd c_96 (by decide)
            · refine lv_iload hx hb dX0_take_99 (lv_at hl 1 rfl) ?_
              refine lv_goto (tgt := 116) hx hb dX0_take_101 (by decide) ?_
              refine ast_i (j := (sl r1 ((v_h r1) - 1))) hx hb hK hP hD hS 3 0 rfl rfl s9 (by omega) dX0_take_116 (fun H locs hP hD hS => ?_)
              have hP : va_P D vwCl [(a_o A, .inr (0, [.int (nI (v_N r1)), .int (nI (v_w r1)), .ref (a_s A), .ref (a_f A), .int (nI (v_o r1)), .int (nI (v_h r1)), .int (v_g r1)])), (a_s A, .inl (cI, v_N r1, .inl (v_S r1))), (a_f A, .inl (cA, 4, .inr (.inr (.inr (.inr (fun k => some (a_b A k))))))), (a_b A 0, .inl (cI, v_N r1, .inl (upd (v_F r1 0) (sl r1 ((v_h r1) - 1)) v))), (a_b A 1, .inl (cI, v_N r1, .inl (v_F r1 1))), (a_b A 2, .inl (cI, v_N r1, .inl (v_F r1 2))), (a_b A 3, .inl (cI, v_N r1, .inl (v_F r1 3)))] H := hP
              have hD : va_D (va_A (rgW cI cA A r) s.heap.size) [(a_o A, .inr (0, [.int (nI (v_N r1)), .int (nI (v_w r1)), .ref (a_s A), .ref (a_f A), .int (nI (v_o r1)), .int (nI (v_h r1)), .int (v_g r1)])), (a_s A, .inl (cI, v_N r1, .inl (v_S r1))), (a_f A, .inl (cA, 4, .inr (.inr (.inr (.inr (fun k => some (a_b A k))))))), (a_b A 0, .inl (cI, v_N r1, .inl (upd (v_F r1 0) (sl r1 ((v_h r1) - 1)) v))), (a_b A 1, .inl (cI, v_N r1, .inl (v_F r1 1))), (a_b A 2, .inl (cI, v_N r1, .inl (v_F r1 2))), (a_b A 3, .inl (cI, v_N r1, .inl (v_F r1 3)))] := hD
              refine lv_iinc (v := 1) (lv' := [(6, .int 1), (8, .ref (a_b A 0)), (7, .int v), (5, .int (nI (sl r1 ((v_h r1) - 1)))), (4, .int 1), (3, .int (nI (tm - tm % v_w r))), (0, .ref (a_o A)), (1, .int (nI tm)), (2, .int v)]) hx hb dX0_take_117 hl (k := 2) rfl (by decide) (by decide) rfl (fun ls hl => ?_)
              refine lv_goto (tgt := 62) hx hb dX0_take_120 (by decide) ?_
              refine lv_iload hx hb dX0_take_62 (lv_at hl 0 rfl) ?_
              refine lv_iconst (v := 4) hx hb dX0_take_64 (by decide) ?_
              refine lv_icmp_ge (tgt := 123) hx hb dX0_take_65 (by decide) (fun c_65 => ?_) (fun c_65 => ?_)
              · exact absurd c_65 (by decide)
              · refine lv_iload hx hb dX0_take_68 (lv_at hl 0 rfl) ?_
                refine lv_iconst (v := 3) hx hb dX0_take_70 (by decide) ?_
                refine lv_icmp_ne (tgt := 78) hx hb dX0_take_71 (by decide) (fun c_71 => ?_) (fun c_71 => ?_)
                · refine lv_iload_n hx hb dX0_take_78 rfl (lv_at hl 8 rfl) ?_
                  refine lv_istore (lv' := [(7, .int v), (6, .int 1), (8, .ref (a_b A 0)), (5, .int (nI (sl r1 ((v_h r1) - 1)))), (4, .int 1), (3, .int (nI (tm - tm % v_w r))), (0, .ref (a_o A)), (1, .int (nI tm)), (2, .int v)]) hx hb dX0_take_79 hl (by decide) rfl (fun ls hl => ?_)
                  refine lv_aload_n hx hb dX0_take_81 rfl (lv_at hl 6 rfl) ?_
                  refine va_get (D := D) (ci := 0) (v := .ref (a_f A)) (C := RX0) (T := TX0) (N := 7) hx hb hts hi0 hown hK hP 0 rfl rfl 3 (by decide) (hts (.fieldLink RX0 27 "RingSeries$Ring" "figures" "[[I") (by decide +kernel)) (fun _ h9 => h9) rfl dX0_take_82 ?_
                  refine lv_iload hx hb dX0_take_85 (lv_at hl 1 rfl) ?_
                  refine ald_a (j := 1) hx hb hK hP 2 1 rfl rfl (by omega) (by omega) dX0_take_87 ?_
                  refine lv_astore (lv' := [(8, .ref (a_b A 1)), (7, .int v), (6, .int 1), (5, .int (nI (sl r1 ((v_h r1) - 1)))), (4, .int 1), (3, .int (nI (tm - tm % v_w r))), (0, .ref (a_o A)), (1, .int (nI tm)), (2, .int v)]) hx hb dX0_take_88 hl (by decide) rfl (fun ls hl => ?_)
                  refine lv_aload hx hb dX0_take_90 (lv_at hl 0 rfl) ?_
                  refine lv_iload hx hb dX0_take_92 (lv_at hl 3 rfl) ?_
                  refine lv_iload hx hb dX0_take_94 (lv_at hl 4 rfl) ?_
                  refine lv_if_eq (tgt := 104) hx hb dX0_take_96 (by decide) (fun c_96 => ?_) (fun c_96 => ?_)
                  · exact absurd c_96 (by decide)
                  · refine lv_iload hx hb dX0_take_99 (lv_at hl 1 rfl) ?_
                    refine lv_goto (tgt := 116) hx hb dX0_take_101 (by decide) ?_
                    refine ast_i (j := (sl r1 ((v_h r1) - 1))) hx hb hK hP hD hS 4 0 rfl rfl s9 (by omega) dX0_take_116 (fun H locs hP hD hS => ?_)
                    have hP : va_P D vwCl [(a_o A, .inr (0, [.int (nI (v_N r1)), .int (nI (v_w r1)), .ref (a_s A), .ref (a_f A), .int (nI (v_o r1)), .int (nI (v_h r1)), .int (v_g r1)])), (a_s A, .inl (cI, v_N r1, .inl (v_S r1))), (a_f A, .inl (cA, 4, .inr (.inr (.inr (.inr (fun k => some (a_b A k))))))), (a_b A 0, .inl (cI, v_N r1, .inl (upd (v_F r1 0) (sl r1 ((v_h r1) - 1)) v))), (a_b A 1, .inl (cI, v_N r1, .inl (upd (v_F r1 1) (sl r1 ((v_h r1) - 1)) v))), (a_b A 2, .inl (cI, v_N r1, .inl (v_F r1 2))), (a_b A 3, .inl (cI, v_N r1, .inl (v_F r1 3)))] H := hP
                    have hD : va_D (va_A (rgW cI cA A r) s.heap.size) [(a_o A, .inr (0, [.int (nI (v_N r1)), .int (nI (v_w r1)), .ref (a_s A), .ref (a_f A), .int (nI (v_o r1)), .int (nI (v_h r1)), .int (v_g r1)])), (a_s A, .inl (cI, v_N r1, .inl (v_S r1))), (a_f A, .inl (cA, 4, .inr (.inr (.inr (.inr (fun k => some (a_b A k))))))), (a_b A 0, .inl (cI, v_N r1, .inl (upd (v_F r1 0) (sl r1 ((v_h r1) - 1)) v))), (a_b A 1, .inl (cI, v_N r1, .inl (upd (v_F r1 1) (sl r1 ((v_h r1) - 1)) v))), (a_b A 2, .inl (cI, v_N r1, .inl (v_F r1 2))), (a_b A 3, .inl (cI, v_N r1, .inl (v_F r1 3)))] := hD
                    refine lv_iinc (v := 2) (lv' := [(6, .int 2), (8, .ref (a_b A 1)), (7, .int v), (5, .int (nI (sl r1 ((v_h r1) - 1)))), (4, .int 1), (3, .int (nI (tm - tm % v_w r))), (0, .ref (a_o A)), (1, .int (nI tm)), (2, .int v)]) hx hb dX0_take_117 hl (k := 2) rfl (by decide) (by decide) rfl (fun ls hl => ?_)
                    refine lv_goto (tgt := 62) hx hb dX0_take_120 (by decide) ?_
                    refine lv_iload hx hb dX0_take_62 (lv_at hl 0 rfl) ?_
                    refine lv_iconst (v := 4) hx hb dX0_take_64 (by decide) ?_
                    refine lv_icmp_ge (tgt := 123) hx hb dX0_take_65 (by decide) (fun c_65 => ?_) (fun c_65 => ?_)
                    · exact absurd c_65 (by decide)
                    · refine lv_iload hx hb dX0_take_68 (lv_at hl 0 rfl) ?_
                      refine lv_iconst (v := 3) hx hb dX0_take_70 (by decide) ?_
                      refine lv_icmp_ne (tgt := 78) hx hb dX0_take_71 (by decide) (fun c_71 => ?_) (fun c_71 => ?_)
                      · refine lv_iload_n hx hb dX0_take_78 rfl (lv_at hl 8 rfl) ?_
                        refine lv_istore (lv' := [(7, .int v), (6, .int 2), (8, .ref (a_b A 1)), (5, .int (nI (sl r1 ((v_h r1) - 1)))), (4, .int 1), (3, .int (nI (tm - tm % v_w r))), (0, .ref (a_o A)), (1, .int (nI tm)), (2, .int v)]) hx hb dX0_take_79 hl (by decide) rfl (fun ls hl => ?_)
                        refine lv_aload_n hx hb dX0_take_81 rfl (lv_at hl 6 rfl) ?_
                        refine va_get (D := D) (ci := 0) (v := .ref (a_f A)) (C := RX0) (T := TX0) (N := 7) hx hb hts hi0 hown hK hP 0 rfl rfl 3 (by decide) (hts (.fieldLink RX0 27 "RingSeries$Ring" "figures" "[[I") (by decide +kernel)) (fun _ h9 => h9) rfl dX0_take_82 ?_
                        refine lv_iload hx hb dX0_take_85 (lv_at hl 1 rfl) ?_
                        refine ald_a (j := 2) hx hb hK hP 2 1 rfl rfl (by omega) (by omega) dX0_take_87 ?_
                        refine lv_astore (lv' := [(8, .ref (a_b A 2)), (7, .int v), (6, .int 2), (5, .int (nI (sl r1 ((v_h r1) - 1)))), (4, .int 1), (3, .int (nI (tm - tm % v_w r))), (0, .ref (a_o A)), (1, .int (nI tm)), (2, .int v)]) hx hb dX0_take_88 hl (by decide) rfl (fun ls hl => ?_)
                        refine lv_aload hx hb dX0_take_90 (lv_at hl 0 rfl) ?_
                        refine lv_iload hx hb dX0_take_92 (lv_at hl 3 rfl) ?_
                        refine lv_iload hx hb dX0_take_94 (lv_at hl 4 rfl) ?_
                        refine lv_if_eq (tgt := 104) hx hb dX0_take_96 (by decide) (fun c_96 => ?_) (fun c_96 => ?_)
                        · exact absurd c_96 (by decide)
                        · refine lv_iload hx hb dX0_take_99 (lv_at hl 1 rfl) ?_
                          refine lv_goto (tgt := 116) hx hb dX0_take_101 (by decide) ?_
                          refine ast_i (j := (sl r1 ((v_h r1) - 1))) hx hb hK hP hD hS 5 0 rfl rfl s9 (by omega) dX0_take_116 (fun H locs hP hD hS => ?_)
                          have hP : va_P D vwCl [(a_o A, .inr (0, [.int (nI (v_N r1)), .int (nI (v_w r1)), .ref (a_s A), .ref (a_f A), .int (nI (v_o r1)), .int (nI (v_h r1)), .int (v_g r1)])), (a_s A, .inl (cI, v_N r1, .inl (v_S r1))), (a_f A, .inl (cA, 4, .inr (.inr (.inr (.inr (fun k => some (a_b A k))))))), (a_b A 0, .inl (cI, v_N r1, .inl (upd (v_F r1 0) (sl r1 ((v_h r1) - 1)) v))), (a_b A 1, .inl (cI, v_N r1, .inl (upd (v_F r1 1) (sl r1 ((v_h r1) - 1)) v))), (a_b A 2, .inl (cI, v_N r1, .inl (upd (v_F r1 2) (sl r1 ((v_h r1) - 1)) v))), (a_b A 3, .inl (cI, v_N r1, .inl (v_F r1 3)))] H := hP
                          have hD : va_D (va_A (rgW cI cA A r) s.heap.size) [(a_o A, .inr (0, [.int (nI (v_N r1)), .int (nI (v_w r1)), .ref (a_s A), .ref (a_f A), .int (nI (v_o r1)), .int (nI (v_h r1)), .int (v_g r1)])), (a_s A, .inl (cI, v_N r1, .inl (v_S r1))), (a_f A, .inl (cA, 4, .inr (.inr (.inr (.inr (fun k => some (a_b A k))))))), (a_b A 0, .inl (cI, v_N r1, .inl (upd (v_F r1 0) (sl r1 ((v_h r1) - 1)) v))), (a_b A 1, .inl (cI, v_N r1, .inl (upd (v_F r1 1) (sl r1 ((v_h r1) - 1)) v))), (a_b A 2, .inl (cI, v_N r1, .inl (upd (v_F r1 2) (sl r1 ((v_h r1) - 1)) v))), (a_b A 3, .inl (cI, v_N r1, .inl (v_F r1 3)))] := hD
                          refine lv_iinc (v := 3) (lv' := [(6, .int 3), (8, .ref (a_b A 2)), (7, .int v), (5, .int (nI (sl r1 ((v_h r1) - 1)))), (4, .int 1), (3, .int (nI (tm - tm % v_w r))), (0, .ref (a_o A)), (1, .int (nI tm)), (2, .int v)]) hx hb dX0_take_117 hl (k := 2) rfl (by decide) (by decide) rfl (fun ls hl => ?_)
                          refine lv_goto (tgt := 62) hx hb dX0_take_120 (by decide) ?_
                          refine lv_iload hx hb dX0_take_62 (lv_at hl 0 rfl) ?_
                          refine lv_iconst (v := 4) hx hb dX0_take_64 (by decide) ?_
                          refine lv_icmp_ge (tgt := 123) hx hb dX0_take_65 (by decide) (fun c_65 => ?_) (fun c_65 => ?_)
                          · exact absurd c_65 (by decide)
                          · refine lv_iload hx hb dX0_take_68 (lv_at hl 0 rfl) ?_
                            refine lv_iconst (v := 3) hx hb dX0_take_70 (by decide) ?_
                            refine lv_icmp_ne (tgt := 78) hx hb dX0_take_71 (by decide) (fun c_71 => ?_) (fun c_71 => ?_)
                            · exact absurd rfl c_71
                            · refine lv_iconst (v := 1) hx hb dX0_take_74 (by decide) ?_
                              refine lv_goto (tgt := 79) hx hb dX0_take_75 (by decide) ?_
                              refine lv_istore (lv' := [(7, .int 1), (6, .int 3), (8, .ref (a_b A 2)), (5, .int (nI (sl r1 ((v_h r1) - 1)))), (4, .int 1), (3, .int (nI (tm - tm % v_w r))), (0, .ref (a_o A)), (1, .int (nI tm)), (2, .int v)]) hx hb dX0_take_79 hl (by decide) rfl (fun ls hl => ?_)
                              refine lv_aload_n hx hb dX0_take_81 rfl (lv_at hl 6 rfl) ?_
                              refine va_get (D := D) (ci := 0) (v := .ref (a_f A)) (C := RX0) (T := TX0) (N := 7) hx hb hts hi0 hown hK hP 0 rfl rfl 3 (by decide) (hts (.fieldLink RX0 27 "RingSeries$Ring" "figures" "[[I") (by decide +kernel)) (fun _ h9 => h9) rfl dX0_take_82 ?_
                              refine lv_iload hx hb dX0_take_85 (lv_at hl 1 rfl) ?_
                              refine ald_a (j := 3) hx hb hK hP 2 1 rfl rfl (by omega) (by omega) dX0_take_87 ?_
                              refine lv_astore (lv' := [(8, .ref (a_b A 3)), (7, .int 1), (6, .int 3), (5, .int (nI (sl r1 ((v_h r1) - 1)))), (4, .int 1), (3, .int (nI (tm - tm % v_w r))), (0, .ref (a_o A)), (1, .int (nI tm)), (2, .int v)]) hx hb dX0_take_88 hl (by decide) rfl (fun ls hl => ?_)
                              refine lv_aload hx hb dX0_take_90 (lv_at hl 0 rfl) ?_
                              refine lv_iload hx hb dX0_take_92 (lv_at hl 3 rfl) ?_
                              refine lv_iload hx hb dX0_take_94 (lv_at hl 4 rfl) ?_
                              refine lv_if_eq (tgt := 104) hx hb dX0_take_96 (by decide) (fun c_96 => ?_) (fun c_96 => ?_)
                              · exact absurd c_96 (by decide)
                              · refine lv_iload hx hb dX0_take_99 (lv_at hl 1 rfl) ?_
                                refine lv_goto (tgt := 116) hx hb dX0_take_101 (by decide) ?_
                                refine ast_i (j := (sl r1 ((v_h r1) - 1))) hx hb hK hP hD hS 6 0 rfl rfl s9 (by omega) dX0_take_116 (fun H locs hP hD hS => ?_)
                                have hP : va_P D vwCl [(a_o A, .inr (0, [.int (nI (v_N r1)), .int (nI (v_w r1)), .ref (a_s A), .ref (a_f A), .int (nI (v_o r1)), .int (nI (v_h r1)), .int (v_g r1)])), (a_s A, .inl (cI, v_N r1, .inl (v_S r1))), (a_f A, .inl (cA, 4, .inr (.inr (.inr (.inr (fun k => some (a_b A k))))))), (a_b A 0, .inl (cI, v_N r1, .inl (upd (v_F r1 0) (sl r1 ((v_h r1) - 1)) v))), (a_b A 1, .inl (cI, v_N r1, .inl (upd (v_F r1 1) (sl r1 ((v_h r1) - 1)) v))), (a_b A 2, .inl (cI, v_N r1, .inl (upd (v_F r1 2) (sl r1 ((v_h r1) - 1)) v))), (a_b A 3, .inl (cI, v_N r1, .inl (upd (v_F r1 3) (sl r1 ((v_h r1) - 1)) 1)))] H := hP
                                have hD : va_D (va_A (rgW cI cA A r) s.heap.size) [(a_o A, .inr (0, [.int (nI (v_N r1)), .int (nI (v_w r1)), .ref (a_s A), .ref (a_f A), .int (nI (v_o r1)), .int (nI (v_h r1)), .int (v_g r1)])), (a_s A, .inl (cI, v_N r1, .inl (v_S r1))), (a_f A, .inl (cA, 4, .inr (.inr (.inr (.inr (fun k => some (a_b A k))))))), (a_b A 0, .inl (cI, v_N r1, .inl (upd (v_F r1 0) (sl r1 ((v_h r1) - 1)) v))), (a_b A 1, .inl (cI, v_N r1, .inl (upd (v_F r1 1) (sl r1 ((v_h r1) - 1)) v))), (a_b A 2, .inl (cI, v_N r1, .inl (upd (v_F r1 2) (sl r1 ((v_h r1) - 1)) v))), (a_b A 3, .inl (cI, v_N r1, .inl (upd (v_F r1 3) (sl r1 ((v_h r1) - 1)) 1)))] := hD
                                refine lv_iinc (v := 4) (lv' := [(6, .int 4), (8, .ref (a_b A 3)), (7, .int 1), (5, .int (nI (sl r1 ((v_h r1) - 1)))), (4, .int 1), (3, .int (nI (tm - tm % v_w r))), (0, .ref (a_o A)), (1, .int (nI tm)), (2, .int v)]) hx hb dX0_take_117 hl (k := 2) rfl (by decide) (by decide) rfl (fun ls hl => ?_)
                                refine lv_goto (tgt := 62) hx hb dX0_take_120 (by decide) ?_
                                refine lv_iload hx hb dX0_take_62 (lv_at hl 0 rfl) ?_
                                refine lv_iconst (v := 4) hx hb dX0_take_64 (by decide) ?_
                                refine lv_icmp_ge (tgt := 123) hx hb dX0_take_65 (by decide) (fun c_65 => ?_) (fun c_65 => ?_)
                                · exact wr_vret hx hb hr (show va_P D vwCl (rgW cI cA A (rowN r1 v)) _ from hP) hS dX0_take_123 hlocks
                                · exact absurd (show (4 : Int32) ≤ 4 by decide) c_65
                      · exact absurd c_71 (by decide)
                · exact absurd c_71 (by decide)
          · exact absurd c_71 (by decide)
set_option maxHeartbeats 4000000 in
set_option maxRecDepth 100000 in
/-- take(time, value) -/
theorem c_X0_take_b (l : Launch) {D : va_G} {cI cA cJ : ClassId} {H : Heap} (A : rgA) (r : rgV) (hk : r_ok r) (hP : va_P D vwCl (rgW cI cA A r) H) {A0 : Nat → Prop} (hD0 : va_D A0 (rgW cI cA A r)) (tm : Nat) (ht : tm < 2 ^ 31) (v : Int32) (ho : ¬ opn r tm) : Met l yX0_take wsX0_take ({ frames := 2, cells := 0, slots := 0, locals := 43 }) (ro_P D vwCl (tyL cI cA cJ) H [.ref (a_o A), .int (nI tm), .int v]) (wr_Q (none) D vwCl H (rgW cI cA A r) (rgW cI cA A (rowJ r v))) 0 0 (va_A (rgW cI cA A r) H.size) := by
  refine Met.ofW (cc := cX0_take) (maxL := 9) (ret := none) (by decide) rfl ?_
  intro p e s m args below meth c s₁ B hml hv
  obtain ⟨rfl, hh, hK⟩ := hv
  subst hh
  have hx := B.exec
  have hb := B.bytes
  have hr := B.returns
  have hlocks := B.notSynchronized
  have hts := atoms_spec (ws := wsX0_take) B.pre
  have hown : s.vm.findClass RX0 = some m.cls := findClass_of_methodNamed B.named
  have hi0 : ∀ w ∈ wsX00, w ∈ wsX0_take := fun w h => List.mem_cons_of_mem _ (List.mem_append_right _ h)
  have hl := lv_entry ([.ref (a_o A), .int (nI tm), .int v]) (n := 9) (Nat.le_of_ble_eq_true rfl)
  rw [lg_entry_eq]
  generalize (lg_sl ([.ref (a_o A), .int (nI tm), .int v]) ++ List.replicate (9 - (lg_sl ([.ref (a_o A), .int (nI tm), .int v])).length) Slot.unset).toArray = ls at hl ⊢
  have hl : lv_has ls 9 [(0, .ref (a_o A)), (1, .int (nI tm)), (2, .int v)] := hl
  have hD := hD0.self (sz := s.heap.size)
  have hA : ∀ z : Nat, s.heap.size ≤ z → va_A (rgW cI cA A r) s.heap.size z := fun z h => Or.inr h
  have hS : va_S (va_A (rgW cI cA A r) s.heap.size) s.heap s.heap [] := va_S.rf
  obtain ⟨k1, k2, k3, k4, k5, k6⟩ := id hk
  have q9 : tm % v_w r ≤ tm := Nat.mod_le _ _
  have hP : va_P D vwCl [(a_o A, .inr (0, [.int (nI (v_N r)), .int (nI (v_w r)), .ref (a_s A), .ref (a_f A), .int (nI (v_o r)), .int (nI (v_h r)), .int (v_g r)])), (a_s A, .inl (cI, v_N r, .inl (v_S r))), (a_f A, .inl (cA, 4, .inr (.inr (.inr (.inr (fun k => some (a_b A k))))))), (a_b A 0, .inl (cI, v_N r, .inl (v_F r 0))), (a_b A 1, .inl (cI, v_N r, .inl (v_F r 1))), (a_b A 2, .inl (cI, v_N r, .inl (v_F r 2))), (a_b A 3, .inl (cI, v_N r, .inl (v_F r 3)))] s.heap := hP
  have hD : va_D (va_A (rgW cI cA A r) s.heap.size) [(a_o A, .inr (0, [.int (nI (v_N r)), .int (nI (v_w r)), .ref (a_s A), .ref (a_f A), .int (nI (v_o r)), .int (nI (v_h r)), .int (v_g r)])), (a_s A, .inl (cI, v_N r, .inl (v_S r))), (a_f A, .inl (cA, 4, .inr (.inr (.inr (.inr (fun k => some (a_b A k))))))), (a_b A 0, .inl (cI, v_N r, .inl (v_F r 0))), (a_b A 1, .inl (cI, v_N r, .inl (v_F r 1))), (a_b A 2, .inl (cI, v_N r, .inl (v_F r 2))), (a_b A 3, .inl (cI, v_N r, .inl (v_F r 3)))] := hD
  refine lv_iload_n hx hb dX0_take_0 rfl (lv_at hl 1 rfl) ?_
  refine lv_iload_n hx hb dX0_take_1 rfl (lv_at hl 1 rfl) ?_
  refine lv_aload_n hx hb dX0_take_2 rfl (lv_at hl 0 rfl) ?_
  refine va_get (D := D) (ci := 0) (v := .int (nI (v_w r))) (C := RX0) (T := TX0) (N := 7) hx hb hts hi0 hown hK hP 0 rfl rfl 1 (by decide) (hts (.fieldLink RX0 18 "RingSeries$Ring" "width" "I") (by decide +kernel)) (fun _ h9 => h9) rfl dX0_take_3 ?_
  refine lv_irem hx hb dX0_take_6 (nI_ne0 (by omega) (by omega)) ?_
  refine top_i (pk_rem (by omega) (by omega) (by omega)) ?_
  refine lv_isub hx hb dX0_take_7 ?_
  refine top_i (pk_sub (a := tm) (b := tm % v_w r) (Nat.mod_le _ _)) ?_
  refine lv_istore_n (lv' := [(3, .int (nI (tm - (tm % v_w r)))), (0, .ref (a_o A)), (1, .int (nI tm)), (2, .int v)]) hx hb dX0_take_8 rfl hl (by decide) rfl (fun ls hl => ?_)
  refine lv_aload_n hx hb dX0_take_9 rfl (lv_at hl 1 rfl) ?_
  refine va_get (D := D) (ci := 0) (v := .int (nI (v_h r))) (C := RX0) (T := TX0) (N := 7) hx hb hts hi0 hown hK hP 0 rfl rfl 5 (by decide) (hts (.fieldLink RX0 30 "RingSeries$Ring" "held" "I") (by decide +kernel)) (fun _ h9 => h9) rfl dX0_take_10 ?_
  refine lv_if_eq (tgt := 30) hx hb dX0_take_13 (by decide) (fun c_13 => ?_) (fun c_13 => ?_)
  · have c_13 := (nI_eq (a := v_h r) (b := 0) (by omega) (by omega)).mp c_13
    exact absurd (Or.inl c_13) ho
  · have c_13 := mt (nI_eq (a := v_h r) (b := 0) (by omega) (by omega)).mpr c_13
    refine lv_aload_n hx hb dX0_take_16 rfl (lv_at hl 1 rfl) ?_
    refine lv_aload_n hx hb dX0_take_17 rfl (lv_at hl 1 rfl) ?_
    refine va_get (D := D) (ci := 0) (v := .int (nI (v_h r))) (C := RX0) (T := TX0) (N := 7) hx hb hts hi0 hown hK hP 0 rfl rfl 5 (by decide) (hts (.fieldLink RX0 30 "RingSeries$Ring" "held" "I") (by decide +kernel)) (fun _ h9 => h9) rfl dX0_take_18 ?_
    refine lv_iconst (v := 1) hx hb dX0_take_21 (by decide) ?_
    refine lv_isub hx hb dX0_take_22 ?_
    refine top_i (pk_sub (a := v_h r) (b := 1) (by omega)) ?_
    refine ro_call (va_runV (As := [.int (nI ((v_h r) - 1))]) (rest := []) ⟨hx, hb, hml, hown, hts⟩ (c_X0_startOf l A r hk (show va_P D vwCl (rgW cI cA A r) _ from hP) ((v_h r) - 1) (by omega)) (cwV 1 hts gX0_take_X0_startOf rfl rfl rfl (by decide +kernel) ⟨Nat.le_of_ble_eq_true rfl, Nat.le_of_ble_eq_true rfl⟩) (ro_preV hK (va_recv hK hP (ci := 0) (q0 := 0) rfl rfl)) rfl rfl hl.1 rfl (lv_room (Nat.le_of_ble_eq_true rfl)) dX0_take_23 ⟨Nat.zero_le _, Nat.zero_le _⟩) ?_
    refine lv_iload_n hx hb dX0_take_26 rfl (lv_at hl 0 rfl) ?_
    refine lv_icmp_eq (tgt := 34) hx hb dX0_take_27 (by decide) (fun c_27 => ?_) (fun c_27 => ?_)
    · refine lv_iconst (v := 0) hx hb dX0_take_34 (by decide) ?_
      refine lv_istore (lv' := [(4, .int 0), (3, .int (nI (tm - (tm % v_w r)))), (0, .ref (a_o A)), (1, .int (nI tm)), (2, .int v)]) hx hb dX0_take_35 hl (by decide) rfl (fun ls hl => ?_)
      refine lv_iload hx hb dX0_take_37 (lv_at hl 0 rfl) ?_
      refine lv_if_eq (tgt := 47) hx hb dX0_take_39 (by decide) (fun c_39 => ?_) (fun c_39 => ?_)
      · have o1 := hk
        have s9 : sl r (v_h r - 1) < v_N r := sl_lt hk (by omega)
        have hP : va_P D vwCl [(a_o A, .inr (0, [.int (nI (v_N r)), .int (nI (v_w r)), .ref (a_s A), .ref (a_f A), .int (nI (v_o r)), .int (nI (v_h r)), .int (v_g r)])), (a_s A, .inl (cI, v_N r, .inl (v_S r))), (a_f A, .inl (cA, 4, .inr (.inr (.inr (.inr (fun k => some (a_b A k))))))), (a_b A 0, .inl (cI, v_N r, .inl (v_F r 0))), (a_b A 1, .inl (cI, v_N r, .inl (v_F r 1))), (a_b A 2, .inl (cI, v_N r, .inl (v_F r 2))), (a_b A 3, .inl (cI, v_N r, .inl (v_F r 3)))] _ := hP
        have hD : va_D (va_A (rgW cI cA A r) s.heap.size) [(a_o A, .inr (0, [.int (nI (v_N r)), .int (nI (v_w r)), .ref (a_s A), .ref (a_f A), .int (nI (v_o r)), .int (nI (v_h r)), .int (v_g r)])), (a_s A, .inl (cI, v_N r, .inl (v_S r))), (a_f A, .inl (cA, 4, .inr (.inr (.inr (.inr (fun k => some (a_b A k))))))), (a_b A 0, .inl (cI, v_N r, .inl (v_F r 0))), (a_b A 1, .inl (cI, v_N r, .inl (v_F r 1))), (a_b A 2, .inl (cI, v_N r, .inl (v_F r 2))), (a_b A 3, .inl (cI, v_N r, .inl (v_F r 3)))] := hD
        refine lv_aload_n hx hb dX0_take_47 rfl (lv_at hl 2 rfl) ?_
        refine lv_aload_n hx hb dX0_take_48 rfl (lv_at hl 2 rfl) ?_
        refine va_get (D := D) (ci := 0) (v := .int (nI (v_h r))) (C := RX0) (T := TX0) (N := 7) hx hb hts hi0 hown hK hP 0 rfl rfl 5 (by decide) (hts (.fieldLink RX0 30 "RingSeries$Ring" "held" "I") (by decide +kernel)) (fun _ h9 => h9) rfl dX0_take_49 ?_
        refine lv_iconst (v := 1) hx hb dX0_take_52 (by decide) ?_
        refine lv_isub hx hb dX0_take_53 ?_
        refine top_i (pk_sub (a := v_h r) (b := 1) (by omega)) ?_
        refine ro_call (va_runV (As := [.int (nI ((v_h r) - 1))]) (rest := []) ⟨hx, hb, hml, hown, hts⟩ (c_X0_slot l A r o1 (show va_P D vwCl (rgW cI cA A r) _ from hP) ((v_h r) - 1) (by omega)) (cwV 1 hts gX0_take_X0_slot rfl rfl rfl (by decide +kernel) ⟨Nat.le_of_ble_eq_true rfl, Nat.le_of_ble_eq_true rfl⟩) (ro_preV hK (va_recv hK hP (ci := 0) (q0 := 0) rfl rfl)) rfl rfl hl.1 rfl (lv_room (Nat.le_of_ble_eq_true rfl)) dX0_take_54 ⟨Nat.zero_le _, Nat.zero_le _⟩) ?_
        refine lv_istore (lv' := [(5, .int (nI (sl r ((v_h r) - 1)))), (4, .int 0), (3, .int (nI (tm - tm % v_w r))), (0, .ref (a_o A)), (1, .int (nI tm)), (2, .int v)]) hx hb dX0_take_57 hl (by decide) rfl (fun ls hl => ?_)
        refine lv_iconst (v := 0) hx hb dX0_take_59 (by decide) ?_
        refine lv_istore (lv' := [(6, .int 0), (5, .int (nI (sl r ((v_h r) - 1)))), (4, .int 0), (3, .int (nI (tm - tm % v_w r))), (0, .ref (a_o A)), (1, .int (nI tm)), (2, .int v)]) hx hb dX0_take_60 hl (by decide) rfl (fun ls hl => ?_)
        refine lv_iload hx hb dX0_take_62 (lv_at hl 0 rfl) ?_
        refine lv_iconst (v := 4) hx hb dX0_take_64 (by decide) ?_
        refine lv_icmp_ge (tgt := 123) hx hb dX0_take_65 (by decide) (fun c_65 => ?_) (fun c_65 => ?_)
        · exact absurd c_65 (by decide)
        · refine lv_iload hx hb dX0_take_68 (lv_at hl 0 rfl) ?_
          refine lv_iconst (v := 3) hx hb dX0_take_70 (by decide) ?_
          refine lv_icmp_ne (tgt := 78) hx hb dX0_take_71 (by decide) (fun c_71 => ?_) (fun c_71 => ?_)
          · refine lv_iload_n hx hb dX0_take_78 rfl (lv_at hl 6 rfl) ?_
            refine lv_istore (lv' := [(7, .int v), (6, .int 0), (5, .int (nI (sl r ((v_h r) - 1)))), (4, .int 0), (3, .int (nI (tm - tm % v_w r))), (0, .ref (a_o A)), (1, .int (nI tm)), (2, .int v)]) hx hb dX0_take_79 hl (by decide) rfl (fun ls hl => ?_)
            refine lv_aload_n hx hb dX0_take_81 rfl (lv_at hl 5 rfl) ?_
            refine va_get (D := D) (ci := 0) (v := .ref (a_f A)) (C := RX0) (T := TX0) (N := 7) hx hb hts hi0 hown hK hP 0 rfl rfl 3 (by decide) (hts (.fieldLink RX0 27 "RingSeries$Ring" "figures" "[[I") (by decide +kernel)) (fun _ h9 => h9) rfl dX0_take_82 ?_
            refine lv_iload hx hb dX0_take_85 (lv_at hl 1 rfl) ?_
            refine ald_a (j := 0) hx hb hK hP 2 1 rfl rfl (by omega) (by omega) dX0_take_87 ?_
            refine lv_astore (lv' := [(8, .ref (a_b A 0)), (7, .int v), (6, .int 0), (5, .int (nI (sl r ((v_h r) - 1)))), (4, .int 0), (3, .int (nI (tm - tm % v_w r))), (0, .ref (a_o A)), (1, .int (nI tm)), (2, .int v)]) hx hb dX0_take_88 hl (by decide) rfl (fun ls hl => ?_)
            refine lv_aload hx hb dX0_take_90 (lv_at hl 0 rfl) ?_
            refine lv_iload hx hb dX0_take_92 (lv_at hl 3 rfl) ?_
            refine lv_iload hx hb dX0_take_94 (lv_at hl 4 rfl) ?_
            refine lv_if_eq (tgt := 104) hx hb dX0_take_96 (by decide) (fun c_96 => ?_) (fun c_96 => ?_)
            · refine lv_aload hx hb dX0_take_104 (lv_at hl 0 rfl) ?_
              refine lv_iload hx hb dX0_take_106 (lv_at hl 3 rfl) ?_
              refine ald_i (j := (sl r ((v_h r) - 1))) hx hb hK hP 3 0 rfl rfl s9 (by omega) dX0_take_108 ?_
              refine lv_iload hx hb dX0_take_109 (lv_at hl 1 rfl) ?_
              refine lv_iload hx hb dX0_take_111 (lv_at hl 2 rfl) ?_
              refine ro_call (va_runS (As := [.int ((v_F r 0) (sl r ((v_h r) - 1))), .int v, .int 0]) (rest := [.int (nI (sl r ((v_h r) - 1))), .ref (a_b A 0)]) ⟨hx, hb, hml, hown, hts⟩ (c_X0_joined_any l (k := 0) (by omega) ((v_F r 0) (sl r ((v_h r) - 1))) v) (va_cwS 3 hts gX0_take_X0_joined rfl rfl rfl (by decide +kernel) ⟨Nat.le_of_ble_eq_true rfl, Nat.le_of_ble_eq_true rfl⟩) (ro_preS hK) rfl rfl hl.1 rfl (lv_room (Nat.le_of_ble_eq_true rfl)) dX0_take_113 ⟨Nat.zero_le _, Nat.zero_le _⟩) ?_
              refine ast_i (j := (sl r ((v_h r) - 1))) hx hb hK hP hD hS 3 0 rfl rfl s9 (by omega) dX0_take_116 (fun H locs hP hD hS => ?_)
              have hP : va_P D vwCl [(a_o A, .inr (0, [.int (nI (v_N r)), .int (nI (v_w r)), .ref (a_s A), .ref (a_f A), .int (nI (v_o r)), .int (nI (v_h r)), .int (v_g r)])), (a_s A, .inl (cI, v_N r, .inl (v_S r))), (a_f A, .inl (cA, 4, .inr (.inr (.inr (.inr (fun k => some (a_b A k))))))), (a_b A 0, .inl (cI, v_N r, .inl (upd (v_F r 0) (sl r ((v_h r) - 1)) (jn 0 ((v_F r 0) (sl r ((v_h r) - 1))) v)))), (a_b A 1, .inl (cI, v_N r, .inl (v_F r 1))), (a_b A 2, .inl (cI, v_N r, .inl (v_F r 2))), (a_b A 3, .inl (cI, v_N r, .inl (v_F r 3)))] H := hP
              have hD : va_D (va_A (rgW cI cA A r) s.heap.size) [(a_o A, .inr (0, [.int (nI (v_N r)), .int (nI (v_w r)), .ref (a_s A), .ref (a_f A), .int (nI (v_o r)), .int (nI (v_h r)), .int (v_g r)])), (a_s A, .inl (cI, v_N r, .inl (v_S r))), (a_f A, .inl (cA, 4, .inr (.inr (.inr (.inr (fun k => some (a_b A k))))))), (a_b A 0, .inl (cI, v_N r, .inl (upd (v_F r 0) (sl r ((v_h r) - 1)) (jn 0 ((v_F r 0) (sl r ((v_h r) - 1))) v)))), (a_b A 1, .inl (cI, v_N r, .inl (v_F r 1))), (a_b A 2, .inl (cI, v_N r, .inl (v_F r 2))), (a_b A 3, .inl (cI, v_N r, .inl (v_F r 3)))] := hD
              refine lv_iinc (v := 1) (lv' := [(6, .int 1), (8, .ref (a_b A 0)), (7, .int v), (5, .int (nI (sl r ((v_h r) - 1)))), (4, .int 0), (3, .int (nI (tm - tm % v_w r))), (0, .ref (a_o A)), (1, .int (nI tm)), (2, .int v)]) hx hb dX0_take_117 hl (k := 2) rfl (by decide) (by decide) rfl (fun ls hl => ?_)
              refine lv_goto (tgt := 62) hx hb dX0_take_120 (by decide) ?_
              refine lv_iload hx hb dX0_take_62 (lv_at hl 0 rfl) ?_
              refine lv_iconst (v := 4) hx hb dX0_take_64 (by decide) ?_
              refine lv_icmp_ge (tgt := 123) hx hb dX0_take_65 (by decide) (fun c_65 => ?_) (fun c_65 => ?_)
              · exact absurd c_65 (by decide)
              · refine lv_iload hx hb dX0_take_68 (lv_at hl 0 rfl) ?_
                refine lv_iconst (v := 3) hx hb dX0_take_70 (by decide) ?_
                refine lv_icmp_ne (tgt := 78) hx hb dX0_take_71 (by decide) (fun c_71 => ?_) (fun c_71 => ?_)
                · refine lv_iload_n hx hb dX0_take_78 rfl (lv_at hl 8 rfl) ?_
                  refine lv_istore (lv' := [(7, .int v), (6, .int 1), (8, .ref (a_b A 0)), (5, .int (nI (sl r ((v_h r) - 1)))), (4, .int 0), (3, .int (nI (tm - tm % v_w r))), (0, .ref (a_o A)), (1, .int (nI tm)), (2, .int v)]) hx hb dX0_take_79 hl (by decide) rfl (fun ls hl => ?_)
                  refine lv_aload_n hx hb dX0_take_81 rfl (lv_at hl 6 rfl) ?_
                  refine va_get (D := D) (ci := 0) (v := .ref (a_f A)) (C := RX0) (T := TX0) (N := 7) hx hb hts hi0 hown hK hP 0 rfl rfl 3 (by decide) (hts (.fieldLink RX0 27 "RingSeries$Ring" "figures" "[[I") (by decide +kernel)) (fun _ h9 => h9) rfl dX0_take_82 ?_
                  refine lv_iload hx hb dX0_take_85 (lv_at hl 1 rfl) ?_
                  refine ald_a (j := 1) hx hb hK hP 2 1 rfl rfl (by omega) (by omega) dX0_take_87 ?_
                  refine lv_astore (lv' := [(8, .ref (a_b A 1)), (7, .int v), (6, .int 1), (5, .int (nI (sl r ((v_h r) - 1)))), (4, .int 0), (3, .int (nI (tm - tm % v_w r))), (0, .ref (a_o A)), (1, .int (nI tm)), (2, .int v)]) hx hb dX0_take_88 hl (by decide) rfl (fun ls hl => ?_)
                  refine lv_aload hx hb dX0_take_90 (lv_at hl 0 rfl) ?_
                  refine lv_iload hx hb dX0_take_92 (lv_at hl 3 rfl) ?_
                  refine lv_iload hx hb dX0_take_94 (lv_at hl 4 rfl) ?_
                  refine lv_if_eq (tgt := 104) hx hb dX0_take_96 (by decide) (fun c_96 => ?_) (fun c_96 => ?_)
                  · refine lv_aload hx hb dX0_take_104 (lv_at hl 0 rfl) ?_
                    refine lv_iload hx hb dX0_take_106 (lv_at hl 3 rfl) ?_
                    refine ald_i (j := (sl r ((v_h r) - 1))) hx hb hK hP 4 0 rfl rfl s9 (by omega) dX0_take_108 ?_
                    refine lv_iload hx hb dX0_take_109 (lv_at hl 1 rfl) ?_
                    refine lv_iload hx hb dX0_take_111 (lv_at hl 2 rfl) ?_
                    refine ro_call (va_runS (As := [.int ((v_F r 1) (sl r ((v_h r) - 1))), .int v, .int 1]) (rest := [.int (nI (sl r ((v_h r) - 1))), .ref (a_b A 1)]) ⟨hx, hb, hml, hown, hts⟩ (c_X0_joined_any l (k := 1) (by omega) ((v_F r 1) (sl r ((v_h r) - 1))) v) (va_cwS 3 hts gX0_take_X0_joined rfl rfl rfl (by decide +kernel) ⟨Nat.le_of_ble_eq_true rfl, Nat.le_of_ble_eq_true rfl⟩) (ro_preS hK) rfl rfl hl.1 rfl (lv_room (Nat.le_of_ble_eq_true rfl)) dX0_take_113 ⟨Nat.zero_le _, Nat.zero_le _⟩) ?_
                    refine ast_i (j := (sl r ((v_h r) - 1))) hx hb hK hP hD hS 4 0 rfl rfl s9 (by omega) dX0_take_116 (fun H locs hP hD hS => ?_)
                    have hP : va_P D vwCl [(a_o A, .inr (0, [.int (nI (v_N r)), .int (nI (v_w r)), .ref (a_s A), .ref (a_f A), .int (nI (v_o r)), .int (nI (v_h r)), .int (v_g r)])), (a_s A, .inl (cI, v_N r, .inl (v_S r))), (a_f A, .inl (cA, 4, .inr (.inr (.inr (.inr (fun k => some (a_b A k))))))), (a_b A 0, .inl (cI, v_N r, .inl (upd (v_F r 0) (sl r ((v_h r) - 1)) (jn 0 ((v_F r 0) (sl r ((v_h r) - 1))) v)))), (a_b A 1, .inl (cI, v_N r, .inl (upd (v_F r 1) (sl r ((v_h r) - 1)) (jn 1 ((v_F r 1) (sl r ((v_h r) - 1))) v)))), (a_b A 2, .inl (cI, v_N r, .inl (v_F r 2))), (a_b A 3, .inl (cI, v_N r, .inl (v_F r 3)))] H := hP
                    have hD : va_D (va_A (rgW cI cA A r) s.heap.size) [(a_o A, .inr (0, [.int (nI (v_N r)), .int (nI (v_w r)), .ref (a_s A), .ref (a_f A), .int (nI (v_o r)), .int (nI (v_h r)), .int (v_g r)])), (a_s A, .inl (cI, v_N r, .inl (v_S r))), (a_f A, .inl (cA, 4, .inr (.inr (.inr (.inr (fun k => some (a_b A k))))))), (a_b A 0, .inl (cI, v_N r, .inl (upd (v_F r 0) (sl r ((v_h r) - 1)) (jn 0 ((v_F r 0) (sl r ((v_h r) - 1))) v)))), (a_b A 1, .inl (cI, v_N r, .inl (upd (v_F r 1) (sl r ((v_h r) - 1)) (jn 1 ((v_F r 1) (sl r ((v_h r) - 1))) v)))), (a_b A 2, .inl (cI, v_N r, .inl (v_F r 2))), (a_b A 3, .inl (cI, v_N r, .inl (v_F r 3)))] := hD
                    refine lv_iinc (v := 2) (lv' := [(6, .int 2), (8, .ref (a_b A 1)), (7, .int v), (5, .int (nI (sl r ((v_h r) - 1)))), (4, .int 0), (3, .int (nI (tm - tm % v_w r))), (0, .ref (a_o A)), (1, .int (nI tm)), (2, .int v)]) hx hb dX0_take_117 hl (k := 2) rfl (by decide) (by decide) rfl (fun ls hl => ?_)
                    refine lv_goto (tgt := 62) hx hb dX0_take_120 (by decide) ?_
                    refine lv_iload hx hb dX0_take_62 (lv_at hl 0 rfl) ?_
                    refine lv_iconst (v := 4) hx hb dX0_take_64 (by decide) ?_
                    refine lv_icmp_ge (tgt := 123) hx hb dX0_take_65 (by decide) (fun c_65 => ?_) (fun c_65 => ?_)
                    · exact absurd c_65 (by decide)
                    · refine lv_iload hx hb dX0_take_68 (lv_at hl 0 rfl) ?_
                      refine lv_iconst (v := 3) hx hb dX0_take_70 (by decide) ?_
                      refine lv_icmp_ne (tgt := 78) hx hb dX0_take_71 (by decide) (fun c_71 => ?_) (fun c_71 => ?_)
                      · refine lv_iload_n hx hb dX0_take_78 rfl (lv_at hl 8 rfl) ?_
                        refine lv_istore (lv' := [(7, .int v), (6, .int 2), (8, .ref (a_b A 1)), (5, .int (nI (sl r ((v_h r) - 1)))), (4, .int 0), (3, .int (nI (tm - tm % v_w r))), (0, .ref (a_o A)), (1, .int (nI tm)), (2, .int v)]) hx hb dX0_take_79 hl (by decide) rfl (fun ls hl => ?_)
                        refine lv_aload_n hx hb dX0_take_81 rfl (lv_at hl 6 rfl) ?_
                        refine va_get (D := D) (ci := 0) (v := .ref (a_f A)) (C := RX0) (T := TX0) (N := 7) hx hb hts hi0 hown hK hP 0 rfl rfl 3 (by decide) (hts (.fieldLink RX0 27 "RingSeries$Ring" "figures" "[[I") (by decide +kernel)) (fun _ h9 => h9) rfl dX0_take_82 ?_
                        refine lv_iload hx hb dX0_take_85 (lv_at hl 1 rfl) ?_
                        refine ald_a (j := 2) hx hb hK hP 2 1 rfl rfl (by omega) (by omega) dX0_take_87 ?_
                        refine lv_astore (lv' := [(8, .ref (a_b A 2)), (7, .int v), (6, .int 2), (5, .int (nI (sl r ((v_h r) - 1)))), (4, .int 0), (3, .int (nI (tm - tm % v_w r))), (0, .ref (a_o A)), (1, .int (nI tm)), (2, .int v)]) hx hb dX0_take_88 hl (by decide) rfl (fun ls hl => ?_)
                        refine lv_aload hx hb dX0_take_90 (lv_at hl 0 rfl) ?_
                        refine lv_iload hx hb dX0_take_92 (lv_at hl 3 rfl) ?_
                        refine lv_iload hx hb dX0_take_94 (lv_at hl 4 rfl) ?_
                        refine lv_if_eq (tgt := 104) hx hb dX0_take_96 (by decide) (fun c_96 => ?_) (fun c_96 => ?_)
                        · refine lv_aload hx hb dX0_take_104 (lv_at hl 0 rfl) ?_
                          refine lv_iload hx hb dX0_take_106 (lv_at hl 3 rfl) ?_
                          refine ald_i (j := (sl r ((v_h r) - 1))) hx hb hK hP 5 0 rfl rfl s9 (by omega) dX0_take_108 ?_
                          refine lv_iload hx hb dX0_take_109 (lv_at hl 1 rfl) ?_
                          refine lv_iload hx hb dX0_take_111 (lv_at hl 2 rfl) ?_
                          refine ro_call (va_runS (As := [.int ((v_F r 2) (sl r ((v_h r) - 1))), .int v, .int 2]) (rest := [.int (nI (sl r ((v_h r) - 1))), .ref (a_b A 2)]) ⟨hx, hb, hml, hown, hts⟩ (c_X0_joined_any l (k := 2) (by omega) ((v_F r 2) (sl r ((v_h r) - 1))) v) (va_cwS 3 hts gX0_take_X0_joined rfl rfl rfl (by decide +kernel) ⟨Nat.le_of_ble_eq_true rfl, Nat.le_of_ble_eq_true rfl⟩) (ro_preS hK) rfl rfl hl.1 rfl (lv_room (Nat.le_of_ble_eq_true rfl)) dX0_take_113 ⟨Nat.zero_le _, Nat.zero_le _⟩) ?_
                          refine ast_i (j := (sl r ((v_h r) - 1))) hx hb hK hP hD hS 5 0 rfl rfl s9 (by omega) dX0_take_116 (fun H locs hP hD hS => ?_)
                          have hP : va_P D vwCl [(a_o A, .inr (0, [.int (nI (v_N r)), .int (nI (v_w r)), .ref (a_s A), .ref (a_f A), .int (nI (v_o r)), .int (nI (v_h r)), .int (v_g r)])), (a_s A, .inl (cI, v_N r, .inl (v_S r))), (a_f A, .inl (cA, 4, .inr (.inr (.inr (.inr (fun k => some (a_b A k))))))), (a_b A 0, .inl (cI, v_N r, .inl (upd (v_F r 0) (sl r ((v_h r) - 1)) (jn 0 ((v_F r 0) (sl r ((v_h r) - 1))) v)))), (a_b A 1, .inl (cI, v_N r, .inl (upd (v_F r 1) (sl r ((v_h r) - 1)) (jn 1 ((v_F r 1) (sl r ((v_h r) - 1))) v)))), (a_b A 2, .inl (cI, v_N r, .inl (upd (v_F r 2) (sl r ((v_h r) - 1)) (jn 2 ((v_F r 2) (sl r ((v_h r) - 1))) v)))), (a_b A 3, .inl (cI, v_N r, .inl (v_F r 3)))] H := hP
                          have hD : va_D (va_A (rgW cI cA A r) s.heap.size) [(a_o A, .inr (0, [.int (nI (v_N r)), .int (nI (v_w r)), .ref (a_s A), .ref (a_f A), .int (nI (v_o r)), .int (nI (v_h r)), .int (v_g r)])), (a_s A, .inl (cI, v_N r, .inl (v_S r))), (a_f A, .inl (cA, 4, .inr (.inr (.inr (.inr (fun k => some (a_b A k))))))), (a_b A 0, .inl (cI, v_N r, .inl (upd (v_F r 0) (sl r ((v_h r) - 1)) (jn 0 ((v_F r 0) (sl r ((v_h r) - 1))) v)))), (a_b A 1, .inl (cI, v_N r, .inl (upd (v_F r 1) (sl r ((v_h r) - 1)) (jn 1 ((v_F r 1) (sl r ((v_h r) - 1))) v)))), (a_b A 2, .inl (cI, v_N r, .inl (upd (v_F r 2) (sl r ((v_h r) - 1)) (jn 2 ((v_F r 2) (sl r ((v_h r) - 1))) v)))), (a_b A 3, .inl (cI, v_N r, .inl (v_F r 3)))] := hD
                          refine lv_iinc (v := 3) (lv' := [(6, .int 3), (8, .ref (a_b A 2)), (7, .int v), (5, .int (nI (sl r ((v_h r) - 1)))), (4, .int 0), (3, .int (nI (tm - tm % v_w r))), (0, .ref (a_o A)), (1, .int (nI tm)), (2, .int v)]) hx hb dX0_take_117 hl (k := 2) rfl (by decide) (by decide) rfl (fun ls hl => ?_)
                          refine lv_goto (tgt := 62) hx hb dX0_take_120 (by decide) ?_
                          refine lv_iload hx hb dX0_take_62 (lv_at hl 0 rfl) ?_
                          refine lv_iconst (v := 4) hx hb dX0_take_64 (by decide) ?_
                          refine lv_icmp_ge (tgt := 123) hx hb dX0_take_65 (by decide) (fun c_65 => ?_) (fun c_65 => ?_)
                          · exact absurd c_65 (by decide)
                          · refine lv_iload hx hb dX0_take_68 (lv_at hl 0 rfl) ?_
                            refine lv_iconst (v := 3) hx hb dX0_take_70 (by decide) ?_
                            refine lv_icmp_ne (tgt := 78) hx hb dX0_take_71 (by decide) (fun c_71 => ?_) (fun c_71 => ?_)
                            · exact absurd rfl c_71
                            · refine lv_iconst (v := 1) hx hb dX0_take_74 (by decide) ?_
                              refine lv_goto (tgt := 79) hx hb dX0_take_75 (by decide) ?_
                              refine lv_istore (lv' := [(7, .int 1), (6, .int 3), (8, .ref (a_b A 2)), (5, .int (nI (sl r ((v_h r) - 1)))), (4, .int 0), (3, .int (nI (tm - tm % v_w r))), (0, .ref (a_o A)), (1, .int (nI tm)), (2, .int v)]) hx hb dX0_take_79 hl (by decide) rfl (fun ls hl => ?_)
                              refine lv_aload_n hx hb dX0_take_81 rfl (lv_at hl 6 rfl) ?_
                              refine va_get (D := D) (ci := 0) (v := .ref (a_f A)) (C := RX0) (T := TX0) (N := 7) hx hb hts hi0 hown hK hP 0 rfl rfl 3 (by decide) (hts (.fieldLink RX0 27 "RingSeries$Ring" "figures" "[[I") (by decide +kernel)) (fun _ h9 => h9) rfl dX0_take_82 ?_
                              refine lv_iload hx hb dX0_take_85 (lv_at hl 1 rfl) ?_
                              refine ald_a (j := 3) hx hb hK hP 2 1 rfl rfl (by omega) (by omega) dX0_take_87 ?_
                              refine lv_astore (lv' := [(8, .ref (a_b A 3)), (7, .int 1), (6, .int 3), (5, .int (nI (sl r ((v_h r) - 1)))), (4, .int 0), (3, .int (nI (tm - tm % v_w r))), (0, .ref (a_o A)), (1, .int (nI tm)), (2, .int v)]) hx hb dX0_take_88 hl (by decide) rfl (fun ls hl => ?_)
                              refine lv_aload hx hb dX0_take_90 (lv_at hl 0 rfl) ?_
                              refine lv_iload hx hb dX0_take_92 (lv_at hl 3 rfl) ?_
                              refine lv_iload hx hb dX0_take_94 (lv_at hl 4 rfl) ?_
                              refine lv_if_eq (tgt := 104) hx hb dX0_take_96 (by decide) (fun c_96 => ?_) (fun c_96 => ?_)
                              · refine lv_aload hx hb dX0_take_104 (lv_at hl 0 rfl) ?_
                                refine lv_iload hx hb dX0_take_106 (lv_at hl 3 rfl) ?_
                                refine ald_i (j := (sl r ((v_h r) - 1))) hx hb hK hP 6 0 rfl rfl s9 (by omega) dX0_take_108 ?_
                                refine lv_iload hx hb dX0_take_109 (lv_at hl 1 rfl) ?_
                                refine lv_iload hx hb dX0_take_111 (lv_at hl 2 rfl) ?_
                                refine ro_call (va_runS (As := [.int ((v_F r 3) (sl r ((v_h r) - 1))), .int 1, .int 3]) (rest := [.int (nI (sl r ((v_h r) - 1))), .ref (a_b A 3)]) ⟨hx, hb, hml, hown, hts⟩ (c_X0_joined_any l (k := 3) (by omega) ((v_F r 3) (sl r ((v_h r) - 1))) 1) (va_cwS 3 hts gX0_take_X0_joined rfl rfl rfl (by decide +kernel) ⟨Nat.le_of_ble_eq_true rfl, Nat.le_of_ble_eq_true rfl⟩) (ro_preS hK) rfl rfl hl.1 rfl (lv_room (Nat.le_of_ble_eq_true rfl)) dX0_take_113 ⟨Nat.zero_le _, Nat.zero_le _⟩) ?_
                                refine ast_i (j := (sl r ((v_h r) - 1))) hx hb hK hP hD hS 6 0 rfl rfl s9 (by omega) dX0_take_116 (fun H locs hP hD hS => ?_)
                                have hP : va_P D vwCl [(a_o A, .inr (0, [.int (nI (v_N r)), .int (nI (v_w r)), .ref (a_s A), .ref (a_f A), .int (nI (v_o r)), .int (nI (v_h r)), .int (v_g r)])), (a_s A, .inl (cI, v_N r, .inl (v_S r))), (a_f A, .inl (cA, 4, .inr (.inr (.inr (.inr (fun k => some (a_b A k))))))), (a_b A 0, .inl (cI, v_N r, .inl (upd (v_F r 0) (sl r ((v_h r) - 1)) (jn 0 ((v_F r 0) (sl r ((v_h r) - 1))) v)))), (a_b A 1, .inl (cI, v_N r, .inl (upd (v_F r 1) (sl r ((v_h r) - 1)) (jn 1 ((v_F r 1) (sl r ((v_h r) - 1))) v)))), (a_b A 2, .inl (cI, v_N r, .inl (upd (v_F r 2) (sl r ((v_h r) - 1)) (jn 2 ((v_F r 2) (sl r ((v_h r) - 1))) v)))), (a_b A 3, .inl (cI, v_N r, .inl (upd (v_F r 3) (sl r ((v_h r) - 1)) (jn 3 ((v_F r 3) (sl r ((v_h r) - 1))) 1))))] H := hP
                                have hD : va_D (va_A (rgW cI cA A r) s.heap.size) [(a_o A, .inr (0, [.int (nI (v_N r)), .int (nI (v_w r)), .ref (a_s A), .ref (a_f A), .int (nI (v_o r)), .int (nI (v_h r)), .int (v_g r)])), (a_s A, .inl (cI, v_N r, .inl (v_S r))), (a_f A, .inl (cA, 4, .inr (.inr (.inr (.inr (fun k => some (a_b A k))))))), (a_b A 0, .inl (cI, v_N r, .inl (upd (v_F r 0) (sl r ((v_h r) - 1)) (jn 0 ((v_F r 0) (sl r ((v_h r) - 1))) v)))), (a_b A 1, .inl (cI, v_N r, .inl (upd (v_F r 1) (sl r ((v_h r) - 1)) (jn 1 ((v_F r 1) (sl r ((v_h r) - 1))) v)))), (a_b A 2, .inl (cI, v_N r, .inl (upd (v_F r 2) (sl r ((v_h r) - 1)) (jn 2 ((v_F r 2) (sl r ((v_h r) - 1))) v)))), (a_b A 3, .inl (cI, v_N r, .inl (upd (v_F r 3) (sl r ((v_h r) - 1)) (jn 3 ((v_F r 3) (sl r ((v_h r) - 1))) 1))))] := hD
                                refine lv_iinc (v := 4) (lv' := [(6, .int 4), (8, .ref (a_b A 3)), (7, .int 1), (5, .int (nI (sl r ((v_h r) - 1)))), (4, .int 0), (3, .int (nI (tm - tm % v_w r))), (0, .ref (a_o A)), (1, .int (nI tm)), (2, .int v)]) hx hb dX0_take_117 hl (k := 2) rfl (by decide) (by decide) rfl (fun ls hl => ?_)
                                refine lv_goto (tgt := 62) hx hb dX0_take_120 (by decide) ?_
                                refine lv_iload hx hb dX0_take_62 (lv_at hl 0 rfl) ?_
                                refine lv_iconst (v := 4) hx hb dX0_take_64 (by decide) ?_
                                refine lv_icmp_ge (tgt := 123) hx hb dX0_take_65 (by decide) (fun c_65 => ?_) (fun c_65 => ?_)
                                · exact wr_vret hx hb hr (show va_P D vwCl (rgW cI cA A (rowJ r v)) _ from hP) hS dX0_take_123 hlocks
                                · exact absurd (show (4 : Int32) ≤ 4 by decide) c_65
                              · exact absurd rfl c_96
                        · exact absurd rfl c_96
                      · exact absurd c_71 (by decide)
                  · exact absurd rfl c_96
                · exact absurd c_71 (by decide)
            · exact absurd rfl c_96
          · exact absurd c_71 (by decide)
      · exact absurd rfl c_39
    · exact absurd (Or.inr c_27) ho
theorem c_X0_take (l : Launch) {D : va_G} {cI cA cJ : ClassId} {H : Heap} (A : rgA) (r : rgV) (hk : r_ok r) (hP : va_P D vwCl (rgW cI cA A r) H) {A0 : Nat → Prop} (hD0 : va_D A0 (rgW cI cA A r)) (tm : Nat) (ht : tm < 2 ^ 31) (v : Int32) : Met l yX0_take wsX0_take ({ frames := 2, cells := 0, slots := 0, locals := 43 }) (ro_P D vwCl (tyL cI cA cJ) H [.ref (a_o A), .int (nI tm), .int v]) (wr_Q none D vwCl H (rgW cI cA A r) (rgW cI cA A (tkV r tm v))) 0 0 (va_A (rgW cI cA A r) H.size) := by
  unfold tkV
  by_cases h : opn r tm
  · rw [if_pos h]; exact c_X0_take_a l A r hk hP hD0 tm ht v h
  · rw [if_neg h]; exact c_X0_take_b l A r hk hP hD0 tm ht v h
