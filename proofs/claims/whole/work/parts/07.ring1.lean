theorem jn_off {k : Nat} (h : 2 ≤ k) : Op.lookupswitch.offset [(0, 27), (1, 33)] 39 (k : Int) = 39 := by
  rw [Op.lookupswitch.offset_cons, if_neg (by omega), Op.lookupswitch.offset_cons, if_neg (by omega)]
  rfl
set_option maxHeartbeats 4000000 in
set_option maxRecDepth 100000 in
/-- size() -/
theorem c_X0_size (l : Launch) {D : va_G} {cI cA cJ : ClassId} {H : Heap} (A : rgA) (r : rgV) (hk : r_ok r) (hR : va_P D vwCl (rgW cI cA A r) H) : Met l yX0_size wsX0_size ({ frames := 0, cells := 0, slots := 0, locals := 0 }) (ro_P D vwCl (tyL cI cA cJ) H [.ref (a_o A)]) (ro_Q (.int (nI (v_h r))) H) 0 0 ro_no := by
  refine Met.ofW (cc := cX0_size) (maxL := 1) (ret := (some .int)) (by decide) rfl ?_
  intro p e s m args below meth c s₁ B hml hv
  obtain ⟨rfl, hh, hK⟩ := hv
  subst hh
  have hx := B.exec
  have hb := B.bytes
  have hr := B.returns
  have hlocks := B.notSynchronized
  have hts := atoms_spec (ws := wsX0_size) B.pre
  have hown : s.vm.findClass RX0 = some m.cls := findClass_of_methodNamed B.named
  have hi0 : ∀ w ∈ wsX00, w ∈ wsX0_size := fun w h => List.mem_cons_of_mem _ (List.mem_append_right _ h)
  have hl := lv_entry ([.ref (a_o A)]) (n := 1) (Nat.le_of_ble_eq_true rfl)
  rw [lg_entry_eq]
  generalize (lg_sl ([.ref (a_o A)]) ++ List.replicate (1 - (lg_sl ([.ref (a_o A)])).length) Slot.unset).toArray = ls at hl ⊢
  have hl : lv_has ls 1 [(0, .ref (a_o A))] := hl
  obtain ⟨k1, k2, k3, k4, k5, k6⟩ := id hk
  refine lv_aload_n hx hb dX0_size_0 rfl (lv_at hl 0 rfl) ?_
  refine va_get (D := D) (ci := 0) (v := .int (nI (v_h r))) (C := RX0) (T := TX0) (N := 7) hx hb hts hi0 hown hK hR 0 rfl rfl 5 (by decide) (hts (.fieldLink RX0 30 "RingSeries$Ring" "held" "I") (by decide +kernel)) (fun _ h9 => h9) rfl dX0_size_1 ?_
  exact ro_iret hx hb hr rfl dX0_size_4 hlocks
set_option maxHeartbeats 4000000 in
set_option maxRecDepth 100000 in
/-- has(i) -/
theorem c_X0_has_t (l : Launch) {D : va_G} {cI cA cJ : ClassId} {H : Heap} (A : rgA) (r : rgV) (hk : r_ok r) (hR : va_P D vwCl (rgW cI cA A r) H) (j : Nat) (hj : j < v_h r) : Met l yX0_has wsX0_has ({ frames := 0, cells := 0, slots := 0, locals := 0 }) (ro_P D vwCl (tyL cI cA cJ) H [.ref (a_o A), .int (nI j)]) (ro_Q (.int 1) H) 0 0 ro_no := by
  refine Met.ofW (cc := cX0_has) (maxL := 2) (ret := (some .boolean)) (by decide) rfl ?_
  intro p e s m args below meth c s₁ B hml hv
  obtain ⟨rfl, hh, hK⟩ := hv
  subst hh
  have hx := B.exec
  have hb := B.bytes
  have hr := B.returns
  have hlocks := B.notSynchronized
  have hts := atoms_spec (ws := wsX0_has) B.pre
  have hown : s.vm.findClass RX0 = some m.cls := findClass_of_methodNamed B.named
  have hi0 : ∀ w ∈ wsX00, w ∈ wsX0_has := fun w h => List.mem_cons_of_mem _ (List.mem_append_right _ h)
  have hl := lv_entry ([.ref (a_o A), .int (nI j)]) (n := 2) (Nat.le_of_ble_eq_true rfl)
  rw [lg_entry_eq]
  generalize (lg_sl ([.ref (a_o A), .int (nI j)]) ++ List.replicate (2 - (lg_sl ([.ref (a_o A), .int (nI j)])).length) Slot.unset).toArray = ls at hl ⊢
  have hl : lv_has ls 2 [(0, .ref (a_o A)), (1, .int (nI j))] := hl
  obtain ⟨k1, k2, k3, k4, k5, k6⟩ := id hk
  refine lv_iload_n hx hb dX0_has_0 rfl (lv_at hl 1 rfl) ?_
  refine lv_if_lt (tgt := 16) hx hb dX0_has_1 (by decide) (fun c_1 => ?_) (fun c_1 => ?_)
  · exact absurd c_1 (nI_pos (by omega))
  · refine lv_iload_n hx hb dX0_has_4 rfl (lv_at hl 1 rfl) ?_
    refine lv_aload_n hx hb dX0_has_5 rfl (lv_at hl 0 rfl) ?_
    refine va_get (D := D) (ci := 0) (v := .int (nI (v_h r))) (C := RX0) (T := TX0) (N := 7) hx hb hts hi0 hown hK hR 0 rfl rfl 5 (by decide) (hts (.fieldLink RX0 30 "RingSeries$Ring" "held" "I") (by decide +kernel)) (fun _ h9 => h9) rfl dX0_has_6 ?_
    refine lv_icmp_ge (tgt := 16) hx hb dX0_has_9 (by decide) (fun c_9 => ?_) (fun c_9 => ?_)
    · have c_9 := (nI_leI (a := v_h r) (b := j) (by omega) (by omega)).mp c_9
      exact absurd c_9 (by omega)
    · have c_9 := mt (nI_leI (a := v_h r) (b := j) (by omega) (by omega)).mpr c_9
      refine lv_iconst (v := 1) hx hb dX0_has_12 (by decide) ?_
      refine lv_goto (tgt := 17) hx hb dX0_has_13 (by decide) ?_
      exact ro_zret hx hb hr (by first | rfl | decide) rfl dX0_has_17 hlocks
set_option maxHeartbeats 4000000 in
set_option maxRecDepth 100000 in
/-- has(i) -/
theorem c_X0_has_f (l : Launch) {D : va_G} {cI cA cJ : ClassId} {H : Heap} (A : rgA) (r : rgV) (hk : r_ok r) (hR : va_P D vwCl (rgW cI cA A r) H) (i : Int32) (hn : ¬ ix (v_h r) i) : Met l yX0_has wsX0_has ({ frames := 0, cells := 0, slots := 0, locals := 0 }) (ro_P D vwCl (tyL cI cA cJ) H [.ref (a_o A), .int i]) (ro_Q (.int 0) H) 0 0 ro_no := by
  refine Met.ofW (cc := cX0_has) (maxL := 2) (ret := (some .boolean)) (by decide) rfl ?_
  intro p e s m args below meth c s₁ B hml hv
  obtain ⟨rfl, hh, hK⟩ := hv
  subst hh
  have hx := B.exec
  have hb := B.bytes
  have hr := B.returns
  have hlocks := B.notSynchronized
  have hts := atoms_spec (ws := wsX0_has) B.pre
  have hown : s.vm.findClass RX0 = some m.cls := findClass_of_methodNamed B.named
  have hi0 : ∀ w ∈ wsX00, w ∈ wsX0_has := fun w h => List.mem_cons_of_mem _ (List.mem_append_right _ h)
  have hl := lv_entry ([.ref (a_o A), .int i]) (n := 2) (Nat.le_of_ble_eq_true rfl)
  rw [lg_entry_eq]
  generalize (lg_sl ([.ref (a_o A), .int i]) ++ List.replicate (2 - (lg_sl ([.ref (a_o A), .int i])).length) Slot.unset).toArray = ls at hl ⊢
  have hl : lv_has ls 2 [(0, .ref (a_o A)), (1, .int i)] := hl
  obtain ⟨k1, k2, k3, k4, k5, k6⟩ := id hk
  refine lv_iload_n hx hb dX0_has_0 rfl (lv_at hl 1 rfl) ?_
  refine lv_if_lt (tgt := 16) hx hb dX0_has_1 (by decide) (fun c_1 => ?_) (fun c_1 => ?_)
  · refine lv_iconst (v := 0) hx hb dX0_has_16 (by decide) ?_
    exact ro_zret hx hb hr (by first | rfl | decide) rfl dX0_has_17 hlocks
  · refine lv_iload_n hx hb dX0_has_4 rfl (lv_at hl 1 rfl) ?_
    refine lv_aload_n hx hb dX0_has_5 rfl (lv_at hl 0 rfl) ?_
    refine va_get (D := D) (ci := 0) (v := .int (nI (v_h r))) (C := RX0) (T := TX0) (N := 7) hx hb hts hi0 hown hK hR 0 rfl rfl 5 (by decide) (hts (.fieldLink RX0 30 "RingSeries$Ring" "held" "I") (by decide +kernel)) (fun _ h9 => h9) rfl dX0_has_6 ?_
    refine lv_icmp_ge (tgt := 16) hx hb dX0_has_9 (by decide) (fun c_9 => ?_) (fun c_9 => ?_)
    · refine lv_iconst (v := 0) hx hb dX0_has_16 (by decide) ?_
      exact ro_zret hx hb hr (by first | rfl | decide) rfl dX0_has_17 hlocks
    · exact absurd (ix_nix hn) (fun q => q.elim c_1 c_9)
set_option maxHeartbeats 4000000 in
set_option maxRecDepth 100000 in
/-- slot(i) -/
theorem c_X0_slot (l : Launch) {D : va_G} {cI cA cJ : ClassId} {H : Heap} (A : rgA) (r : rgV) (hk : r_ok r) (hR : va_P D vwCl (rgW cI cA A r) H) (j : Nat) (hj : j < v_N r) : Met l yX0_slot wsX0_slot ({ frames := 0, cells := 0, slots := 0, locals := 0 }) (ro_P D vwCl (tyL cI cA cJ) H [.ref (a_o A), .int (nI j)]) (ro_Q (.int (nI (sl r j))) H) 0 0 ro_no := by
  refine Met.ofW (cc := cX0_slot) (maxL := 3) (ret := (some .int)) (by decide) rfl ?_
  intro p e s m args below meth c s₁ B hml hv
  obtain ⟨rfl, hh, hK⟩ := hv
  subst hh
  have hx := B.exec
  have hb := B.bytes
  have hr := B.returns
  have hlocks := B.notSynchronized
  have hts := atoms_spec (ws := wsX0_slot) B.pre
  have hown : s.vm.findClass RX0 = some m.cls := findClass_of_methodNamed B.named
  have hi0 : ∀ w ∈ wsX00, w ∈ wsX0_slot := fun w h => List.mem_cons_of_mem _ (List.mem_append_right _ h)
  have hl := lv_entry ([.ref (a_o A), .int (nI j)]) (n := 3) (Nat.le_of_ble_eq_true rfl)
  rw [lg_entry_eq]
  generalize (lg_sl ([.ref (a_o A), .int (nI j)]) ++ List.replicate (3 - (lg_sl ([.ref (a_o A), .int (nI j)])).length) Slot.unset).toArray = ls at hl ⊢
  have hl : lv_has ls 3 [(0, .ref (a_o A)), (1, .int (nI j))] := hl
  obtain ⟨k1, k2, k3, k4, k5, k6⟩ := id hk
  refine lv_aload_n hx hb dX0_slot_0 rfl (lv_at hl 0 rfl) ?_
  refine va_get (D := D) (ci := 0) (v := .int (nI (v_o r))) (C := RX0) (T := TX0) (N := 7) hx hb hts hi0 hown hK hR 0 rfl rfl 4 (by decide) (hts (.fieldLink RX0 79 "RingSeries$Ring" "oldest" "I") (by decide +kernel)) (fun _ h9 => h9) rfl dX0_slot_1 ?_
  refine lv_iload_n hx hb dX0_slot_4 rfl (lv_at hl 1 rfl) ?_
  refine lv_iadd hx hb dX0_slot_5 ?_
  refine top_i (nI_add _ _) ?_
  refine lv_istore_n (lv' := [(2, .int (nI ((v_o r) + j))), (0, .ref (a_o A)), (1, .int (nI j))]) hx hb dX0_slot_6 rfl hl (by decide) rfl (fun ls hl => ?_)
  refine lv_iload_n hx hb dX0_slot_7 rfl (lv_at hl 0 rfl) ?_
  refine lv_aload_n hx hb dX0_slot_8 rfl (lv_at hl 1 rfl) ?_
  refine va_get (D := D) (ci := 0) (v := .int (nI (v_N r))) (C := RX0) (T := TX0) (N := 7) hx hb hts hi0 hown hK hR 0 rfl rfl 0 (by decide) (hts (.fieldLink RX0 15 "RingSeries$Ring" "room" "I") (by decide +kernel)) (fun _ h9 => h9) rfl dX0_slot_9 ?_
  refine lv_icmp_ge (tgt := 19) hx hb dX0_slot_12 (by decide) (fun c_12 => ?_) (fun c_12 => ?_)
  · have c_12 := (nI_leI (a := v_N r) (b := (v_o r) + j) (by omega) (by omega)).mp c_12
    refine lv_iload_n hx hb dX0_slot_19 rfl (lv_at hl 0 rfl) ?_
    refine lv_aload_n hx hb dX0_slot_20 rfl (lv_at hl 1 rfl) ?_
    refine va_get (D := D) (ci := 0) (v := .int (nI (v_N r))) (C := RX0) (T := TX0) (N := 7) hx hb hts hi0 hown hK hR 0 rfl rfl 0 (by decide) (hts (.fieldLink RX0 15 "RingSeries$Ring" "room" "I") (by decide +kernel)) (fun _ h9 => h9) rfl dX0_slot_21 ?_
    refine lv_isub hx hb dX0_slot_24 ?_
    refine top_i (pk_sub (by omega)) ?_
    exact ro_iret hx hb hr (by unfold sl; rw [if_neg (by omega)]) dX0_slot_25 hlocks
  · have c_12 := mt (nI_leI (a := v_N r) (b := (v_o r) + j) (by omega) (by omega)).mpr c_12
    refine lv_iload_n hx hb dX0_slot_15 rfl (lv_at hl 0 rfl) ?_
    refine lv_goto (tgt := 25) hx hb dX0_slot_16 (by decide) ?_
    exact ro_iret hx hb hr (by unfold sl; rw [if_pos (by omega)]) dX0_slot_25 hlocks
set_option maxHeartbeats 4000000 in
set_option maxRecDepth 100000 in
/-- startOf(i), an entry -/
theorem c_X0_startOf (l : Launch) {D : va_G} {cI cA cJ : ClassId} {H : Heap} (A : rgA) (r : rgV) (hk : r_ok r) (hR : va_P D vwCl (rgW cI cA A r) H) (j : Nat) (hj : j < v_h r) : Met l yX0_startOf wsX0_startOf ({ frames := 1, cells := 0, slots := 0, locals := 22 }) (ro_P D vwCl (tyL cI cA cJ) H [.ref (a_o A), .int (nI j)]) (ro_Q (.int (v_E r j)) H) 0 0 ro_no := by
  refine Met.ofW (cc := cX0_startOf) (maxL := 2) (ret := (some .int)) (by decide) rfl ?_
  intro p e s m args below meth c s₁ B hml hv
  obtain ⟨rfl, hh, hK⟩ := hv
  subst hh
  have hx := B.exec
  have hb := B.bytes
  have hr := B.returns
  have hlocks := B.notSynchronized
  have hts := atoms_spec (ws := wsX0_startOf) B.pre
  have hown : s.vm.findClass RX0 = some m.cls := findClass_of_methodNamed B.named
  have hi0 : ∀ w ∈ wsX00, w ∈ wsX0_startOf := fun w h => List.mem_cons_of_mem _ (List.mem_append_right _ h)
  have hl := lv_entry ([.ref (a_o A), .int (nI j)]) (n := 2) (Nat.le_of_ble_eq_true rfl)
  rw [lg_entry_eq]
  generalize (lg_sl ([.ref (a_o A), .int (nI j)]) ++ List.replicate (2 - (lg_sl ([.ref (a_o A), .int (nI j)])).length) Slot.unset).toArray = ls at hl ⊢
  have hl : lv_has ls 2 [(0, .ref (a_o A)), (1, .int (nI j))] := hl
  obtain ⟨k1, k2, k3, k4, k5, k6⟩ := id hk
  refine lv_aload_n hx hb dX0_startOf_0 rfl (lv_at hl 0 rfl) ?_
  refine lv_iload_n hx hb dX0_startOf_1 rfl (lv_at hl 1 rfl) ?_
  refine ro_call (va_runV (As := [.int (nI j)]) (rest := []) ⟨hx, hb, hml, hown, hts⟩ (c_X0_has_t l A r hk hR j (by omega)) (cwV 1 hts gX0_startOf_X0_has rfl rfl rfl (by decide +kernel) ⟨Nat.le_of_ble_eq_true rfl, Nat.le_of_ble_eq_true rfl⟩) (ro_preV hK (va_recv hK hR (ci := 0) (q0 := 0) rfl rfl)) rfl rfl hl.1 rfl (lv_room (Nat.le_of_ble_eq_true rfl)) dX0_startOf_2 ⟨Nat.zero_le _, Nat.zero_le _⟩) ?_
  refine lv_if_eq (tgt := 21) hx hb dX0_startOf_5 (by decide) (fun c_5 => ?_) (fun c_5 => ?_)
  · exact absurd c_5 (by decide)
  · refine lv_aload_n hx hb dX0_startOf_8 rfl (lv_at hl 0 rfl) ?_
    refine va_get (D := D) (ci := 0) (v := .ref (a_s A)) (C := RX0) (T := TX0) (N := 7) hx hb hts hi0 hown hK hR 0 rfl rfl 2 (by decide) (hts (.fieldLink RX0 21 "RingSeries$Ring" "starts" "[I") (by decide +kernel)) (fun _ h9 => h9) rfl dX0_startOf_9 ?_
    refine lv_aload_n hx hb dX0_startOf_12 rfl (lv_at hl 0 rfl) ?_
    refine lv_iload_n hx hb dX0_startOf_13 rfl (lv_at hl 1 rfl) ?_
    refine ro_call (va_runV (As := [.int (nI j)]) (rest := [.ref (a_s A)]) ⟨hx, hb, hml, hown, hts⟩ (c_X0_slot l A r hk hR j (by omega)) (cwV 1 hts gX0_startOf_X0_slot rfl rfl rfl (by decide +kernel) ⟨Nat.le_of_ble_eq_true rfl, Nat.le_of_ble_eq_true rfl⟩) (ro_preV hK (va_recv hK hR (ci := 0) (q0 := 0) rfl rfl)) rfl rfl hl.1 rfl (lv_room (Nat.le_of_ble_eq_true rfl)) dX0_startOf_14 ⟨Nat.zero_le _, Nat.zero_le _⟩) ?_
    refine ald_i (j := (sl r j)) hx hb hK hR 1 0 rfl rfl (sl_lt hk (by omega)) (by omega) dX0_startOf_17 ?_
    refine lv_goto (tgt := 22) hx hb dX0_startOf_18 (by decide) ?_
    exact ro_iret hx hb hr rfl dX0_startOf_22 hlocks
set_option maxHeartbeats 4000000 in
set_option maxRecDepth 100000 in
/-- startOf(i), no entry -/
theorem c_X0_startOf_n (l : Launch) {D : va_G} {cI cA cJ : ClassId} {H : Heap} (A : rgA) (r : rgV) (hk : r_ok r) (hR : va_P D vwCl (rgW cI cA A r) H) (i : Int32) (hn : ¬ ix (v_h r) i) : Met l yX0_startOf wsX0_startOf ({ frames := 1, cells := 0, slots := 0, locals := 22 }) (ro_P D vwCl (tyL cI cA cJ) H [.ref (a_o A), .int i]) (ro_Q (.int (-1)) H) 0 0 ro_no := by
  refine Met.ofW (cc := cX0_startOf) (maxL := 2) (ret := (some .int)) (by decide) rfl ?_
  intro p e s m args below meth c s₁ B hml hv
  obtain ⟨rfl, hh, hK⟩ := hv
  subst hh
  have hx := B.exec
  have hb := B.bytes
  have hr := B.returns
  have hlocks := B.notSynchronized
  have hts := atoms_spec (ws := wsX0_startOf) B.pre
  have hown : s.vm.findClass RX0 = some m.cls := findClass_of_methodNamed B.named
  have hi0 : ∀ w ∈ wsX00, w ∈ wsX0_startOf := fun w h => List.mem_cons_of_mem _ (List.mem_append_right _ h)
  have hl := lv_entry ([.ref (a_o A), .int i]) (n := 2) (Nat.le_of_ble_eq_true rfl)
  rw [lg_entry_eq]
  generalize (lg_sl ([.ref (a_o A), .int i]) ++ List.replicate (2 - (lg_sl ([.ref (a_o A), .int i])).length) Slot.unset).toArray = ls at hl ⊢
  have hl : lv_has ls 2 [(0, .ref (a_o A)), (1, .int i)] := hl
  obtain ⟨k1, k2, k3, k4, k5, k6⟩ := id hk
  refine lv_aload_n hx hb dX0_startOf_0 rfl (lv_at hl 0 rfl) ?_
  refine lv_iload_n hx hb dX0_startOf_1 rfl (lv_at hl 1 rfl) ?_
  refine ro_call (va_runV (As := [.int i]) (rest := []) ⟨hx, hb, hml, hown, hts⟩ (c_X0_has_f l A r hk hR i hn) (cwV 1 hts gX0_startOf_X0_has rfl rfl rfl (by decide +kernel) ⟨Nat.le_of_ble_eq_true rfl, Nat.le_of_ble_eq_true rfl⟩) (ro_preV hK (va_recv hK hR (ci := 0) (q0 := 0) rfl rfl)) rfl rfl hl.1 rfl (lv_room (Nat.le_of_ble_eq_true rfl)) dX0_startOf_2 ⟨Nat.zero_le _, Nat.zero_le _⟩) ?_
  refine lv_if_eq (tgt := 21) hx hb dX0_startOf_5 (by decide) (fun c_5 => ?_) (fun c_5 => ?_)
  · refine lv_iconst (v := (-1)) hx hb dX0_startOf_21 (by decide) ?_
    exact ro_iret hx hb hr rfl dX0_startOf_22 hlocks
  · exact absurd rfl c_5
set_option maxHeartbeats 4000000 in
set_option maxRecDepth 100000 in
/-- figureOf(i, what), an entry -/
theorem c_X0_figureOf (l : Launch) {D : va_G} {cI cA cJ : ClassId} {H : Heap} (A : rgA) (r : rgV) (hk : r_ok r) (hR : va_P D vwCl (rgW cI cA A r) H) (j k : Nat) (hj : j < v_h r) (hq : k < 4) : Met l yX0_figureOf wsX0_figureOf ({ frames := 1, cells := 0, slots := 0, locals := 22 }) (ro_P D vwCl (tyL cI cA cJ) H [.ref (a_o A), .int (nI j), .int (nI k)]) (ro_Q (.int (v_G r k j)) H) 0 0 ro_no := by
  refine Met.ofW (cc := cX0_figureOf) (maxL := 3) (ret := (some .int)) (by decide) rfl ?_
  intro p e s m args below meth c s₁ B hml hv
  obtain ⟨rfl, hh, hK⟩ := hv
  subst hh
  have hx := B.exec
  have hb := B.bytes
  have hr := B.returns
  have hlocks := B.notSynchronized
  have hts := atoms_spec (ws := wsX0_figureOf) B.pre
  have hown : s.vm.findClass RX0 = some m.cls := findClass_of_methodNamed B.named
  have hi0 : ∀ w ∈ wsX00, w ∈ wsX0_figureOf := fun w h => List.mem_cons_of_mem _ (List.mem_append_right _ h)
  have hl := lv_entry ([.ref (a_o A), .int (nI j), .int (nI k)]) (n := 3) (Nat.le_of_ble_eq_true rfl)
  rw [lg_entry_eq]
  generalize (lg_sl ([.ref (a_o A), .int (nI j), .int (nI k)]) ++ List.replicate (3 - (lg_sl ([.ref (a_o A), .int (nI j), .int (nI k)])).length) Slot.unset).toArray = ls at hl ⊢
  have hl : lv_has ls 3 [(0, .ref (a_o A)), (1, .int (nI j)), (2, .int (nI k))] := hl
  obtain ⟨k1, k2, k3, k4, k5, k6⟩ := id hk
  refine lv_aload_n hx hb dX0_figureOf_0 rfl (lv_at hl 0 rfl) ?_
  refine lv_iload_n hx hb dX0_figureOf_1 rfl (lv_at hl 1 rfl) ?_
  refine ro_call (va_runV (As := [.int (nI j)]) (rest := []) ⟨hx, hb, hml, hown, hts⟩ (c_X0_has_t l A r hk hR j (by omega)) (cwV 1 hts gX0_figureOf_X0_has rfl rfl rfl (by decide +kernel) ⟨Nat.le_of_ble_eq_true rfl, Nat.le_of_ble_eq_true rfl⟩) (ro_preV hK (va_recv hK hR (ci := 0) (q0 := 0) rfl rfl)) rfl rfl hl.1 rfl (lv_room (Nat.le_of_ble_eq_true rfl)) dX0_figureOf_2 ⟨Nat.zero_le _, Nat.zero_le _⟩) ?_
  refine lv_if_eq (tgt := 32) hx hb dX0_figureOf_5 (by decide) (fun c_5 => ?_) (fun c_5 => ?_)
  · exact absurd c_5 (by decide)
  · refine lv_iload_n hx hb dX0_figureOf_8 rfl (lv_at hl 2 rfl) ?_
    refine lv_if_lt (tgt := 32) hx hb dX0_figureOf_9 (by decide) (fun c_9 => ?_) (fun c_9 => ?_)
    · exact absurd c_9 (nI_pos (by omega))
    · refine lv_iload_n hx hb dX0_figureOf_12 rfl (lv_at hl 2 rfl) ?_
      refine lv_iconst (v := 4) hx hb dX0_figureOf_13 (by decide) ?_
      refine lv_icmp_ge (tgt := 32) hx hb dX0_figureOf_14 (by decide) (fun c_14 => ?_) (fun c_14 => ?_)
      · have c_14 := (nI_leI (a := 4) (b := k) (by omega) (by omega)).mp c_14
        exact absurd c_14 (by omega)
      · have c_14 := mt (nI_leI (a := 4) (b := k) (by omega) (by omega)).mpr c_14
        refine lv_aload_n hx hb dX0_figureOf_17 rfl (lv_at hl 0 rfl) ?_
        refine va_get (D := D) (ci := 0) (v := .ref (a_f A)) (C := RX0) (T := TX0) (N := 7) hx hb hts hi0 hown hK hR 0 rfl rfl 3 (by decide) (hts (.fieldLink RX0 27 "RingSeries$Ring" "figures" "[[I") (by decide +kernel)) (fun _ h9 => h9) rfl dX0_figureOf_18 ?_
        refine lv_iload_n hx hb dX0_figureOf_21 rfl (lv_at hl 2 rfl) ?_
        refine ald_a (j := k) hx hb hK hR 2 1 rfl rfl (by omega) (by omega) dX0_figureOf_22 ?_
        refine lv_aload_n hx hb dX0_figureOf_23 rfl (lv_at hl 0 rfl) ?_
        refine lv_iload_n hx hb dX0_figureOf_24 rfl (lv_at hl 1 rfl) ?_
        refine ro_call (va_runV (As := [.int (nI j)]) (rest := [.ref (a_b A k)]) ⟨hx, hb, hml, hown, hts⟩ (c_X0_slot l A r hk hR j (by omega)) (cwV 1 hts gX0_figureOf_X0_slot rfl rfl rfl (by decide +kernel) ⟨Nat.le_of_ble_eq_true rfl, Nat.le_of_ble_eq_true rfl⟩) (ro_preV hK (va_recv hK hR (ci := 0) (q0 := 0) rfl rfl)) rfl rfl hl.1 rfl (lv_room (Nat.le_of_ble_eq_true rfl)) dX0_figureOf_25 ⟨Nat.zero_le _, Nat.zero_le _⟩) ?_
        refine ald_i (j := (sl r j)) hx hb hK hR (3 + k) 0 (rgW_row (by omega)) rfl (sl_lt hk (by omega)) (by omega) dX0_figureOf_28 ?_
        refine lv_goto (tgt := 33) hx hb dX0_figureOf_29 (by decide) ?_
        exact ro_iret hx hb hr rfl dX0_figureOf_33 hlocks
set_option maxHeartbeats 4000000 in
set_option maxRecDepth 100000 in
/-- figureOf(i, what), no entry -/
theorem c_X0_figureOf_n (l : Launch) {D : va_G} {cI cA cJ : ClassId} {H : Heap} (A : rgA) (r : rgV) (hk : r_ok r) (hR : va_P D vwCl (rgW cI cA A r) H) (i k : Int32) (hn : ¬ ix (v_h r) i) : Met l yX0_figureOf wsX0_figureOf ({ frames := 1, cells := 0, slots := 0, locals := 22 }) (ro_P D vwCl (tyL cI cA cJ) H [.ref (a_o A), .int i, .int k]) (ro_Q (.int 0) H) 0 0 ro_no := by
  refine Met.ofW (cc := cX0_figureOf) (maxL := 3) (ret := (some .int)) (by decide) rfl ?_
  intro p e s m args below meth c s₁ B hml hv
  obtain ⟨rfl, hh, hK⟩ := hv
  subst hh
  have hx := B.exec
  have hb := B.bytes
  have hr := B.returns
  have hlocks := B.notSynchronized
  have hts := atoms_spec (ws := wsX0_figureOf) B.pre
  have hown : s.vm.findClass RX0 = some m.cls := findClass_of_methodNamed B.named
  have hi0 : ∀ w ∈ wsX00, w ∈ wsX0_figureOf := fun w h => List.mem_cons_of_mem _ (List.mem_append_right _ h)
  have hl := lv_entry ([.ref (a_o A), .int i, .int k]) (n := 3) (Nat.le_of_ble_eq_true rfl)
  rw [lg_entry_eq]
  generalize (lg_sl ([.ref (a_o A), .int i, .int k]) ++ List.replicate (3 - (lg_sl ([.ref (a_o A), .int i, .int k])).length) Slot.unset).toArray = ls at hl ⊢
  have hl : lv_has ls 3 [(0, .ref (a_o A)), (1, .int i), (2, .int k)] := hl
  obtain ⟨k1, k2, k3, k4, k5, k6⟩ := id hk
  refine lv_aload_n hx hb dX0_figureOf_0 rfl (lv_at hl 0 rfl) ?_
  refine lv_iload_n hx hb dX0_figureOf_1 rfl (lv_at hl 1 rfl) ?_
  refine ro_call (va_runV (As := [.int i]) (rest := []) ⟨hx, hb, hml, hown, hts⟩ (c_X0_has_f l A r hk hR i hn) (cwV 1 hts gX0_figureOf_X0_has rfl rfl rfl (by decide +kernel) ⟨Nat.le_of_ble_eq_true rfl, Nat.le_of_ble_eq_true rfl⟩) (ro_preV hK (va_recv hK hR (ci := 0) (q0 := 0) rfl rfl)) rfl rfl hl.1 rfl (lv_room (Nat.le_of_ble_eq_true rfl)) dX0_figureOf_2 ⟨Nat.zero_le _, Nat.zero_le _⟩) ?_
  refine lv_if_eq (tgt := 32) hx hb dX0_figureOf_5 (by decide) (fun c_5 => ?_) (fun c_5 => ?_)
  · refine lv_iconst (v := 0) hx hb dX0_figureOf_32 (by decide) ?_
    exact ro_iret hx hb hr rfl dX0_figureOf_33 hlocks
  · exact absurd rfl c_5
set_option maxHeartbeats 4000000 in
set_option maxRecDepth 100000 in
/-- figureOf(i, what), no figure -/
theorem c_X0_figureOf_m (l : Launch) {D : va_G} {cI cA cJ : ClassId} {H : Heap} (A : rgA) (r : rgV) (hk : r_ok r) (hR : va_P D vwCl (rgW cI cA A r) H) (j : Nat) (k : Int32) (hj : j < v_h r) (hn : ¬ ix 4 k) : Met l yX0_figureOf wsX0_figureOf ({ frames := 1, cells := 0, slots := 0, locals := 22 }) (ro_P D vwCl (tyL cI cA cJ) H [.ref (a_o A), .int (nI j), .int k]) (ro_Q (.int 0) H) 0 0 ro_no := by
  refine Met.ofW (cc := cX0_figureOf) (maxL := 3) (ret := (some .int)) (by decide) rfl ?_
  intro p e s m args below meth c s₁ B hml hv
  obtain ⟨rfl, hh, hK⟩ := hv
  subst hh
  have hx := B.exec
  have hb := B.bytes
  have hr := B.returns
  have hlocks := B.notSynchronized
  have hts := atoms_spec (ws := wsX0_figureOf) B.pre
  have hown : s.vm.findClass RX0 = some m.cls := findClass_of_methodNamed B.named
  have hi0 : ∀ w ∈ wsX00, w ∈ wsX0_figureOf := fun w h => List.mem_cons_of_mem _ (List.mem_append_right _ h)
  have hl := lv_entry ([.ref (a_o A), .int (nI j), .int k]) (n := 3) (Nat.le_of_ble_eq_true rfl)
  rw [lg_entry_eq]
  generalize (lg_sl ([.ref (a_o A), .int (nI j), .int k]) ++ List.replicate (3 - (lg_sl ([.ref (a_o A), .int (nI j), .int k])).length) Slot.unset).toArray = ls at hl ⊢
  have hl : lv_has ls 3 [(0, .ref (a_o A)), (1, .int (nI j)), (2, .int k)] := hl
  obtain ⟨k1, k2, k3, k4, k5, k6⟩ := id hk
  refine lv_aload_n hx hb dX0_figureOf_0 rfl (lv_at hl 0 rfl) ?_
  refine lv_iload_n hx hb dX0_figureOf_1 rfl (lv_at hl 1 rfl) ?_
  refine ro_call (va_runV (As := [.int (nI j)]) (rest := []) ⟨hx, hb, hml, hown, hts⟩ (c_X0_has_t l A r hk hR j (by omega)) (cwV 1 hts gX0_figureOf_X0_has rfl rfl rfl (by decide +kernel) ⟨Nat.le_of_ble_eq_true rfl, Nat.le_of_ble_eq_true rfl⟩) (ro_preV hK (va_recv hK hR (ci := 0) (q0 := 0) rfl rfl)) rfl rfl hl.1 rfl (lv_room (Nat.le_of_ble_eq_true rfl)) dX0_figureOf_2 ⟨Nat.zero_le _, Nat.zero_le _⟩) ?_
  refine lv_if_eq (tgt := 32) hx hb dX0_figureOf_5 (by decide) (fun c_5 => ?_) (fun c_5 => ?_)
  · exact absurd c_5 (by decide)
  · refine lv_iload_n hx hb dX0_figureOf_8 rfl (lv_at hl 2 rfl) ?_
    refine lv_if_lt (tgt := 32) hx hb dX0_figureOf_9 (by decide) (fun c_9 => ?_) (fun c_9 => ?_)
    · refine lv_iconst (v := 0) hx hb dX0_figureOf_32 (by decide) ?_
      exact ro_iret hx hb hr rfl dX0_figureOf_33 hlocks
    · refine lv_iload_n hx hb dX0_figureOf_12 rfl (lv_at hl 2 rfl) ?_
      refine lv_iconst (v := 4) hx hb dX0_figureOf_13 (by decide) ?_
      refine lv_icmp_ge (tgt := 32) hx hb dX0_figureOf_14 (by decide) (fun c_14 => ?_) (fun c_14 => ?_)
      · refine lv_iconst (v := 0) hx hb dX0_figureOf_32 (by decide) ?_
        exact ro_iret hx hb hr rfl dX0_figureOf_33 hlocks
      · exact absurd (ix_nix (h := 4) hn) (fun q => q.elim c_9 c_14)
set_option maxHeartbeats 4000000 in
set_option maxRecDepth 100000 in
/-- endOfEntry(i) -/
theorem c_X0_endOfEntry (l : Launch) {D : va_G} {cI cA cJ : ClassId} {H : Heap} (A : rgA) (r : rgV) (hk : r_ok r) (hR : va_P D vwCl (rgW cI cA A r) H) (j : Nat) (hj : j < v_h r) : Met l yX0_endOfEntry wsX0_endOfEntry ({ frames := 2, cells := 0, slots := 0, locals := 43 }) (ro_P D vwCl (tyL cI cA cJ) H [.ref (a_o A), .int (nI j)]) (ro_Q (.long (v_X r j)) H) 0 0 ro_no := by
  refine Met.ofW (cc := cX0_endOfEntry) (maxL := 2) (ret := (some .long)) (by decide) rfl ?_
  intro p e s m args below meth c s₁ B hml hv
  obtain ⟨rfl, hh, hK⟩ := hv
  subst hh
  have hx := B.exec
  have hb := B.bytes
  have hr := B.returns
  have hlocks := B.notSynchronized
  have hts := atoms_spec (ws := wsX0_endOfEntry) B.pre
  have hown : s.vm.findClass RX0 = some m.cls := findClass_of_methodNamed B.named
  have hi0 : ∀ w ∈ wsX00, w ∈ wsX0_endOfEntry := fun w h => List.mem_cons_of_mem _ (List.mem_append_right _ h)
  have hl := lv_entry ([.ref (a_o A), .int (nI j)]) (n := 2) (Nat.le_of_ble_eq_true rfl)
  rw [lg_entry_eq]
  generalize (lg_sl ([.ref (a_o A), .int (nI j)]) ++ List.replicate (2 - (lg_sl ([.ref (a_o A), .int (nI j)])).length) Slot.unset).toArray = ls at hl ⊢
  have hl : lv_has ls 2 [(0, .ref (a_o A)), (1, .int (nI j))] := hl
  obtain ⟨k1, k2, k3, k4, k5, k6⟩ := id hk
  refine lv_aload_n hx hb dX0_endOfEntry_0 rfl (lv_at hl 0 rfl) ?_
  refine lv_iload_n hx hb dX0_endOfEntry_1 rfl (lv_at hl 1 rfl) ?_
  refine ro_call (va_runV (As := [.int (nI j)]) (rest := []) ⟨hx, hb, hml, hown, hts⟩ (c_X0_startOf l A r hk hR j (by omega)) (cwV 1 hts gX0_endOfEntry_X0_startOf rfl rfl rfl (by decide +kernel) ⟨Nat.le_of_ble_eq_true rfl, Nat.le_of_ble_eq_true rfl⟩) (ro_preV hK (va_recv hK hR (ci := 0) (q0 := 0) rfl rfl)) rfl rfl hl.1 rfl (lv_room (Nat.le_of_ble_eq_true rfl)) dX0_endOfEntry_2 ⟨Nat.zero_le _, Nat.zero_le _⟩) ?_
  refine lv_i2l hx hb dX0_endOfEntry_5 rfl ?_
  refine lv_aload_n hx hb dX0_endOfEntry_6 rfl (lv_at hl 0 rfl) ?_
  refine va_get (D := D) (ci := 0) (v := .int (nI (v_w r))) (C := RX0) (T := TX0) (N := 7) hx hb hts hi0 hown hK hR 0 rfl rfl 1 (by decide) (hts (.fieldLink RX0 18 "RingSeries$Ring" "width" "I") (by decide +kernel)) (fun _ h9 => h9) rfl dX0_endOfEntry_7 ?_
  refine lv_i2l hx hb dX0_endOfEntry_10 rfl ?_
  refine lv_ladd hx hb dX0_endOfEntry_11 ?_
  exact ro_lret hx hb hr rfl dX0_endOfEntry_12 hlocks
set_option maxHeartbeats 4000000 in
set_option maxRecDepth 100000 in
/-- joined(one, other, what) -/
theorem c_X0_joined_0 (l : Launch) {D : va_G} {cI cA cJ : ClassId} {H : Heap} (x y : Int32) : Met l yX0_joined wsX0_joined ({ frames := 1, cells := 0, slots := 0, locals := 21 }) (ro_P D vwCl (tyL cI cA cJ) H [.int x, .int y, .int 0]) (ro_Q (.int (jn 0 x y)) H) 0 0 ro_no := by
  refine Met.ofW (cc := cX0_joined) (maxL := 3) (ret := (some .int)) (by decide) rfl ?_
  intro p e s m args below meth c s₁ B hml hv
  obtain ⟨rfl, hh, hK⟩ := hv
  subst hh
  have hx := B.exec
  have hb := B.bytes
  have hr := B.returns
  have hlocks := B.notSynchronized
  have hts := atoms_spec (ws := wsX0_joined) B.pre
  have hown : s.vm.findClass RX0 = some m.cls := findClass_of_methodNamed B.named
  have hl := lv_entry ([.int x, .int y, .int 0]) (n := 3) (Nat.le_of_ble_eq_true rfl)
  rw [lg_entry_eq]
  generalize (lg_sl ([.int x, .int y, .int 0]) ++ List.replicate (3 - (lg_sl ([.int x, .int y, .int 0])).length) Slot.unset).toArray = ls at hl ⊢
  have hl : lv_has ls 3 [(0, .int x), (1, .int y), (2, .int 0)] := hl
  refine lv_iload_n hx hb dX0_joined_0 rfl (lv_at hl 2 rfl) ?_
  refine lv_lookup (off := 27) (tgt := 28) hx hb dX0_joined_1 (by decide) (by decide +kernel) (by decide) ?_
  refine lv_iload_n hx hb dX0_joined_28 rfl (lv_at hl 0 rfl) ?_
  refine lv_iload_n hx hb dX0_joined_29 rfl (lv_at hl 1 rfl) ?_
  refine va_mmin hx hb (hml.trans hl.1.symm) hown (hts (.methodLink RX0 71 Lib.Math.min.name) (by decide +kernel)) (hts (.static Lib.Math.min.name) (by decide +kernel)) (hts (.initialized "java/lang/Math") (by decide +kernel)) (hts (.code Lib.Math.min.name Lib.Math.min.code 2 (some .int)) (by decide +kernel)) (Nat.le_of_ble_eq_true rfl) (Nat.le_of_ble_eq_true rfl) (Nat.zero_le _) (Nat.zero_le _) dX0_joined_30 ?_
  exact ro_iret hx hb hr rfl dX0_joined_33 hlocks
set_option maxHeartbeats 4000000 in
set_option maxRecDepth 100000 in
/-- joined(one, other, what) -/
theorem c_X0_joined_1 (l : Launch) {D : va_G} {cI cA cJ : ClassId} {H : Heap} (x y : Int32) : Met l yX0_joined wsX0_joined ({ frames := 1, cells := 0, slots := 0, locals := 21 }) (ro_P D vwCl (tyL cI cA cJ) H [.int x, .int y, .int 1]) (ro_Q (.int (jn 1 x y)) H) 0 0 ro_no := by
  refine Met.ofW (cc := cX0_joined) (maxL := 3) (ret := (some .int)) (by decide) rfl ?_
  intro p e s m args below meth c s₁ B hml hv
  obtain ⟨rfl, hh, hK⟩ := hv
  subst hh
  have hx := B.exec
  have hb := B.bytes
  have hr := B.returns
  have hlocks := B.notSynchronized
  have hts := atoms_spec (ws := wsX0_joined) B.pre
  have hown : s.vm.findClass RX0 = some m.cls := findClass_of_methodNamed B.named
  have hl := lv_entry ([.int x, .int y, .int 1]) (n := 3) (Nat.le_of_ble_eq_true rfl)
  rw [lg_entry_eq]
  generalize (lg_sl ([.int x, .int y, .int 1]) ++ List.replicate (3 - (lg_sl ([.int x, .int y, .int 1])).length) Slot.unset).toArray = ls at hl ⊢
  have hl : lv_has ls 3 [(0, .int x), (1, .int y), (2, .int 1)] := hl
  refine lv_iload_n hx hb dX0_joined_0 rfl (lv_at hl 2 rfl) ?_
  refine lv_lookup (off := 33) (tgt := 34) hx hb dX0_joined_1 (by decide) (by decide +kernel) (by decide) ?_
  refine lv_iload_n hx hb dX0_joined_34 rfl (lv_at hl 0 rfl) ?_
  refine lv_iload_n hx hb dX0_joined_35 rfl (lv_at hl 1 rfl) ?_
  refine va_mmax hx hb (hml.trans hl.1.symm) hown (hts (.methodLink RX0 76 Lib.Math.max.name) (by decide +kernel)) (hts (.static Lib.Math.max.name) (by decide +kernel)) (hts (.initialized "java/lang/Math") (by decide +kernel)) (hts (.code Lib.Math.max.name Lib.Math.max.code 2 (some .int)) (by decide +kernel)) (Nat.le_of_ble_eq_true rfl) (Nat.le_of_ble_eq_true rfl) (Nat.zero_le _) (Nat.zero_le _) dX0_joined_36 ?_
  exact ro_iret hx hb hr rfl dX0_joined_39 hlocks
set_option maxHeartbeats 4000000 in
set_option maxRecDepth 100000 in
/-- joined(one, other, what) -/
theorem c_X0_joined_2 (l : Launch) {D : va_G} {cI cA cJ : ClassId} {H : Heap} (x y : Int32) (k : Nat) (h2 : 2 ≤ k) (h4 : k < 4) : Met l yX0_joined wsX0_joined ({ frames := 1, cells := 0, slots := 0, locals := 21 }) (ro_P D vwCl (tyL cI cA cJ) H [.int x, .int y, .int (nI k)]) (ro_Q (.int (jn k x y)) H) 0 0 ro_no := by
  refine Met.ofW (cc := cX0_joined) (maxL := 3) (ret := (some .int)) (by decide) rfl ?_
  intro p e s m args below meth c s₁ B hml hv
  obtain ⟨rfl, hh, hK⟩ := hv
  subst hh
  have hx := B.exec
  have hb := B.bytes
  have hr := B.returns
  have hlocks := B.notSynchronized
  have hts := atoms_spec (ws := wsX0_joined) B.pre
  have hown : s.vm.findClass RX0 = some m.cls := findClass_of_methodNamed B.named
  have hl := lv_entry ([.int x, .int y, .int (nI k)]) (n := 3) (Nat.le_of_ble_eq_true rfl)
  rw [lg_entry_eq]
  generalize (lg_sl ([.int x, .int y, .int (nI k)]) ++ List.replicate (3 - (lg_sl ([.int x, .int y, .int (nI k)])).length) Slot.unset).toArray = ls at hl ⊢
  have hl : lv_has ls 3 [(0, .int x), (1, .int y), (2, .int (nI k))] := hl
  refine lv_iload_n hx hb dX0_joined_0 rfl (lv_at hl 2 rfl) ?_
  refine lv_lookup (off := 39) (tgt := 40) hx hb dX0_joined_1 (by decide) (by rw [nI_toInt (by omega)]; exact jn_off h2) (by decide) ?_
  refine lv_iload_n hx hb dX0_joined_40 rfl (lv_at hl 0 rfl) ?_
  refine lv_iload_n hx hb dX0_joined_41 rfl (lv_at hl 1 rfl) ?_
  refine lv_iadd hx hb dX0_joined_42 ?_
  exact ro_iret hx hb hr (by unfold jn; rw [if_neg (by omega), if_neg (by omega)]) dX0_joined_43 hlocks
