theorem nix3 {v : Int32} (hn : ¬ ix 3 v) : v.toInt < 0 ∨ 2 < v.toInt := by
  rcases ix_nix hn with h | h
  · rw [Int32.lt_iff_toInt_lt] at h
    exact Or.inl h
  · rw [Int32.le_iff_toInt_le, nI_toInt (by decide)] at h
    exact Or.inr (by omega)
theorem c_X0_startOf_0 (l : Launch) {D : va_G} {cI cA cJ : ClassId} {H : Heap} (A : rgA) (r : rgV) (hk : r_ok r) (hR : va_P D vwCl (rgW cI cA A r) H) : Met l yX0_startOf wsX0_startOf ({ frames := 1, cells := 0, slots := 0, locals := 22 }) (ro_P D vwCl (tyL cI cA cJ) H [.ref (a_o A), .int 0]) (ro_Q (.int (st0 r)) H) 0 0 ro_no := by
  by_cases h : 0 < v_h r
  · have := c_X0_startOf (cJ := cJ) l A r hk hR 0 h
    rw [nI_0] at this
    rw [show st0 r = v_E r 0 by unfold st0; rw [if_pos h]]
    exact this
  · rw [show st0 r = -1 by unfold st0; rw [if_neg h]]
    refine c_X0_startOf_n l A r hk hR 0 (fun z => ?_)
    rw [show v_h r = 0 by omega] at z
    exact absurd z.2 (by decide)
def wiV (n lo hi : Int32) : Int32 := if lo < (if n < hi then n else hi) then (if n < hi then n else hi) else lo
set_option maxHeartbeats 4000000 in
set_option maxRecDepth 100000 in
/-- firstIn(from) -/
theorem c_X1_firstIn (l : Launch) {D : va_G} {cI cA cJ : ClassId} {H : Heap} (x sq : Nat) (lt : Int32) (A0 A1 A2 : rgA) (hX : va_P D vwCl (xW x sq lt A0 A1 A2) H) (r0 : rgV) (hk0 : r_ok r0) (hR0 : va_P D vwCl (rgW cI cA A0 r0) H) (f : Int32) : Met l yX1_firstIn wsX1_firstIn ({ frames := 3, cells := 0, slots := 0, locals := 67 }) (ro_P D vwCl (tyL cI cA cJ) H [.ref x, .int f]) (ro_Q (.int (nI (sA r0 f))) H) 0 0 ro_no := by
  refine Met.ofW (cc := cX1_firstIn) (maxL := 2) (ret := (some .int)) (by decide) rfl ?_
  intro p e s m args below meth c s₁ B hml hv
  obtain ⟨rfl, hh, hK⟩ := hv
  subst hh
  have hx := B.exec
  have hb := B.bytes
  have hr := B.returns
  have hlocks := B.notSynchronized
  have hts := atoms_spec (ws := wsX1_firstIn) B.pre
  have hown : s.vm.findClass RX1 = some m.cls := findClass_of_methodNamed B.named
  have hi1 : ∀ w ∈ wsX10, w ∈ wsX1_firstIn := fun w h => List.mem_cons_of_mem _ (List.mem_append_left _ (List.mem_append_right _ h))
  have hi0 : ∀ w ∈ wsX00, w ∈ wsX1_firstIn := fun w h => List.mem_cons_of_mem _ (List.mem_append_right _ h)
  have hl := lv_entry ([.ref x, .int f]) (n := 2) (Nat.le_of_ble_eq_true rfl)
  rw [lg_entry_eq]
  generalize (lg_sl ([.ref x, .int f]) ++ List.replicate (2 - (lg_sl ([.ref x, .int f])).length) Slot.unset).toArray = ls at hl ⊢
  have hl : lv_has ls 2 [(0, .ref x), (1, .int f)] := hl
  obtain ⟨k10, k20, k30, k40, k50, k60⟩ := id hk0
  refine lv_aload_n hx hb dX1_firstIn_0 rfl (lv_at hl 0 rfl) ?_
  refine va_get (D := D) (ci := 1) (v := .ref (a_o A0)) (C := RX1) (T := TX1) (N := 5) hx hb hts hi1 hown hK hX 0 rfl rfl 0 (by decide) (hts (.fieldLink RX1 23 "RingSeries" "points" "LRingSeries$Ring;") (by decide +kernel)) (fun _ h9 => h9) rfl dX1_firstIn_1 ?_
  refine lv_iconst (v := 0) hx hb dX1_firstIn_4 (by decide) ?_
  refine lv_iload_n hx hb dX1_firstIn_5 rfl (lv_at hl 1 rfl) ?_
  refine lv_i2l hx hb dX1_firstIn_6 rfl ?_
  refine ro_call (va_runV (As := [.int 0, .long ((f).toInt64)]) (rest := []) ⟨hx, hb, hml, hown, hts⟩ (c_X0_firstFrom l A0 r0 hk0 hR0 0 ((f).toInt64) (by omega)) (cwV 2 hts gX1_firstIn_X0_firstFrom rfl rfl rfl (by decide +kernel) ⟨Nat.le_of_ble_eq_true rfl, Nat.le_of_ble_eq_true rfl⟩) (ro_preV hK (va_recv hK hR0 (ci := 0) (q0 := 0) rfl rfl)) rfl rfl hl.1 rfl (lv_room (Nat.le_of_ble_eq_true rfl)) dX1_firstIn_7 ⟨Nat.zero_le _, Nat.zero_le _⟩) ?_
  exact ro_iret hx hb hr rfl dX1_firstIn_10 hlocks
set_option maxHeartbeats 4000000 in
set_option maxRecDepth 100000 in
/-- endOf(first, to) -/
theorem c_X1_endOf (l : Launch) {D : va_G} {cI cA cJ : ClassId} {H : Heap} (x sq : Nat) (lt : Int32) (A0 A1 A2 : rgA) (hX : va_P D vwCl (xW x sq lt A0 A1 A2) H) (r0 : rgV) (hk0 : r_ok r0) (hR0 : va_P D vwCl (rgW cI cA A0 r0) H) (i : Nat) (hi : i ≤ v_h r0) (t : Int32) : Met l yX1_endOf wsX1_endOf ({ frames := 3, cells := 0, slots := 0, locals := 67 }) (ro_P D vwCl (tyL cI cA cJ) H [.ref x, .int (nI i), .int t]) (ro_Q (.int (nI (ff r0 (t.toInt64 + 1) i))) H) 0 0 ro_no := by
  refine Met.ofW (cc := cX1_endOf) (maxL := 3) (ret := (some .int)) (by decide) rfl ?_
  intro p e s m args below meth c s₁ B hml hv
  obtain ⟨rfl, hh, hK⟩ := hv
  subst hh
  have hx := B.exec
  have hb := B.bytes
  have hr := B.returns
  have hlocks := B.notSynchronized
  have hts := atoms_spec (ws := wsX1_endOf) B.pre
  have hown : s.vm.findClass RX1 = some m.cls := findClass_of_methodNamed B.named
  have hi1 : ∀ w ∈ wsX10, w ∈ wsX1_endOf := fun w h => List.mem_cons_of_mem _ (List.mem_append_left _ (List.mem_append_right _ h))
  have hi0 : ∀ w ∈ wsX00, w ∈ wsX1_endOf := fun w h => List.mem_cons_of_mem _ (List.mem_append_right _ h)
  have hl := lv_entry ([.ref x, .int (nI i), .int t]) (n := 3) (Nat.le_of_ble_eq_true rfl)
  rw [lg_entry_eq]
  generalize (lg_sl ([.ref x, .int (nI i), .int t]) ++ List.replicate (3 - (lg_sl ([.ref x, .int (nI i), .int t])).length) Slot.unset).toArray = ls at hl ⊢
  have hl : lv_has ls 3 [(0, .ref x), (1, .int (nI i)), (2, .int t)] := hl
  obtain ⟨k10, k20, k30, k40, k50, k60⟩ := id hk0
  refine lv_aload_n hx hb dX1_endOf_0 rfl (lv_at hl 0 rfl) ?_
  refine va_get (D := D) (ci := 1) (v := .ref (a_o A0)) (C := RX1) (T := TX1) (N := 5) hx hb hts hi1 hown hK hX 0 rfl rfl 0 (by decide) (hts (.fieldLink RX1 23 "RingSeries" "points" "LRingSeries$Ring;") (by decide +kernel)) (fun _ h9 => h9) rfl dX1_endOf_1 ?_
  refine lv_iload_n hx hb dX1_endOf_4 rfl (lv_at hl 1 rfl) ?_
  refine lv_iload_n hx hb dX1_endOf_5 rfl (lv_at hl 2 rfl) ?_
  refine lv_i2l hx hb dX1_endOf_6 rfl ?_
  refine lv_lconst (v := 1) hx hb dX1_endOf_7 (by decide) ?_
  refine lv_ladd hx hb dX1_endOf_8 ?_
  refine ro_call (va_runV (As := [.int (nI i), .long (((t).toInt64) + 1)]) (rest := []) ⟨hx, hb, hml, hown, hts⟩ (c_X0_firstFrom l A0 r0 hk0 hR0 i (((t).toInt64) + 1) (by omega)) (cwV 2 hts gX1_endOf_X0_firstFrom rfl rfl rfl (by decide +kernel) ⟨Nat.le_of_ble_eq_true rfl, Nat.le_of_ble_eq_true rfl⟩) (ro_preV hK (va_recv hK hR0 (ci := 0) (q0 := 0) rfl rfl)) rfl rfl hl.1 rfl (lv_room (Nat.le_of_ble_eq_true rfl)) dX1_endOf_9 ⟨Nat.zero_le _, Nat.zero_le _⟩) ?_
  exact ro_iret hx hb hr rfl dX1_endOf_12 hlocks
set_option maxHeartbeats 4000000 in
set_option maxRecDepth 100000 in
/-- valueOf(i) -/
theorem c_X1_valueOf (l : Launch) {D : va_G} {cI cA cJ : ClassId} {H : Heap} (x sq : Nat) (lt : Int32) (A0 A1 A2 : rgA) (hX : va_P D vwCl (xW x sq lt A0 A1 A2) H) (r0 : rgV) (hk0 : r_ok r0) (hR0 : va_P D vwCl (rgW cI cA A0 r0) H) (j : Nat) (hj : j < v_h r0) : Met l yX1_valueOf wsX1_valueOf ({ frames := 2, cells := 0, slots := 0, locals := 44 }) (ro_P D vwCl (tyL cI cA cJ) H [.ref x, .int (nI j)]) (ro_Q (.int (v_G r0 2 j)) H) 0 0 ro_no := by
  refine Met.ofW (cc := cX1_valueOf) (maxL := 2) (ret := (some .int)) (by decide) rfl ?_
  intro p e s m args below meth c s₁ B hml hv
  obtain ⟨rfl, hh, hK⟩ := hv
  subst hh
  have hx := B.exec
  have hb := B.bytes
  have hr := B.returns
  have hlocks := B.notSynchronized
  have hts := atoms_spec (ws := wsX1_valueOf) B.pre
  have hown : s.vm.findClass RX1 = some m.cls := findClass_of_methodNamed B.named
  have hi1 : ∀ w ∈ wsX10, w ∈ wsX1_valueOf := fun w h => List.mem_cons_of_mem _ (List.mem_append_left _ (List.mem_append_right _ h))
  have hi0 : ∀ w ∈ wsX00, w ∈ wsX1_valueOf := fun w h => List.mem_cons_of_mem _ (List.mem_append_right _ h)
  have hl := lv_entry ([.ref x, .int (nI j)]) (n := 2) (Nat.le_of_ble_eq_true rfl)
  rw [lg_entry_eq]
  generalize (lg_sl ([.ref x, .int (nI j)]) ++ List.replicate (2 - (lg_sl ([.ref x, .int (nI j)])).length) Slot.unset).toArray = ls at hl ⊢
  have hl : lv_has ls 2 [(0, .ref x), (1, .int (nI j))] := hl
  obtain ⟨k10, k20, k30, k40, k50, k60⟩ := id hk0
  refine lv_aload_n hx hb dX1_valueOf_0 rfl (lv_at hl 0 rfl) ?_
  refine va_get (D := D) (ci := 1) (v := .ref (a_o A0)) (C := RX1) (T := TX1) (N := 5) hx hb hts hi1 hown hK hX 0 rfl rfl 0 (by decide) (hts (.fieldLink RX1 23 "RingSeries" "points" "LRingSeries$Ring;") (by decide +kernel)) (fun _ h9 => h9) rfl dX1_valueOf_1 ?_
  refine lv_iload_n hx hb dX1_valueOf_4 rfl (lv_at hl 1 rfl) ?_
  refine lv_iconst (v := 2) hx hb dX1_valueOf_5 (by decide) ?_
  refine ro_call (va_runV (As := [.int (nI j), .int 2]) (rest := []) ⟨hx, hb, hml, hown, hts⟩ (c_X0_figureOf l A0 r0 hk0 hR0 j 2 (by omega) (by omega)) (cwV 2 hts gX1_valueOf_X0_figureOf rfl rfl rfl (by decide +kernel) ⟨Nat.le_of_ble_eq_true rfl, Nat.le_of_ble_eq_true rfl⟩) (ro_preV hK (va_recv hK hR0 (ci := 0) (q0 := 0) rfl rfl)) rfl rfl hl.1 rfl (lv_room (Nat.le_of_ble_eq_true rfl)) dX1_valueOf_6 ⟨Nat.zero_le _, Nat.zero_le _⟩) ?_
  exact ro_iret hx hb hr rfl dX1_valueOf_9 hlocks
set_option maxHeartbeats 4000000 in
set_option maxRecDepth 100000 in
/-- riseTo(i) -/
theorem c_X1_riseTo (l : Launch) {D : va_G} {cI cA cJ : ClassId} {H : Heap} (x sq : Nat) (lt : Int32) (A0 A1 A2 : rgA) (hX : va_P D vwCl (xW x sq lt A0 A1 A2) H) (r0 : rgV) (hk0 : r_ok r0) (hR0 : va_P D vwCl (rgW cI cA A0 r0) H) (j : Nat) (hj : j < v_h r0) (h1 : 1 ≤ j) : Met l yX1_riseTo wsX1_riseTo ({ frames := 3, cells := 0, slots := 0, locals := 65 }) (ro_P D vwCl (tyL cI cA cJ) H [.ref x, .int (nI j)]) (ro_Q (.long (rz r0 j)) H) 0 0 ro_no := by
  refine Met.ofW (cc := cX1_riseTo) (maxL := 2) (ret := (some .long)) (by decide) rfl ?_
  intro p e s m args below meth c s₁ B hml hv
  obtain ⟨rfl, hh, hK⟩ := hv
  subst hh
  have hx := B.exec
  have hb := B.bytes
  have hr := B.returns
  have hlocks := B.notSynchronized
  have hts := atoms_spec (ws := wsX1_riseTo) B.pre
  have hown : s.vm.findClass RX1 = some m.cls := findClass_of_methodNamed B.named
  have hi1 : ∀ w ∈ wsX10, w ∈ wsX1_riseTo := fun w h => List.mem_cons_of_mem _ (List.mem_append_left _ (List.mem_append_right _ h))
  have hi0 : ∀ w ∈ wsX00, w ∈ wsX1_riseTo := fun w h => List.mem_cons_of_mem _ (List.mem_append_right _ h)
  have hl := lv_entry ([.ref x, .int (nI j)]) (n := 2) (Nat.le_of_ble_eq_true rfl)
  rw [lg_entry_eq]
  generalize (lg_sl ([.ref x, .int (nI j)]) ++ List.replicate (2 - (lg_sl ([.ref x, .int (nI j)])).length) Slot.unset).toArray = ls at hl ⊢
  have hl : lv_has ls 2 [(0, .ref x), (1, .int (nI j))] := hl
  obtain ⟨k10, k20, k30, k40, k50, k60⟩ := id hk0
  refine lv_aload_n hx hb dX1_riseTo_0 rfl (lv_at hl 0 rfl) ?_
  refine lv_iload_n hx hb dX1_riseTo_1 rfl (lv_at hl 1 rfl) ?_
  refine ro_call (va_runV (As := [.int (nI j)]) (rest := []) ⟨hx, hb, hml, hown, hts⟩ (c_X1_valueOf l x sq lt A0 A1 A2 hX r0 hk0 hR0 j (by omega)) (cwV 1 hts gX1_riseTo_X1_valueOf rfl rfl rfl (by decide +kernel) ⟨Nat.le_of_ble_eq_true rfl, Nat.le_of_ble_eq_true rfl⟩) (ro_preV hK (va_recv hK hX (ci := 1) (q0 := 0) rfl rfl)) rfl rfl hl.1 rfl (lv_room (Nat.le_of_ble_eq_true rfl)) dX1_riseTo_2 ⟨Nat.zero_le _, Nat.zero_le _⟩) ?_
  refine lv_i2l hx hb dX1_riseTo_5 rfl ?_
  refine lv_aload_n hx hb dX1_riseTo_6 rfl (lv_at hl 0 rfl) ?_
  refine lv_iload_n hx hb dX1_riseTo_7 rfl (lv_at hl 1 rfl) ?_
  refine lv_iconst (v := 1) hx hb dX1_riseTo_8 (by decide) ?_
  refine lv_isub hx hb dX1_riseTo_9 ?_
  refine top_i (pk_sub (b := 1) (by omega)) ?_
  refine ro_call (va_runV (As := [.int (nI (j - 1))]) (rest := [.long ((v_G r0 2 j).toInt64)]) ⟨hx, hb, hml, hown, hts⟩ (c_X1_valueOf l x sq lt A0 A1 A2 hX r0 hk0 hR0 (j - 1) (by omega)) (cwV 1 hts gX1_riseTo_X1_valueOf rfl rfl rfl (by decide +kernel) ⟨Nat.le_of_ble_eq_true rfl, Nat.le_of_ble_eq_true rfl⟩) (ro_preV hK (va_recv hK hX (ci := 1) (q0 := 0) rfl rfl)) rfl rfl hl.1 rfl (lv_room (Nat.le_of_ble_eq_true rfl)) dX1_riseTo_10 ⟨Nat.zero_le _, Nat.zero_le _⟩) ?_
  refine lv_i2l hx hb dX1_riseTo_13 rfl ?_
  refine lv_lsub hx hb dX1_riseTo_14 ?_
  exact ro_lret hx hb hr rfl dX1_riseTo_15 hlocks
set_option maxHeartbeats 4000000 in
set_option maxRecDepth 100000 in
/-- onLine(earlier, time) -/
theorem c_X1_onLine (l : Launch) {D : va_G} {cI cA cJ : ClassId} {H : Heap} (x sq : Nat) (lt : Int32) (A0 A1 A2 : rgA) (hX : va_P D vwCl (xW x sq lt A0 A1 A2) H) (r0 : rgV) (hk0 : r_ok r0) (hR0 : va_P D vwCl (rgW cI cA A0 r0) H) (j : Nat) (hj : j + 1 < v_h r0) (t : Int32) : Met l yX1_onLine wsX1_onLine ({ frames := 4, cells := 0, slots := 0, locals := 86 }) (ro_P D vwCl (tyL cI cA cJ) H [.ref x, .int (nI j), .int t]) (ro_Q (.int (onl r0 j t)) H) 0 0 ro_no := by
  refine Met.ofW (cc := cX1_onLine) (maxL := 8) (ret := (some .int)) (by decide) rfl ?_
  intro p e s m args below meth c s₁ B hml hv
  obtain ⟨rfl, hh, hK⟩ := hv
  subst hh
  have hx := B.exec
  have hb := B.bytes
  have hr := B.returns
  have hlocks := B.notSynchronized
  have hts := atoms_spec (ws := wsX1_onLine) B.pre
  have hown : s.vm.findClass RX1 = some m.cls := findClass_of_methodNamed B.named
  have hi1 : ∀ w ∈ wsX10, w ∈ wsX1_onLine := fun w h => List.mem_cons_of_mem _ (List.mem_append_left _ (List.mem_append_right _ h))
  have hi0 : ∀ w ∈ wsX00, w ∈ wsX1_onLine := fun w h => List.mem_cons_of_mem _ (List.mem_append_right _ h)
  have hl := lv_entry ([.ref x, .int (nI j), .int t]) (n := 8) (Nat.le_of_ble_eq_true rfl)
  rw [lg_entry_eq]
  generalize (lg_sl ([.ref x, .int (nI j), .int t]) ++ List.replicate (8 - (lg_sl ([.ref x, .int (nI j), .int t])).length) Slot.unset).toArray = ls at hl ⊢
  have hl : lv_has ls 8 [(0, .ref x), (1, .int (nI j)), (2, .int t)] := hl
  obtain ⟨k10, k20, k30, k40, k50, k60⟩ := id hk0
  refine lv_aload_n hx hb dX1_onLine_0 rfl (lv_at hl 0 rfl) ?_
  refine va_get (D := D) (ci := 1) (v := .ref (a_o A0)) (C := RX1) (T := TX1) (N := 5) hx hb hts hi1 hown hK hX 0 rfl rfl 0 (by decide) (hts (.fieldLink RX1 23 "RingSeries" "points" "LRingSeries$Ring;") (by decide +kernel)) (fun _ h9 => h9) rfl dX1_onLine_1 ?_
  refine lv_iload_n hx hb dX1_onLine_4 rfl (lv_at hl 1 rfl) ?_
  refine ro_call (va_runV (As := [.int (nI j)]) (rest := []) ⟨hx, hb, hml, hown, hts⟩ (c_X0_startOf l A0 r0 hk0 hR0 j (by omega)) (cwV 1 hts gX1_onLine_X0_startOf rfl rfl rfl (by decide +kernel) ⟨Nat.le_of_ble_eq_true rfl, Nat.le_of_ble_eq_true rfl⟩) (ro_preV hK (va_recv hK hR0 (ci := 0) (q0 := 0) rfl rfl)) rfl rfl hl.1 rfl (lv_room (Nat.le_of_ble_eq_true rfl)) dX1_onLine_5 ⟨Nat.zero_le _, Nat.zero_le _⟩) ?_
  refine lv_istore_n (lv' := [(3, .int (v_E r0 j)), (0, .ref x), (1, .int (nI j)), (2, .int t)]) hx hb dX1_onLine_8 rfl hl (by decide) rfl (fun ls hl => ?_)
  refine lv_aload_n hx hb dX1_onLine_9 rfl (lv_at hl 1 rfl) ?_
  refine va_get (D := D) (ci := 1) (v := .ref (a_o A0)) (C := RX1) (T := TX1) (N := 5) hx hb hts hi1 hown hK hX 0 rfl rfl 0 (by decide) (hts (.fieldLink RX1 23 "RingSeries" "points" "LRingSeries$Ring;") (by decide +kernel)) (fun _ h9 => h9) rfl dX1_onLine_10 ?_
  refine lv_iload_n hx hb dX1_onLine_13 rfl (lv_at hl 2 rfl) ?_
  refine lv_iconst (v := 1) hx hb dX1_onLine_14 (by decide) ?_
  refine lv_iadd hx hb dX1_onLine_15 ?_
  refine top_i (nI_add _ 1) ?_
  refine ro_call (va_runV (As := [.int (nI (j + 1))]) (rest := []) ⟨hx, hb, hml, hown, hts⟩ (c_X0_startOf l A0 r0 hk0 hR0 (j + 1) (by omega)) (cwV 1 hts gX1_onLine_X0_startOf rfl rfl rfl (by decide +kernel) ⟨Nat.le_of_ble_eq_true rfl, Nat.le_of_ble_eq_true rfl⟩) (ro_preV hK (va_recv hK hR0 (ci := 0) (q0 := 0) rfl rfl)) rfl rfl hl.1 rfl (lv_room (Nat.le_of_ble_eq_true rfl)) dX1_onLine_16 ⟨Nat.zero_le _, Nat.zero_le _⟩) ?_
  refine lv_i2l hx hb dX1_onLine_19 rfl ?_
  refine lv_iload_n hx hb dX1_onLine_20 rfl (lv_at hl 0 rfl) ?_
  refine lv_i2l hx hb dX1_onLine_21 rfl ?_
  refine lv_lsub hx hb dX1_onLine_22 ?_
  refine lv_lstore (lv' := [(4, .long (((v_E r0 (j + 1)).toInt64) - ((v_E r0 j).toInt64))), (3, .int (v_E r0 j)), (0, .ref x), (1, .int (nI j)), (2, .int t)]) hx hb dX1_onLine_23 hl (by decide) rfl (fun ls hl => ?_)
  refine lv_lload hx hb dX1_onLine_25 (lv_at hl 0 rfl) ?_
  refine lv_lconst (v := 0) hx hb dX1_onLine_27 (by decide) ?_
  refine W.lcmp hx hb dX1_onLine_28 ?_
  refine lv_if_gt (tgt := 38) hx hb dX1_onLine_29 (by decide) (fun c_29 => ?_) (fun c_29 => ?_)
  · have c_29 := (lg_cmp_gt _ _).mp c_29
    refine lv_aload_n hx hb dX1_onLine_38 rfl (lv_at hl 2 rfl) ?_
    refine lv_iload_n hx hb dX1_onLine_39 rfl (lv_at hl 3 rfl) ?_
    refine lv_iconst (v := 1) hx hb dX1_onLine_40 (by decide) ?_
    refine lv_iadd hx hb dX1_onLine_41 ?_
    refine top_i (nI_add _ 1) ?_
    refine ro_call (va_runV (As := [.int (nI (j + 1))]) (rest := []) ⟨hx, hb, hml, hown, hts⟩ (c_X1_riseTo l x sq lt A0 A1 A2 hX r0 hk0 hR0 (j + 1) (by omega) (by omega)) (cwV 1 hts gX1_onLine_X1_riseTo rfl rfl rfl (by decide +kernel) ⟨Nat.le_of_ble_eq_true rfl, Nat.le_of_ble_eq_true rfl⟩) (ro_preV hK (va_recv hK hX (ci := 1) (q0 := 0) rfl rfl)) rfl rfl hl.1 rfl (lv_room (Nat.le_of_ble_eq_true rfl)) dX1_onLine_42 ⟨Nat.zero_le _, Nat.zero_le _⟩) ?_
    refine lv_iload_n hx hb dX1_onLine_45 rfl (lv_at hl 4 rfl) ?_
    refine lv_i2l hx hb dX1_onLine_46 rfl ?_
    refine lv_iload_n hx hb dX1_onLine_47 rfl (lv_at hl 1 rfl) ?_
    refine lv_i2l hx hb dX1_onLine_48 rfl ?_
    refine lv_lsub hx hb dX1_onLine_49 ?_
    refine lv_lmul hx hb dX1_onLine_50 ?_
    refine lv_lload hx hb dX1_onLine_51 (lv_at hl 0 rfl) ?_
    refine lv_ldiv hx hb dX1_onLine_53 (fun z => by rw [z] at c_29; exact absurd c_29 (by decide)) ?_
    refine lv_lstore (lv' := [(6, .long (((rz r0 (j + 1)) * (((t).toInt64) - ((v_E r0 j).toInt64))) / (((v_E r0 (j + 1)).toInt64) - ((v_E r0 j).toInt64)))), (4, .long (((v_E r0 (j + 1)).toInt64) - ((v_E r0 j).toInt64))), (3, .int (v_E r0 j)), (0, .ref x), (1, .int (nI j)), (2, .int t)]) hx hb dX1_onLine_54 hl (by decide) rfl (fun ls hl => ?_)
    refine lv_aload_n hx hb dX1_onLine_56 rfl (lv_at hl 3 rfl) ?_
    refine lv_iload_n hx hb dX1_onLine_57 rfl (lv_at hl 4 rfl) ?_
    refine ro_call (va_runV (As := [.int (nI j)]) (rest := []) ⟨hx, hb, hml, hown, hts⟩ (c_X1_valueOf l x sq lt A0 A1 A2 hX r0 hk0 hR0 j (by omega)) (cwV 1 hts gX1_onLine_X1_valueOf rfl rfl rfl (by decide +kernel) ⟨Nat.le_of_ble_eq_true rfl, Nat.le_of_ble_eq_true rfl⟩) (ro_preV hK (va_recv hK hX (ci := 1) (q0 := 0) rfl rfl)) rfl rfl hl.1 rfl (lv_room (Nat.le_of_ble_eq_true rfl)) dX1_onLine_58 ⟨Nat.zero_le _, Nat.zero_le _⟩) ?_
    refine lv_i2l hx hb dX1_onLine_61 rfl ?_
    refine lv_lload hx hb dX1_onLine_62 (lv_at hl 0 rfl) ?_
    refine lv_ladd hx hb dX1_onLine_64 ?_
    refine lv_l2i hx hb dX1_onLine_65 rfl ?_
    exact ro_iret hx hb hr (by unfold onl; rw [if_pos c_29]) dX1_onLine_66 hlocks
  · have c_29 := mt (lg_cmp_gt _ _).mpr c_29
    refine lv_aload_n hx hb dX1_onLine_32 rfl (lv_at hl 2 rfl) ?_
    refine lv_iload_n hx hb dX1_onLine_33 rfl (lv_at hl 3 rfl) ?_
    refine ro_call (va_runV (As := [.int (nI j)]) (rest := []) ⟨hx, hb, hml, hown, hts⟩ (c_X1_valueOf l x sq lt A0 A1 A2 hX r0 hk0 hR0 j (by omega)) (cwV 1 hts gX1_onLine_X1_valueOf rfl rfl rfl (by decide +kernel) ⟨Nat.le_of_ble_eq_true rfl, Nat.le_of_ble_eq_true rfl⟩) (ro_preV hK (va_recv hK hX (ci := 1) (q0 := 0) rfl rfl)) rfl rfl hl.1 rfl (lv_room (Nat.le_of_ble_eq_true rfl)) dX1_onLine_34 ⟨Nat.zero_le _, Nat.zero_le _⟩) ?_
    exact ro_iret hx hb hr (by unfold onl; rw [if_neg c_29]) dX1_onLine_37 hlocks
set_option maxHeartbeats 4000000 in
set_option maxRecDepth 100000 in
/-- ringOf(level) -/
theorem c_X1_ringOf_0 (l : Launch) {D : va_G} {cI cA cJ : ClassId} {H : Heap} (x sq : Nat) (lt : Int32) (A0 A1 A2 : rgA) (hX : va_P D vwCl (xW x sq lt A0 A1 A2) H) : Met l yX1_ringOf wsX1_ringOf ({ frames := 0, cells := 0, slots := 0, locals := 0 }) (ro_P D vwCl (tyL cI cA cJ) H [.ref x, .int 0]) (ro_Q (.ref (a_o A0)) H) 0 0 ro_no := by
  refine Met.ofW (cc := cX1_ringOf) (maxL := 2) (ret := (some (.object "RingSeries$Ring"))) (by decide) rfl ?_
  intro p e s m args below meth c s₁ B hml hv
  obtain ⟨rfl, hh, hK⟩ := hv
  subst hh
  have hx := B.exec
  have hb := B.bytes
  have hr := B.returns
  have hlocks := B.notSynchronized
  have hts := atoms_spec (ws := wsX1_ringOf) B.pre
  have hown : s.vm.findClass RX1 = some m.cls := findClass_of_methodNamed B.named
  have hi1 : ∀ w ∈ wsX10, w ∈ wsX1_ringOf := fun w h => List.mem_cons_of_mem _ (List.mem_append_right _ h)
  have hl := lv_entry ([.ref x, .int 0]) (n := 2) (Nat.le_of_ble_eq_true rfl)
  rw [lg_entry_eq]
  generalize (lg_sl ([.ref x, .int 0]) ++ List.replicate (2 - (lg_sl ([.ref x, .int 0])).length) Slot.unset).toArray = ls at hl ⊢
  have hl : lv_has ls 2 [(0, .ref x), (1, .int 0)] := hl
  refine lv_iload_n hx hb dX1_ringOf_0 rfl (lv_at hl 1 rfl) ?_
  refine lv_tableIn (off := 27) (tgt := 28) hx hb dX1_ringOf_1 (by decide) (by decide) (by decide) (by decide) ?_
  refine lv_aload_n hx hb dX1_ringOf_28 rfl (lv_at hl 0 rfl) ?_
  refine va_get (D := D) (ci := 1) (v := .ref (a_o A0)) (C := RX1) (T := TX1) (N := 5) hx hb hts hi1 hown hK hX 0 rfl rfl 0 (by decide) (hts (.fieldLink RX1 23 "RingSeries" "points" "LRingSeries$Ring;") (by decide +kernel)) (fun _ h9 => h9) rfl dX1_ringOf_29 ?_
  exact ro_aret hx hb hr (Or.inr ⟨_, rfl⟩) rfl dX1_ringOf_32 hlocks
set_option maxHeartbeats 4000000 in
set_option maxRecDepth 100000 in
/-- ringOf(level) -/
theorem c_X1_ringOf_1 (l : Launch) {D : va_G} {cI cA cJ : ClassId} {H : Heap} (x sq : Nat) (lt : Int32) (A0 A1 A2 : rgA) (hX : va_P D vwCl (xW x sq lt A0 A1 A2) H) : Met l yX1_ringOf wsX1_ringOf ({ frames := 0, cells := 0, slots := 0, locals := 0 }) (ro_P D vwCl (tyL cI cA cJ) H [.ref x, .int 1]) (ro_Q (.ref (a_o A1)) H) 0 0 ro_no := by
  refine Met.ofW (cc := cX1_ringOf) (maxL := 2) (ret := (some (.object "RingSeries$Ring"))) (by decide) rfl ?_
  intro p e s m args below meth c s₁ B hml hv
  obtain ⟨rfl, hh, hK⟩ := hv
  subst hh
  have hx := B.exec
  have hb := B.bytes
  have hr := B.returns
  have hlocks := B.notSynchronized
  have hts := atoms_spec (ws := wsX1_ringOf) B.pre
  have hown : s.vm.findClass RX1 = some m.cls := findClass_of_methodNamed B.named
  have hi1 : ∀ w ∈ wsX10, w ∈ wsX1_ringOf := fun w h => List.mem_cons_of_mem _ (List.mem_append_right _ h)
  have hl := lv_entry ([.ref x, .int 1]) (n := 2) (Nat.le_of_ble_eq_true rfl)
  rw [lg_entry_eq]
  generalize (lg_sl ([.ref x, .int 1]) ++ List.replicate (2 - (lg_sl ([.ref x, .int 1])).length) Slot.unset).toArray = ls at hl ⊢
  have hl : lv_has ls 2 [(0, .ref x), (1, .int 1)] := hl
  refine lv_iload_n hx hb dX1_ringOf_0 rfl (lv_at hl 1 rfl) ?_
  refine lv_tableIn (off := 32) (tgt := 33) hx hb dX1_ringOf_1 (by decide) (by decide) (by decide) (by decide) ?_
  refine lv_aload_n hx hb dX1_ringOf_33 rfl (lv_at hl 0 rfl) ?_
  refine va_get (D := D) (ci := 1) (v := .ref (a_o A1)) (C := RX1) (T := TX1) (N := 5) hx hb hts hi1 hown hK hX 0 rfl rfl 1 (by decide) (hts (.fieldLink RX1 27 "RingSeries" "fine" "LRingSeries$Ring;") (by decide +kernel)) (fun _ h9 => h9) rfl dX1_ringOf_34 ?_
  exact ro_aret hx hb hr (Or.inr ⟨_, rfl⟩) rfl dX1_ringOf_37 hlocks
set_option maxHeartbeats 4000000 in
set_option maxRecDepth 100000 in
/-- ringOf(level) -/
theorem c_X1_ringOf_2 (l : Launch) {D : va_G} {cI cA cJ : ClassId} {H : Heap} (x sq : Nat) (lt : Int32) (A0 A1 A2 : rgA) (hX : va_P D vwCl (xW x sq lt A0 A1 A2) H) : Met l yX1_ringOf wsX1_ringOf ({ frames := 0, cells := 0, slots := 0, locals := 0 }) (ro_P D vwCl (tyL cI cA cJ) H [.ref x, .int 2]) (ro_Q (.ref (a_o A2)) H) 0 0 ro_no := by
  refine Met.ofW (cc := cX1_ringOf) (maxL := 2) (ret := (some (.object "RingSeries$Ring"))) (by decide) rfl ?_
  intro p e s m args below meth c s₁ B hml hv
  obtain ⟨rfl, hh, hK⟩ := hv
  subst hh
  have hx := B.exec
  have hb := B.bytes
  have hr := B.returns
  have hlocks := B.notSynchronized
  have hts := atoms_spec (ws := wsX1_ringOf) B.pre
  have hown : s.vm.findClass RX1 = some m.cls := findClass_of_methodNamed B.named
  have hi1 : ∀ w ∈ wsX10, w ∈ wsX1_ringOf := fun w h => List.mem_cons_of_mem _ (List.mem_append_right _ h)
  have hl := lv_entry ([.ref x, .int 2]) (n := 2) (Nat.le_of_ble_eq_true rfl)
  rw [lg_entry_eq]
  generalize (lg_sl ([.ref x, .int 2]) ++ List.replicate (2 - (lg_sl ([.ref x, .int 2])).length) Slot.unset).toArray = ls at hl ⊢
  have hl : lv_has ls 2 [(0, .ref x), (1, .int 2)] := hl
  refine lv_iload_n hx hb dX1_ringOf_0 rfl (lv_at hl 1 rfl) ?_
  refine lv_tableIn (off := 37) (tgt := 38) hx hb dX1_ringOf_1 (by decide) (by decide) (by decide) (by decide) ?_
  refine lv_aload_n hx hb dX1_ringOf_38 rfl (lv_at hl 0 rfl) ?_
  refine va_get (D := D) (ci := 1) (v := .ref (a_o A2)) (C := RX1) (T := TX1) (N := 5) hx hb hts hi1 hown hK hX 0 rfl rfl 2 (by decide) (hts (.fieldLink RX1 30 "RingSeries" "coarse" "LRingSeries$Ring;") (by decide +kernel)) (fun _ h9 => h9) rfl dX1_ringOf_39 ?_
  exact ro_aret hx hb hr (Or.inr ⟨_, rfl⟩) rfl dX1_ringOf_42 hlocks
set_option maxHeartbeats 4000000 in
set_option maxRecDepth 100000 in
/-- ringOf(level) -/
theorem c_X1_ringOf_3 (l : Launch) {D : va_G} {cI cA cJ : ClassId} {H : Heap} (x sq : Nat) (lt : Int32) (A0 A1 A2 : rgA) (hX : va_P D vwCl (xW x sq lt A0 A1 A2) H) (v : Int32) (hn : ¬ ix 3 v) : Met l yX1_ringOf wsX1_ringOf ({ frames := 0, cells := 0, slots := 0, locals := 0 }) (ro_P D vwCl (tyL cI cA cJ) H [.ref x, .int v]) (ro_Q (.null) H) 0 0 ro_no := by
  refine Met.ofW (cc := cX1_ringOf) (maxL := 2) (ret := (some (.object "RingSeries$Ring"))) (by decide) rfl ?_
  intro p e s m args below meth c s₁ B hml hv
  obtain ⟨rfl, hh, hK⟩ := hv
  subst hh
  have hx := B.exec
  have hb := B.bytes
  have hr := B.returns
  have hlocks := B.notSynchronized
  have hts := atoms_spec (ws := wsX1_ringOf) B.pre
  have hown : s.vm.findClass RX1 = some m.cls := findClass_of_methodNamed B.named
  have hi1 : ∀ w ∈ wsX10, w ∈ wsX1_ringOf := fun w h => List.mem_cons_of_mem _ (List.mem_append_right _ h)
  have hl := lv_entry ([.ref x, .int v]) (n := 2) (Nat.le_of_ble_eq_true rfl)
  rw [lg_entry_eq]
  generalize (lg_sl ([.ref x, .int v]) ++ List.replicate (2 - (lg_sl ([.ref x, .int v])).length) Slot.unset).toArray = ls at hl ⊢
  have hl : lv_has ls 2 [(0, .ref x), (1, .int v)] := hl
  refine lv_iload_n hx hb dX1_ringOf_0 rfl (lv_at hl 1 rfl) ?_
  refine lv_tableOut (tgt := 43) hx hb dX1_ringOf_1 (nix3 hn) (by decide) ?_
  refine lv_null hx hb dX1_ringOf_43 ?_
  exact ro_aret hx hb hr (Or.inl rfl) rfl dX1_ringOf_44 hlocks
set_option maxHeartbeats 4000000 in
set_option maxRecDepth 100000 in
/-- count(level) -/
theorem c_X1_count_0 (l : Launch) {D : va_G} {cI cA cJ : ClassId} {H : Heap} (x sq : Nat) (lt : Int32) (A0 A1 A2 : rgA) (hX : va_P D vwCl (xW x sq lt A0 A1 A2) H) (r0 : rgV) (hk0 : r_ok r0) (hR0 : va_P D vwCl (rgW cI cA A0 r0) H) : Met l yX1_count wsX1_count ({ frames := 1, cells := 0, slots := 0, locals := 21 }) (ro_P D vwCl (tyL cI cA cJ) H [.ref x, .int 0]) (ro_Q (.int (nI (v_h r0))) H) 0 0 ro_no := by
  refine Met.ofW (cc := cX1_count) (maxL := 3) (ret := (some .int)) (by decide) rfl ?_
  intro p e s m args below meth c s₁ B hml hv
  obtain ⟨rfl, hh, hK⟩ := hv
  subst hh
  have hx := B.exec
  have hb := B.bytes
  have hr := B.returns
  have hlocks := B.notSynchronized
  have hts := atoms_spec (ws := wsX1_count) B.pre
  have hown : s.vm.findClass RX1 = some m.cls := findClass_of_methodNamed B.named
  have hi1 : ∀ w ∈ wsX10, w ∈ wsX1_count := fun w h => List.mem_cons_of_mem _ (List.mem_append_left _ (List.mem_append_right _ h))
  have hi0 : ∀ w ∈ wsX00, w ∈ wsX1_count := fun w h => List.mem_cons_of_mem _ (List.mem_append_right _ h)
  have hl := lv_entry ([.ref x, .int 0]) (n := 3) (Nat.le_of_ble_eq_true rfl)
  rw [lg_entry_eq]
  generalize (lg_sl ([.ref x, .int 0]) ++ List.replicate (3 - (lg_sl ([.ref x, .int 0])).length) Slot.unset).toArray = ls at hl ⊢
  have hl : lv_has ls 3 [(0, .ref x), (1, .int 0)] := hl
  obtain ⟨k10, k20, k30, k40, k50, k60⟩ := id hk0
  refine lv_aload_n hx hb dX1_count_0 rfl (lv_at hl 0 rfl) ?_
  refine lv_iload_n hx hb dX1_count_1 rfl (lv_at hl 1 rfl) ?_
  refine ro_call (va_runV (As := [.int 0]) (rest := []) ⟨hx, hb, hml, hown, hts⟩ (c_X1_ringOf_0 l x sq lt A0 A1 A2 hX) (cwV 1 hts gX1_count_X1_ringOf rfl rfl rfl (by decide +kernel) ⟨Nat.le_of_ble_eq_true rfl, Nat.le_of_ble_eq_true rfl⟩) (ro_preV hK (va_recv hK hX (ci := 1) (q0 := 0) rfl rfl)) rfl rfl hl.1 rfl (lv_room (Nat.le_of_ble_eq_true rfl)) dX1_count_2 ⟨Nat.zero_le _, Nat.zero_le _⟩) ?_
  refine lv_astore_n (lv' := [(2, .ref (a_o A0)), (0, .ref x), (1, .int 0)]) hx hb dX1_count_5 rfl hl (by decide) rfl (fun ls hl => ?_)
  refine lv_aload_n hx hb dX1_count_6 rfl (lv_at hl 0 rfl) ?_
  refine lv_ifnonnull (tgt := 14) hx hb dX1_count_7 (by decide) ?_
  refine lv_aload_n hx hb dX1_count_14 rfl (lv_at hl 0 rfl) ?_
  refine ro_call (va_runV (As := []) (rest := []) ⟨hx, hb, hml, hown, hts⟩ (c_X0_size l A0 r0 hk0 hR0) (cwV 0 hts gX1_count_X0_size rfl rfl rfl (by decide +kernel) ⟨Nat.le_of_ble_eq_true rfl, Nat.le_of_ble_eq_true rfl⟩) (ro_preV hK (va_recv hK hR0 (ci := 0) (q0 := 0) rfl rfl)) rfl rfl hl.1 rfl (lv_room (Nat.le_of_ble_eq_true rfl)) dX1_count_15 ⟨Nat.zero_le _, Nat.zero_le _⟩) ?_
  exact ro_iret hx hb hr rfl dX1_count_18 hlocks
set_option maxHeartbeats 4000000 in
set_option maxRecDepth 100000 in
/-- count(level) -/
theorem c_X1_count_1 (l : Launch) {D : va_G} {cI cA cJ : ClassId} {H : Heap} (x sq : Nat) (lt : Int32) (A0 A1 A2 : rgA) (hX : va_P D vwCl (xW x sq lt A0 A1 A2) H) (r1 : rgV) (hk1 : r_ok r1) (hR1 : va_P D vwCl (rgW cI cA A1 r1) H) : Met l yX1_count wsX1_count ({ frames := 1, cells := 0, slots := 0, locals := 21 }) (ro_P D vwCl (tyL cI cA cJ) H [.ref x, .int 1]) (ro_Q (.int (nI (v_h r1))) H) 0 0 ro_no := by
  refine Met.ofW (cc := cX1_count) (maxL := 3) (ret := (some .int)) (by decide) rfl ?_
  intro p e s m args below meth c s₁ B hml hv
  obtain ⟨rfl, hh, hK⟩ := hv
  subst hh
  have hx := B.exec
  have hb := B.bytes
  have hr := B.returns
  have hlocks := B.notSynchronized
  have hts := atoms_spec (ws := wsX1_count) B.pre
  have hown : s.vm.findClass RX1 = some m.cls := findClass_of_methodNamed B.named
  have hi1 : ∀ w ∈ wsX10, w ∈ wsX1_count := fun w h => List.mem_cons_of_mem _ (List.mem_append_left _ (List.mem_append_right _ h))
  have hi0 : ∀ w ∈ wsX00, w ∈ wsX1_count := fun w h => List.mem_cons_of_mem _ (List.mem_append_right _ h)
  have hl := lv_entry ([.ref x, .int 1]) (n := 3) (Nat.le_of_ble_eq_true rfl)
  rw [lg_entry_eq]
  generalize (lg_sl ([.ref x, .int 1]) ++ List.replicate (3 - (lg_sl ([.ref x, .int 1])).length) Slot.unset).toArray = ls at hl ⊢
  have hl : lv_has ls 3 [(0, .ref x), (1, .int 1)] := hl
  obtain ⟨k11, k21, k31, k41, k51, k61⟩ := id hk1
  refine lv_aload_n hx hb dX1_count_0 rfl (lv_at hl 0 rfl) ?_
  refine lv_iload_n hx hb dX1_count_1 rfl (lv_at hl 1 rfl) ?_
  refine ro_call (va_runV (As := [.int 1]) (rest := []) ⟨hx, hb, hml, hown, hts⟩ (c_X1_ringOf_1 l x sq lt A0 A1 A2 hX) (cwV 1 hts gX1_count_X1_ringOf rfl rfl rfl (by decide +kernel) ⟨Nat.le_of_ble_eq_true rfl, Nat.le_of_ble_eq_true rfl⟩) (ro_preV hK (va_recv hK hX (ci := 1) (q0 := 0) rfl rfl)) rfl rfl hl.1 rfl (lv_room (Nat.le_of_ble_eq_true rfl)) dX1_count_2 ⟨Nat.zero_le _, Nat.zero_le _⟩) ?_
  refine lv_astore_n (lv' := [(2, .ref (a_o A1)), (0, .ref x), (1, .int 1)]) hx hb dX1_count_5 rfl hl (by decide) rfl (fun ls hl => ?_)
  refine lv_aload_n hx hb dX1_count_6 rfl (lv_at hl 0 rfl) ?_
  refine lv_ifnonnull (tgt := 14) hx hb dX1_count_7 (by decide) ?_
  refine lv_aload_n hx hb dX1_count_14 rfl (lv_at hl 0 rfl) ?_
  refine ro_call (va_runV (As := []) (rest := []) ⟨hx, hb, hml, hown, hts⟩ (c_X0_size l A1 r1 hk1 hR1) (cwV 0 hts gX1_count_X0_size rfl rfl rfl (by decide +kernel) ⟨Nat.le_of_ble_eq_true rfl, Nat.le_of_ble_eq_true rfl⟩) (ro_preV hK (va_recv hK hR1 (ci := 0) (q0 := 0) rfl rfl)) rfl rfl hl.1 rfl (lv_room (Nat.le_of_ble_eq_true rfl)) dX1_count_15 ⟨Nat.zero_le _, Nat.zero_le _⟩) ?_
  exact ro_iret hx hb hr rfl dX1_count_18 hlocks
set_option maxHeartbeats 4000000 in
set_option maxRecDepth 100000 in
/-- count(level) -/
theorem c_X1_count_2 (l : Launch) {D : va_G} {cI cA cJ : ClassId} {H : Heap} (x sq : Nat) (lt : Int32) (A0 A1 A2 : rgA) (hX : va_P D vwCl (xW x sq lt A0 A1 A2) H) (r2 : rgV) (hk2 : r_ok r2) (hR2 : va_P D vwCl (rgW cI cA A2 r2) H) : Met l yX1_count wsX1_count ({ frames := 1, cells := 0, slots := 0, locals := 21 }) (ro_P D vwCl (tyL cI cA cJ) H [.ref x, .int 2]) (ro_Q (.int (nI (v_h r2))) H) 0 0 ro_no := by
  refine Met.ofW (cc := cX1_count) (maxL := 3) (ret := (some .int)) (by decide) rfl ?_
  intro p e s m args below meth c s₁ B hml hv
  obtain ⟨rfl, hh, hK⟩ := hv
  subst hh
  have hx := B.exec
  have hb := B.bytes
  have hr := B.returns
  have hlocks := B.notSynchronized
  have hts := atoms_spec (ws := wsX1_count) B.pre
  have hown : s.vm.findClass RX1 = some m.cls := findClass_of_methodNamed B.named
  have hi1 : ∀ w ∈ wsX10, w ∈ wsX1_count := fun w h => List.mem_cons_of_mem _ (List.mem_append_left _ (List.mem_append_right _ h))
  have hi0 : ∀ w ∈ wsX00, w ∈ wsX1_count := fun w h => List.mem_cons_of_mem _ (List.mem_append_right _ h)
  have hl := lv_entry ([.ref x, .int 2]) (n := 3) (Nat.le_of_ble_eq_true rfl)
  rw [lg_entry_eq]
  generalize (lg_sl ([.ref x, .int 2]) ++ List.replicate (3 - (lg_sl ([.ref x, .int 2])).length) Slot.unset).toArray = ls at hl ⊢
  have hl : lv_has ls 3 [(0, .ref x), (1, .int 2)] := hl
  obtain ⟨k12, k22, k32, k42, k52, k62⟩ := id hk2
  refine lv_aload_n hx hb dX1_count_0 rfl (lv_at hl 0 rfl) ?_
  refine lv_iload_n hx hb dX1_count_1 rfl (lv_at hl 1 rfl) ?_
  refine ro_call (va_runV (As := [.int 2]) (rest := []) ⟨hx, hb, hml, hown, hts⟩ (c_X1_ringOf_2 l x sq lt A0 A1 A2 hX) (cwV 1 hts gX1_count_X1_ringOf rfl rfl rfl (by decide +kernel) ⟨Nat.le_of_ble_eq_true rfl, Nat.le_of_ble_eq_true rfl⟩) (ro_preV hK (va_recv hK hX (ci := 1) (q0 := 0) rfl rfl)) rfl rfl hl.1 rfl (lv_room (Nat.le_of_ble_eq_true rfl)) dX1_count_2 ⟨Nat.zero_le _, Nat.zero_le _⟩) ?_
  refine lv_astore_n (lv' := [(2, .ref (a_o A2)), (0, .ref x), (1, .int 2)]) hx hb dX1_count_5 rfl hl (by decide) rfl (fun ls hl => ?_)
  refine lv_aload_n hx hb dX1_count_6 rfl (lv_at hl 0 rfl) ?_
  refine lv_ifnonnull (tgt := 14) hx hb dX1_count_7 (by decide) ?_
  refine lv_aload_n hx hb dX1_count_14 rfl (lv_at hl 0 rfl) ?_
  refine ro_call (va_runV (As := []) (rest := []) ⟨hx, hb, hml, hown, hts⟩ (c_X0_size l A2 r2 hk2 hR2) (cwV 0 hts gX1_count_X0_size rfl rfl rfl (by decide +kernel) ⟨Nat.le_of_ble_eq_true rfl, Nat.le_of_ble_eq_true rfl⟩) (ro_preV hK (va_recv hK hR2 (ci := 0) (q0 := 0) rfl rfl)) rfl rfl hl.1 rfl (lv_room (Nat.le_of_ble_eq_true rfl)) dX1_count_15 ⟨Nat.zero_le _, Nat.zero_le _⟩) ?_
  exact ro_iret hx hb hr rfl dX1_count_18 hlocks
set_option maxHeartbeats 4000000 in
set_option maxRecDepth 100000 in
/-- count(level) -/
theorem c_X1_count_3 (l : Launch) {D : va_G} {cI cA cJ : ClassId} {H : Heap} (x sq : Nat) (lt : Int32) (A0 A1 A2 : rgA) (hX : va_P D vwCl (xW x sq lt A0 A1 A2) H) (v : Int32) (hn : ¬ ix 3 v) : Met l yX1_count wsX1_count ({ frames := 1, cells := 0, slots := 0, locals := 21 }) (ro_P D vwCl (tyL cI cA cJ) H [.ref x, .int v]) (ro_Q (.int (-1)) H) 0 0 ro_no := by
  refine Met.ofW (cc := cX1_count) (maxL := 3) (ret := (some .int)) (by decide) rfl ?_
  intro p e s m args below meth c s₁ B hml hv
  obtain ⟨rfl, hh, hK⟩ := hv
  subst hh
  have hx := B.exec
  have hb := B.bytes
  have hr := B.returns
  have hlocks := B.notSynchronized
  have hts := atoms_spec (ws := wsX1_count) B.pre
  have hown : s.vm.findClass RX1 = some m.cls := findClass_of_methodNamed B.named
  have hi1 : ∀ w ∈ wsX10, w ∈ wsX1_count := fun w h => List.mem_cons_of_mem _ (List.mem_append_left _ (List.mem_append_right _ h))
  have hi0 : ∀ w ∈ wsX00, w ∈ wsX1_count := fun w h => List.mem_cons_of_mem _ (List.mem_append_right _ h)
  have hl := lv_entry ([.ref x, .int v]) (n := 3) (Nat.le_of_ble_eq_true rfl)
  rw [lg_entry_eq]
  generalize (lg_sl ([.ref x, .int v]) ++ List.replicate (3 - (lg_sl ([.ref x, .int v])).length) Slot.unset).toArray = ls at hl ⊢
  have hl : lv_has ls 3 [(0, .ref x), (1, .int v)] := hl
  refine lv_aload_n hx hb dX1_count_0 rfl (lv_at hl 0 rfl) ?_
  refine lv_iload_n hx hb dX1_count_1 rfl (lv_at hl 1 rfl) ?_
  refine ro_call (va_runV (As := [.int v]) (rest := []) ⟨hx, hb, hml, hown, hts⟩ (c_X1_ringOf_3 l x sq lt A0 A1 A2 hX v hn) (cwV 1 hts gX1_count_X1_ringOf rfl rfl rfl (by decide +kernel) ⟨Nat.le_of_ble_eq_true rfl, Nat.le_of_ble_eq_true rfl⟩) (ro_preV hK (va_recv hK hX (ci := 1) (q0 := 0) rfl rfl)) rfl rfl hl.1 rfl (lv_room (Nat.le_of_ble_eq_true rfl)) dX1_count_2 ⟨Nat.zero_le _, Nat.zero_le _⟩) ?_
  refine lv_astore_nN (lv' := [(2, .null), (0, .ref x), (1, .int v)]) hx hb dX1_count_5 rfl hl (by decide) rfl (fun ls hl => ?_)
  refine lv_aload_nN hx hb dX1_count_6 rfl (lv_at hl 0 rfl) ?_
  refine lv_ifnonnullN hx hb dX1_count_7 ?_
  refine lv_iconst (v := (-1)) hx hb dX1_count_10 (by decide) ?_
  refine lv_goto (tgt := 18) hx hb dX1_count_11 (by decide) ?_
  exact ro_iret hx hb hr rfl dX1_count_18 hlocks
set_option maxHeartbeats 4000000 in
set_option maxRecDepth 100000 in
/-- start(level, i) -/
theorem c_X1_start_0 (l : Launch) {D : va_G} {cI cA cJ : ClassId} {H : Heap} (x sq : Nat) (lt : Int32) (A0 A1 A2 : rgA) (hX : va_P D vwCl (xW x sq lt A0 A1 A2) H) (r0 : rgV) (hk0 : r_ok r0) (hR0 : va_P D vwCl (rgW cI cA A0 r0) H) (j : Nat) (hj : j < v_h r0) : Met l yX1_start wsX1_start ({ frames := 2, cells := 0, slots := 0, locals := 43 }) (ro_P D vwCl (tyL cI cA cJ) H [.ref x, .int 0, .int (nI j)]) (ro_Q (.int (v_E r0 j)) H) 0 0 ro_no := by
  refine Met.ofW (cc := cX1_start) (maxL := 4) (ret := (some .int)) (by decide) rfl ?_
  intro p e s m args below meth c s₁ B hml hv
  obtain ⟨rfl, hh, hK⟩ := hv
  subst hh
  have hx := B.exec
  have hb := B.bytes
  have hr := B.returns
  have hlocks := B.notSynchronized
  have hts := atoms_spec (ws := wsX1_start) B.pre
  have hown : s.vm.findClass RX1 = some m.cls := findClass_of_methodNamed B.named
  have hi1 : ∀ w ∈ wsX10, w ∈ wsX1_start := fun w h => List.mem_cons_of_mem _ (List.mem_append_left _ (List.mem_append_right _ h))
  have hi0 : ∀ w ∈ wsX00, w ∈ wsX1_start := fun w h => List.mem_cons_of_mem _ (List.mem_append_right _ h)
  have hl := lv_entry ([.ref x, .int 0, .int (nI j)]) (n := 4) (Nat.le_of_ble_eq_true rfl)
  rw [lg_entry_eq]
  generalize (lg_sl ([.ref x, .int 0, .int (nI j)]) ++ List.replicate (4 - (lg_sl ([.ref x, .int 0, .int (nI j)])).length) Slot.unset).toArray = ls at hl ⊢
  have hl : lv_has ls 4 [(0, .ref x), (1, .int 0), (2, .int (nI j))] := hl
  obtain ⟨k10, k20, k30, k40, k50, k60⟩ := id hk0
  refine lv_aload_n hx hb dX1_start_0 rfl (lv_at hl 0 rfl) ?_
  refine lv_iload_n hx hb dX1_start_1 rfl (lv_at hl 1 rfl) ?_
  refine ro_call (va_runV (As := [.int 0]) (rest := []) ⟨hx, hb, hml, hown, hts⟩ (c_X1_ringOf_0 l x sq lt A0 A1 A2 hX) (cwV 1 hts gX1_start_X1_ringOf rfl rfl rfl (by decide +kernel) ⟨Nat.le_of_ble_eq_true rfl, Nat.le_of_ble_eq_true rfl⟩) (ro_preV hK (va_recv hK hX (ci := 1) (q0 := 0) rfl rfl)) rfl rfl hl.1 rfl (lv_room (Nat.le_of_ble_eq_true rfl)) dX1_start_2 ⟨Nat.zero_le _, Nat.zero_le _⟩) ?_
  refine lv_astore_n (lv' := [(3, .ref (a_o A0)), (0, .ref x), (1, .int 0), (2, .int (nI j))]) hx hb dX1_start_5 rfl hl (by decide) rfl (fun ls hl => ?_)
  refine lv_aload_n hx hb dX1_start_6 rfl (lv_at hl 0 rfl) ?_
  refine lv_ifnonnull (tgt := 14) hx hb dX1_start_7 (by decide) ?_
  refine lv_aload_n hx hb dX1_start_14 rfl (lv_at hl 0 rfl) ?_
  refine lv_iload_n hx hb dX1_start_15 rfl (lv_at hl 3 rfl) ?_
  refine ro_call (va_runV (As := [.int (nI j)]) (rest := []) ⟨hx, hb, hml, hown, hts⟩ (c_X0_startOf l A0 r0 hk0 hR0 j (by omega)) (cwV 1 hts gX1_start_X0_startOf rfl rfl rfl (by decide +kernel) ⟨Nat.le_of_ble_eq_true rfl, Nat.le_of_ble_eq_true rfl⟩) (ro_preV hK (va_recv hK hR0 (ci := 0) (q0 := 0) rfl rfl)) rfl rfl hl.1 rfl (lv_room (Nat.le_of_ble_eq_true rfl)) dX1_start_16 ⟨Nat.zero_le _, Nat.zero_le _⟩) ?_
  exact ro_iret hx hb hr rfl dX1_start_19 hlocks
set_option maxHeartbeats 4000000 in
set_option maxRecDepth 100000 in
/-- start(level, i) -/
theorem c_X1_start_0_n (l : Launch) {D : va_G} {cI cA cJ : ClassId} {H : Heap} (x sq : Nat) (lt : Int32) (A0 A1 A2 : rgA) (hX : va_P D vwCl (xW x sq lt A0 A1 A2) H) (r0 : rgV) (hk0 : r_ok r0) (hR0 : va_P D vwCl (rgW cI cA A0 r0) H) (i : Int32) (hi : ¬ ix (v_h r0) i) : Met l yX1_start wsX1_start ({ frames := 2, cells := 0, slots := 0, locals := 43 }) (ro_P D vwCl (tyL cI cA cJ) H [.ref x, .int 0, .int i]) (ro_Q (.int (-1)) H) 0 0 ro_no := by
  refine Met.ofW (cc := cX1_start) (maxL := 4) (ret := (some .int)) (by decide) rfl ?_
  intro p e s m args below meth c s₁ B hml hv
  obtain ⟨rfl, hh, hK⟩ := hv
  subst hh
  have hx := B.exec
  have hb := B.bytes
  have hr := B.returns
  have hlocks := B.notSynchronized
  have hts := atoms_spec (ws := wsX1_start) B.pre
  have hown : s.vm.findClass RX1 = some m.cls := findClass_of_methodNamed B.named
  have hi1 : ∀ w ∈ wsX10, w ∈ wsX1_start := fun w h => List.mem_cons_of_mem _ (List.mem_append_left _ (List.mem_append_right _ h))
  have hi0 : ∀ w ∈ wsX00, w ∈ wsX1_start := fun w h => List.mem_cons_of_mem _ (List.mem_append_right _ h)
  have hl := lv_entry ([.ref x, .int 0, .int i]) (n := 4) (Nat.le_of_ble_eq_true rfl)
  rw [lg_entry_eq]
  generalize (lg_sl ([.ref x, .int 0, .int i]) ++ List.replicate (4 - (lg_sl ([.ref x, .int 0, .int i])).length) Slot.unset).toArray = ls at hl ⊢
  have hl : lv_has ls 4 [(0, .ref x), (1, .int 0), (2, .int i)] := hl
  obtain ⟨k10, k20, k30, k40, k50, k60⟩ := id hk0
  refine lv_aload_n hx hb dX1_start_0 rfl (lv_at hl 0 rfl) ?_
  refine lv_iload_n hx hb dX1_start_1 rfl (lv_at hl 1 rfl) ?_
  refine ro_call (va_runV (As := [.int 0]) (rest := []) ⟨hx, hb, hml, hown, hts⟩ (c_X1_ringOf_0 l x sq lt A0 A1 A2 hX) (cwV 1 hts gX1_start_X1_ringOf rfl rfl rfl (by decide +kernel) ⟨Nat.le_of_ble_eq_true rfl, Nat.le_of_ble_eq_true rfl⟩) (ro_preV hK (va_recv hK hX (ci := 1) (q0 := 0) rfl rfl)) rfl rfl hl.1 rfl (lv_room (Nat.le_of_ble_eq_true rfl)) dX1_start_2 ⟨Nat.zero_le _, Nat.zero_le _⟩) ?_
  refine lv_astore_n (lv' := [(3, .ref (a_o A0)), (0, .ref x), (1, .int 0), (2, .int i)]) hx hb dX1_start_5 rfl hl (by decide) rfl (fun ls hl => ?_)
  refine lv_aload_n hx hb dX1_start_6 rfl (lv_at hl 0 rfl) ?_
  refine lv_ifnonnull (tgt := 14) hx hb dX1_start_7 (by decide) ?_
  refine lv_aload_n hx hb dX1_start_14 rfl (lv_at hl 0 rfl) ?_
  refine lv_iload_n hx hb dX1_start_15 rfl (lv_at hl 3 rfl) ?_
  refine ro_call (va_runV (As := [.int i]) (rest := []) ⟨hx, hb, hml, hown, hts⟩ (c_X0_startOf_n l A0 r0 hk0 hR0 i hi) (cwV 1 hts gX1_start_X0_startOf rfl rfl rfl (by decide +kernel) ⟨Nat.le_of_ble_eq_true rfl, Nat.le_of_ble_eq_true rfl⟩) (ro_preV hK (va_recv hK hR0 (ci := 0) (q0 := 0) rfl rfl)) rfl rfl hl.1 rfl (lv_room (Nat.le_of_ble_eq_true rfl)) dX1_start_16 ⟨Nat.zero_le _, Nat.zero_le _⟩) ?_
  exact ro_iret hx hb hr rfl dX1_start_19 hlocks
set_option maxHeartbeats 4000000 in
set_option maxRecDepth 100000 in
/-- start(level, i) -/
theorem c_X1_start_1 (l : Launch) {D : va_G} {cI cA cJ : ClassId} {H : Heap} (x sq : Nat) (lt : Int32) (A0 A1 A2 : rgA) (hX : va_P D vwCl (xW x sq lt A0 A1 A2) H) (r1 : rgV) (hk1 : r_ok r1) (hR1 : va_P D vwCl (rgW cI cA A1 r1) H) (j : Nat) (hj : j < v_h r1) : Met l yX1_start wsX1_start ({ frames := 2, cells := 0, slots := 0, locals := 43 }) (ro_P D vwCl (tyL cI cA cJ) H [.ref x, .int 1, .int (nI j)]) (ro_Q (.int (v_E r1 j)) H) 0 0 ro_no := by
  refine Met.ofW (cc := cX1_start) (maxL := 4) (ret := (some .int)) (by decide) rfl ?_
  intro p e s m args below meth c s₁ B hml hv
  obtain ⟨rfl, hh, hK⟩ := hv
  subst hh
  have hx := B.exec
  have hb := B.bytes
  have hr := B.returns
  have hlocks := B.notSynchronized
  have hts := atoms_spec (ws := wsX1_start) B.pre
  have hown : s.vm.findClass RX1 = some m.cls := findClass_of_methodNamed B.named
  have hi1 : ∀ w ∈ wsX10, w ∈ wsX1_start := fun w h => List.mem_cons_of_mem _ (List.mem_append_left _ (List.mem_append_right _ h))
  have hi0 : ∀ w ∈ wsX00, w ∈ wsX1_start := fun w h => List.mem_cons_of_mem _ (List.mem_append_right _ h)
  have hl := lv_entry ([.ref x, .int 1, .int (nI j)]) (n := 4) (Nat.le_of_ble_eq_true rfl)
  rw [lg_entry_eq]
  generalize (lg_sl ([.ref x, .int 1, .int (nI j)]) ++ List.replicate (4 - (lg_sl ([.ref x, .int 1, .int (nI j)])).length) Slot.unset).toArray = ls at hl ⊢
  have hl : lv_has ls 4 [(0, .ref x), (1, .int 1), (2, .int (nI j))] := hl
  obtain ⟨k11, k21, k31, k41, k51, k61⟩ := id hk1
  refine lv_aload_n hx hb dX1_start_0 rfl (lv_at hl 0 rfl) ?_
  refine lv_iload_n hx hb dX1_start_1 rfl (lv_at hl 1 rfl) ?_
  refine ro_call (va_runV (As := [.int 1]) (rest := []) ⟨hx, hb, hml, hown, hts⟩ (c_X1_ringOf_1 l x sq lt A0 A1 A2 hX) (cwV 1 hts gX1_start_X1_ringOf rfl rfl rfl (by decide +kernel) ⟨Nat.le_of_ble_eq_true rfl, Nat.le_of_ble_eq_true rfl⟩) (ro_preV hK (va_recv hK hX (ci := 1) (q0 := 0) rfl rfl)) rfl rfl hl.1 rfl (lv_room (Nat.le_of_ble_eq_true rfl)) dX1_start_2 ⟨Nat.zero_le _, Nat.zero_le _⟩) ?_
  refine lv_astore_n (lv' := [(3, .ref (a_o A1)), (0, .ref x), (1, .int 1), (2, .int (nI j))]) hx hb dX1_start_5 rfl hl (by decide) rfl (fun ls hl => ?_)
  refine lv_aload_n hx hb dX1_start_6 rfl (lv_at hl 0 rfl) ?_
  refine lv_ifnonnull (tgt := 14) hx hb dX1_start_7 (by decide) ?_
  refine lv_aload_n hx hb dX1_start_14 rfl (lv_at hl 0 rfl) ?_
  refine lv_iload_n hx hb dX1_start_15 rfl (lv_at hl 3 rfl) ?_
  refine ro_call (va_runV (As := [.int (nI j)]) (rest := []) ⟨hx, hb, hml, hown, hts⟩ (c_X0_startOf l A1 r1 hk1 hR1 j (by omega)) (cwV 1 hts gX1_start_X0_startOf rfl rfl rfl (by decide +kernel) ⟨Nat.le_of_ble_eq_true rfl, Nat.le_of_ble_eq_true rfl⟩) (ro_preV hK (va_recv hK hR1 (ci := 0) (q0 := 0) rfl rfl)) rfl rfl hl.1 rfl (lv_room (Nat.le_of_ble_eq_true rfl)) dX1_start_16 ⟨Nat.zero_le _, Nat.zero_le _⟩) ?_
  exact ro_iret hx hb hr rfl dX1_start_19 hlocks
set_option maxHeartbeats 4000000 in
set_option maxRecDepth 100000 in
/-- start(level, i) -/
theorem c_X1_start_1_n (l : Launch) {D : va_G} {cI cA cJ : ClassId} {H : Heap} (x sq : Nat) (lt : Int32) (A0 A1 A2 : rgA) (hX : va_P D vwCl (xW x sq lt A0 A1 A2) H) (r1 : rgV) (hk1 : r_ok r1) (hR1 : va_P D vwCl (rgW cI cA A1 r1) H) (i : Int32) (hi : ¬ ix (v_h r1) i) : Met l yX1_start wsX1_start ({ frames := 2, cells := 0, slots := 0, locals := 43 }) (ro_P D vwCl (tyL cI cA cJ) H [.ref x, .int 1, .int i]) (ro_Q (.int (-1)) H) 0 0 ro_no := by
  refine Met.ofW (cc := cX1_start) (maxL := 4) (ret := (some .int)) (by decide) rfl ?_
  intro p e s m args below meth c s₁ B hml hv
  obtain ⟨rfl, hh, hK⟩ := hv
  subst hh
  have hx := B.exec
  have hb := B.bytes
  have hr := B.returns
  have hlocks := B.notSynchronized
  have hts := atoms_spec (ws := wsX1_start) B.pre
  have hown : s.vm.findClass RX1 = some m.cls := findClass_of_methodNamed B.named
  have hi1 : ∀ w ∈ wsX10, w ∈ wsX1_start := fun w h => List.mem_cons_of_mem _ (List.mem_append_left _ (List.mem_append_right _ h))
  have hi0 : ∀ w ∈ wsX00, w ∈ wsX1_start := fun w h => List.mem_cons_of_mem _ (List.mem_append_right _ h)
  have hl := lv_entry ([.ref x, .int 1, .int i]) (n := 4) (Nat.le_of_ble_eq_true rfl)
  rw [lg_entry_eq]
  generalize (lg_sl ([.ref x, .int 1, .int i]) ++ List.replicate (4 - (lg_sl ([.ref x, .int 1, .int i])).length) Slot.unset).toArray = ls at hl ⊢
  have hl : lv_has ls 4 [(0, .ref x), (1, .int 1), (2, .int i)] := hl
  obtain ⟨k11, k21, k31, k41, k51, k61⟩ := id hk1
  refine lv_aload_n hx hb dX1_start_0 rfl (lv_at hl 0 rfl) ?_
  refine lv_iload_n hx hb dX1_start_1 rfl (lv_at hl 1 rfl) ?_
  refine ro_call (va_runV (As := [.int 1]) (rest := []) ⟨hx, hb, hml, hown, hts⟩ (c_X1_ringOf_1 l x sq lt A0 A1 A2 hX) (cwV 1 hts gX1_start_X1_ringOf rfl rfl rfl (by decide +kernel) ⟨Nat.le_of_ble_eq_true rfl, Nat.le_of_ble_eq_true rfl⟩) (ro_preV hK (va_recv hK hX (ci := 1) (q0 := 0) rfl rfl)) rfl rfl hl.1 rfl (lv_room (Nat.le_of_ble_eq_true rfl)) dX1_start_2 ⟨Nat.zero_le _, Nat.zero_le _⟩) ?_
  refine lv_astore_n (lv' := [(3, .ref (a_o A1)), (0, .ref x), (1, .int 1), (2, .int i)]) hx hb dX1_start_5 rfl hl (by decide) rfl (fun ls hl => ?_)
  refine lv_aload_n hx hb dX1_start_6 rfl (lv_at hl 0 rfl) ?_
  refine lv_ifnonnull (tgt := 14) hx hb dX1_start_7 (by decide) ?_
  refine lv_aload_n hx hb dX1_start_14 rfl (lv_at hl 0 rfl) ?_
  refine lv_iload_n hx hb dX1_start_15 rfl (lv_at hl 3 rfl) ?_
  refine ro_call (va_runV (As := [.int i]) (rest := []) ⟨hx, hb, hml, hown, hts⟩ (c_X0_startOf_n l A1 r1 hk1 hR1 i hi) (cwV 1 hts gX1_start_X0_startOf rfl rfl rfl (by decide +kernel) ⟨Nat.le_of_ble_eq_true rfl, Nat.le_of_ble_eq_true rfl⟩) (ro_preV hK (va_recv hK hR1 (ci := 0) (q0 := 0) rfl rfl)) rfl rfl hl.1 rfl (lv_room (Nat.le_of_ble_eq_true rfl)) dX1_start_16 ⟨Nat.zero_le _, Nat.zero_le _⟩) ?_
  exact ro_iret hx hb hr rfl dX1_start_19 hlocks
set_option maxHeartbeats 4000000 in
set_option maxRecDepth 100000 in
/-- start(level, i) -/
theorem c_X1_start_2 (l : Launch) {D : va_G} {cI cA cJ : ClassId} {H : Heap} (x sq : Nat) (lt : Int32) (A0 A1 A2 : rgA) (hX : va_P D vwCl (xW x sq lt A0 A1 A2) H) (r2 : rgV) (hk2 : r_ok r2) (hR2 : va_P D vwCl (rgW cI cA A2 r2) H) (j : Nat) (hj : j < v_h r2) : Met l yX1_start wsX1_start ({ frames := 2, cells := 0, slots := 0, locals := 43 }) (ro_P D vwCl (tyL cI cA cJ) H [.ref x, .int 2, .int (nI j)]) (ro_Q (.int (v_E r2 j)) H) 0 0 ro_no := by
  refine Met.ofW (cc := cX1_start) (maxL := 4) (ret := (some .int)) (by decide) rfl ?_
  intro p e s m args below meth c s₁ B hml hv
  obtain ⟨rfl, hh, hK⟩ := hv
  subst hh
  have hx := B.exec
  have hb := B.bytes
  have hr := B.returns
  have hlocks := B.notSynchronized
  have hts := atoms_spec (ws := wsX1_start) B.pre
  have hown : s.vm.findClass RX1 = some m.cls := findClass_of_methodNamed B.named
  have hi1 : ∀ w ∈ wsX10, w ∈ wsX1_start := fun w h => List.mem_cons_of_mem _ (List.mem_append_left _ (List.mem_append_right _ h))
  have hi0 : ∀ w ∈ wsX00, w ∈ wsX1_start := fun w h => List.mem_cons_of_mem _ (List.mem_append_right _ h)
  have hl := lv_entry ([.ref x, .int 2, .int (nI j)]) (n := 4) (Nat.le_of_ble_eq_true rfl)
  rw [lg_entry_eq]
  generalize (lg_sl ([.ref x, .int 2, .int (nI j)]) ++ List.replicate (4 - (lg_sl ([.ref x, .int 2, .int (nI j)])).length) Slot.unset).toArray = ls at hl ⊢
  have hl : lv_has ls 4 [(0, .ref x), (1, .int 2), (2, .int (nI j))] := hl
  obtain ⟨k12, k22, k32, k42, k52, k62⟩ := id hk2
  refine lv_aload_n hx hb dX1_start_0 rfl (lv_at hl 0 rfl) ?_
  refine lv_iload_n hx hb dX1_start_1 rfl (lv_at hl 1 rfl) ?_
  refine ro_call (va_runV (As := [.int 2]) (rest := []) ⟨hx, hb, hml, hown, hts⟩ (c_X1_ringOf_2 l x sq lt A0 A1 A2 hX) (cwV 1 hts gX1_start_X1_ringOf rfl rfl rfl (by decide +kernel) ⟨Nat.le_of_ble_eq_true rfl, Nat.le_of_ble_eq_true rfl⟩) (ro_preV hK (va_recv hK hX (ci := 1) (q0 := 0) rfl rfl)) rfl rfl hl.1 rfl (lv_room (Nat.le_of_ble_eq_true rfl)) dX1_start_2 ⟨Nat.zero_le _, Nat.zero_le _⟩) ?_
  refine lv_astore_n (lv' := [(3, .ref (a_o A2)), (0, .ref x), (1, .int 2), (2, .int (nI j))]) hx hb dX1_start_5 rfl hl (by decide) rfl (fun ls hl => ?_)
  refine lv_aload_n hx hb dX1_start_6 rfl (lv_at hl 0 rfl) ?_
  refine lv_ifnonnull (tgt := 14) hx hb dX1_start_7 (by decide) ?_
  refine lv_aload_n hx hb dX1_start_14 rfl (lv_at hl 0 rfl) ?_
  refine lv_iload_n hx hb dX1_start_15 rfl (lv_at hl 3 rfl) ?_
  refine ro_call (va_runV (As := [.int (nI j)]) (rest := []) ⟨hx, hb, hml, hown, hts⟩ (c_X0_startOf l A2 r2 hk2 hR2 j (by omega)) (cwV 1 hts gX1_start_X0_startOf rfl rfl rfl (by decide +kernel) ⟨Nat.le_of_ble_eq_true rfl, Nat.le_of_ble_eq_true rfl⟩) (ro_preV hK (va_recv hK hR2 (ci := 0) (q0 := 0) rfl rfl)) rfl rfl hl.1 rfl (lv_room (Nat.le_of_ble_eq_true rfl)) dX1_start_16 ⟨Nat.zero_le _, Nat.zero_le _⟩) ?_
  exact ro_iret hx hb hr rfl dX1_start_19 hlocks
set_option maxHeartbeats 4000000 in
set_option maxRecDepth 100000 in
/-- start(level, i) -/
theorem c_X1_start_2_n (l : Launch) {D : va_G} {cI cA cJ : ClassId} {H : Heap} (x sq : Nat) (lt : Int32) (A0 A1 A2 : rgA) (hX : va_P D vwCl (xW x sq lt A0 A1 A2) H) (r2 : rgV) (hk2 : r_ok r2) (hR2 : va_P D vwCl (rgW cI cA A2 r2) H) (i : Int32) (hi : ¬ ix (v_h r2) i) : Met l yX1_start wsX1_start ({ frames := 2, cells := 0, slots := 0, locals := 43 }) (ro_P D vwCl (tyL cI cA cJ) H [.ref x, .int 2, .int i]) (ro_Q (.int (-1)) H) 0 0 ro_no := by
  refine Met.ofW (cc := cX1_start) (maxL := 4) (ret := (some .int)) (by decide) rfl ?_
  intro p e s m args below meth c s₁ B hml hv
  obtain ⟨rfl, hh, hK⟩ := hv
  subst hh
  have hx := B.exec
  have hb := B.bytes
  have hr := B.returns
  have hlocks := B.notSynchronized
  have hts := atoms_spec (ws := wsX1_start) B.pre
  have hown : s.vm.findClass RX1 = some m.cls := findClass_of_methodNamed B.named
  have hi1 : ∀ w ∈ wsX10, w ∈ wsX1_start := fun w h => List.mem_cons_of_mem _ (List.mem_append_left _ (List.mem_append_right _ h))
  have hi0 : ∀ w ∈ wsX00, w ∈ wsX1_start := fun w h => List.mem_cons_of_mem _ (List.mem_append_right _ h)
  have hl := lv_entry ([.ref x, .int 2, .int i]) (n := 4) (Nat.le_of_ble_eq_true rfl)
  rw [lg_entry_eq]
  generalize (lg_sl ([.ref x, .int 2, .int i]) ++ List.replicate (4 - (lg_sl ([.ref x, .int 2, .int i])).length) Slot.unset).toArray = ls at hl ⊢
  have hl : lv_has ls 4 [(0, .ref x), (1, .int 2), (2, .int i)] := hl
  obtain ⟨k12, k22, k32, k42, k52, k62⟩ := id hk2
  refine lv_aload_n hx hb dX1_start_0 rfl (lv_at hl 0 rfl) ?_
  refine lv_iload_n hx hb dX1_start_1 rfl (lv_at hl 1 rfl) ?_
  refine ro_call (va_runV (As := [.int 2]) (rest := []) ⟨hx, hb, hml, hown, hts⟩ (c_X1_ringOf_2 l x sq lt A0 A1 A2 hX) (cwV 1 hts gX1_start_X1_ringOf rfl rfl rfl (by decide +kernel) ⟨Nat.le_of_ble_eq_true rfl, Nat.le_of_ble_eq_true rfl⟩) (ro_preV hK (va_recv hK hX (ci := 1) (q0 := 0) rfl rfl)) rfl rfl hl.1 rfl (lv_room (Nat.le_of_ble_eq_true rfl)) dX1_start_2 ⟨Nat.zero_le _, Nat.zero_le _⟩) ?_
  refine lv_astore_n (lv' := [(3, .ref (a_o A2)), (0, .ref x), (1, .int 2), (2, .int i)]) hx hb dX1_start_5 rfl hl (by decide) rfl (fun ls hl => ?_)
  refine lv_aload_n hx hb dX1_start_6 rfl (lv_at hl 0 rfl) ?_
  refine lv_ifnonnull (tgt := 14) hx hb dX1_start_7 (by decide) ?_
  refine lv_aload_n hx hb dX1_start_14 rfl (lv_at hl 0 rfl) ?_
  refine lv_iload_n hx hb dX1_start_15 rfl (lv_at hl 3 rfl) ?_
  refine ro_call (va_runV (As := [.int i]) (rest := []) ⟨hx, hb, hml, hown, hts⟩ (c_X0_startOf_n l A2 r2 hk2 hR2 i hi) (cwV 1 hts gX1_start_X0_startOf rfl rfl rfl (by decide +kernel) ⟨Nat.le_of_ble_eq_true rfl, Nat.le_of_ble_eq_true rfl⟩) (ro_preV hK (va_recv hK hR2 (ci := 0) (q0 := 0) rfl rfl)) rfl rfl hl.1 rfl (lv_room (Nat.le_of_ble_eq_true rfl)) dX1_start_16 ⟨Nat.zero_le _, Nat.zero_le _⟩) ?_
  exact ro_iret hx hb hr rfl dX1_start_19 hlocks
set_option maxHeartbeats 4000000 in
set_option maxRecDepth 100000 in
/-- start(level, i) -/
theorem c_X1_start_3 (l : Launch) {D : va_G} {cI cA cJ : ClassId} {H : Heap} (x sq : Nat) (lt : Int32) (A0 A1 A2 : rgA) (hX : va_P D vwCl (xW x sq lt A0 A1 A2) H) (i v : Int32) (hn : ¬ ix 3 v) : Met l yX1_start wsX1_start ({ frames := 2, cells := 0, slots := 0, locals := 43 }) (ro_P D vwCl (tyL cI cA cJ) H [.ref x, .int v, .int i]) (ro_Q (.int (-1)) H) 0 0 ro_no := by
  refine Met.ofW (cc := cX1_start) (maxL := 4) (ret := (some .int)) (by decide) rfl ?_
  intro p e s m args below meth c s₁ B hml hv
  obtain ⟨rfl, hh, hK⟩ := hv
  subst hh
  have hx := B.exec
  have hb := B.bytes
  have hr := B.returns
  have hlocks := B.notSynchronized
  have hts := atoms_spec (ws := wsX1_start) B.pre
  have hown : s.vm.findClass RX1 = some m.cls := findClass_of_methodNamed B.named
  have hi1 : ∀ w ∈ wsX10, w ∈ wsX1_start := fun w h => List.mem_cons_of_mem _ (List.mem_append_left _ (List.mem_append_right _ h))
  have hi0 : ∀ w ∈ wsX00, w ∈ wsX1_start := fun w h => List.mem_cons_of_mem _ (List.mem_append_right _ h)
  have hl := lv_entry ([.ref x, .int v, .int i]) (n := 4) (Nat.le_of_ble_eq_true rfl)
  rw [lg_entry_eq]
  generalize (lg_sl ([.ref x, .int v, .int i]) ++ List.replicate (4 - (lg_sl ([.ref x, .int v, .int i])).length) Slot.unset).toArray = ls at hl ⊢
  have hl : lv_has ls 4 [(0, .ref x), (1, .int v), (2, .int i)] := hl
  refine lv_aload_n hx hb dX1_start_0 rfl (lv_at hl 0 rfl) ?_
  refine lv_iload_n hx hb dX1_start_1 rfl (lv_at hl 1 rfl) ?_
  refine ro_call (va_runV (As := [.int v]) (rest := []) ⟨hx, hb, hml, hown, hts⟩ (c_X1_ringOf_3 l x sq lt A0 A1 A2 hX v hn) (cwV 1 hts gX1_start_X1_ringOf rfl rfl rfl (by decide +kernel) ⟨Nat.le_of_ble_eq_true rfl, Nat.le_of_ble_eq_true rfl⟩) (ro_preV hK (va_recv hK hX (ci := 1) (q0 := 0) rfl rfl)) rfl rfl hl.1 rfl (lv_room (Nat.le_of_ble_eq_true rfl)) dX1_start_2 ⟨Nat.zero_le _, Nat.zero_le _⟩) ?_
  refine lv_astore_nN (lv' := [(3, .null), (0, .ref x), (1, .int v), (2, .int i)]) hx hb dX1_start_5 rfl hl (by decide) rfl (fun ls hl => ?_)
  refine lv_aload_nN hx hb dX1_start_6 rfl (lv_at hl 0 rfl) ?_
  refine lv_ifnonnullN hx hb dX1_start_7 ?_
  refine lv_iconst (v := (-1)) hx hb dX1_start_10 (by decide) ?_
  refine lv_goto (tgt := 19) hx hb dX1_start_11 (by decide) ?_
  exact ro_iret hx hb hr rfl dX1_start_19 hlocks
set_option maxHeartbeats 4000000 in
set_option maxRecDepth 100000 in
/-- figure(level, i, what) -/
theorem c_X1_figure_0 (l : Launch) {D : va_G} {cI cA cJ : ClassId} {H : Heap} (x sq : Nat) (lt : Int32) (A0 A1 A2 : rgA) (hX : va_P D vwCl (xW x sq lt A0 A1 A2) H) (r0 : rgV) (hk0 : r_ok r0) (hR0 : va_P D vwCl (rgW cI cA A0 r0) H) (j w : Nat) (hj : j < v_h r0) (hw : w < 4) : Met l yX1_figure wsX1_figure ({ frames := 2, cells := 0, slots := 0, locals := 44 }) (ro_P D vwCl (tyL cI cA cJ) H [.ref x, .int 0, .int (nI j), .int (nI w)]) (ro_Q (.int (v_G r0 w j)) H) 0 0 ro_no := by
  refine Met.ofW (cc := cX1_figure) (maxL := 5) (ret := (some .int)) (by decide) rfl ?_
  intro p e s m args below meth c s₁ B hml hv
  obtain ⟨rfl, hh, hK⟩ := hv
  subst hh
  have hx := B.exec
  have hb := B.bytes
  have hr := B.returns
  have hlocks := B.notSynchronized
  have hts := atoms_spec (ws := wsX1_figure) B.pre
  have hown : s.vm.findClass RX1 = some m.cls := findClass_of_methodNamed B.named
  have hi1 : ∀ w ∈ wsX10, w ∈ wsX1_figure := fun w h => List.mem_cons_of_mem _ (List.mem_append_left _ (List.mem_append_right _ h))
  have hi0 : ∀ w ∈ wsX00, w ∈ wsX1_figure := fun w h => List.mem_cons_of_mem _ (List.mem_append_right _ h)
  have hl := lv_entry ([.ref x, .int 0, .int (nI j), .int (nI w)]) (n := 5) (Nat.le_of_ble_eq_true rfl)
  rw [lg_entry_eq]
  generalize (lg_sl ([.ref x, .int 0, .int (nI j), .int (nI w)]) ++ List.replicate (5 - (lg_sl ([.ref x, .int 0, .int (nI j), .int (nI w)])).length) Slot.unset).toArray = ls at hl ⊢
  have hl : lv_has ls 5 [(0, .ref x), (1, .int 0), (2, .int (nI j)), (3, .int (nI w))] := hl
  obtain ⟨k10, k20, k30, k40, k50, k60⟩ := id hk0
  refine lv_aload_n hx hb dX1_figure_0 rfl (lv_at hl 0 rfl) ?_
  refine lv_iload_n hx hb dX1_figure_1 rfl (lv_at hl 1 rfl) ?_
  refine ro_call (va_runV (As := [.int 0]) (rest := []) ⟨hx, hb, hml, hown, hts⟩ (c_X1_ringOf_0 l x sq lt A0 A1 A2 hX) (cwV 1 hts gX1_figure_X1_ringOf rfl rfl rfl (by decide +kernel) ⟨Nat.le_of_ble_eq_true rfl, Nat.le_of_ble_eq_true rfl⟩) (ro_preV hK (va_recv hK hX (ci := 1) (q0 := 0) rfl rfl)) rfl rfl hl.1 rfl (lv_room (Nat.le_of_ble_eq_true rfl)) dX1_figure_2 ⟨Nat.zero_le _, Nat.zero_le _⟩) ?_
  refine lv_astore (lv' := [(4, .ref (a_o A0)), (0, .ref x), (1, .int 0), (2, .int (nI j)), (3, .int (nI w))]) hx hb dX1_figure_5 hl (by decide) rfl (fun ls hl => ?_)
  refine lv_aload hx hb dX1_figure_7 (lv_at hl 0 rfl) ?_
  refine lv_ifnonnull (tgt := 16) hx hb dX1_figure_9 (by decide) ?_
  refine lv_aload hx hb dX1_figure_16 (lv_at hl 0 rfl) ?_
  refine lv_iload_n hx hb dX1_figure_18 rfl (lv_at hl 3 rfl) ?_
  refine lv_iload_n hx hb dX1_figure_19 rfl (lv_at hl 4 rfl) ?_
  refine ro_call (va_runV (As := [.int (nI j), .int (nI w)]) (rest := []) ⟨hx, hb, hml, hown, hts⟩ (c_X0_figureOf l A0 r0 hk0 hR0 j w (by omega) (by omega)) (cwV 2 hts gX1_figure_X0_figureOf rfl rfl rfl (by decide +kernel) ⟨Nat.le_of_ble_eq_true rfl, Nat.le_of_ble_eq_true rfl⟩) (ro_preV hK (va_recv hK hR0 (ci := 0) (q0 := 0) rfl rfl)) rfl rfl hl.1 rfl (lv_room (Nat.le_of_ble_eq_true rfl)) dX1_figure_20 ⟨Nat.zero_le _, Nat.zero_le _⟩) ?_
  exact ro_iret hx hb hr rfl dX1_figure_23 hlocks
set_option maxHeartbeats 4000000 in
set_option maxRecDepth 100000 in
/-- figure(level, i, what) -/
theorem c_X1_figure_0_n (l : Launch) {D : va_G} {cI cA cJ : ClassId} {H : Heap} (x sq : Nat) (lt : Int32) (A0 A1 A2 : rgA) (hX : va_P D vwCl (xW x sq lt A0 A1 A2) H) (r0 : rgV) (hk0 : r_ok r0) (hR0 : va_P D vwCl (rgW cI cA A0 r0) H) (i w : Int32) (hi : ¬ ix (v_h r0) i) : Met l yX1_figure wsX1_figure ({ frames := 2, cells := 0, slots := 0, locals := 44 }) (ro_P D vwCl (tyL cI cA cJ) H [.ref x, .int 0, .int i, .int w]) (ro_Q (.int 0) H) 0 0 ro_no := by
  refine Met.ofW (cc := cX1_figure) (maxL := 5) (ret := (some .int)) (by decide) rfl ?_
  intro p e s m args below meth c s₁ B hml hv
  obtain ⟨rfl, hh, hK⟩ := hv
  subst hh
  have hx := B.exec
  have hb := B.bytes
  have hr := B.returns
  have hlocks := B.notSynchronized
  have hts := atoms_spec (ws := wsX1_figure) B.pre
  have hown : s.vm.findClass RX1 = some m.cls := findClass_of_methodNamed B.named
  have hi1 : ∀ w ∈ wsX10, w ∈ wsX1_figure := fun w h => List.mem_cons_of_mem _ (List.mem_append_left _ (List.mem_append_right _ h))
  have hi0 : ∀ w ∈ wsX00, w ∈ wsX1_figure := fun w h => List.mem_cons_of_mem _ (List.mem_append_right _ h)
  have hl := lv_entry ([.ref x, .int 0, .int i, .int w]) (n := 5) (Nat.le_of_ble_eq_true rfl)
  rw [lg_entry_eq]
  generalize (lg_sl ([.ref x, .int 0, .int i, .int w]) ++ List.replicate (5 - (lg_sl ([.ref x, .int 0, .int i, .int w])).length) Slot.unset).toArray = ls at hl ⊢
  have hl : lv_has ls 5 [(0, .ref x), (1, .int 0), (2, .int i), (3, .int w)] := hl
  obtain ⟨k10, k20, k30, k40, k50, k60⟩ := id hk0
  refine lv_aload_n hx hb dX1_figure_0 rfl (lv_at hl 0 rfl) ?_
  refine lv_iload_n hx hb dX1_figure_1 rfl (lv_at hl 1 rfl) ?_
  refine ro_call (va_runV (As := [.int 0]) (rest := []) ⟨hx, hb, hml, hown, hts⟩ (c_X1_ringOf_0 l x sq lt A0 A1 A2 hX) (cwV 1 hts gX1_figure_X1_ringOf rfl rfl rfl (by decide +kernel) ⟨Nat.le_of_ble_eq_true rfl, Nat.le_of_ble_eq_true rfl⟩) (ro_preV hK (va_recv hK hX (ci := 1) (q0 := 0) rfl rfl)) rfl rfl hl.1 rfl (lv_room (Nat.le_of_ble_eq_true rfl)) dX1_figure_2 ⟨Nat.zero_le _, Nat.zero_le _⟩) ?_
  refine lv_astore (lv' := [(4, .ref (a_o A0)), (0, .ref x), (1, .int 0), (2, .int i), (3, .int w)]) hx hb dX1_figure_5 hl (by decide) rfl (fun ls hl => ?_)
  refine lv_aload hx hb dX1_figure_7 (lv_at hl 0 rfl) ?_
  refine lv_ifnonnull (tgt := 16) hx hb dX1_figure_9 (by decide) ?_
  refine lv_aload hx hb dX1_figure_16 (lv_at hl 0 rfl) ?_
  refine lv_iload_n hx hb dX1_figure_18 rfl (lv_at hl 3 rfl) ?_
  refine lv_iload_n hx hb dX1_figure_19 rfl (lv_at hl 4 rfl) ?_
  refine ro_call (va_runV (As := [.int i, .int w]) (rest := []) ⟨hx, hb, hml, hown, hts⟩ (c_X0_figureOf_n l A0 r0 hk0 hR0 i w hi) (cwV 2 hts gX1_figure_X0_figureOf rfl rfl rfl (by decide +kernel) ⟨Nat.le_of_ble_eq_true rfl, Nat.le_of_ble_eq_true rfl⟩) (ro_preV hK (va_recv hK hR0 (ci := 0) (q0 := 0) rfl rfl)) rfl rfl hl.1 rfl (lv_room (Nat.le_of_ble_eq_true rfl)) dX1_figure_20 ⟨Nat.zero_le _, Nat.zero_le _⟩) ?_
  exact ro_iret hx hb hr rfl dX1_figure_23 hlocks
set_option maxHeartbeats 4000000 in
set_option maxRecDepth 100000 in
/-- figure(level, i, what) -/
theorem c_X1_figure_0_m (l : Launch) {D : va_G} {cI cA cJ : ClassId} {H : Heap} (x sq : Nat) (lt : Int32) (A0 A1 A2 : rgA) (hX : va_P D vwCl (xW x sq lt A0 A1 A2) H) (r0 : rgV) (hk0 : r_ok r0) (hR0 : va_P D vwCl (rgW cI cA A0 r0) H) (j : Nat) (w : Int32) (hj : j < v_h r0) (hw : ¬ ix 4 w) : Met l yX1_figure wsX1_figure ({ frames := 2, cells := 0, slots := 0, locals := 44 }) (ro_P D vwCl (tyL cI cA cJ) H [.ref x, .int 0, .int (nI j), .int w]) (ro_Q (.int 0) H) 0 0 ro_no := by
  refine Met.ofW (cc := cX1_figure) (maxL := 5) (ret := (some .int)) (by decide) rfl ?_
  intro p e s m args below meth c s₁ B hml hv
  obtain ⟨rfl, hh, hK⟩ := hv
  subst hh
  have hx := B.exec
  have hb := B.bytes
  have hr := B.returns
  have hlocks := B.notSynchronized
  have hts := atoms_spec (ws := wsX1_figure) B.pre
  have hown : s.vm.findClass RX1 = some m.cls := findClass_of_methodNamed B.named
  have hi1 : ∀ w ∈ wsX10, w ∈ wsX1_figure := fun w h => List.mem_cons_of_mem _ (List.mem_append_left _ (List.mem_append_right _ h))
  have hi0 : ∀ w ∈ wsX00, w ∈ wsX1_figure := fun w h => List.mem_cons_of_mem _ (List.mem_append_right _ h)
  have hl := lv_entry ([.ref x, .int 0, .int (nI j), .int w]) (n := 5) (Nat.le_of_ble_eq_true rfl)
  rw [lg_entry_eq]
  generalize (lg_sl ([.ref x, .int 0, .int (nI j), .int w]) ++ List.replicate (5 - (lg_sl ([.ref x, .int 0, .int (nI j), .int w])).length) Slot.unset).toArray = ls at hl ⊢
  have hl : lv_has ls 5 [(0, .ref x), (1, .int 0), (2, .int (nI j)), (3, .int w)] := hl
  obtain ⟨k10, k20, k30, k40, k50, k60⟩ := id hk0
  refine lv_aload_n hx hb dX1_figure_0 rfl (lv_at hl 0 rfl) ?_
  refine lv_iload_n hx hb dX1_figure_1 rfl (lv_at hl 1 rfl) ?_
  refine ro_call (va_runV (As := [.int 0]) (rest := []) ⟨hx, hb, hml, hown, hts⟩ (c_X1_ringOf_0 l x sq lt A0 A1 A2 hX) (cwV 1 hts gX1_figure_X1_ringOf rfl rfl rfl (by decide +kernel) ⟨Nat.le_of_ble_eq_true rfl, Nat.le_of_ble_eq_true rfl⟩) (ro_preV hK (va_recv hK hX (ci := 1) (q0 := 0) rfl rfl)) rfl rfl hl.1 rfl (lv_room (Nat.le_of_ble_eq_true rfl)) dX1_figure_2 ⟨Nat.zero_le _, Nat.zero_le _⟩) ?_
  refine lv_astore (lv' := [(4, .ref (a_o A0)), (0, .ref x), (1, .int 0), (2, .int (nI j)), (3, .int w)]) hx hb dX1_figure_5 hl (by decide) rfl (fun ls hl => ?_)
  refine lv_aload hx hb dX1_figure_7 (lv_at hl 0 rfl) ?_
  refine lv_ifnonnull (tgt := 16) hx hb dX1_figure_9 (by decide) ?_
  refine lv_aload hx hb dX1_figure_16 (lv_at hl 0 rfl) ?_
  refine lv_iload_n hx hb dX1_figure_18 rfl (lv_at hl 3 rfl) ?_
  refine lv_iload_n hx hb dX1_figure_19 rfl (lv_at hl 4 rfl) ?_
  refine ro_call (va_runV (As := [.int (nI j), .int w]) (rest := []) ⟨hx, hb, hml, hown, hts⟩ (c_X0_figureOf_m l A0 r0 hk0 hR0 j w hj hw) (cwV 2 hts gX1_figure_X0_figureOf rfl rfl rfl (by decide +kernel) ⟨Nat.le_of_ble_eq_true rfl, Nat.le_of_ble_eq_true rfl⟩) (ro_preV hK (va_recv hK hR0 (ci := 0) (q0 := 0) rfl rfl)) rfl rfl hl.1 rfl (lv_room (Nat.le_of_ble_eq_true rfl)) dX1_figure_20 ⟨Nat.zero_le _, Nat.zero_le _⟩) ?_
  exact ro_iret hx hb hr rfl dX1_figure_23 hlocks
set_option maxHeartbeats 4000000 in
set_option maxRecDepth 100000 in
/-- figure(level, i, what) -/
theorem c_X1_figure_1 (l : Launch) {D : va_G} {cI cA cJ : ClassId} {H : Heap} (x sq : Nat) (lt : Int32) (A0 A1 A2 : rgA) (hX : va_P D vwCl (xW x sq lt A0 A1 A2) H) (r1 : rgV) (hk1 : r_ok r1) (hR1 : va_P D vwCl (rgW cI cA A1 r1) H) (j w : Nat) (hj : j < v_h r1) (hw : w < 4) : Met l yX1_figure wsX1_figure ({ frames := 2, cells := 0, slots := 0, locals := 44 }) (ro_P D vwCl (tyL cI cA cJ) H [.ref x, .int 1, .int (nI j), .int (nI w)]) (ro_Q (.int (v_G r1 w j)) H) 0 0 ro_no := by
  refine Met.ofW (cc := cX1_figure) (maxL := 5) (ret := (some .int)) (by decide) rfl ?_
  intro p e s m args below meth c s₁ B hml hv
  obtain ⟨rfl, hh, hK⟩ := hv
  subst hh
  have hx := B.exec
  have hb := B.bytes
  have hr := B.returns
  have hlocks := B.notSynchronized
  have hts := atoms_spec (ws := wsX1_figure) B.pre
  have hown : s.vm.findClass RX1 = some m.cls := findClass_of_methodNamed B.named
  have hi1 : ∀ w ∈ wsX10, w ∈ wsX1_figure := fun w h => List.mem_cons_of_mem _ (List.mem_append_left _ (List.mem_append_right _ h))
  have hi0 : ∀ w ∈ wsX00, w ∈ wsX1_figure := fun w h => List.mem_cons_of_mem _ (List.mem_append_right _ h)
  have hl := lv_entry ([.ref x, .int 1, .int (nI j), .int (nI w)]) (n := 5) (Nat.le_of_ble_eq_true rfl)
  rw [lg_entry_eq]
  generalize (lg_sl ([.ref x, .int 1, .int (nI j), .int (nI w)]) ++ List.replicate (5 - (lg_sl ([.ref x, .int 1, .int (nI j), .int (nI w)])).length) Slot.unset).toArray = ls at hl ⊢
  have hl : lv_has ls 5 [(0, .ref x), (1, .int 1), (2, .int (nI j)), (3, .int (nI w))] := hl
  obtain ⟨k11, k21, k31, k41, k51, k61⟩ := id hk1
  refine lv_aload_n hx hb dX1_figure_0 rfl (lv_at hl 0 rfl) ?_
  refine lv_iload_n hx hb dX1_figure_1 rfl (lv_at hl 1 rfl) ?_
  refine ro_call (va_runV (As := [.int 1]) (rest := []) ⟨hx, hb, hml, hown, hts⟩ (c_X1_ringOf_1 l x sq lt A0 A1 A2 hX) (cwV 1 hts gX1_figure_X1_ringOf rfl rfl rfl (by decide +kernel) ⟨Nat.le_of_ble_eq_true rfl, Nat.le_of_ble_eq_true rfl⟩) (ro_preV hK (va_recv hK hX (ci := 1) (q0 := 0) rfl rfl)) rfl rfl hl.1 rfl (lv_room (Nat.le_of_ble_eq_true rfl)) dX1_figure_2 ⟨Nat.zero_le _, Nat.zero_le _⟩) ?_
  refine lv_astore (lv' := [(4, .ref (a_o A1)), (0, .ref x), (1, .int 1), (2, .int (nI j)), (3, .int (nI w))]) hx hb dX1_figure_5 hl (by decide) rfl (fun ls hl => ?_)
  refine lv_aload hx hb dX1_figure_7 (lv_at hl 0 rfl) ?_
  refine lv_ifnonnull (tgt := 16) hx hb dX1_figure_9 (by decide) ?_
  refine lv_aload hx hb dX1_figure_16 (lv_at hl 0 rfl) ?_
  refine lv_iload_n hx hb dX1_figure_18 rfl (lv_at hl 3 rfl) ?_
  refine lv_iload_n hx hb dX1_figure_19 rfl (lv_at hl 4 rfl) ?_
  refine ro_call (va_runV (As := [.int (nI j), .int (nI w)]) (rest := []) ⟨hx, hb, hml, hown, hts⟩ (c_X0_figureOf l A1 r1 hk1 hR1 j w (by omega) (by omega)) (cwV 2 hts gX1_figure_X0_figureOf rfl rfl rfl (by decide +kernel) ⟨Nat.le_of_ble_eq_true rfl, Nat.le_of_ble_eq_true rfl⟩) (ro_preV hK (va_recv hK hR1 (ci := 0) (q0 := 0) rfl rfl)) rfl rfl hl.1 rfl (lv_room (Nat.le_of_ble_eq_true rfl)) dX1_figure_20 ⟨Nat.zero_le _, Nat.zero_le _⟩) ?_
  exact ro_iret hx hb hr rfl dX1_figure_23 hlocks
set_option maxHeartbeats 4000000 in
set_option maxRecDepth 100000 in
/-- figure(level, i, what) -/
theorem c_X1_figure_1_n (l : Launch) {D : va_G} {cI cA cJ : ClassId} {H : Heap} (x sq : Nat) (lt : Int32) (A0 A1 A2 : rgA) (hX : va_P D vwCl (xW x sq lt A0 A1 A2) H) (r1 : rgV) (hk1 : r_ok r1) (hR1 : va_P D vwCl (rgW cI cA A1 r1) H) (i w : Int32) (hi : ¬ ix (v_h r1) i) : Met l yX1_figure wsX1_figure ({ frames := 2, cells := 0, slots := 0, locals := 44 }) (ro_P D vwCl (tyL cI cA cJ) H [.ref x, .int 1, .int i, .int w]) (ro_Q (.int 0) H) 0 0 ro_no := by
  refine Met.ofW (cc := cX1_figure) (maxL := 5) (ret := (some .int)) (by decide) rfl ?_
  intro p e s m args below meth c s₁ B hml hv
  obtain ⟨rfl, hh, hK⟩ := hv
  subst hh
  have hx := B.exec
  have hb := B.bytes
  have hr := B.returns
  have hlocks := B.notSynchronized
  have hts := atoms_spec (ws := wsX1_figure) B.pre
  have hown : s.vm.findClass RX1 = some m.cls := findClass_of_methodNamed B.named
  have hi1 : ∀ w ∈ wsX10, w ∈ wsX1_figure := fun w h => List.mem_cons_of_mem _ (List.mem_append_left _ (List.mem_append_right _ h))
  have hi0 : ∀ w ∈ wsX00, w ∈ wsX1_figure := fun w h => List.mem_cons_of_mem _ (List.mem_append_right _ h)
  have hl := lv_entry ([.ref x, .int 1, .int i, .int w]) (n := 5) (Nat.le_of_ble_eq_true rfl)
  rw [lg_entry_eq]
  generalize (lg_sl ([.ref x, .int 1, .int i, .int w]) ++ List.replicate (5 - (lg_sl ([.ref x, .int 1, .int i, .int w])).length) Slot.unset).toArray = ls at hl ⊢
  have hl : lv_has ls 5 [(0, .ref x), (1, .int 1), (2, .int i), (3, .int w)] := hl
  obtain ⟨k11, k21, k31, k41, k51, k61⟩ := id hk1
  refine lv_aload_n hx hb dX1_figure_0 rfl (lv_at hl 0 rfl) ?_
  refine lv_iload_n hx hb dX1_figure_1 rfl (lv_at hl 1 rfl) ?_
  refine ro_call (va_runV (As := [.int 1]) (rest := []) ⟨hx, hb, hml, hown, hts⟩ (c_X1_ringOf_1 l x sq lt A0 A1 A2 hX) (cwV 1 hts gX1_figure_X1_ringOf rfl rfl rfl (by decide +kernel) ⟨Nat.le_of_ble_eq_true rfl, Nat.le_of_ble_eq_true rfl⟩) (ro_preV hK (va_recv hK hX (ci := 1) (q0 := 0) rfl rfl)) rfl rfl hl.1 rfl (lv_room (Nat.le_of_ble_eq_true rfl)) dX1_figure_2 ⟨Nat.zero_le _, Nat.zero_le _⟩) ?_
  refine lv_astore (lv' := [(4, .ref (a_o A1)), (0, .ref x), (1, .int 1), (2, .int i), (3, .int w)]) hx hb dX1_figure_5 hl (by decide) rfl (fun ls hl => ?_)
  refine lv_aload hx hb dX1_figure_7 (lv_at hl 0 rfl) ?_
  refine lv_ifnonnull (tgt := 16) hx hb dX1_figure_9 (by decide) ?_
  refine lv_aload hx hb dX1_figure_16 (lv_at hl 0 rfl) ?_
  refine lv_iload_n hx hb dX1_figure_18 rfl (lv_at hl 3 rfl) ?_
  refine lv_iload_n hx hb dX1_figure_19 rfl (lv_at hl 4 rfl) ?_
  refine ro_call (va_runV (As := [.int i, .int w]) (rest := []) ⟨hx, hb, hml, hown, hts⟩ (c_X0_figureOf_n l A1 r1 hk1 hR1 i w hi) (cwV 2 hts gX1_figure_X0_figureOf rfl rfl rfl (by decide +kernel) ⟨Nat.le_of_ble_eq_true rfl, Nat.le_of_ble_eq_true rfl⟩) (ro_preV hK (va_recv hK hR1 (ci := 0) (q0 := 0) rfl rfl)) rfl rfl hl.1 rfl (lv_room (Nat.le_of_ble_eq_true rfl)) dX1_figure_20 ⟨Nat.zero_le _, Nat.zero_le _⟩) ?_
  exact ro_iret hx hb hr rfl dX1_figure_23 hlocks
set_option maxHeartbeats 4000000 in
set_option maxRecDepth 100000 in
/-- figure(level, i, what) -/
theorem c_X1_figure_1_m (l : Launch) {D : va_G} {cI cA cJ : ClassId} {H : Heap} (x sq : Nat) (lt : Int32) (A0 A1 A2 : rgA) (hX : va_P D vwCl (xW x sq lt A0 A1 A2) H) (r1 : rgV) (hk1 : r_ok r1) (hR1 : va_P D vwCl (rgW cI cA A1 r1) H) (j : Nat) (w : Int32) (hj : j < v_h r1) (hw : ¬ ix 4 w) : Met l yX1_figure wsX1_figure ({ frames := 2, cells := 0, slots := 0, locals := 44 }) (ro_P D vwCl (tyL cI cA cJ) H [.ref x, .int 1, .int (nI j), .int w]) (ro_Q (.int 0) H) 0 0 ro_no := by
  refine Met.ofW (cc := cX1_figure) (maxL := 5) (ret := (some .int)) (by decide) rfl ?_
  intro p e s m args below meth c s₁ B hml hv
  obtain ⟨rfl, hh, hK⟩ := hv
  subst hh
  have hx := B.exec
  have hb := B.bytes
  have hr := B.returns
  have hlocks := B.notSynchronized
  have hts := atoms_spec (ws := wsX1_figure) B.pre
  have hown : s.vm.findClass RX1 = some m.cls := findClass_of_methodNamed B.named
  have hi1 : ∀ w ∈ wsX10, w ∈ wsX1_figure := fun w h => List.mem_cons_of_mem _ (List.mem_append_left _ (List.mem_append_right _ h))
  have hi0 : ∀ w ∈ wsX00, w ∈ wsX1_figure := fun w h => List.mem_cons_of_mem _ (List.mem_append_right _ h)
  have hl := lv_entry ([.ref x, .int 1, .int (nI j), .int w]) (n := 5) (Nat.le_of_ble_eq_true rfl)
  rw [lg_entry_eq]
  generalize (lg_sl ([.ref x, .int 1, .int (nI j), .int w]) ++ List.replicate (5 - (lg_sl ([.ref x, .int 1, .int (nI j), .int w])).length) Slot.unset).toArray = ls at hl ⊢
  have hl : lv_has ls 5 [(0, .ref x), (1, .int 1), (2, .int (nI j)), (3, .int w)] := hl
  obtain ⟨k11, k21, k31, k41, k51, k61⟩ := id hk1
  refine lv_aload_n hx hb dX1_figure_0 rfl (lv_at hl 0 rfl) ?_
  refine lv_iload_n hx hb dX1_figure_1 rfl (lv_at hl 1 rfl) ?_
  refine ro_call (va_runV (As := [.int 1]) (rest := []) ⟨hx, hb, hml, hown, hts⟩ (c_X1_ringOf_1 l x sq lt A0 A1 A2 hX) (cwV 1 hts gX1_figure_X1_ringOf rfl rfl rfl (by decide +kernel) ⟨Nat.le_of_ble_eq_true rfl, Nat.le_of_ble_eq_true rfl⟩) (ro_preV hK (va_recv hK hX (ci := 1) (q0 := 0) rfl rfl)) rfl rfl hl.1 rfl (lv_room (Nat.le_of_ble_eq_true rfl)) dX1_figure_2 ⟨Nat.zero_le _, Nat.zero_le _⟩) ?_
  refine lv_astore (lv' := [(4, .ref (a_o A1)), (0, .ref x), (1, .int 1), (2, .int (nI j)), (3, .int w)]) hx hb dX1_figure_5 hl (by decide) rfl (fun ls hl => ?_)
  refine lv_aload hx hb dX1_figure_7 (lv_at hl 0 rfl) ?_
  refine lv_ifnonnull (tgt := 16) hx hb dX1_figure_9 (by decide) ?_
  refine lv_aload hx hb dX1_figure_16 (lv_at hl 0 rfl) ?_
  refine lv_iload_n hx hb dX1_figure_18 rfl (lv_at hl 3 rfl) ?_
  refine lv_iload_n hx hb dX1_figure_19 rfl (lv_at hl 4 rfl) ?_
  refine ro_call (va_runV (As := [.int (nI j), .int w]) (rest := []) ⟨hx, hb, hml, hown, hts⟩ (c_X0_figureOf_m l A1 r1 hk1 hR1 j w hj hw) (cwV 2 hts gX1_figure_X0_figureOf rfl rfl rfl (by decide +kernel) ⟨Nat.le_of_ble_eq_true rfl, Nat.le_of_ble_eq_true rfl⟩) (ro_preV hK (va_recv hK hR1 (ci := 0) (q0 := 0) rfl rfl)) rfl rfl hl.1 rfl (lv_room (Nat.le_of_ble_eq_true rfl)) dX1_figure_20 ⟨Nat.zero_le _, Nat.zero_le _⟩) ?_
  exact ro_iret hx hb hr rfl dX1_figure_23 hlocks
set_option maxHeartbeats 4000000 in
set_option maxRecDepth 100000 in
/-- figure(level, i, what) -/
theorem c_X1_figure_2 (l : Launch) {D : va_G} {cI cA cJ : ClassId} {H : Heap} (x sq : Nat) (lt : Int32) (A0 A1 A2 : rgA) (hX : va_P D vwCl (xW x sq lt A0 A1 A2) H) (r2 : rgV) (hk2 : r_ok r2) (hR2 : va_P D vwCl (rgW cI cA A2 r2) H) (j w : Nat) (hj : j < v_h r2) (hw : w < 4) : Met l yX1_figure wsX1_figure ({ frames := 2, cells := 0, slots := 0, locals := 44 }) (ro_P D vwCl (tyL cI cA cJ) H [.ref x, .int 2, .int (nI j), .int (nI w)]) (ro_Q (.int (v_G r2 w j)) H) 0 0 ro_no := by
  refine Met.ofW (cc := cX1_figure) (maxL := 5) (ret := (some .int)) (by decide) rfl ?_
  intro p e s m args below meth c s₁ B hml hv
  obtain ⟨rfl, hh, hK⟩ := hv
  subst hh
  have hx := B.exec
  have hb := B.bytes
  have hr := B.returns
  have hlocks := B.notSynchronized
  have hts := atoms_spec (ws := wsX1_figure) B.pre
  have hown : s.vm.findClass RX1 = some m.cls := findClass_of_methodNamed B.named
  have hi1 : ∀ w ∈ wsX10, w ∈ wsX1_figure := fun w h => List.mem_cons_of_mem _ (List.mem_append_left _ (List.mem_append_right _ h))
  have hi0 : ∀ w ∈ wsX00, w ∈ wsX1_figure := fun w h => List.mem_cons_of_mem _ (List.mem_append_right _ h)
  have hl := lv_entry ([.ref x, .int 2, .int (nI j), .int (nI w)]) (n := 5) (Nat.le_of_ble_eq_true rfl)
  rw [lg_entry_eq]
  generalize (lg_sl ([.ref x, .int 2, .int (nI j), .int (nI w)]) ++ List.replicate (5 - (lg_sl ([.ref x, .int 2, .int (nI j), .int (nI w)])).length) Slot.unset).toArray = ls at hl ⊢
  have hl : lv_has ls 5 [(0, .ref x), (1, .int 2), (2, .int (nI j)), (3, .int (nI w))] := hl
  obtain ⟨k12, k22, k32, k42, k52, k62⟩ := id hk2
  refine lv_aload_n hx hb dX1_figure_0 rfl (lv_at hl 0 rfl) ?_
  refine lv_iload_n hx hb dX1_figure_1 rfl (lv_at hl 1 rfl) ?_
  refine ro_call (va_runV (As := [.int 2]) (rest := []) ⟨hx, hb, hml, hown, hts⟩ (c_X1_ringOf_2 l x sq lt A0 A1 A2 hX) (cwV 1 hts gX1_figure_X1_ringOf rfl rfl rfl (by decide +kernel) ⟨Nat.le_of_ble_eq_true rfl, Nat.le_of_ble_eq_true rfl⟩) (ro_preV hK (va_recv hK hX (ci := 1) (q0 := 0) rfl rfl)) rfl rfl hl.1 rfl (lv_room (Nat.le_of_ble_eq_true rfl)) dX1_figure_2 ⟨Nat.zero_le _, Nat.zero_le _⟩) ?_
  refine lv_astore (lv' := [(4, .ref (a_o A2)), (0, .ref x), (1, .int 2), (2, .int (nI j)), (3, .int (nI w))]) hx hb dX1_figure_5 hl (by decide) rfl (fun ls hl => ?_)
  refine lv_aload hx hb dX1_figure_7 (lv_at hl 0 rfl) ?_
  refine lv_ifnonnull (tgt := 16) hx hb dX1_figure_9 (by decide) ?_
  refine lv_aload hx hb dX1_figure_16 (lv_at hl 0 rfl) ?_
  refine lv_iload_n hx hb dX1_figure_18 rfl (lv_at hl 3 rfl) ?_
  refine lv_iload_n hx hb dX1_figure_19 rfl (lv_at hl 4 rfl) ?_
  refine ro_call (va_runV (As := [.int (nI j), .int (nI w)]) (rest := []) ⟨hx, hb, hml, hown, hts⟩ (c_X0_figureOf l A2 r2 hk2 hR2 j w (by omega) (by omega)) (cwV 2 hts gX1_figure_X0_figureOf rfl rfl rfl (by decide +kernel) ⟨Nat.le_of_ble_eq_true rfl, Nat.le_of_ble_eq_true rfl⟩) (ro_preV hK (va_recv hK hR2 (ci := 0) (q0 := 0) rfl rfl)) rfl rfl hl.1 rfl (lv_room (Nat.le_of_ble_eq_true rfl)) dX1_figure_20 ⟨Nat.zero_le _, Nat.zero_le _⟩) ?_
  exact ro_iret hx hb hr rfl dX1_figure_23 hlocks
set_option maxHeartbeats 4000000 in
set_option maxRecDepth 100000 in
/-- figure(level, i, what) -/
theorem c_X1_figure_2_n (l : Launch) {D : va_G} {cI cA cJ : ClassId} {H : Heap} (x sq : Nat) (lt : Int32) (A0 A1 A2 : rgA) (hX : va_P D vwCl (xW x sq lt A0 A1 A2) H) (r2 : rgV) (hk2 : r_ok r2) (hR2 : va_P D vwCl (rgW cI cA A2 r2) H) (i w : Int32) (hi : ¬ ix (v_h r2) i) : Met l yX1_figure wsX1_figure ({ frames := 2, cells := 0, slots := 0, locals := 44 }) (ro_P D vwCl (tyL cI cA cJ) H [.ref x, .int 2, .int i, .int w]) (ro_Q (.int 0) H) 0 0 ro_no := by
  refine Met.ofW (cc := cX1_figure) (maxL := 5) (ret := (some .int)) (by decide) rfl ?_
  intro p e s m args below meth c s₁ B hml hv
  obtain ⟨rfl, hh, hK⟩ := hv
  subst hh
  have hx := B.exec
  have hb := B.bytes
  have hr := B.returns
  have hlocks := B.notSynchronized
  have hts := atoms_spec (ws := wsX1_figure) B.pre
  have hown : s.vm.findClass RX1 = some m.cls := findClass_of_methodNamed B.named
  have hi1 : ∀ w ∈ wsX10, w ∈ wsX1_figure := fun w h => List.mem_cons_of_mem _ (List.mem_append_left _ (List.mem_append_right _ h))
  have hi0 : ∀ w ∈ wsX00, w ∈ wsX1_figure := fun w h => List.mem_cons_of_mem _ (List.mem_append_right _ h)
  have hl := lv_entry ([.ref x, .int 2, .int i, .int w]) (n := 5) (Nat.le_of_ble_eq_true rfl)
  rw [lg_entry_eq]
  generalize (lg_sl ([.ref x, .int 2, .int i, .int w]) ++ List.replicate (5 - (lg_sl ([.ref x, .int 2, .int i, .int w])).length) Slot.unset).toArray = ls at hl ⊢
  have hl : lv_has ls 5 [(0, .ref x), (1, .int 2), (2, .int i), (3, .int w)] := hl
  obtain ⟨k12, k22, k32, k42, k52, k62⟩ := id hk2
  refine lv_aload_n hx hb dX1_figure_0 rfl (lv_at hl 0 rfl) ?_
  refine lv_iload_n hx hb dX1_figure_1 rfl (lv_at hl 1 rfl) ?_
  refine ro_call (va_runV (As := [.int 2]) (rest := []) ⟨hx, hb, hml, hown, hts⟩ (c_X1_ringOf_2 l x sq lt A0 A1 A2 hX) (cwV 1 hts gX1_figure_X1_ringOf rfl rfl rfl (by decide +kernel) ⟨Nat.le_of_ble_eq_true rfl, Nat.le_of_ble_eq_true rfl⟩) (ro_preV hK (va_recv hK hX (ci := 1) (q0 := 0) rfl rfl)) rfl rfl hl.1 rfl (lv_room (Nat.le_of_ble_eq_true rfl)) dX1_figure_2 ⟨Nat.zero_le _, Nat.zero_le _⟩) ?_
  refine lv_astore (lv' := [(4, .ref (a_o A2)), (0, .ref x), (1, .int 2), (2, .int i), (3, .int w)]) hx hb dX1_figure_5 hl (by decide) rfl (fun ls hl => ?_)
  refine lv_aload hx hb dX1_figure_7 (lv_at hl 0 rfl) ?_
  refine lv_ifnonnull (tgt := 16) hx hb dX1_figure_9 (by decide) ?_
  refine lv_aload hx hb dX1_figure_16 (lv_at hl 0 rfl) ?_
  refine lv_iload_n hx hb dX1_figure_18 rfl (lv_at hl 3 rfl) ?_
  refine lv_iload_n hx hb dX1_figure_19 rfl (lv_at hl 4 rfl) ?_
  refine ro_call (va_runV (As := [.int i, .int w]) (rest := []) ⟨hx, hb, hml, hown, hts⟩ (c_X0_figureOf_n l A2 r2 hk2 hR2 i w hi) (cwV 2 hts gX1_figure_X0_figureOf rfl rfl rfl (by decide +kernel) ⟨Nat.le_of_ble_eq_true rfl, Nat.le_of_ble_eq_true rfl⟩) (ro_preV hK (va_recv hK hR2 (ci := 0) (q0 := 0) rfl rfl)) rfl rfl hl.1 rfl (lv_room (Nat.le_of_ble_eq_true rfl)) dX1_figure_20 ⟨Nat.zero_le _, Nat.zero_le _⟩) ?_
  exact ro_iret hx hb hr rfl dX1_figure_23 hlocks
set_option maxHeartbeats 4000000 in
set_option maxRecDepth 100000 in
/-- figure(level, i, what) -/
theorem c_X1_figure_2_m (l : Launch) {D : va_G} {cI cA cJ : ClassId} {H : Heap} (x sq : Nat) (lt : Int32) (A0 A1 A2 : rgA) (hX : va_P D vwCl (xW x sq lt A0 A1 A2) H) (r2 : rgV) (hk2 : r_ok r2) (hR2 : va_P D vwCl (rgW cI cA A2 r2) H) (j : Nat) (w : Int32) (hj : j < v_h r2) (hw : ¬ ix 4 w) : Met l yX1_figure wsX1_figure ({ frames := 2, cells := 0, slots := 0, locals := 44 }) (ro_P D vwCl (tyL cI cA cJ) H [.ref x, .int 2, .int (nI j), .int w]) (ro_Q (.int 0) H) 0 0 ro_no := by
  refine Met.ofW (cc := cX1_figure) (maxL := 5) (ret := (some .int)) (by decide) rfl ?_
  intro p e s m args below meth c s₁ B hml hv
  obtain ⟨rfl, hh, hK⟩ := hv
  subst hh
  have hx := B.exec
  have hb := B.bytes
  have hr := B.returns
  have hlocks := B.notSynchronized
  have hts := atoms_spec (ws := wsX1_figure) B.pre
  have hown : s.vm.findClass RX1 = some m.cls := findClass_of_methodNamed B.named
  have hi1 : ∀ w ∈ wsX10, w ∈ wsX1_figure := fun w h => List.mem_cons_of_mem _ (List.mem_append_left _ (List.mem_append_right _ h))
  have hi0 : ∀ w ∈ wsX00, w ∈ wsX1_figure := fun w h => List.mem_cons_of_mem _ (List.mem_append_right _ h)
  have hl := lv_entry ([.ref x, .int 2, .int (nI j), .int w]) (n := 5) (Nat.le_of_ble_eq_true rfl)
  rw [lg_entry_eq]
  generalize (lg_sl ([.ref x, .int 2, .int (nI j), .int w]) ++ List.replicate (5 - (lg_sl ([.ref x, .int 2, .int (nI j), .int w])).length) Slot.unset).toArray = ls at hl ⊢
  have hl : lv_has ls 5 [(0, .ref x), (1, .int 2), (2, .int (nI j)), (3, .int w)] := hl
  obtain ⟨k12, k22, k32, k42, k52, k62⟩ := id hk2
  refine lv_aload_n hx hb dX1_figure_0 rfl (lv_at hl 0 rfl) ?_
  refine lv_iload_n hx hb dX1_figure_1 rfl (lv_at hl 1 rfl) ?_
  refine ro_call (va_runV (As := [.int 2]) (rest := []) ⟨hx, hb, hml, hown, hts⟩ (c_X1_ringOf_2 l x sq lt A0 A1 A2 hX) (cwV 1 hts gX1_figure_X1_ringOf rfl rfl rfl (by decide +kernel) ⟨Nat.le_of_ble_eq_true rfl, Nat.le_of_ble_eq_true rfl⟩) (ro_preV hK (va_recv hK hX (ci := 1) (q0 := 0) rfl rfl)) rfl rfl hl.1 rfl (lv_room (Nat.le_of_ble_eq_true rfl)) dX1_figure_2 ⟨Nat.zero_le _, Nat.zero_le _⟩) ?_
  refine lv_astore (lv' := [(4, .ref (a_o A2)), (0, .ref x), (1, .int 2), (2, .int (nI j)), (3, .int w)]) hx hb dX1_figure_5 hl (by decide) rfl (fun ls hl => ?_)
  refine lv_aload hx hb dX1_figure_7 (lv_at hl 0 rfl) ?_
  refine lv_ifnonnull (tgt := 16) hx hb dX1_figure_9 (by decide) ?_
  refine lv_aload hx hb dX1_figure_16 (lv_at hl 0 rfl) ?_
  refine lv_iload_n hx hb dX1_figure_18 rfl (lv_at hl 3 rfl) ?_
  refine lv_iload_n hx hb dX1_figure_19 rfl (lv_at hl 4 rfl) ?_
  refine ro_call (va_runV (As := [.int (nI j), .int w]) (rest := []) ⟨hx, hb, hml, hown, hts⟩ (c_X0_figureOf_m l A2 r2 hk2 hR2 j w hj hw) (cwV 2 hts gX1_figure_X0_figureOf rfl rfl rfl (by decide +kernel) ⟨Nat.le_of_ble_eq_true rfl, Nat.le_of_ble_eq_true rfl⟩) (ro_preV hK (va_recv hK hR2 (ci := 0) (q0 := 0) rfl rfl)) rfl rfl hl.1 rfl (lv_room (Nat.le_of_ble_eq_true rfl)) dX1_figure_20 ⟨Nat.zero_le _, Nat.zero_le _⟩) ?_
  exact ro_iret hx hb hr rfl dX1_figure_23 hlocks
set_option maxHeartbeats 4000000 in
set_option maxRecDepth 100000 in
/-- figure(level, i, what) -/
theorem c_X1_figure_3 (l : Launch) {D : va_G} {cI cA cJ : ClassId} {H : Heap} (x sq : Nat) (lt : Int32) (A0 A1 A2 : rgA) (hX : va_P D vwCl (xW x sq lt A0 A1 A2) H) (i w v : Int32) (hn : ¬ ix 3 v) : Met l yX1_figure wsX1_figure ({ frames := 2, cells := 0, slots := 0, locals := 44 }) (ro_P D vwCl (tyL cI cA cJ) H [.ref x, .int v, .int i, .int w]) (ro_Q (.int 0) H) 0 0 ro_no := by
  refine Met.ofW (cc := cX1_figure) (maxL := 5) (ret := (some .int)) (by decide) rfl ?_
  intro p e s m args below meth c s₁ B hml hv
  obtain ⟨rfl, hh, hK⟩ := hv
  subst hh
  have hx := B.exec
  have hb := B.bytes
  have hr := B.returns
  have hlocks := B.notSynchronized
  have hts := atoms_spec (ws := wsX1_figure) B.pre
  have hown : s.vm.findClass RX1 = some m.cls := findClass_of_methodNamed B.named
  have hi1 : ∀ w ∈ wsX10, w ∈ wsX1_figure := fun w h => List.mem_cons_of_mem _ (List.mem_append_left _ (List.mem_append_right _ h))
  have hi0 : ∀ w ∈ wsX00, w ∈ wsX1_figure := fun w h => List.mem_cons_of_mem _ (List.mem_append_right _ h)
  have hl := lv_entry ([.ref x, .int v, .int i, .int w]) (n := 5) (Nat.le_of_ble_eq_true rfl)
  rw [lg_entry_eq]
  generalize (lg_sl ([.ref x, .int v, .int i, .int w]) ++ List.replicate (5 - (lg_sl ([.ref x, .int v, .int i, .int w])).length) Slot.unset).toArray = ls at hl ⊢
  have hl : lv_has ls 5 [(0, .ref x), (1, .int v), (2, .int i), (3, .int w)] := hl
  refine lv_aload_n hx hb dX1_figure_0 rfl (lv_at hl 0 rfl) ?_
  refine lv_iload_n hx hb dX1_figure_1 rfl (lv_at hl 1 rfl) ?_
  refine ro_call (va_runV (As := [.int v]) (rest := []) ⟨hx, hb, hml, hown, hts⟩ (c_X1_ringOf_3 l x sq lt A0 A1 A2 hX v hn) (cwV 1 hts gX1_figure_X1_ringOf rfl rfl rfl (by decide +kernel) ⟨Nat.le_of_ble_eq_true rfl, Nat.le_of_ble_eq_true rfl⟩) (ro_preV hK (va_recv hK hX (ci := 1) (q0 := 0) rfl rfl)) rfl rfl hl.1 rfl (lv_room (Nat.le_of_ble_eq_true rfl)) dX1_figure_2 ⟨Nat.zero_le _, Nat.zero_le _⟩) ?_
  refine lv_astoreN (lv' := [(4, .null), (0, .ref x), (1, .int v), (2, .int i), (3, .int w)]) hx hb dX1_figure_5 hl (by decide) rfl (fun ls hl => ?_)
  refine lv_aloadN hx hb dX1_figure_7 (lv_at hl 0 rfl) ?_
  refine lv_ifnonnullN hx hb dX1_figure_9 ?_
  refine lv_iconst (v := 0) hx hb dX1_figure_12 (by decide) ?_
  refine lv_goto (tgt := 23) hx hb dX1_figure_13 (by decide) ?_
  exact ro_iret hx hb hr rfl dX1_figure_23 hlocks
set_option maxHeartbeats 4000000 in
set_option maxRecDepth 100000 in
/-- many(from, to) -/
theorem c_X1_many (l : Launch) {D : va_G} {cI cA cJ : ClassId} {H : Heap} (x sq : Nat) (lt : Int32) (A0 A1 A2 : rgA) (hX : va_P D vwCl (xW x sq lt A0 A1 A2) H) (r0 : rgV) (hk0 : r_ok r0) (hR0 : va_P D vwCl (rgW cI cA A0 r0) H) (f t : Int32) : Met l yX1_many wsX1_many ({ frames := 4, cells := 0, slots := 0, locals := 89 }) (ro_P D vwCl (tyL cI cA cJ) H [.ref x, .int f, .int t]) (ro_Q (.int (nI (sB r0 f t - sA r0 f))) H) 0 0 ro_no := by
  refine Met.ofW (cc := cX1_many) (maxL := 4) (ret := (some .int)) (by decide) rfl ?_
  intro p e s m args below meth c s₁ B hml hv
  obtain ⟨rfl, hh, hK⟩ := hv
  subst hh
  have hx := B.exec
  have hb := B.bytes
  have hr := B.returns
  have hlocks := B.notSynchronized
  have hts := atoms_spec (ws := wsX1_many) B.pre
  have hown : s.vm.findClass RX1 = some m.cls := findClass_of_methodNamed B.named
  have hi1 : ∀ w ∈ wsX10, w ∈ wsX1_many := fun w h => List.mem_cons_of_mem _ (List.mem_append_left _ (List.mem_append_right _ h))
  have hi0 : ∀ w ∈ wsX00, w ∈ wsX1_many := fun w h => List.mem_cons_of_mem _ (List.mem_append_right _ h)
  have hl := lv_entry ([.ref x, .int f, .int t]) (n := 4) (Nat.le_of_ble_eq_true rfl)
  rw [lg_entry_eq]
  generalize (lg_sl ([.ref x, .int f, .int t]) ++ List.replicate (4 - (lg_sl ([.ref x, .int f, .int t])).length) Slot.unset).toArray = ls at hl ⊢
  have hl : lv_has ls 4 [(0, .ref x), (1, .int f), (2, .int t)] := hl
  obtain ⟨k10, k20, k30, k40, k50, k60⟩ := id hk0
  refine lv_aload_n hx hb dX1_many_0 rfl (lv_at hl 0 rfl) ?_
  refine lv_iload_n hx hb dX1_many_1 rfl (lv_at hl 1 rfl) ?_
  refine ro_call (va_runV (As := [.int f]) (rest := []) ⟨hx, hb, hml, hown, hts⟩ (c_X1_firstIn l x sq lt A0 A1 A2 hX r0 hk0 hR0 f) (cwV 1 hts gX1_many_X1_firstIn rfl rfl rfl (by decide +kernel) ⟨Nat.le_of_ble_eq_true rfl, Nat.le_of_ble_eq_true rfl⟩) (ro_preV hK (va_recv hK hX (ci := 1) (q0 := 0) rfl rfl)) rfl rfl hl.1 rfl (lv_room (Nat.le_of_ble_eq_true rfl)) dX1_many_2 ⟨Nat.zero_le _, Nat.zero_le _⟩) ?_
  refine lv_istore_n (lv' := [(3, .int (nI (sA r0 f))), (0, .ref x), (1, .int f), (2, .int t)]) hx hb dX1_many_5 rfl hl (by decide) rfl (fun ls hl => ?_)
  refine lv_aload_n hx hb dX1_many_6 rfl (lv_at hl 1 rfl) ?_
  refine lv_iload_n hx hb dX1_many_7 rfl (lv_at hl 0 rfl) ?_
  refine lv_iload_n hx hb dX1_many_8 rfl (lv_at hl 3 rfl) ?_
  refine ro_call (va_runV (As := [.int (nI (sA r0 f)), .int t]) (rest := []) ⟨hx, hb, hml, hown, hts⟩ (c_X1_endOf l x sq lt A0 A1 A2 hX r0 hk0 hR0 (sA r0 f) (sA_le _ _) t) (cwV 2 hts gX1_many_X1_endOf rfl rfl rfl (by decide +kernel) ⟨Nat.le_of_ble_eq_true rfl, Nat.le_of_ble_eq_true rfl⟩) (ro_preV hK (va_recv hK hX (ci := 1) (q0 := 0) rfl rfl)) rfl rfl hl.1 rfl (lv_room (Nat.le_of_ble_eq_true rfl)) dX1_many_9 ⟨Nat.zero_le _, Nat.zero_le _⟩) ?_
  refine lv_iload_n hx hb dX1_many_12 rfl (lv_at hl 0 rfl) ?_
  refine lv_isub hx hb dX1_many_13 ?_
  refine top_i (pk_sub (sB_ge _ _ _)) ?_
  exact ro_iret hx hb hr rfl dX1_many_14 hlocks
set_option maxHeartbeats 4000000 in
set_option maxRecDepth 100000 in
/-- extreme(from, to, sign) -/
theorem c_X1_extreme_1 (l : Launch) {D : va_G} {cI cA cJ : ClassId} {H : Heap} (x sq : Nat) (lt : Int32) (A0 A1 A2 : rgA) (hX : va_P D vwCl (xW x sq lt A0 A1 A2) H) (r0 : rgV) (hk0 : r_ok r0) (hR0 : va_P D vwCl (rgW cI cA A0 r0) H) (f t : Int32) : Met l yX1_extreme wsX1_extreme ({ frames := 4, cells := 0, slots := 0, locals := 89 }) (ro_P D vwCl (tyL cI cA cJ) H [.ref x, .int f, .int t, .int 1]) (ro_Q (.int (tg r0 1 (sA r0 f) (sB r0 f t))) H) 0 0 ro_no := by
  refine Met.ofW (cc := cX1_extreme) (maxL := 5) (ret := (some .int)) (by decide) rfl ?_
  intro p e s m args below meth c s₁ B hml hv
  obtain ⟨rfl, hh, hK⟩ := hv
  subst hh
  have hx := B.exec
  have hb := B.bytes
  have hr := B.returns
  have hlocks := B.notSynchronized
  have hts := atoms_spec (ws := wsX1_extreme) B.pre
  have hown : s.vm.findClass RX1 = some m.cls := findClass_of_methodNamed B.named
  have hi1 : ∀ w ∈ wsX10, w ∈ wsX1_extreme := fun w h => List.mem_cons_of_mem _ (List.mem_append_left _ (List.mem_append_right _ h))
  have hi0 : ∀ w ∈ wsX00, w ∈ wsX1_extreme := fun w h => List.mem_cons_of_mem _ (List.mem_append_right _ h)
  have hl := lv_entry ([.ref x, .int f, .int t, .int 1]) (n := 5) (Nat.le_of_ble_eq_true rfl)
  rw [lg_entry_eq]
  generalize (lg_sl ([.ref x, .int f, .int t, .int 1]) ++ List.replicate (5 - (lg_sl ([.ref x, .int f, .int t, .int 1])).length) Slot.unset).toArray = ls at hl ⊢
  have hl : lv_has ls 5 [(0, .ref x), (1, .int f), (2, .int t), (3, .int 1)] := hl
  obtain ⟨k10, k20, k30, k40, k50, k60⟩ := id hk0
  refine lv_iload_n hx hb dX1_extreme_0 rfl (lv_at hl 3 rfl) ?_
  refine lv_iconst (v := 1) hx hb dX1_extreme_1 (by decide) ?_
  refine lv_icmp_eq (tgt := 12) hx hb dX1_extreme_2 (by decide) (fun c_2 => ?_) (fun c_2 => ?_)
  · refine lv_aload_n hx hb dX1_extreme_12 rfl (lv_at hl 0 rfl) ?_
    refine lv_iload_n hx hb dX1_extreme_13 rfl (lv_at hl 1 rfl) ?_
    refine ro_call (va_runV (As := [.int f]) (rest := []) ⟨hx, hb, hml, hown, hts⟩ (c_X1_firstIn l x sq lt A0 A1 A2 hX r0 hk0 hR0 f) (cwV 1 hts gX1_extreme_X1_firstIn rfl rfl rfl (by decide +kernel) ⟨Nat.le_of_ble_eq_true rfl, Nat.le_of_ble_eq_true rfl⟩) (ro_preV hK (va_recv hK hX (ci := 1) (q0 := 0) rfl rfl)) rfl rfl hl.1 rfl (lv_room (Nat.le_of_ble_eq_true rfl)) dX1_extreme_14 ⟨Nat.zero_le _, Nat.zero_le _⟩) ?_
    refine lv_istore (lv' := [(4, .int (nI (sA r0 f))), (0, .ref x), (1, .int f), (2, .int t), (3, .int 1)]) hx hb dX1_extreme_17 hl (by decide) rfl (fun ls hl => ?_)
    refine lv_aload_n hx hb dX1_extreme_19 rfl (lv_at hl 1 rfl) ?_
    refine va_get (D := D) (ci := 1) (v := .ref (a_o A0)) (C := RX1) (T := TX1) (N := 5) hx hb hts hi1 hown hK hX 0 rfl rfl 0 (by decide) (hts (.fieldLink RX1 23 "RingSeries" "points" "LRingSeries$Ring;") (by decide +kernel)) (fun _ h9 => h9) rfl dX1_extreme_20 ?_
    refine lv_iload hx hb dX1_extreme_23 (lv_at hl 0 rfl) ?_
    refine lv_aload_n hx hb dX1_extreme_25 rfl (lv_at hl 1 rfl) ?_
    refine lv_iload hx hb dX1_extreme_26 (lv_at hl 0 rfl) ?_
    refine lv_iload_n hx hb dX1_extreme_28 rfl (lv_at hl 3 rfl) ?_
    refine ro_call (va_runV (As := [.int (nI (sA r0 f)), .int t]) (rest := [.int (nI (sA r0 f)), .ref (a_o A0)]) ⟨hx, hb, hml, hown, hts⟩ (c_X1_endOf l x sq lt A0 A1 A2 hX r0 hk0 hR0 (sA r0 f) (sA_le _ _) t) (cwV 2 hts gX1_extreme_X1_endOf rfl rfl rfl (by decide +kernel) ⟨Nat.le_of_ble_eq_true rfl, Nat.le_of_ble_eq_true rfl⟩) (ro_preV hK (va_recv hK hX (ci := 1) (q0 := 0) rfl rfl)) rfl rfl hl.1 rfl (lv_room (Nat.le_of_ble_eq_true rfl)) dX1_extreme_29 ⟨Nat.zero_le _, Nat.zero_le _⟩) ?_
    refine lv_iload_n hx hb dX1_extreme_32 rfl (lv_at hl 4 rfl) ?_
    refine lv_if_ge (tgt := 40) hx hb dX1_extreme_33 (by decide) (fun c_33 => ?_) (fun c_33 => ?_)
    · refine lv_iconst (v := 1) hx hb dX1_extreme_40 (by decide) ?_
      refine ro_call (va_runV (As := [.int (nI (sA r0 f)), .int (nI (sB r0 f t)), .int 1]) (rest := []) ⟨hx, hb, hml, hown, hts⟩ (c_X0_together l A0 r0 hk0 hR0 1 (sA r0 f) (sB r0 f t) (by omega) (sB_le _ _ _) (sA_le _ _)) (cwV 3 hts gX1_extreme_X0_together rfl rfl rfl (by decide +kernel) ⟨Nat.le_of_ble_eq_true rfl, Nat.le_of_ble_eq_true rfl⟩) (ro_preV hK (va_recv hK hR0 (ci := 0) (q0 := 0) rfl rfl)) rfl rfl hl.1 rfl (lv_room (Nat.le_of_ble_eq_true rfl)) dX1_extreme_41 ⟨Nat.zero_le _, Nat.zero_le _⟩) ?_
      exact ro_iret hx hb hr rfl dX1_extreme_44 hlocks
    · exact absurd c_33 (by decide)
  · exact absurd rfl c_2
set_option maxHeartbeats 4000000 in
set_option maxRecDepth 100000 in
/-- extreme(from, to, sign) -/
theorem c_X1_extreme_m (l : Launch) {D : va_G} {cI cA cJ : ClassId} {H : Heap} (x sq : Nat) (lt : Int32) (A0 A1 A2 : rgA) (hX : va_P D vwCl (xW x sq lt A0 A1 A2) H) (r0 : rgV) (hk0 : r_ok r0) (hR0 : va_P D vwCl (rgW cI cA A0 r0) H) (f t : Int32) : Met l yX1_extreme wsX1_extreme ({ frames := 4, cells := 0, slots := 0, locals := 89 }) (ro_P D vwCl (tyL cI cA cJ) H [.ref x, .int f, .int t, .int (-1)]) (ro_Q (.int (tg r0 0 (sA r0 f) (sB r0 f t))) H) 0 0 ro_no := by
  refine Met.ofW (cc := cX1_extreme) (maxL := 5) (ret := (some .int)) (by decide) rfl ?_
  intro p e s m args below meth c s₁ B hml hv
  obtain ⟨rfl, hh, hK⟩ := hv
  subst hh
  have hx := B.exec
  have hb := B.bytes
  have hr := B.returns
  have hlocks := B.notSynchronized
  have hts := atoms_spec (ws := wsX1_extreme) B.pre
  have hown : s.vm.findClass RX1 = some m.cls := findClass_of_methodNamed B.named
  have hi1 : ∀ w ∈ wsX10, w ∈ wsX1_extreme := fun w h => List.mem_cons_of_mem _ (List.mem_append_left _ (List.mem_append_right _ h))
  have hi0 : ∀ w ∈ wsX00, w ∈ wsX1_extreme := fun w h => List.mem_cons_of_mem _ (List.mem_append_right _ h)
  have hl := lv_entry ([.ref x, .int f, .int t, .int (-1)]) (n := 5) (Nat.le_of_ble_eq_true rfl)
  rw [lg_entry_eq]
  generalize (lg_sl ([.ref x, .int f, .int t, .int (-1)]) ++ List.replicate (5 - (lg_sl ([.ref x, .int f, .int t, .int (-1)])).length) Slot.unset).toArray = ls at hl ⊢
  have hl : lv_has ls 5 [(0, .ref x), (1, .int f), (2, .int t), (3, .int (-1))] := hl
  obtain ⟨k10, k20, k30, k40, k50, k60⟩ := id hk0
  refine lv_iload_n hx hb dX1_extreme_0 rfl (lv_at hl 3 rfl) ?_
  refine lv_iconst (v := 1) hx hb dX1_extreme_1 (by decide) ?_
  refine lv_icmp_eq (tgt := 12) hx hb dX1_extreme_2 (by decide) (fun c_2 => ?_) (fun c_2 => ?_)
  · exact absurd c_2 (by decide)
  · refine lv_iload_n hx hb dX1_extreme_5 rfl (lv_at hl 3 rfl) ?_
    refine lv_iconst (v := (-1)) hx hb dX1_extreme_6 (by decide) ?_
    refine lv_icmp_eq (tgt := 12) hx hb dX1_extreme_7 (by decide) (fun c_7 => ?_) (fun c_7 => ?_)
    · refine lv_aload_n hx hb dX1_extreme_12 rfl (lv_at hl 0 rfl) ?_
      refine lv_iload_n hx hb dX1_extreme_13 rfl (lv_at hl 1 rfl) ?_
      refine ro_call (va_runV (As := [.int f]) (rest := []) ⟨hx, hb, hml, hown, hts⟩ (c_X1_firstIn l x sq lt A0 A1 A2 hX r0 hk0 hR0 f) (cwV 1 hts gX1_extreme_X1_firstIn rfl rfl rfl (by decide +kernel) ⟨Nat.le_of_ble_eq_true rfl, Nat.le_of_ble_eq_true rfl⟩) (ro_preV hK (va_recv hK hX (ci := 1) (q0 := 0) rfl rfl)) rfl rfl hl.1 rfl (lv_room (Nat.le_of_ble_eq_true rfl)) dX1_extreme_14 ⟨Nat.zero_le _, Nat.zero_le _⟩) ?_
      refine lv_istore (lv' := [(4, .int (nI (sA r0 f))), (0, .ref x), (1, .int f), (2, .int t), (3, .int (-1))]) hx hb dX1_extreme_17 hl (by decide) rfl (fun ls hl => ?_)
      refine lv_aload_n hx hb dX1_extreme_19 rfl (lv_at hl 1 rfl) ?_
      refine va_get (D := D) (ci := 1) (v := .ref (a_o A0)) (C := RX1) (T := TX1) (N := 5) hx hb hts hi1 hown hK hX 0 rfl rfl 0 (by decide) (hts (.fieldLink RX1 23 "RingSeries" "points" "LRingSeries$Ring;") (by decide +kernel)) (fun _ h9 => h9) rfl dX1_extreme_20 ?_
      refine lv_iload hx hb dX1_extreme_23 (lv_at hl 0 rfl) ?_
      refine lv_aload_n hx hb dX1_extreme_25 rfl (lv_at hl 1 rfl) ?_
      refine lv_iload hx hb dX1_extreme_26 (lv_at hl 0 rfl) ?_
      refine lv_iload_n hx hb dX1_extreme_28 rfl (lv_at hl 3 rfl) ?_
      refine ro_call (va_runV (As := [.int (nI (sA r0 f)), .int t]) (rest := [.int (nI (sA r0 f)), .ref (a_o A0)]) ⟨hx, hb, hml, hown, hts⟩ (c_X1_endOf l x sq lt A0 A1 A2 hX r0 hk0 hR0 (sA r0 f) (sA_le _ _) t) (cwV 2 hts gX1_extreme_X1_endOf rfl rfl rfl (by decide +kernel) ⟨Nat.le_of_ble_eq_true rfl, Nat.le_of_ble_eq_true rfl⟩) (ro_preV hK (va_recv hK hX (ci := 1) (q0 := 0) rfl rfl)) rfl rfl hl.1 rfl (lv_room (Nat.le_of_ble_eq_true rfl)) dX1_extreme_29 ⟨Nat.zero_le _, Nat.zero_le _⟩) ?_
      refine lv_iload_n hx hb dX1_extreme_32 rfl (lv_at hl 4 rfl) ?_
      refine lv_if_ge (tgt := 40) hx hb dX1_extreme_33 (by decide) (fun c_33 => ?_) (fun c_33 => ?_)
      · exact absurd c_33 (by decide)
      · refine lv_iconst (v := 0) hx hb dX1_extreme_36 (by decide) ?_
        refine lv_goto (tgt := 41) hx hb dX1_extreme_37 (by decide) ?_
        refine ro_call (va_runV (As := [.int (nI (sA r0 f)), .int (nI (sB r0 f t)), .int 0]) (rest := []) ⟨hx, hb, hml, hown, hts⟩ (c_X0_together l A0 r0 hk0 hR0 0 (sA r0 f) (sB r0 f t) (by omega) (sB_le _ _ _) (sA_le _ _)) (cwV 3 hts gX1_extreme_X0_together rfl rfl rfl (by decide +kernel) ⟨Nat.le_of_ble_eq_true rfl, Nat.le_of_ble_eq_true rfl⟩) (ro_preV hK (va_recv hK hR0 (ci := 0) (q0 := 0) rfl rfl)) rfl rfl hl.1 rfl (lv_room (Nat.le_of_ble_eq_true rfl)) dX1_extreme_41 ⟨Nat.zero_le _, Nat.zero_le _⟩) ?_
        exact ro_iret hx hb hr rfl dX1_extreme_44 hlocks
    · exact absurd rfl c_7
set_option maxHeartbeats 4000000 in
set_option maxRecDepth 100000 in
/-- extreme(from, to, sign) -/
theorem c_X1_extreme_o (l : Launch) {D : va_G} {cI cA cJ : ClassId} {H : Heap} (x sq : Nat) (lt : Int32) (A0 A1 A2 : rgA) (hX : va_P D vwCl (xW x sq lt A0 A1 A2) H) (r0 : rgV) (hk0 : r_ok r0) (hR0 : va_P D vwCl (rgW cI cA A0 r0) H) (f t : Int32) (g : Int32) (h1 : ¬ g = 1) (h2 : ¬ g = -1) : Met l yX1_extreme wsX1_extreme ({ frames := 4, cells := 0, slots := 0, locals := 89 }) (ro_P D vwCl (tyL cI cA cJ) H [.ref x, .int f, .int t, .int g]) (ro_Q (.int 0) H) 0 0 ro_no := by
  refine Met.ofW (cc := cX1_extreme) (maxL := 5) (ret := (some .int)) (by decide) rfl ?_
  intro p e s m args below meth c s₁ B hml hv
  obtain ⟨rfl, hh, hK⟩ := hv
  subst hh
  have hx := B.exec
  have hb := B.bytes
  have hr := B.returns
  have hlocks := B.notSynchronized
  have hts := atoms_spec (ws := wsX1_extreme) B.pre
  have hown : s.vm.findClass RX1 = some m.cls := findClass_of_methodNamed B.named
  have hi1 : ∀ w ∈ wsX10, w ∈ wsX1_extreme := fun w h => List.mem_cons_of_mem _ (List.mem_append_left _ (List.mem_append_right _ h))
  have hi0 : ∀ w ∈ wsX00, w ∈ wsX1_extreme := fun w h => List.mem_cons_of_mem _ (List.mem_append_right _ h)
  have hl := lv_entry ([.ref x, .int f, .int t, .int g]) (n := 5) (Nat.le_of_ble_eq_true rfl)
  rw [lg_entry_eq]
  generalize (lg_sl ([.ref x, .int f, .int t, .int g]) ++ List.replicate (5 - (lg_sl ([.ref x, .int f, .int t, .int g])).length) Slot.unset).toArray = ls at hl ⊢
  have hl : lv_has ls 5 [(0, .ref x), (1, .int f), (2, .int t), (3, .int g)] := hl
  obtain ⟨k10, k20, k30, k40, k50, k60⟩ := id hk0
  refine lv_iload_n hx hb dX1_extreme_0 rfl (lv_at hl 3 rfl) ?_
  refine lv_iconst (v := 1) hx hb dX1_extreme_1 (by decide) ?_
  refine lv_icmp_eq (tgt := 12) hx hb dX1_extreme_2 (by decide) (fun c_2 => ?_) (fun c_2 => ?_)
  · exact absurd c_2 h1
  · refine lv_iload_n hx hb dX1_extreme_5 rfl (lv_at hl 3 rfl) ?_
    refine lv_iconst (v := (-1)) hx hb dX1_extreme_6 (by decide) ?_
    refine lv_icmp_eq (tgt := 12) hx hb dX1_extreme_7 (by decide) (fun c_7 => ?_) (fun c_7 => ?_)
    · exact absurd c_7 h2
    · refine lv_iconst (v := 0) hx hb dX1_extreme_10 (by decide) ?_
      exact ro_iret hx hb hr rfl dX1_extreme_11 hlocks
set_option maxHeartbeats 4000000 in
set_option maxRecDepth 100000 in
/-- sum(from, to) -/
theorem c_X1_sum (l : Launch) {D : va_G} {cI cA cJ : ClassId} {H : Heap} (x sq : Nat) (lt : Int32) (A0 A1 A2 : rgA) (hX : va_P D vwCl (xW x sq lt A0 A1 A2) H) (r0 : rgV) (hk0 : r_ok r0) (hR0 : va_P D vwCl (rgW cI cA A0 r0) H) (f t : Int32) : Met l yX1_sum wsX1_sum ({ frames := 4, cells := 0, slots := 0, locals := 89 }) (ro_P D vwCl (tyL cI cA cJ) H [.ref x, .int f, .int t]) (ro_Q (.long (smr r0 (sB r0 f t - sA r0 f) (sA r0 f) 0)) H) 0 0 ro_no := by
  refine Met.ofW (cc := cX1_sum) (maxL := 8) (ret := (some .long)) (by decide) rfl ?_
  intro p e s m args below meth c s₁ B hml hv
  obtain ⟨rfl, hh, hK⟩ := hv
  subst hh
  have hx := B.exec
  have hb := B.bytes
  have hr := B.returns
  have hlocks := B.notSynchronized
  have hts := atoms_spec (ws := wsX1_sum) B.pre
  have hown : s.vm.findClass RX1 = some m.cls := findClass_of_methodNamed B.named
  have hi1 : ∀ w ∈ wsX10, w ∈ wsX1_sum := fun w h => List.mem_cons_of_mem _ (List.mem_append_left _ (List.mem_append_right _ h))
  have hi0 : ∀ w ∈ wsX00, w ∈ wsX1_sum := fun w h => List.mem_cons_of_mem _ (List.mem_append_right _ h)
  have hl := lv_entry ([.ref x, .int f, .int t]) (n := 8) (Nat.le_of_ble_eq_true rfl)
  rw [lg_entry_eq]
  generalize (lg_sl ([.ref x, .int f, .int t]) ++ List.replicate (8 - (lg_sl ([.ref x, .int f, .int t])).length) Slot.unset).toArray = ls at hl ⊢
  have hl : lv_has ls 8 [(0, .ref x), (1, .int f), (2, .int t)] := hl
  obtain ⟨k10, k20, k30, k40, k50, k60⟩ := id hk0
  have b1 := sA_le r0 f
  have b2 := sB_le r0 f t
  have b3 := sB_ge r0 f t
  have loop : ∀ (n : Nat) (i : Nat) (y : Int64) (ls : Array Slot), i + n = sB r0 f t → smr r0 n i y = smr r0 (sB r0 f t - sA r0 f) (sA r0 f) 0 → lv_has ls 8 [(7, .int (nI i)), (5, .long y), (0, .ref x), (1, .int f), (2, .int t), (3, .int (nI (sA r0 f))), (4, .int (nI (sB r0 f t)))] → W p l e (headSpec wsX1_sum ({ frames := 4, cells := 0, slots := 0, locals := 89 })).room s m ([.ref x, .int f, .int t] : List Value).toArray below meth c s.heap [] 0 0 (MQ below (ro_Q (.long (smr r0 (sB r0 f t - sA r0 f) (sA r0 f) 0)) s.heap) ([.ref x, .int f, .int t] : List Value).toArray s 0 0 ro_no) (F0 m 20 ls []) := by
    intro n
    induction n with
    | zero =>
      intro i y ls hi hf hl
      refine lv_iload hx hb dX1_sum_20 (lv_at hl 0 rfl) ?_
      refine lv_iload hx hb dX1_sum_22 (lv_at hl 6 rfl) ?_
      refine lv_icmp_ge (tgt := 45) hx hb dX1_sum_24 (by decide) (fun c_24 => ?_) (fun c_24 => ?_)
      · have c_24 := (nI_leI (a := sB r0 f t) (b := i) (by omega) (by omega)).mp c_24
        refine lv_lload hx hb dX1_sum_45 (lv_at hl 1 rfl) ?_
        exact ro_lret hx hb hr (by rw [← hf]; rfl) dX1_sum_47 hlocks
      · have c_24 := mt (nI_leI (a := sB r0 f t) (b := i) (by omega) (by omega)).mpr c_24
        exact absurd c_24 (by omega)
    | succ n ih =>
      intro i y ls hi hf hl
      refine lv_iload hx hb dX1_sum_20 (lv_at hl 0 rfl) ?_
      refine lv_iload hx hb dX1_sum_22 (lv_at hl 6 rfl) ?_
      refine lv_icmp_ge (tgt := 45) hx hb dX1_sum_24 (by decide) (fun c_24 => ?_) (fun c_24 => ?_)
      · have c_24 := (nI_leI (a := sB r0 f t) (b := i) (by omega) (by omega)).mp c_24
        exact absurd c_24 (by omega)
      · have c_24 := mt (nI_leI (a := sB r0 f t) (b := i) (by omega) (by omega)).mpr c_24
        refine lv_lload hx hb dX1_sum_27 (lv_at hl 1 rfl) ?_
        refine lv_aload_n hx hb dX1_sum_29 rfl (lv_at hl 2 rfl) ?_
        refine lv_iload hx hb dX1_sum_30 (lv_at hl 0 rfl) ?_
        refine ro_call (va_runV (As := [.int (nI i)]) (rest := [.long y]) ⟨hx, hb, hml, hown, hts⟩ (c_X1_valueOf l x sq lt A0 A1 A2 hX r0 hk0 hR0 i (by omega)) (cwV 1 hts gX1_sum_X1_valueOf rfl rfl rfl (by decide +kernel) ⟨Nat.le_of_ble_eq_true rfl, Nat.le_of_ble_eq_true rfl⟩) (ro_preV hK (va_recv hK hX (ci := 1) (q0 := 0) rfl rfl)) rfl rfl hl.1 rfl (lv_room (Nat.le_of_ble_eq_true rfl)) dX1_sum_32 ⟨Nat.zero_le _, Nat.zero_le _⟩) ?_
        refine lv_i2l hx hb dX1_sum_35 rfl ?_
        refine lv_ladd hx hb dX1_sum_36 ?_
        refine lv_lstore (lv' := [(5, .long (y + ((v_G r0 2 i).toInt64))), (7, .int (nI i)), (0, .ref x), (1, .int f), (2, .int t), (3, .int (nI (sA r0 f))), (4, .int (nI (sB r0 f t)))]) hx hb dX1_sum_37 hl (by decide) rfl (fun ls hl => ?_)
        refine lv_iinc (v := nI (i + 1)) (lv' := [(7, .int (nI (i + 1))), (5, .long (y + ((v_G r0 2 i).toInt64))), (0, .ref x), (1, .int f), (2, .int t), (3, .int (nI (sA r0 f))), (4, .int (nI (sB r0 f t)))]) hx hb dX1_sum_39 hl (k := 1) rfl (inc1 _) (by decide) rfl (fun ls hl => ?_)
        refine lv_goto (tgt := 20) hx hb dX1_sum_42 (by decide) ?_
        exact ih (i + 1) _ ls (by omega) hf (lv_sub hl [0, 1, 2, 3, 4, 5, 6] rfl)
  refine lv_aload_n hx hb dX1_sum_0 rfl (lv_at hl 0 rfl) ?_
  refine lv_iload_n hx hb dX1_sum_1 rfl (lv_at hl 1 rfl) ?_
  refine ro_call (va_runV (As := [.int f]) (rest := []) ⟨hx, hb, hml, hown, hts⟩ (c_X1_firstIn l x sq lt A0 A1 A2 hX r0 hk0 hR0 f) (cwV 1 hts gX1_sum_X1_firstIn rfl rfl rfl (by decide +kernel) ⟨Nat.le_of_ble_eq_true rfl, Nat.le_of_ble_eq_true rfl⟩) (ro_preV hK (va_recv hK hX (ci := 1) (q0 := 0) rfl rfl)) rfl rfl hl.1 rfl (lv_room (Nat.le_of_ble_eq_true rfl)) dX1_sum_2 ⟨Nat.zero_le _, Nat.zero_le _⟩) ?_
  refine lv_istore_n (lv' := [(3, .int (nI (sA r0 f))), (0, .ref x), (1, .int f), (2, .int t)]) hx hb dX1_sum_5 rfl hl (by decide) rfl (fun ls hl => ?_)
  refine lv_aload_n hx hb dX1_sum_6 rfl (lv_at hl 1 rfl) ?_
  refine lv_iload_n hx hb dX1_sum_7 rfl (lv_at hl 0 rfl) ?_
  refine lv_iload_n hx hb dX1_sum_8 rfl (lv_at hl 3 rfl) ?_
  refine ro_call (va_runV (As := [.int (nI (sA r0 f)), .int t]) (rest := []) ⟨hx, hb, hml, hown, hts⟩ (c_X1_endOf l x sq lt A0 A1 A2 hX r0 hk0 hR0 (sA r0 f) (sA_le _ _) t) (cwV 2 hts gX1_sum_X1_endOf rfl rfl rfl (by decide +kernel) ⟨Nat.le_of_ble_eq_true rfl, Nat.le_of_ble_eq_true rfl⟩) (ro_preV hK (va_recv hK hX (ci := 1) (q0 := 0) rfl rfl)) rfl rfl hl.1 rfl (lv_room (Nat.le_of_ble_eq_true rfl)) dX1_sum_9 ⟨Nat.zero_le _, Nat.zero_le _⟩) ?_
  refine lv_istore (lv' := [(4, .int (nI (sB r0 f t))), (3, .int (nI (sA r0 f))), (0, .ref x), (1, .int f), (2, .int t)]) hx hb dX1_sum_12 hl (by decide) rfl (fun ls hl => ?_)
  refine lv_lconst (v := 0) hx hb dX1_sum_14 (by decide) ?_
  refine lv_lstore (lv' := [(5, .long 0), (4, .int (nI (sB r0 f t))), (3, .int (nI (sA r0 f))), (0, .ref x), (1, .int f), (2, .int t)]) hx hb dX1_sum_15 hl (by decide) rfl (fun ls hl => ?_)
  refine lv_iload_n hx hb dX1_sum_17 rfl (lv_at hl 2 rfl) ?_
  refine lv_istore (lv' := [(7, .int (nI (sA r0 f))), (5, .long 0), (4, .int (nI (sB r0 f t))), (3, .int (nI (sA r0 f))), (0, .ref x), (1, .int f), (2, .int t)]) hx hb dX1_sum_18 hl (by decide) rfl (fun ls hl => ?_)
  exact loop (sB r0 f t - sA r0 f) (sA r0 f) 0 ls (by omega) rfl (lv_sub hl [0, 1, 4, 5, 6, 3, 2] rfl)
set_option maxHeartbeats 4000000 in
set_option maxRecDepth 100000 in
/-- at(time, smooth) -/
theorem c_X1_at (l : Launch) {D : va_G} {cI cA cJ : ClassId} {H : Heap} (x sq : Nat) (lt : Int32) (A0 A1 A2 : rgA) (hX : va_P D vwCl (xW x sq lt A0 A1 A2) H) (r0 : rgV) (hk0 : r_ok r0) (hR0 : va_P D vwCl (rgW cI cA A0 r0) H) (t sm : Int32) : Met l yX1_at wsX1_at ({ frames := 5, cells := 0, slots := 0, locals := 113 }) (ro_P D vwCl (tyL cI cA cJ) H [.ref x, .int t, .int sm]) (ro_Q (.int (atV r0 t sm)) H) 0 0 ro_no := by
  refine Met.ofW (cc := cX1_at) (maxL := 5) (ret := (some .int)) (by decide) rfl ?_
  intro p e s m args below meth c s₁ B hml hv
  obtain ⟨rfl, hh, hK⟩ := hv
  subst hh
  have hx := B.exec
  have hb := B.bytes
  have hr := B.returns
  have hlocks := B.notSynchronized
  have hts := atoms_spec (ws := wsX1_at) B.pre
  have hown : s.vm.findClass RX1 = some m.cls := findClass_of_methodNamed B.named
  have hi1 : ∀ w ∈ wsX10, w ∈ wsX1_at := fun w h => List.mem_cons_of_mem _ (List.mem_append_left _ (List.mem_append_right _ h))
  have hi0 : ∀ w ∈ wsX00, w ∈ wsX1_at := fun w h => List.mem_cons_of_mem _ (List.mem_append_right _ h)
  have hl := lv_entry ([.ref x, .int t, .int sm]) (n := 5) (Nat.le_of_ble_eq_true rfl)
  rw [lg_entry_eq]
  generalize (lg_sl ([.ref x, .int t, .int sm]) ++ List.replicate (5 - (lg_sl ([.ref x, .int t, .int sm])).length) Slot.unset).toArray = ls at hl ⊢
  have hl : lv_has ls 5 [(0, .ref x), (1, .int t), (2, .int sm)] := hl
  obtain ⟨k10, k20, k30, k40, k50, k60⟩ := id hk0
  have b1 : ff r0 (t.toInt64 + 1) 0 ≤ v_h r0 := ff_le (Nat.zero_le _)
  refine lv_aload_n hx hb dX1_at_0 rfl (lv_at hl 0 rfl) ?_
  refine va_get (D := D) (ci := 1) (v := .ref (a_o A0)) (C := RX1) (T := TX1) (N := 5) hx hb hts hi1 hown hK hX 0 rfl rfl 0 (by decide) (hts (.fieldLink RX1 23 "RingSeries" "points" "LRingSeries$Ring;") (by decide +kernel)) (fun _ h9 => h9) rfl dX1_at_1 ?_
  refine lv_iconst (v := 0) hx hb dX1_at_4 (by decide) ?_
  refine lv_iload_n hx hb dX1_at_5 rfl (lv_at hl 1 rfl) ?_
  refine lv_i2l hx hb dX1_at_6 rfl ?_
  refine lv_lconst (v := 1) hx hb dX1_at_7 (by decide) ?_
  refine lv_ladd hx hb dX1_at_8 ?_
  refine ro_call (va_runV (As := [.int 0, .long (((t).toInt64) + 1)]) (rest := []) ⟨hx, hb, hml, hown, hts⟩ (c_X0_firstFrom l A0 r0 hk0 hR0 0 (((t).toInt64) + 1) (by omega)) (cwV 2 hts gX1_at_X0_firstFrom rfl rfl rfl (by decide +kernel) ⟨Nat.le_of_ble_eq_true rfl, Nat.le_of_ble_eq_true rfl⟩) (ro_preV hK (va_recv hK hR0 (ci := 0) (q0 := 0) rfl rfl)) rfl rfl hl.1 rfl (lv_room (Nat.le_of_ble_eq_true rfl)) dX1_at_9 ⟨Nat.zero_le _, Nat.zero_le _⟩) ?_
  refine lv_istore_n (lv' := [(3, .int (nI (ff r0 (((t).toInt64) + 1) 0))), (0, .ref x), (1, .int t), (2, .int sm)]) hx hb dX1_at_12 rfl hl (by decide) rfl (fun ls hl => ?_)
  refine lv_iload_n hx hb dX1_at_13 rfl (lv_at hl 0 rfl) ?_
  refine lv_if_ne (tgt := 19) hx hb dX1_at_14 (by decide) (fun c_14 => ?_) (fun c_14 => ?_)
  · have c_14 := mt (nI_eq (a := ff r0 (((t).toInt64) + 1) 0) (b := 0) (by omega) (by omega)).mpr c_14
    refine lv_iload_n hx hb dX1_at_19 rfl (lv_at hl 3 rfl) ?_
    refine lv_if_eq (tgt := 38) hx hb dX1_at_20 (by decide) (fun c_20 => ?_) (fun c_20 => ?_)
    · refine lv_iconst (v := 0) hx hb dX1_at_38 (by decide) ?_
      refine lv_istore (lv' := [(4, .int 0), (3, .int (nI (ff r0 (((t).toInt64) + 1) 0))), (0, .ref x), (1, .int t), (2, .int sm)]) hx hb dX1_at_39 hl (by decide) rfl (fun ls hl => ?_)
      refine lv_iload hx hb dX1_at_41 (lv_at hl 0 rfl) ?_
      refine lv_if_eq (tgt := 57) hx hb dX1_at_43 (by decide) (fun c_43 => ?_) (fun c_43 => ?_)
      · refine lv_aload_n hx hb dX1_at_57 rfl (lv_at hl 2 rfl) ?_
        refine lv_iload_n hx hb dX1_at_58 rfl (lv_at hl 1 rfl) ?_
        refine lv_iconst (v := 1) hx hb dX1_at_59 (by decide) ?_
        refine lv_isub hx hb dX1_at_60 ?_
        refine top_i (pk_sub (b := 1) (by omega)) ?_
        refine ro_call (va_runV (As := [.int (nI ((ff r0 (((t).toInt64) + 1) 0) - 1))]) (rest := []) ⟨hx, hb, hml, hown, hts⟩ (c_X1_valueOf l x sq lt A0 A1 A2 hX r0 hk0 hR0 ((ff r0 (((t).toInt64) + 1) 0) - 1) (by omega)) (cwV 1 hts gX1_at_X1_valueOf rfl rfl rfl (by decide +kernel) ⟨Nat.le_of_ble_eq_true rfl, Nat.le_of_ble_eq_true rfl⟩) (ro_preV hK (va_recv hK hX (ci := 1) (q0 := 0) rfl rfl)) rfl rfl hl.1 rfl (lv_room (Nat.le_of_ble_eq_true rfl)) dX1_at_61 ⟨Nat.zero_le _, Nat.zero_le _⟩) ?_
        exact ro_iret hx hb hr (by unfold atV; rw [if_neg c_14, if_neg (fun z => z.1 c_20)]) dX1_at_64 hlocks
      · exact absurd rfl c_43
    · refine lv_iload_n hx hb dX1_at_23 rfl (lv_at hl 0 rfl) ?_
      refine lv_aload_n hx hb dX1_at_24 rfl (lv_at hl 1 rfl) ?_
      refine va_get (D := D) (ci := 1) (v := .ref (a_o A0)) (C := RX1) (T := TX1) (N := 5) hx hb hts hi1 hown hK hX 0 rfl rfl 0 (by decide) (hts (.fieldLink RX1 23 "RingSeries" "points" "LRingSeries$Ring;") (by decide +kernel)) (fun _ h9 => h9) rfl dX1_at_25 ?_
      refine ro_call (va_runV (As := []) (rest := [.int (nI (ff r0 (((t).toInt64) + 1) 0))]) ⟨hx, hb, hml, hown, hts⟩ (c_X0_size l A0 r0 hk0 hR0) (cwV 0 hts gX1_at_X0_size rfl rfl rfl (by decide +kernel) ⟨Nat.le_of_ble_eq_true rfl, Nat.le_of_ble_eq_true rfl⟩) (ro_preV hK (va_recv hK hR0 (ci := 0) (q0 := 0) rfl rfl)) rfl rfl hl.1 rfl (lv_room (Nat.le_of_ble_eq_true rfl)) dX1_at_28 ⟨Nat.zero_le _, Nat.zero_le _⟩) ?_
      refine lv_icmp_ge (tgt := 38) hx hb dX1_at_31 (by decide) (fun c_31 => ?_) (fun c_31 => ?_)
      · have c_31 := (nI_leI (a := v_h r0) (b := ff r0 (((t).toInt64) + 1) 0) (by omega) (by omega)).mp c_31
        refine lv_iconst (v := 0) hx hb dX1_at_38 (by decide) ?_
        refine lv_istore (lv' := [(4, .int 0), (3, .int (nI (ff r0 (((t).toInt64) + 1) 0))), (0, .ref x), (1, .int t), (2, .int sm)]) hx hb dX1_at_39 hl (by decide) rfl (fun ls hl => ?_)
        refine lv_iload hx hb dX1_at_41 (lv_at hl 0 rfl) ?_
        refine lv_if_eq (tgt := 57) hx hb dX1_at_43 (by decide) (fun c_43 => ?_) (fun c_43 => ?_)
        · refine lv_aload_n hx hb dX1_at_57 rfl (lv_at hl 2 rfl) ?_
          refine lv_iload_n hx hb dX1_at_58 rfl (lv_at hl 1 rfl) ?_
          refine lv_iconst (v := 1) hx hb dX1_at_59 (by decide) ?_
          refine lv_isub hx hb dX1_at_60 ?_
          refine top_i (pk_sub (b := 1) (by omega)) ?_
          refine ro_call (va_runV (As := [.int (nI ((ff r0 (((t).toInt64) + 1) 0) - 1))]) (rest := []) ⟨hx, hb, hml, hown, hts⟩ (c_X1_valueOf l x sq lt A0 A1 A2 hX r0 hk0 hR0 ((ff r0 (((t).toInt64) + 1) 0) - 1) (by omega)) (cwV 1 hts gX1_at_X1_valueOf rfl rfl rfl (by decide +kernel) ⟨Nat.le_of_ble_eq_true rfl, Nat.le_of_ble_eq_true rfl⟩) (ro_preV hK (va_recv hK hX (ci := 1) (q0 := 0) rfl rfl)) rfl rfl hl.1 rfl (lv_room (Nat.le_of_ble_eq_true rfl)) dX1_at_61 ⟨Nat.zero_le _, Nat.zero_le _⟩) ?_
          exact ro_iret hx hb hr (by unfold atV; rw [if_neg c_14, if_neg (fun z => absurd z.2 (by omega))]) dX1_at_64 hlocks
        · exact absurd rfl c_43
      · have c_31 := mt (nI_leI (a := v_h r0) (b := ff r0 (((t).toInt64) + 1) 0) (by omega) (by omega)).mpr c_31
        refine lv_iconst (v := 1) hx hb dX1_at_34 (by decide) ?_
        refine lv_goto (tgt := 39) hx hb dX1_at_35 (by decide) ?_
        refine lv_istore (lv' := [(4, .int 1), (3, .int (nI (ff r0 (((t).toInt64) + 1) 0))), (0, .ref x), (1, .int t), (2, .int sm)]) hx hb dX1_at_39 hl (by decide) rfl (fun ls hl => ?_)
        refine lv_iload hx hb dX1_at_41 (lv_at hl 0 rfl) ?_
        refine lv_if_eq (tgt := 57) hx hb dX1_at_43 (by decide) (fun c_43 => ?_) (fun c_43 => ?_)
        · exact absurd c_43 (by decide)
        · refine lv_aload_n hx hb dX1_at_46 rfl (lv_at hl 2 rfl) ?_
          refine lv_iload_n hx hb dX1_at_47 rfl (lv_at hl 1 rfl) ?_
          refine lv_iconst (v := 1) hx hb dX1_at_48 (by decide) ?_
          refine lv_isub hx hb dX1_at_49 ?_
          refine top_i (pk_sub (b := 1) (by omega)) ?_
          refine lv_iload_n hx hb dX1_at_50 rfl (lv_at hl 3 rfl) ?_
          refine ro_call (va_runV (As := [.int (nI ((ff r0 (((t).toInt64) + 1) 0) - 1)), .int t]) (rest := []) ⟨hx, hb, hml, hown, hts⟩ (c_X1_onLine l x sq lt A0 A1 A2 hX r0 hk0 hR0 ((ff r0 (((t).toInt64) + 1) 0) - 1) (by omega) t) (cwV 2 hts gX1_at_X1_onLine rfl rfl rfl (by decide +kernel) ⟨Nat.le_of_ble_eq_true rfl, Nat.le_of_ble_eq_true rfl⟩) (ro_preV hK (va_recv hK hX (ci := 1) (q0 := 0) rfl rfl)) rfl rfl hl.1 rfl (lv_room (Nat.le_of_ble_eq_true rfl)) dX1_at_51 ⟨Nat.zero_le _, Nat.zero_le _⟩) ?_
          refine lv_goto (tgt := 64) hx hb dX1_at_54 (by decide) ?_
          exact ro_iret hx hb hr (by unfold atV; rw [if_neg c_14, if_pos ⟨c_20, by omega⟩]) dX1_at_64 hlocks
  · have c_14 := (nI_eq (a := ff r0 (((t).toInt64) + 1) 0) (b := 0) (by omega) (by omega)).mp c_14
    refine lv_iconst (v := 0) hx hb dX1_at_17 (by decide) ?_
    exact ro_iret hx hb hr (by unfold atV; rw [if_pos c_14]) dX1_at_18 hlocks
set_option maxHeartbeats 4000000 in
set_option maxRecDepth 100000 in
/-- steepest(from, to) -/
theorem c_X1_steepest (l : Launch) {D : va_G} {cI cA cJ : ClassId} {H : Heap} (x sq : Nat) (lt : Int32) (A0 A1 A2 : rgA) (hX : va_P D vwCl (xW x sq lt A0 A1 A2) H) (r0 : rgV) (hk0 : r_ok r0) (hR0 : va_P D vwCl (rgW cI cA A0 r0) H) (f t : Int32) : Met l yX1_steepest wsX1_steepest ({ frames := 4, cells := 0, slots := 0, locals := 89 }) (ro_P D vwCl (tyL cI cA cJ) H [.ref x, .int f, .int t]) (ro_Q (.int (spV r0 f t)) H) 0 0 ro_no := by
  refine Met.ofW (cc := cX1_steepest) (maxL := 11) (ret := (some .int)) (by decide) rfl ?_
  intro p e s m args below meth c s₁ B hml hv
  obtain ⟨rfl, hh, hK⟩ := hv
  subst hh
  have hx := B.exec
  have hb := B.bytes
  have hr := B.returns
  have hlocks := B.notSynchronized
  have hts := atoms_spec (ws := wsX1_steepest) B.pre
  have hown : s.vm.findClass RX1 = some m.cls := findClass_of_methodNamed B.named
  have hi1 : ∀ w ∈ wsX10, w ∈ wsX1_steepest := fun w h => List.mem_cons_of_mem _ (List.mem_append_left _ (List.mem_append_right _ h))
  have hi0 : ∀ w ∈ wsX00, w ∈ wsX1_steepest := fun w h => List.mem_cons_of_mem _ (List.mem_append_right _ h)
  have hl := lv_entry ([.ref x, .int f, .int t]) (n := 11) (Nat.le_of_ble_eq_true rfl)
  rw [lg_entry_eq]
  generalize (lg_sl ([.ref x, .int f, .int t]) ++ List.replicate (11 - (lg_sl ([.ref x, .int f, .int t])).length) Slot.unset).toArray = ls at hl ⊢
  have hl : lv_has ls 11 [(0, .ref x), (1, .int f), (2, .int t)] := hl
  obtain ⟨k10, k20, k30, k40, k50, k60⟩ := id hk0
  have b1 := sA_le r0 f
  have b2 := sB_le r0 f t
  have b3 := sB_ge r0 f t
  have loop : ∀ (n : Nat) (i : Nat) (y : Int64) (bs : Int32) (ls : Array Slot), ((sB r0 f t ≤ i ∧ n = 0) ∨ i + n = sB r0 f t) ∧ 1 ≤ i ∧ i ≤ v_h r0 + 1 → spr r0 n i bs y = spV r0 f t → lv_has ls 11 [(8, .int (nI i)), (6, .long y), (5, .int bs), (0, .ref x), (1, .int f), (2, .int t), (3, .int (nI (sA r0 f))), (4, .int (nI (sB r0 f t)))] → W p l e (headSpec wsX1_steepest ({ frames := 4, cells := 0, slots := 0, locals := 89 })).room s m ([.ref x, .int f, .int t] : List Value).toArray below meth c s.heap [] 0 0 (MQ below (ro_Q (.int (spV r0 f t)) s.heap) ([.ref x, .int f, .int t] : List Value).toArray s 0 0 ro_no) (F0 m 25 ls []) := by
    intro n
    induction n with
    | zero =>
      intro i y bs ls hi hf hl
      refine lv_iload hx hb dX1_steepest_25 (lv_at hl 0 rfl) ?_
      refine lv_iload hx hb dX1_steepest_27 (lv_at hl 7 rfl) ?_
      refine lv_icmp_ge (tgt := 68) hx hb dX1_steepest_29 (by decide) (fun c_29 => ?_) (fun c_29 => ?_)
      · have c_29 := (nI_leI (a := sB r0 f t) (b := i) (by omega) (by omega)).mp c_29
        refine lv_iload hx hb dX1_steepest_68 (lv_at hl 2 rfl) ?_
        exact ro_iret hx hb hr (by rw [← hf]; rfl) dX1_steepest_70 hlocks
      · have c_29 := mt (nI_leI (a := sB r0 f t) (b := i) (by omega) (by omega)).mpr c_29
        exact absurd c_29 (by omega)
    | succ n ih =>
      intro i y bs ls hi hf hl
      refine lv_iload hx hb dX1_steepest_25 (lv_at hl 0 rfl) ?_
      refine lv_iload hx hb dX1_steepest_27 (lv_at hl 7 rfl) ?_
      refine lv_icmp_ge (tgt := 68) hx hb dX1_steepest_29 (by decide) (fun c_29 => ?_) (fun c_29 => ?_)
      · have c_29 := (nI_leI (a := sB r0 f t) (b := i) (by omega) (by omega)).mp c_29
        exact absurd c_29 (by omega)
      · have c_29 := mt (nI_leI (a := sB r0 f t) (b := i) (by omega) (by omega)).mpr c_29
        refine lv_aload_n hx hb dX1_steepest_32 rfl (lv_at hl 3 rfl) ?_
        refine lv_iload hx hb dX1_steepest_33 (lv_at hl 0 rfl) ?_
        refine ro_call (va_runV (As := [.int (nI i)]) (rest := []) ⟨hx, hb, hml, hown, hts⟩ (c_X1_riseTo l x sq lt A0 A1 A2 hX r0 hk0 hR0 i (by omega) (by omega)) (cwV 1 hts gX1_steepest_X1_riseTo rfl rfl rfl (by decide +kernel) ⟨Nat.le_of_ble_eq_true rfl, Nat.le_of_ble_eq_true rfl⟩) (ro_preV hK (va_recv hK hX (ci := 1) (q0 := 0) rfl rfl)) rfl rfl hl.1 rfl (lv_room (Nat.le_of_ble_eq_true rfl)) dX1_steepest_35 ⟨Nat.zero_le _, Nat.zero_le _⟩) ?_
        refine lv_lstore (lv' := [(9, .long (rz r0 i)), (8, .int (nI i)), (6, .long y), (5, .int bs), (0, .ref x), (1, .int f), (2, .int t), (3, .int (nI (sA r0 f))), (4, .int (nI (sB r0 f t)))]) hx hb dX1_steepest_38 hl (by decide) rfl (fun ls hl => ?_)
        refine lv_iload hx hb dX1_steepest_40 (lv_at hl 3 rfl) ?_
        refine lv_iconst (v := (-1)) hx hb dX1_steepest_42 (by decide) ?_
        refine lv_icmp_eq (tgt := 54) hx hb dX1_steepest_43 (by decide) (fun c_43 => ?_) (fun c_43 => ?_)
        · refine lv_iload hx hb dX1_steepest_54 (lv_at hl 1 rfl) ?_
          refine lv_istore (lv' := [(5, .int (nI i)), (9, .long (rz r0 i)), (8, .int (nI i)), (6, .long y), (0, .ref x), (1, .int f), (2, .int t), (3, .int (nI (sA r0 f))), (4, .int (nI (sB r0 f t)))]) hx hb dX1_steepest_56 hl (by decide) rfl (fun ls hl => ?_)
          refine lv_lload hx hb dX1_steepest_58 (lv_at hl 1 rfl) ?_
          refine lv_lstore (lv' := [(6, .long (rz r0 i)), (5, .int (nI i)), (9, .long (rz r0 i)), (8, .int (nI i)), (0, .ref x), (1, .int f), (2, .int t), (3, .int (nI (sA r0 f))), (4, .int (nI (sB r0 f t)))]) hx hb dX1_steepest_60 hl (by decide) rfl (fun ls hl => ?_)
          refine lv_iinc (v := nI (i + 1)) (lv' := [(8, .int (nI (i + 1))), (6, .long (rz r0 i)), (5, .int (nI i)), (9, .long (rz r0 i)), (0, .ref x), (1, .int f), (2, .int t), (3, .int (nI (sA r0 f))), (4, .int (nI (sB r0 f t)))]) hx hb dX1_steepest_62 hl (k := 3) rfl (inc1 _) (by decide) rfl (fun ls hl => ?_)
          refine lv_goto (tgt := 25) hx hb dX1_steepest_65 (by decide) ?_
          exact ih (i + 1) _ _ ls (by omega) (by rw [← hf, spr, if_pos (Or.inl c_43)]) (lv_sub hl [0, 1, 2, 4, 5, 6, 7, 8] rfl)
        · refine lv_lload hx hb dX1_steepest_46 (lv_at hl 0 rfl) ?_
          refine lv_lload hx hb dX1_steepest_48 (lv_at hl 2 rfl) ?_
          refine W.lcmp hx hb dX1_steepest_50 ?_
          refine lv_if_le (tgt := 62) hx hb dX1_steepest_51 (by decide) (fun c_51 => ?_) (fun c_51 => ?_)
          · have c_51 := (lg_cmp_le _ _).mp c_51
            refine lv_iinc (v := nI (i + 1)) (lv' := [(8, .int (nI (i + 1))), (9, .long (rz r0 i)), (6, .long y), (5, .int bs), (0, .ref x), (1, .int f), (2, .int t), (3, .int (nI (sA r0 f))), (4, .int (nI (sB r0 f t)))]) hx hb dX1_steepest_62 hl (k := 1) rfl (inc1 _) (by decide) rfl (fun ls hl => ?_)
            refine lv_goto (tgt := 25) hx hb dX1_steepest_65 (by decide) ?_
            exact ih (i + 1) _ _ ls (by omega) (by rw [← hf, spr, if_neg (fun z => z.elim c_43 (fun z => Int64.not_lt.mpr c_51 z))]) (lv_sub hl [0, 2, 3, 4, 5, 6, 7, 8] rfl)
          · have c_51 := mt (lg_cmp_le _ _).mpr c_51
            refine lv_iload hx hb dX1_steepest_54 (lv_at hl 1 rfl) ?_
            refine lv_istore (lv' := [(5, .int (nI i)), (9, .long (rz r0 i)), (8, .int (nI i)), (6, .long y), (0, .ref x), (1, .int f), (2, .int t), (3, .int (nI (sA r0 f))), (4, .int (nI (sB r0 f t)))]) hx hb dX1_steepest_56 hl (by decide) rfl (fun ls hl => ?_)
            refine lv_lload hx hb dX1_steepest_58 (lv_at hl 1 rfl) ?_
            refine lv_lstore (lv' := [(6, .long (rz r0 i)), (5, .int (nI i)), (9, .long (rz r0 i)), (8, .int (nI i)), (0, .ref x), (1, .int f), (2, .int t), (3, .int (nI (sA r0 f))), (4, .int (nI (sB r0 f t)))]) hx hb dX1_steepest_60 hl (by decide) rfl (fun ls hl => ?_)
            refine lv_iinc (v := nI (i + 1)) (lv' := [(8, .int (nI (i + 1))), (6, .long (rz r0 i)), (5, .int (nI i)), (9, .long (rz r0 i)), (0, .ref x), (1, .int f), (2, .int t), (3, .int (nI (sA r0 f))), (4, .int (nI (sB r0 f t)))]) hx hb dX1_steepest_62 hl (k := 3) rfl (inc1 _) (by decide) rfl (fun ls hl => ?_)
            refine lv_goto (tgt := 25) hx hb dX1_steepest_65 (by decide) ?_
            exact ih (i + 1) _ _ ls (by omega) (by rw [← hf, spr, if_pos (Or.inr (Int64.not_le.mp c_51))]) (lv_sub hl [0, 1, 2, 4, 5, 6, 7, 8] rfl)
  refine lv_aload_n hx hb dX1_steepest_0 rfl (lv_at hl 0 rfl) ?_
  refine lv_iload_n hx hb dX1_steepest_1 rfl (lv_at hl 1 rfl) ?_
  refine ro_call (va_runV (As := [.int f]) (rest := []) ⟨hx, hb, hml, hown, hts⟩ (c_X1_firstIn l x sq lt A0 A1 A2 hX r0 hk0 hR0 f) (cwV 1 hts gX1_steepest_X1_firstIn rfl rfl rfl (by decide +kernel) ⟨Nat.le_of_ble_eq_true rfl, Nat.le_of_ble_eq_true rfl⟩) (ro_preV hK (va_recv hK hX (ci := 1) (q0 := 0) rfl rfl)) rfl rfl hl.1 rfl (lv_room (Nat.le_of_ble_eq_true rfl)) dX1_steepest_2 ⟨Nat.zero_le _, Nat.zero_le _⟩) ?_
  refine lv_istore_n (lv' := [(3, .int (nI (sA r0 f))), (0, .ref x), (1, .int f), (2, .int t)]) hx hb dX1_steepest_5 rfl hl (by decide) rfl (fun ls hl => ?_)
  refine lv_aload_n hx hb dX1_steepest_6 rfl (lv_at hl 1 rfl) ?_
  refine lv_iload_n hx hb dX1_steepest_7 rfl (lv_at hl 0 rfl) ?_
  refine lv_iload_n hx hb dX1_steepest_8 rfl (lv_at hl 3 rfl) ?_
  refine ro_call (va_runV (As := [.int (nI (sA r0 f)), .int t]) (rest := []) ⟨hx, hb, hml, hown, hts⟩ (c_X1_endOf l x sq lt A0 A1 A2 hX r0 hk0 hR0 (sA r0 f) (sA_le _ _) t) (cwV 2 hts gX1_steepest_X1_endOf rfl rfl rfl (by decide +kernel) ⟨Nat.le_of_ble_eq_true rfl, Nat.le_of_ble_eq_true rfl⟩) (ro_preV hK (va_recv hK hX (ci := 1) (q0 := 0) rfl rfl)) rfl rfl hl.1 rfl (lv_room (Nat.le_of_ble_eq_true rfl)) dX1_steepest_9 ⟨Nat.zero_le _, Nat.zero_le _⟩) ?_
  refine lv_istore (lv' := [(4, .int (nI (sB r0 f t))), (3, .int (nI (sA r0 f))), (0, .ref x), (1, .int f), (2, .int t)]) hx hb dX1_steepest_12 hl (by decide) rfl (fun ls hl => ?_)
  refine lv_iconst (v := (-1)) hx hb dX1_steepest_14 (by decide) ?_
  refine lv_istore (lv' := [(5, .int (-1)), (4, .int (nI (sB r0 f t))), (3, .int (nI (sA r0 f))), (0, .ref x), (1, .int f), (2, .int t)]) hx hb dX1_steepest_15 hl (by decide) rfl (fun ls hl => ?_)
  refine lv_lconst (v := 0) hx hb dX1_steepest_17 (by decide) ?_
  refine lv_lstore (lv' := [(6, .long 0), (5, .int (-1)), (4, .int (nI (sB r0 f t))), (3, .int (nI (sA r0 f))), (0, .ref x), (1, .int f), (2, .int t)]) hx hb dX1_steepest_18 hl (by decide) rfl (fun ls hl => ?_)
  refine lv_iload_n hx hb dX1_steepest_20 rfl (lv_at hl 3 rfl) ?_
  refine lv_iconst (v := 1) hx hb dX1_steepest_21 (by decide) ?_
  refine lv_iadd hx hb dX1_steepest_22 ?_
  refine top_i (nI_add _ 1) ?_
  refine lv_istore (lv' := [(8, .int (nI ((sA r0 f) + 1))), (6, .long 0), (5, .int (-1)), (4, .int (nI (sB r0 f t))), (3, .int (nI (sA r0 f))), (0, .ref x), (1, .int f), (2, .int t)]) hx hb dX1_steepest_23 hl (by decide) rfl (fun ls hl => ?_)
  exact loop (sB r0 f t - (sA r0 f + 1)) (sA r0 f + 1) 0 (-1) ls (by omega) rfl (lv_sub hl [0, 1, 2, 5, 6, 7, 4, 3] rfl)
set_option maxHeartbeats 4000000 in
set_option maxRecDepth 100000 in
/-- reach(from, to) -/
theorem c_X1_reach (l : Launch) {D : va_G} {cI cA cJ : ClassId} {H : Heap} (x sq : Nat) (lt : Int32) (A0 A1 A2 : rgA) (hX : va_P D vwCl (xW x sq lt A0 A1 A2) H) (r0 : rgV) (hk0 : r_ok r0) (hR0 : va_P D vwCl (rgW cI cA A0 r0) H) (r1 : rgV) (hk1 : r_ok r1) (hR1 : va_P D vwCl (rgW cI cA A1 r1) H) (r2 : rgV) (hk2 : r_ok r2) (hR2 : va_P D vwCl (rgW cI cA A2 r2) H) (f t : Int32) : Met l yX1_reach wsX1_reach ({ frames := 4, cells := 0, slots := 0, locals := 91 }) (ro_P D vwCl (tyL cI cA cJ) H [.ref x, .int f, .int t]) (ro_Q (.long (rcV r0 r1 r2 f t)) H) 0 0 ro_no := by
  refine Met.ofW (cc := cX1_reach) (maxL := 7) (ret := (some .long)) (by decide) rfl ?_
  intro p e s m args below meth c s₁ B hml hv
  obtain ⟨rfl, hh, hK⟩ := hv
  subst hh
  have hx := B.exec
  have hb := B.bytes
  have hr := B.returns
  have hlocks := B.notSynchronized
  have hts := atoms_spec (ws := wsX1_reach) B.pre
  have hown : s.vm.findClass RX1 = some m.cls := findClass_of_methodNamed B.named
  have hi1 : ∀ w ∈ wsX10, w ∈ wsX1_reach := fun w h => List.mem_cons_of_mem _ (List.mem_append_left _ (List.mem_append_right _ h))
  have hi0 : ∀ w ∈ wsX00, w ∈ wsX1_reach := fun w h => List.mem_cons_of_mem _ (List.mem_append_right _ h)
  have hl := lv_entry ([.ref x, .int f, .int t]) (n := 7) (Nat.le_of_ble_eq_true rfl)
  rw [lg_entry_eq]
  generalize (lg_sl ([.ref x, .int f, .int t]) ++ List.replicate (7 - (lg_sl ([.ref x, .int f, .int t])).length) Slot.unset).toArray = ls at hl ⊢
  have hl : lv_has ls 7 [(0, .ref x), (1, .int f), (2, .int t)] := hl
  refine lv_aload_n hx hb dX1_reach_0 rfl (lv_at hl 0 rfl) ?_
  refine va_get (D := D) (ci := 1) (v := .ref (a_o A0)) (C := RX1) (T := TX1) (N := 5) hx hb hts hi1 hown hK hX 0 rfl rfl 0 (by decide) (hts (.fieldLink RX1 23 "RingSeries" "points" "LRingSeries$Ring;") (by decide +kernel)) (fun _ h9 => h9) rfl dX1_reach_1 ?_
  refine lv_iload_n hx hb dX1_reach_4 rfl (lv_at hl 1 rfl) ?_
  refine lv_i2l hx hb dX1_reach_5 rfl ?_
  refine lv_iload_n hx hb dX1_reach_6 rfl (lv_at hl 2 rfl) ?_
  refine lv_i2l hx hb dX1_reach_7 rfl ?_
  refine ro_call (va_runV (As := [.long ((f).toInt64), .long ((t).toInt64)]) (rest := []) ⟨hx, hb, hml, hown, hts⟩ (c_X0_manyWhollyIn l A0 r0 hk0 hR0 ((f).toInt64) ((t).toInt64)) (cwV 2 hts gX1_reach_X0_manyWhollyIn rfl rfl rfl (by decide +kernel) ⟨Nat.le_of_ble_eq_true rfl, Nat.le_of_ble_eq_true rfl⟩) (ro_preV hK (va_recv hK hR0 (ci := 0) (q0 := 0) rfl rfl)) rfl rfl hl.1 rfl (lv_room (Nat.le_of_ble_eq_true rfl)) dX1_reach_8 ⟨Nat.zero_le _, Nat.zero_le _⟩) ?_
  refine lv_lstore_n (lv' := [(3, .long (mw r0 ((f).toInt64) ((t).toInt64))), (0, .ref x), (1, .int f), (2, .int t)]) hx hb dX1_reach_11 rfl hl (by decide) rfl (fun ls hl => ?_)
  refine lv_iload_n hx hb dX1_reach_12 rfl (lv_at hl 3 rfl) ?_
  refine lv_i2l hx hb dX1_reach_13 rfl ?_
  refine lv_aload_n hx hb dX1_reach_14 rfl (lv_at hl 1 rfl) ?_
  refine va_get (D := D) (ci := 1) (v := .ref (a_o A0)) (C := RX1) (T := TX1) (N := 5) hx hb hts hi1 hown hK hX 0 rfl rfl 0 (by decide) (hts (.fieldLink RX1 23 "RingSeries" "points" "LRingSeries$Ring;") (by decide +kernel)) (fun _ h9 => h9) rfl dX1_reach_15 ?_
  refine lv_iconst (v := 0) hx hb dX1_reach_18 (by decide) ?_
  refine ro_call (va_runV (As := [.int 0]) (rest := [.long ((t).toInt64)]) ⟨hx, hb, hml, hown, hts⟩ (c_X0_startOf_0 l A0 r0 hk0 hR0) (cwV 1 hts gX1_reach_X0_startOf rfl rfl rfl (by decide +kernel) ⟨Nat.le_of_ble_eq_true rfl, Nat.le_of_ble_eq_true rfl⟩) (ro_preV hK (va_recv hK hR0 (ci := 0) (q0 := 0) rfl rfl)) rfl rfl hl.1 rfl (lv_room (Nat.le_of_ble_eq_true rfl)) dX1_reach_19 ⟨Nat.zero_le _, Nat.zero_le _⟩) ?_
  refine lv_i2l hx hb dX1_reach_22 rfl ?_
  refine lv_lconst (v := 1) hx hb dX1_reach_23 (by decide) ?_
  refine lv_lsub hx hb dX1_reach_24 ?_
  refine va_mmin_long hx hb (hml.trans hl.1.symm) hown (hts (.methodLink RX1 86 Lib.MathLoose.min_long.x) (by decide +kernel)) (hts (.static Lib.MathLoose.min_long.x) (by decide +kernel)) (hts (.initialized "java/lang/Math") (by decide +kernel)) (hts (.code Lib.MathLoose.min_long.x Lib.MathLoose.min_long.code 4 (some .long)) (by decide +kernel)) (Nat.le_of_ble_eq_true rfl) (Nat.le_of_ble_eq_true rfl) (Nat.zero_le _) (Nat.zero_le _) dX1_reach_25 ?_
  refine lv_lstore (lv' := [(5, .long (if (((st0 r0).toInt64) - 1) < ((t).toInt64) then (((st0 r0).toInt64) - 1) else ((t).toInt64))), (3, .long (mw r0 ((f).toInt64) ((t).toInt64))), (0, .ref x), (1, .int f), (2, .int t)]) hx hb dX1_reach_28 hl (by decide) rfl (fun ls hl => ?_)
  refine lv_lload_n hx hb dX1_reach_30 rfl (lv_at hl 1 rfl) ?_
  refine lv_aload_n hx hb dX1_reach_31 rfl (lv_at hl 2 rfl) ?_
  refine va_get (D := D) (ci := 1) (v := .ref (a_o A1)) (C := RX1) (T := TX1) (N := 5) hx hb hts hi1 hown hK hX 0 rfl rfl 1 (by decide) (hts (.fieldLink RX1 27 "RingSeries" "fine" "LRingSeries$Ring;") (by decide +kernel)) (fun _ h9 => h9) rfl dX1_reach_32 ?_
  refine lv_iload_n hx hb dX1_reach_35 rfl (lv_at hl 3 rfl) ?_
  refine lv_i2l hx hb dX1_reach_36 rfl ?_
  refine lv_lload hx hb dX1_reach_37 (lv_at hl 0 rfl) ?_
  refine ro_call (va_runV (As := [.long ((f).toInt64), .long (if (((st0 r0).toInt64) - 1) < ((t).toInt64) then (((st0 r0).toInt64) - 1) else ((t).toInt64))]) (rest := [.long (mw r0 ((f).toInt64) ((t).toInt64))]) ⟨hx, hb, hml, hown, hts⟩ (c_X0_manyWhollyIn l A1 r1 hk1 hR1 ((f).toInt64) (if (((st0 r0).toInt64) - 1) < ((t).toInt64) then (((st0 r0).toInt64) - 1) else ((t).toInt64))) (cwV 2 hts gX1_reach_X0_manyWhollyIn rfl rfl rfl (by decide +kernel) ⟨Nat.le_of_ble_eq_true rfl, Nat.le_of_ble_eq_true rfl⟩) (ro_preV hK (va_recv hK hR1 (ci := 0) (q0 := 0) rfl rfl)) rfl rfl hl.1 rfl (lv_room (Nat.le_of_ble_eq_true rfl)) dX1_reach_39 ⟨Nat.zero_le _, Nat.zero_le _⟩) ?_
  refine lv_ladd hx hb dX1_reach_42 ?_
  refine lv_lstore_n (lv' := [(3, .long ((mw r0 ((f).toInt64) ((t).toInt64)) + (mw r1 ((f).toInt64) (if (((st0 r0).toInt64) - 1) < ((t).toInt64) then (((st0 r0).toInt64) - 1) else ((t).toInt64))))), (5, .long (if (((st0 r0).toInt64) - 1) < ((t).toInt64) then (((st0 r0).toInt64) - 1) else ((t).toInt64))), (0, .ref x), (1, .int f), (2, .int t)]) hx hb dX1_reach_43 rfl hl (by decide) rfl (fun ls hl => ?_)
  refine lv_lload hx hb dX1_reach_44 (lv_at hl 1 rfl) ?_
  refine lv_aload_n hx hb dX1_reach_46 rfl (lv_at hl 2 rfl) ?_
  refine va_get (D := D) (ci := 1) (v := .ref (a_o A1)) (C := RX1) (T := TX1) (N := 5) hx hb hts hi1 hown hK hX 0 rfl rfl 1 (by decide) (hts (.fieldLink RX1 27 "RingSeries" "fine" "LRingSeries$Ring;") (by decide +kernel)) (fun _ h9 => h9) rfl dX1_reach_47 ?_
  refine lv_iconst (v := 0) hx hb dX1_reach_50 (by decide) ?_
  refine ro_call (va_runV (As := [.int 0]) (rest := [.long (if (((st0 r0).toInt64) - 1) < ((t).toInt64) then (((st0 r0).toInt64) - 1) else ((t).toInt64))]) ⟨hx, hb, hml, hown, hts⟩ (c_X0_startOf_0 l A1 r1 hk1 hR1) (cwV 1 hts gX1_reach_X0_startOf rfl rfl rfl (by decide +kernel) ⟨Nat.le_of_ble_eq_true rfl, Nat.le_of_ble_eq_true rfl⟩) (ro_preV hK (va_recv hK hR1 (ci := 0) (q0 := 0) rfl rfl)) rfl rfl hl.1 rfl (lv_room (Nat.le_of_ble_eq_true rfl)) dX1_reach_51 ⟨Nat.zero_le _, Nat.zero_le _⟩) ?_
  refine lv_i2l hx hb dX1_reach_54 rfl ?_
  refine lv_lconst (v := 1) hx hb dX1_reach_55 (by decide) ?_
  refine lv_lsub hx hb dX1_reach_56 ?_
  refine va_mmin_long hx hb (hml.trans hl.1.symm) hown (hts (.methodLink RX1 86 Lib.MathLoose.min_long.x) (by decide +kernel)) (hts (.static Lib.MathLoose.min_long.x) (by decide +kernel)) (hts (.initialized "java/lang/Math") (by decide +kernel)) (hts (.code Lib.MathLoose.min_long.x Lib.MathLoose.min_long.code 4 (some .long)) (by decide +kernel)) (Nat.le_of_ble_eq_true rfl) (Nat.le_of_ble_eq_true rfl) (Nat.zero_le _) (Nat.zero_le _) dX1_reach_57 ?_
  refine lv_lstore (lv' := [(5, .long (if (((st0 r1).toInt64) - 1) < (if (((st0 r0).toInt64) - 1) < ((t).toInt64) then (((st0 r0).toInt64) - 1) else ((t).toInt64)) then (((st0 r1).toInt64) - 1) else (if (((st0 r0).toInt64) - 1) < ((t).toInt64) then (((st0 r0).toInt64) - 1) else ((t).toInt64)))), (3, .long ((mw r0 ((f).toInt64) ((t).toInt64)) + (mw r1 ((f).toInt64) (if (((st0 r0).toInt64) - 1) < ((t).toInt64) then (((st0 r0).toInt64) - 1) else ((t).toInt64))))), (0, .ref x), (1, .int f), (2, .int t)]) hx hb dX1_reach_60 hl (by decide) rfl (fun ls hl => ?_)
  refine lv_lload_n hx hb dX1_reach_62 rfl (lv_at hl 1 rfl) ?_
  refine lv_aload_n hx hb dX1_reach_63 rfl (lv_at hl 2 rfl) ?_
  refine va_get (D := D) (ci := 1) (v := .ref (a_o A2)) (C := RX1) (T := TX1) (N := 5) hx hb hts hi1 hown hK hX 0 rfl rfl 2 (by decide) (hts (.fieldLink RX1 30 "RingSeries" "coarse" "LRingSeries$Ring;") (by decide +kernel)) (fun _ h9 => h9) rfl dX1_reach_64 ?_
  refine lv_iload_n hx hb dX1_reach_67 rfl (lv_at hl 3 rfl) ?_
  refine lv_i2l hx hb dX1_reach_68 rfl ?_
  refine lv_lload hx hb dX1_reach_69 (lv_at hl 0 rfl) ?_
  refine ro_call (va_runV (As := [.long ((f).toInt64), .long (if (((st0 r1).toInt64) - 1) < (if (((st0 r0).toInt64) - 1) < ((t).toInt64) then (((st0 r0).toInt64) - 1) else ((t).toInt64)) then (((st0 r1).toInt64) - 1) else (if (((st0 r0).toInt64) - 1) < ((t).toInt64) then (((st0 r0).toInt64) - 1) else ((t).toInt64)))]) (rest := [.long ((mw r0 ((f).toInt64) ((t).toInt64)) + (mw r1 ((f).toInt64) (if (((st0 r0).toInt64) - 1) < ((t).toInt64) then (((st0 r0).toInt64) - 1) else ((t).toInt64))))]) ⟨hx, hb, hml, hown, hts⟩ (c_X0_manyWhollyIn l A2 r2 hk2 hR2 ((f).toInt64) (if (((st0 r1).toInt64) - 1) < (if (((st0 r0).toInt64) - 1) < ((t).toInt64) then (((st0 r0).toInt64) - 1) else ((t).toInt64)) then (((st0 r1).toInt64) - 1) else (if (((st0 r0).toInt64) - 1) < ((t).toInt64) then (((st0 r0).toInt64) - 1) else ((t).toInt64)))) (cwV 2 hts gX1_reach_X0_manyWhollyIn rfl rfl rfl (by decide +kernel) ⟨Nat.le_of_ble_eq_true rfl, Nat.le_of_ble_eq_true rfl⟩) (ro_preV hK (va_recv hK hR2 (ci := 0) (q0 := 0) rfl rfl)) rfl rfl hl.1 rfl (lv_room (Nat.le_of_ble_eq_true rfl)) dX1_reach_71 ⟨Nat.zero_le _, Nat.zero_le _⟩) ?_
  refine lv_ladd hx hb dX1_reach_74 ?_
  exact ro_lret hx hb hr rfl dX1_reach_75 hlocks
set_option maxHeartbeats 4000000 in
set_option maxRecDepth 100000 in
/-- sound() -/
theorem c_X1_sound (l : Launch) {D : va_G} {cI cA cJ : ClassId} {H : Heap} (x sq : Nat) (lt : Int32) (A0 A1 A2 : rgA) (hX : va_P D vwCl (xW x sq lt A0 A1 A2) H) (r0 : rgV) (hk0 : r_ok r0) (hR0 : va_P D vwCl (rgW cI cA A0 r0) H) (r1 : rgV) (hk1 : r_ok r1) (hR1 : va_P D vwCl (rgW cI cA A1 r1) H) (r2 : rgV) (hk2 : r_ok r2) (hR2 : va_P D vwCl (rgW cI cA A2 r2) H) (ag2 : agr r2 r1) (ag1 : agr r1 r0) : Met l yX1_sound wsX1_sound ({ frames := 5, cells := 0, slots := 0, locals := 119 }) (ro_P D vwCl (tyL cI cA cJ) H [.ref x]) (ro_Q (.int 1) H) 0 0 ro_no := by
  refine Met.ofW (cc := cX1_sound) (maxL := 1) (ret := (some .boolean)) (by decide) rfl ?_
  intro p e s m args below meth c s₁ B hml hv
  obtain ⟨rfl, hh, hK⟩ := hv
  subst hh
  have hx := B.exec
  have hb := B.bytes
  have hr := B.returns
  have hlocks := B.notSynchronized
  have hts := atoms_spec (ws := wsX1_sound) B.pre
  have hown : s.vm.findClass RX1 = some m.cls := findClass_of_methodNamed B.named
  have hi1 : ∀ w ∈ wsX10, w ∈ wsX1_sound := fun w h => List.mem_cons_of_mem _ (List.mem_append_left _ (List.mem_append_right _ h))
  have hi0 : ∀ w ∈ wsX00, w ∈ wsX1_sound := fun w h => List.mem_cons_of_mem _ (List.mem_append_right _ h)
  have hl := lv_entry ([.ref x]) (n := 1) (Nat.le_of_ble_eq_true rfl)
  rw [lg_entry_eq]
  generalize (lg_sl ([.ref x]) ++ List.replicate (1 - (lg_sl ([.ref x])).length) Slot.unset).toArray = ls at hl ⊢
  have hl : lv_has ls 1 [(0, .ref x)] := hl
  obtain ⟨J2, g2a, g2b⟩ := ag2
  obtain ⟨J1, g1a, g1b⟩ := ag1
  refine lv_aload_n hx hb dX1_sound_0 rfl (lv_at hl 0 rfl) ?_
  refine va_get (D := D) (ci := 1) (v := .ref (a_o A2)) (C := RX1) (T := TX1) (N := 5) hx hb hts hi1 hown hK hX 0 rfl rfl 2 (by decide) (hts (.fieldLink RX1 30 "RingSeries" "coarse" "LRingSeries$Ring;") (by decide +kernel)) (fun _ h9 => h9) rfl dX1_sound_1 ?_
  refine lv_aload_n hx hb dX1_sound_4 rfl (lv_at hl 0 rfl) ?_
  refine va_get (D := D) (ci := 1) (v := .ref (a_o A1)) (C := RX1) (T := TX1) (N := 5) hx hb hts hi1 hown hK hX 0 rfl rfl 1 (by decide) (hts (.fieldLink RX1 27 "RingSeries" "fine" "LRingSeries$Ring;") (by decide +kernel)) (fun _ h9 => h9) rfl dX1_sound_5 ?_
  refine ro_call (va_runV (As := [.ref (a_o A1)]) (rest := []) ⟨hx, hb, hml, hown, hts⟩ (c_X0_agreesWith l A2 r2 hk2 hR2 A1 r1 hk1 hR1 J2 g2a g2b) (cwV 1 hts gX1_sound_X0_agreesWith rfl rfl rfl (by decide +kernel) ⟨Nat.le_of_ble_eq_true rfl, Nat.le_of_ble_eq_true rfl⟩) (ro_preV hK (va_recv hK hR2 (ci := 0) (q0 := 0) rfl rfl)) rfl rfl hl.1 rfl (lv_room (Nat.le_of_ble_eq_true rfl)) dX1_sound_8 ⟨Nat.zero_le _, Nat.zero_le _⟩) ?_
  refine lv_if_eq (tgt := 32) hx hb dX1_sound_11 (by decide) (fun c_11 => ?_) (fun c_11 => ?_)
  · exact absurd c_11 (by decide)
  · refine lv_aload_n hx hb dX1_sound_14 rfl (lv_at hl 0 rfl) ?_
    refine va_get (D := D) (ci := 1) (v := .ref (a_o A1)) (C := RX1) (T := TX1) (N := 5) hx hb hts hi1 hown hK hX 0 rfl rfl 1 (by decide) (hts (.fieldLink RX1 27 "RingSeries" "fine" "LRingSeries$Ring;") (by decide +kernel)) (fun _ h9 => h9) rfl dX1_sound_15 ?_
    refine lv_aload_n hx hb dX1_sound_18 rfl (lv_at hl 0 rfl) ?_
    refine va_get (D := D) (ci := 1) (v := .ref (a_o A0)) (C := RX1) (T := TX1) (N := 5) hx hb hts hi1 hown hK hX 0 rfl rfl 0 (by decide) (hts (.fieldLink RX1 23 "RingSeries" "points" "LRingSeries$Ring;") (by decide +kernel)) (fun _ h9 => h9) rfl dX1_sound_19 ?_
    refine ro_call (va_runV (As := [.ref (a_o A0)]) (rest := []) ⟨hx, hb, hml, hown, hts⟩ (c_X0_agreesWith l A1 r1 hk1 hR1 A0 r0 hk0 hR0 J1 g1a g1b) (cwV 1 hts gX1_sound_X0_agreesWith rfl rfl rfl (by decide +kernel) ⟨Nat.le_of_ble_eq_true rfl, Nat.le_of_ble_eq_true rfl⟩) (ro_preV hK (va_recv hK hR1 (ci := 0) (q0 := 0) rfl rfl)) rfl rfl hl.1 rfl (lv_room (Nat.le_of_ble_eq_true rfl)) dX1_sound_22 ⟨Nat.zero_le _, Nat.zero_le _⟩) ?_
    refine lv_if_eq (tgt := 32) hx hb dX1_sound_25 (by decide) (fun c_25 => ?_) (fun c_25 => ?_)
    · exact absurd c_25 (by decide)
    · refine lv_iconst (v := 1) hx hb dX1_sound_28 (by decide) ?_
      refine lv_goto (tgt := 33) hx hb dX1_sound_29 (by decide) ?_
      exact ro_zret hx hb hr (by first | rfl | decide) rfl dX1_sound_33 hlocks
set_option maxHeartbeats 4000000 in
set_option maxRecDepth 100000 in
/-- within(number, least, most) -/
theorem c_X1_within (l : Launch) {D : va_G} {cI cA cJ : ClassId} {H : Heap} (n lo hi : Int32) : Met l yX1_within wsX1_within ({ frames := 1, cells := 0, slots := 0, locals := 22 }) (ro_P D vwCl (tyL cI cA cJ) H [.int n, .int lo, .int hi]) (ro_Q (.int (wiV n lo hi)) H) 0 0 ro_no := by
  refine Met.ofW (cc := cX1_within) (maxL := 3) (ret := (some .int)) (by decide) rfl ?_
  intro p e s m args below meth c s₁ B hml hv
  obtain ⟨rfl, hh, hK⟩ := hv
  subst hh
  have hx := B.exec
  have hb := B.bytes
  have hr := B.returns
  have hlocks := B.notSynchronized
  have hts := atoms_spec (ws := wsX1_within) B.pre
  have hown : s.vm.findClass RX1 = some m.cls := findClass_of_methodNamed B.named
  have hl := lv_entry ([.int n, .int lo, .int hi]) (n := 3) (Nat.le_of_ble_eq_true rfl)
  rw [lg_entry_eq]
  generalize (lg_sl ([.int n, .int lo, .int hi]) ++ List.replicate (3 - (lg_sl ([.int n, .int lo, .int hi])).length) Slot.unset).toArray = ls at hl ⊢
  have hl : lv_has ls 3 [(0, .int n), (1, .int lo), (2, .int hi)] := hl
  refine lv_iload_n hx hb dX1_within_0 rfl (lv_at hl 1 rfl) ?_
  refine lv_iload_n hx hb dX1_within_1 rfl (lv_at hl 2 rfl) ?_
  refine lv_iload_n hx hb dX1_within_2 rfl (lv_at hl 0 rfl) ?_
  refine va_mmin hx hb (hml.trans hl.1.symm) hown (hts (.methodLink RX1 95 Lib.Math.min.name) (by decide +kernel)) (hts (.static Lib.Math.min.name) (by decide +kernel)) (hts (.initialized "java/lang/Math") (by decide +kernel)) (hts (.code Lib.Math.min.name Lib.Math.min.code 2 (some .int)) (by decide +kernel)) (Nat.le_of_ble_eq_true rfl) (Nat.le_of_ble_eq_true rfl) (Nat.zero_le _) (Nat.zero_le _) dX1_within_3 ?_
  refine va_mmax hx hb (hml.trans hl.1.symm) hown (hts (.methodLink RX1 97 Lib.Math.max.name) (by decide +kernel)) (hts (.static Lib.Math.max.name) (by decide +kernel)) (hts (.initialized "java/lang/Math") (by decide +kernel)) (hts (.code Lib.Math.max.name Lib.Math.max.code 2 (some .int)) (by decide +kernel)) (Nat.le_of_ble_eq_true rfl) (Nat.le_of_ble_eq_true rfl) (Nat.zero_le _) (Nat.zero_le _) dX1_within_6 ?_
  exact ro_iret hx hb hr rfl dX1_within_9 hlocks
