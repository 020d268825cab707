def exM (q : mv) (f t g : Int32) : Int32 := if g = 1 ∨ g = -1 then exq q f t g (m_P q) else 0
theorem so_eq {n : Nat} (h : (if n = 0 then (0 : Int32) else 1) = 0) : n = 0 := Decidable.byContradiction fun q => by rw [if_neg q] at h; exact absurd h (by decide)
theorem so_ne {n : Nat} (h : ¬ (if n = 0 then (0 : Int32) else 1) = 0) : ¬ n = 0 := fun q => h (if_pos q)
set_option maxHeartbeats 4000000 in
set_option maxRecDepth 100000 in
/-- isIn(p, from, to) -/
theorem c_X2_isIn (l : Launch) {D : va_G} {cI cA cJ : ClassId} {H : Heap} (Y : mA) (q : mv) (hm : m_ok q) (hM : va_P D vwCl (mW cI cJ Y q) H) (y : Nat) (hy : y < m_P q) (f t : Int32) : Met l yX2_isIn wsX2_isIn ({ frames := 3, cells := 0, slots := 0, locals := 68 }) (ro_P D vwCl (tyL cI cA cJ) H [.ref (b_o Y), .int (nI y), .int f, .int t]) (ro_Q (.int (if inS q f t y then 1 else 0)) H) 0 0 ro_no := by
  refine Met.ofW (cc := cX2_isIn) (maxL := 4) (ret := (some .boolean)) (by decide) rfl ?_
  intro p e s m args below meth c s₁ B hml hv
  obtain ⟨rfl, hh, hK⟩ := hv
  subst hh
  have hx := B.exec
  have hb := B.bytes
  have hr := B.returns
  have hlocks := B.notSynchronized
  have hts := atoms_spec (ws := wsX2_isIn) B.pre
  have hown : s.vm.findClass RX2 = some m.cls := findClass_of_methodNamed B.named
  have hi2 : ∀ w ∈ wsX20, w ∈ wsX2_isIn := fun w h => List.mem_cons_of_mem _ (List.mem_append_right _ h)
  have hl := lv_entry ([.ref (b_o Y), .int (nI y), .int f, .int t]) (n := 4) (Nat.le_of_ble_eq_true rfl)
  rw [lg_entry_eq]
  generalize (lg_sl ([.ref (b_o Y), .int (nI y), .int f, .int t]) ++ List.replicate (4 - (lg_sl ([.ref (b_o Y), .int (nI y), .int f, .int t])).length) Slot.unset).toArray = ls at hl ⊢
  have hl : lv_has ls 4 [(0, .ref (b_o Y)), (1, .int (nI y)), (2, .int f), (3, .int t)] := hl
  obtain ⟨hp, hT, hRW, hkn⟩ := id hm
  have w0 : kp q 0 ≤ ng q 0 (m_P q) := hkn 0 (by omega)
  have w6 := ng_le q 0 (m_P q)
  refine lv_iload_n hx hb dX2_isIn_0 rfl (lv_at hl 1 rfl) ?_
  refine lv_aload_n hx hb dX2_isIn_1 rfl (lv_at hl 0 rfl) ?_
  refine va_get (D := D) (ci := 2) (v := .int (nI (m_P q))) (C := RX2) (T := TX2) (N := 6) hx hb hts hi2 hown hK hM 0 rfl rfl 3 (by decide) (hts (.fieldLink RX2 32 "RingSeriesModel" "points" "I") (by decide +kernel)) (fun _ h9 => h9) rfl dX2_isIn_2 ?_
  refine lv_aload_n hx hb dX2_isIn_5 rfl (lv_at hl 0 rfl) ?_
  refine lv_iconst (v := 0) hx hb dX2_isIn_6 (by decide) ?_
  refine ro_call (va_runV (As := [.int 0]) (rest := [.int (nI (m_P q)), .int (nI y)]) ⟨hx, hb, hml, hown, hts⟩ (c_X2_kept l Y q hm hM 0 (by omega)) (cwV 1 hts gX2_isIn_X2_kept rfl rfl rfl (by decide +kernel) ⟨Nat.le_of_ble_eq_true rfl, Nat.le_of_ble_eq_true rfl⟩) (ro_preV hK (va_recv hK hM (ci := 2) (q0 := 0) rfl rfl)) rfl rfl hl.1 rfl (lv_room (Nat.le_of_ble_eq_true rfl)) dX2_isIn_7 ⟨Nat.zero_le _, Nat.zero_le _⟩) ?_
  refine lv_isub hx hb dX2_isIn_10 ?_
  refine top_i (pk_sub (a := m_P q) (b := kp q 0) (by omega)) ?_
  refine lv_icmp_lt (tgt := 46) hx hb dX2_isIn_11 (by decide) (fun c_11 => ?_) (fun c_11 => ?_)
  · have c_11 := (nI_ltI (a := y) (b := (m_P q) - (kp q 0)) (by omega) (by omega)).mp c_11
    refine lv_iconst (v := 0) hx hb dX2_isIn_46 (by decide) ?_
    exact ro_zret hx hb hr (by first | rfl | decide) (by rw [if_neg (fun z => absurd z.1 (by omega))]) dX2_isIn_47 hlocks
  · have c_11 := mt (nI_ltI (a := y) (b := (m_P q) - (kp q 0)) (by omega) (by omega)).mpr c_11
    refine lv_iload_n hx hb dX2_isIn_14 rfl (lv_at hl 1 rfl) ?_
    refine lv_aload_n hx hb dX2_isIn_15 rfl (lv_at hl 0 rfl) ?_
    refine va_get (D := D) (ci := 2) (v := .int (nI (m_P q))) (C := RX2) (T := TX2) (N := 6) hx hb hts hi2 hown hK hM 0 rfl rfl 3 (by decide) (hts (.fieldLink RX2 32 "RingSeriesModel" "points" "I") (by decide +kernel)) (fun _ h9 => h9) rfl dX2_isIn_16 ?_
    refine lv_icmp_ge (tgt := 46) hx hb dX2_isIn_19 (by decide) (fun c_19 => ?_) (fun c_19 => ?_)
    · have c_19 := (nI_leI (a := m_P q) (b := y) (by omega) (by omega)).mp c_19
      exact absurd c_19 (by omega)
    · have c_19 := mt (nI_leI (a := m_P q) (b := y) (by omega) (by omega)).mpr c_19
      refine lv_aload_n hx hb dX2_isIn_22 rfl (lv_at hl 0 rfl) ?_
      refine va_get (D := D) (ci := 2) (v := .ref (b_t Y)) (C := RX2) (T := TX2) (N := 6) hx hb hts hi2 hown hK hM 0 rfl rfl 4 (by decide) (hts (.fieldLink RX2 17 "RingSeriesModel" "times" "[I") (by decide +kernel)) (fun _ h9 => h9) rfl dX2_isIn_23 ?_
      refine lv_iload_n hx hb dX2_isIn_26 rfl (lv_at hl 1 rfl) ?_
      refine ald_i (j := y) hx hb hK hM 3 0 rfl rfl (by omega) (by omega) dX2_isIn_27 ?_
      refine lv_iload_n hx hb dX2_isIn_28 rfl (lv_at hl 2 rfl) ?_
      refine lv_icmp_lt (tgt := 46) hx hb dX2_isIn_29 (by decide) (fun c_29 => ?_) (fun c_29 => ?_)
      · refine lv_iconst (v := 0) hx hb dX2_isIn_46 (by decide) ?_
        exact ro_zret hx hb hr (by first | rfl | decide) (by rw [if_neg (fun z => z.2.2.1 c_29)]) dX2_isIn_47 hlocks
      · refine lv_aload_n hx hb dX2_isIn_32 rfl (lv_at hl 0 rfl) ?_
        refine va_get (D := D) (ci := 2) (v := .ref (b_t Y)) (C := RX2) (T := TX2) (N := 6) hx hb hts hi2 hown hK hM 0 rfl rfl 4 (by decide) (hts (.fieldLink RX2 17 "RingSeriesModel" "times" "[I") (by decide +kernel)) (fun _ h9 => h9) rfl dX2_isIn_33 ?_
        refine lv_iload_n hx hb dX2_isIn_36 rfl (lv_at hl 1 rfl) ?_
        refine ald_i (j := y) hx hb hK hM 3 0 rfl rfl (by omega) (by omega) dX2_isIn_37 ?_
        refine lv_iload_n hx hb dX2_isIn_38 rfl (lv_at hl 3 rfl) ?_
        refine lv_icmp_gt (tgt := 46) hx hb dX2_isIn_39 (by decide) (fun c_39 => ?_) (fun c_39 => ?_)
        · refine lv_iconst (v := 0) hx hb dX2_isIn_46 (by decide) ?_
          exact ro_zret hx hb hr (by first | rfl | decide) (by rw [if_neg (fun z => z.2.2.2 c_39)]) dX2_isIn_47 hlocks
        · refine lv_iconst (v := 1) hx hb dX2_isIn_42 (by decide) ?_
          refine lv_goto (tgt := 47) hx hb dX2_isIn_43 (by decide) ?_
          exact ro_zret hx hb hr (by first | rfl | decide) (by rw [if_pos ⟨by omega, by omega, c_29, c_39⟩]) dX2_isIn_47 hlocks
set_option maxHeartbeats 4000000 in
set_option maxRecDepth 100000 in
/-- many(from, to) -/
theorem c_X2_many (l : Launch) {D : va_G} {cI cA cJ : ClassId} {H : Heap} (Y : mA) (q : mv) (hm : m_ok q) (hM : va_P D vwCl (mW cI cJ Y q) H) (f t : Int32) : Met l yX2_many wsX2_many ({ frames := 4, cells := 0, slots := 0, locals := 91 }) (ro_P D vwCl (tyL cI cA cJ) H [.ref (b_o Y), .int f, .int t]) (ro_Q (.int (nI (mnc q f t (m_P q)))) H) 0 0 ro_no := by
  refine Met.ofW (cc := cX2_many) (maxL := 5) (ret := (some .int)) (by decide) rfl ?_
  intro p e s m args below meth c s₁ B hml hv
  obtain ⟨rfl, hh, hK⟩ := hv
  subst hh
  have hx := B.exec
  have hb := B.bytes
  have hr := B.returns
  have hlocks := B.notSynchronized
  have hts := atoms_spec (ws := wsX2_many) B.pre
  have hown : s.vm.findClass RX2 = some m.cls := findClass_of_methodNamed B.named
  have hi2 : ∀ w ∈ wsX20, w ∈ wsX2_many := fun w h => List.mem_cons_of_mem _ (List.mem_append_right _ h)
  have hl := lv_entry ([.ref (b_o Y), .int f, .int t]) (n := 5) (Nat.le_of_ble_eq_true rfl)
  rw [lg_entry_eq]
  generalize (lg_sl ([.ref (b_o Y), .int f, .int t]) ++ List.replicate (5 - (lg_sl ([.ref (b_o Y), .int f, .int t])).length) Slot.unset).toArray = ls at hl ⊢
  have hl : lv_has ls 5 [(0, .ref (b_o Y)), (1, .int f), (2, .int t)] := hl
  obtain ⟨hp, hT, hRW, hkn⟩ := id hm
  have w0 : kp q 0 ≤ ng q 0 (m_P q) := hkn 0 (by omega)
  have w6 := ng_le q 0 (m_P q)
  have loop : ∀ (n : Nat) (p0 : Nat) (ls : Array Slot), p0 + n = m_P q → lv_has ls 5 [(4, .int (nI p0)), (3, .int (nI (mnc q f t p0))), (0, .ref (b_o Y)), (1, .int f), (2, .int t)] → W p l e (headSpec wsX2_many ({ frames := 4, cells := 0, slots := 0, locals := 91 })).room s m ([.ref (b_o Y), .int f, .int t] : List Value).toArray below meth c s.heap [] 0 0 (MQ below (ro_Q (.int (nI (mnc q f t (m_P q)))) s.heap) ([.ref (b_o Y), .int f, .int t] : List Value).toArray s 0 0 ro_no) (F0 m 5 ls []) := by
    intro n
    induction n with
    | zero =>
      intro p0 ls hi hl
      have g0 := mnc_le q f t p0
      refine lv_iload hx hb dX2_many_5 (lv_at hl 0 rfl) ?_
      refine lv_aload_n hx hb dX2_many_7 rfl (lv_at hl 2 rfl) ?_
      refine va_get (D := D) (ci := 2) (v := .int (nI (m_P q))) (C := RX2) (T := TX2) (N := 6) hx hb hts hi2 hown hK hM 0 rfl rfl 3 (by decide) (hts (.fieldLink RX2 32 "RingSeriesModel" "points" "I") (by decide +kernel)) (fun _ h9 => h9) rfl dX2_many_8 ?_
      refine lv_icmp_ge (tgt := 39) hx hb dX2_many_11 (by decide) (fun c_11 => ?_) (fun c_11 => ?_)
      · have c_11 := (nI_leI (a := m_P q) (b := p0) (by omega) (by omega)).mp c_11
        refine lv_iload_n hx hb dX2_many_39 rfl (lv_at hl 1 rfl) ?_
        exact ro_iret hx hb hr (by rw [show p0 = m_P q by omega]) dX2_many_40 hlocks
      · have c_11 := mt (nI_leI (a := m_P q) (b := p0) (by omega) (by omega)).mpr c_11
        exact absurd c_11 (by omega)
    | succ n ih =>
      intro p0 ls hi hl
      have g0 := mnc_le q f t p0
      refine lv_iload hx hb dX2_many_5 (lv_at hl 0 rfl) ?_
      refine lv_aload_n hx hb dX2_many_7 rfl (lv_at hl 2 rfl) ?_
      refine va_get (D := D) (ci := 2) (v := .int (nI (m_P q))) (C := RX2) (T := TX2) (N := 6) hx hb hts hi2 hown hK hM 0 rfl rfl 3 (by decide) (hts (.fieldLink RX2 32 "RingSeriesModel" "points" "I") (by decide +kernel)) (fun _ h9 => h9) rfl dX2_many_8 ?_
      refine lv_icmp_ge (tgt := 39) hx hb dX2_many_11 (by decide) (fun c_11 => ?_) (fun c_11 => ?_)
      · have c_11 := (nI_leI (a := m_P q) (b := p0) (by omega) (by omega)).mp c_11
        exact absurd c_11 (by omega)
      · have c_11 := mt (nI_leI (a := m_P q) (b := p0) (by omega) (by omega)).mpr c_11
        refine lv_aload_n hx hb dX2_many_14 rfl (lv_at hl 2 rfl) ?_
        refine lv_iload hx hb dX2_many_15 (lv_at hl 0 rfl) ?_
        refine lv_iload_n hx hb dX2_many_17 rfl (lv_at hl 3 rfl) ?_
        refine lv_iload_n hx hb dX2_many_18 rfl (lv_at hl 4 rfl) ?_
        refine ro_call (va_runV (As := [.int (nI p0), .int f, .int t]) (rest := []) ⟨hx, hb, hml, hown, hts⟩ (c_X2_isIn l Y q hm hM p0 (by omega) f t) (cwV 3 hts gX2_many_X2_isIn rfl rfl rfl (by decide +kernel) ⟨Nat.le_of_ble_eq_true rfl, Nat.le_of_ble_eq_true rfl⟩) (ro_preV hK (va_recv hK hM (ci := 2) (q0 := 0) rfl rfl)) rfl rfl hl.1 rfl (lv_room (Nat.le_of_ble_eq_true rfl)) dX2_many_19 ⟨Nat.zero_le _, Nat.zero_le _⟩) ?_
        refine lv_if_eq (tgt := 31) hx hb dX2_many_22 (by decide) (fun c_22 => ?_) (fun c_22 => ?_)
        · have c_22 := bi_eq c_22
          refine lv_iload_n hx hb dX2_many_31 rfl (lv_at hl 1 rfl) ?_
          refine lv_istore_n (lv' := [(3, .int (nI (mnc q f t p0))), (4, .int (nI p0)), (0, .ref (b_o Y)), (1, .int f), (2, .int t)]) hx hb dX2_many_32 rfl hl (by decide) rfl (fun ls hl => ?_)
          refine lv_iinc (v := nI (p0 + 1)) (lv' := [(4, .int (nI (p0 + 1))), (3, .int (nI (mnc q f t p0))), (0, .ref (b_o Y)), (1, .int f), (2, .int t)]) hx hb dX2_many_33 hl (k := 1) rfl (inc1 _) (by decide) rfl (fun ls hl => ?_)
          refine lv_goto (tgt := 5) hx hb dX2_many_36 (by decide) ?_
          have e9 : mnc q f t (p0 + 1) = mnc q f t p0 := by rw [mnc, if_neg c_22]
          exact ih (p0 + 1) ls (by omega) (by rw [e9]; exact (lv_sub hl [0, 1, 2, 3, 4] rfl))
        · have c_22 := bi_ne c_22
          refine lv_iload_n hx hb dX2_many_25 rfl (lv_at hl 1 rfl) ?_
          refine lv_iconst (v := 1) hx hb dX2_many_26 (by decide) ?_
          refine lv_iadd hx hb dX2_many_27 ?_
          refine top_i (nI_add _ 1) ?_
          refine lv_goto (tgt := 32) hx hb dX2_many_28 (by decide) ?_
          refine lv_istore_n (lv' := [(3, .int (nI ((mnc q f t p0) + 1))), (4, .int (nI p0)), (0, .ref (b_o Y)), (1, .int f), (2, .int t)]) hx hb dX2_many_32 rfl hl (by decide) rfl (fun ls hl => ?_)
          refine lv_iinc (v := nI (p0 + 1)) (lv' := [(4, .int (nI (p0 + 1))), (3, .int (nI ((mnc q f t p0) + 1))), (0, .ref (b_o Y)), (1, .int f), (2, .int t)]) hx hb dX2_many_33 hl (k := 1) rfl (inc1 _) (by decide) rfl (fun ls hl => ?_)
          refine lv_goto (tgt := 5) hx hb dX2_many_36 (by decide) ?_
          have e9 : mnc q f t (p0 + 1) = (mnc q f t p0) + 1 := by rw [mnc, if_pos c_22]
          exact ih (p0 + 1) ls (by omega) (by rw [e9]; exact (lv_sub hl [0, 1, 2, 3, 4] rfl))
  refine lv_iconst (v := 0) hx hb dX2_many_0 (by decide) ?_
  refine lv_istore_n (lv' := [(3, .int 0), (0, .ref (b_o Y)), (1, .int f), (2, .int t)]) hx hb dX2_many_1 rfl hl (by decide) rfl (fun ls hl => ?_)
  refine lv_iconst (v := 0) hx hb dX2_many_2 (by decide) ?_
  refine lv_istore (lv' := [(4, .int 0), (3, .int 0), (0, .ref (b_o Y)), (1, .int f), (2, .int t)]) hx hb dX2_many_3 hl (by decide) rfl (fun ls hl => ?_)
  exact loop (m_P q) 0 ls (by omega) (lv_sub hl [0, 1, 2, 3, 4] rfl)
set_option maxHeartbeats 4000000 in
set_option maxRecDepth 100000 in
/-- sum(from, to) -/
theorem c_X2_sum (l : Launch) {D : va_G} {cI cA cJ : ClassId} {H : Heap} (Y : mA) (q : mv) (hm : m_ok q) (hM : va_P D vwCl (mW cI cJ Y q) H) (f t : Int32) : Met l yX2_sum wsX2_sum ({ frames := 4, cells := 0, slots := 0, locals := 91 }) (ro_P D vwCl (tyL cI cA cJ) H [.ref (b_o Y), .int f, .int t]) (ro_Q (.long (smq q f t (m_P q))) H) 0 0 ro_no := by
  refine Met.ofW (cc := cX2_sum) (maxL := 6) (ret := (some .long)) (by decide) rfl ?_
  intro p e s m args below meth c s₁ B hml hv
  obtain ⟨rfl, hh, hK⟩ := hv
  subst hh
  have hx := B.exec
  have hb := B.bytes
  have hr := B.returns
  have hlocks := B.notSynchronized
  have hts := atoms_spec (ws := wsX2_sum) B.pre
  have hown : s.vm.findClass RX2 = some m.cls := findClass_of_methodNamed B.named
  have hi2 : ∀ w ∈ wsX20, w ∈ wsX2_sum := fun w h => List.mem_cons_of_mem _ (List.mem_append_right _ h)
  have hl := lv_entry ([.ref (b_o Y), .int f, .int t]) (n := 6) (Nat.le_of_ble_eq_true rfl)
  rw [lg_entry_eq]
  generalize (lg_sl ([.ref (b_o Y), .int f, .int t]) ++ List.replicate (6 - (lg_sl ([.ref (b_o Y), .int f, .int t])).length) Slot.unset).toArray = ls at hl ⊢
  have hl : lv_has ls 6 [(0, .ref (b_o Y)), (1, .int f), (2, .int t)] := hl
  obtain ⟨hp, hT, hRW, hkn⟩ := id hm
  have w0 : kp q 0 ≤ ng q 0 (m_P q) := hkn 0 (by omega)
  have w6 := ng_le q 0 (m_P q)
  have loop : ∀ (n : Nat) (p0 : Nat) (ls : Array Slot), p0 + n = m_P q → lv_has ls 6 [(5, .int (nI p0)), (3, .long (smq q f t p0)), (0, .ref (b_o Y)), (1, .int f), (2, .int t)] → W p l e (headSpec wsX2_sum ({ frames := 4, cells := 0, slots := 0, locals := 91 })).room s m ([.ref (b_o Y), .int f, .int t] : List Value).toArray below meth c s.heap [] 0 0 (MQ below (ro_Q (.long (smq q f t (m_P q))) s.heap) ([.ref (b_o Y), .int f, .int t] : List Value).toArray s 0 0 ro_no) (F0 m 5 ls []) := by
    intro n
    induction n with
    | zero =>
      intro p0 ls hi hl
      have g0 := mnc_le q f t p0
      refine lv_iload hx hb dX2_sum_5 (lv_at hl 0 rfl) ?_
      refine lv_aload_n hx hb dX2_sum_7 rfl (lv_at hl 2 rfl) ?_
      refine va_get (D := D) (ci := 2) (v := .int (nI (m_P q))) (C := RX2) (T := TX2) (N := 6) hx hb hts hi2 hown hK hM 0 rfl rfl 3 (by decide) (hts (.fieldLink RX2 32 "RingSeriesModel" "points" "I") (by decide +kernel)) (fun _ h9 => h9) rfl dX2_sum_8 ?_
      refine lv_icmp_ge (tgt := 46) hx hb dX2_sum_11 (by decide) (fun c_11 => ?_) (fun c_11 => ?_)
      · have c_11 := (nI_leI (a := m_P q) (b := p0) (by omega) (by omega)).mp c_11
        refine lv_lload_n hx hb dX2_sum_46 rfl (lv_at hl 1 rfl) ?_
        exact ro_lret hx hb hr (by rw [show p0 = m_P q by omega]) dX2_sum_47 hlocks
      · have c_11 := mt (nI_leI (a := m_P q) (b := p0) (by omega) (by omega)).mpr c_11
        exact absurd c_11 (by omega)
    | succ n ih =>
      intro p0 ls hi hl
      have g0 := mnc_le q f t p0
      refine lv_iload hx hb dX2_sum_5 (lv_at hl 0 rfl) ?_
      refine lv_aload_n hx hb dX2_sum_7 rfl (lv_at hl 2 rfl) ?_
      refine va_get (D := D) (ci := 2) (v := .int (nI (m_P q))) (C := RX2) (T := TX2) (N := 6) hx hb hts hi2 hown hK hM 0 rfl rfl 3 (by decide) (hts (.fieldLink RX2 32 "RingSeriesModel" "points" "I") (by decide +kernel)) (fun _ h9 => h9) rfl dX2_sum_8 ?_
      refine lv_icmp_ge (tgt := 46) hx hb dX2_sum_11 (by decide) (fun c_11 => ?_) (fun c_11 => ?_)
      · have c_11 := (nI_leI (a := m_P q) (b := p0) (by omega) (by omega)).mp c_11
        exact absurd c_11 (by omega)
      · have c_11 := mt (nI_leI (a := m_P q) (b := p0) (by omega) (by omega)).mpr c_11
        refine lv_aload_n hx hb dX2_sum_14 rfl (lv_at hl 2 rfl) ?_
        refine lv_iload hx hb dX2_sum_15 (lv_at hl 0 rfl) ?_
        refine lv_iload_n hx hb dX2_sum_17 rfl (lv_at hl 3 rfl) ?_
        refine lv_iload_n hx hb dX2_sum_18 rfl (lv_at hl 4 rfl) ?_
        refine ro_call (va_runV (As := [.int (nI p0), .int f, .int t]) (rest := []) ⟨hx, hb, hml, hown, hts⟩ (c_X2_isIn l Y q hm hM p0 (by omega) f t) (cwV 3 hts gX2_sum_X2_isIn rfl rfl rfl (by decide +kernel) ⟨Nat.le_of_ble_eq_true rfl, Nat.le_of_ble_eq_true rfl⟩) (ro_preV hK (va_recv hK hM (ci := 2) (q0 := 0) rfl rfl)) rfl rfl hl.1 rfl (lv_room (Nat.le_of_ble_eq_true rfl)) dX2_sum_19 ⟨Nat.zero_le _, Nat.zero_le _⟩) ?_
        refine lv_if_eq (tgt := 38) hx hb dX2_sum_22 (by decide) (fun c_22 => ?_) (fun c_22 => ?_)
        · have c_22 := bi_eq c_22
          refine lv_lload_n hx hb dX2_sum_38 rfl (lv_at hl 1 rfl) ?_
          refine lv_lstore_n (lv' := [(3, .long (smq q f t p0)), (5, .int (nI p0)), (0, .ref (b_o Y)), (1, .int f), (2, .int t)]) hx hb dX2_sum_39 rfl hl (by decide) rfl (fun ls hl => ?_)
          refine lv_iinc (v := nI (p0 + 1)) (lv' := [(5, .int (nI (p0 + 1))), (3, .long (smq q f t p0)), (0, .ref (b_o Y)), (1, .int f), (2, .int t)]) hx hb dX2_sum_40 hl (k := 1) rfl (inc1 _) (by decide) rfl (fun ls hl => ?_)
          refine lv_goto (tgt := 5) hx hb dX2_sum_43 (by decide) ?_
          have e9 : smq q f t (p0 + 1) = smq q f t p0 := by rw [smq, if_neg c_22]
          exact ih (p0 + 1) ls (by omega) (by rw [e9]; exact (lv_sub hl [0, 1, 2, 3, 4] rfl))
        · have c_22 := bi_ne c_22
          refine lv_lload_n hx hb dX2_sum_25 rfl (lv_at hl 1 rfl) ?_
          refine lv_aload_n hx hb dX2_sum_26 rfl (lv_at hl 2 rfl) ?_
          refine va_get (D := D) (ci := 2) (v := .ref (b_v Y)) (C := RX2) (T := TX2) (N := 6) hx hb hts hi2 hown hK hM 0 rfl rfl 5 (by decide) (hts (.fieldLink RX2 20 "RingSeriesModel" "values" "[I") (by decide +kernel)) (fun _ h9 => h9) rfl dX2_sum_27 ?_
          refine lv_iload hx hb dX2_sum_30 (lv_at hl 0 rfl) ?_
          refine ald_i (j := p0) hx hb hK hM 4 0 rfl rfl (by omega) (by omega) dX2_sum_32 ?_
          refine lv_i2l hx hb dX2_sum_33 rfl ?_
          refine lv_ladd hx hb dX2_sum_34 ?_
          refine lv_goto (tgt := 39) hx hb dX2_sum_35 (by decide) ?_
          refine lv_lstore_n (lv' := [(3, .long ((smq q f t p0) + ((m_V q p0).toInt64))), (5, .int (nI p0)), (0, .ref (b_o Y)), (1, .int f), (2, .int t)]) hx hb dX2_sum_39 rfl hl (by decide) rfl (fun ls hl => ?_)
          refine lv_iinc (v := nI (p0 + 1)) (lv' := [(5, .int (nI (p0 + 1))), (3, .long ((smq q f t p0) + ((m_V q p0).toInt64))), (0, .ref (b_o Y)), (1, .int f), (2, .int t)]) hx hb dX2_sum_40 hl (k := 1) rfl (inc1 _) (by decide) rfl (fun ls hl => ?_)
          refine lv_goto (tgt := 5) hx hb dX2_sum_43 (by decide) ?_
          have e9 : smq q f t (p0 + 1) = (smq q f t p0) + ((m_V q p0).toInt64) := by rw [smq, if_pos c_22]
          exact ih (p0 + 1) ls (by omega) (by rw [e9]; exact (lv_sub hl [0, 1, 2, 3, 4] rfl))
  refine lv_lconst (v := 0) hx hb dX2_sum_0 (by decide) ?_
  refine lv_lstore_n (lv' := [(3, .long 0), (0, .ref (b_o Y)), (1, .int f), (2, .int t)]) hx hb dX2_sum_1 rfl hl (by decide) rfl (fun ls hl => ?_)
  refine lv_iconst (v := 0) hx hb dX2_sum_2 (by decide) ?_
  refine lv_istore (lv' := [(5, .int 0), (3, .long 0), (0, .ref (b_o Y)), (1, .int f), (2, .int t)]) hx hb dX2_sum_3 hl (by decide) rfl (fun ls hl => ?_)
  exact loop (m_P q) 0 ls (by omega) (lv_sub hl [0, 1, 2, 3, 4] rfl)
set_option maxHeartbeats 4000000 in
set_option maxRecDepth 100000 in
/-- extreme(from, to, sign) -/
theorem c_X2_extreme (l : Launch) {D : va_G} {cI cA cJ : ClassId} {H : Heap} (Y : mA) (q : mv) (hm : m_ok q) (hM : va_P D vwCl (mW cI cJ Y q) H) (f t g : Int32) : Met l yX2_extreme wsX2_extreme ({ frames := 4, cells := 0, slots := 0, locals := 91 }) (ro_P D vwCl (tyL cI cA cJ) H [.ref (b_o Y), .int f, .int t, .int g]) (ro_Q (.int (exM q f t g)) H) 0 0 ro_no := by
  refine Met.ofW (cc := cX2_extreme) (maxL := 8) (ret := (some .int)) (by decide) rfl ?_
  intro p e s m args below meth c s₁ B hml hv
  obtain ⟨rfl, hh, hK⟩ := hv
  subst hh
  have hx := B.exec
  have hb := B.bytes
  have hr := B.returns
  have hlocks := B.notSynchronized
  have hts := atoms_spec (ws := wsX2_extreme) B.pre
  have hown : s.vm.findClass RX2 = some m.cls := findClass_of_methodNamed B.named
  have hi2 : ∀ w ∈ wsX20, w ∈ wsX2_extreme := fun w h => List.mem_cons_of_mem _ (List.mem_append_right _ h)
  have hl := lv_entry ([.ref (b_o Y), .int f, .int t, .int g]) (n := 8) (Nat.le_of_ble_eq_true rfl)
  rw [lg_entry_eq]
  generalize (lg_sl ([.ref (b_o Y), .int f, .int t, .int g]) ++ List.replicate (8 - (lg_sl ([.ref (b_o Y), .int f, .int t, .int g])).length) Slot.unset).toArray = ls at hl ⊢
  have hl : lv_has ls 8 [(0, .ref (b_o Y)), (1, .int f), (2, .int t), (3, .int g)] := hl
  obtain ⟨hp, hT, hRW, hkn⟩ := id hm
  have w0 : kp q 0 ≤ ng q 0 (m_P q) := hkn 0 (by omega)
  have w6 := ng_le q 0 (m_P q)
  have loop : ∀ (n : Nat) (p0 : Nat) (ls : Array Slot), p0 + n = m_P q → lv_has ls 8 [(6, .int (nI p0)), (5, .int (exq q f t g p0)), (4, .int (if mnc q f t p0 = 0 then 0 else 1)), (0, .ref (b_o Y)), (1, .int f), (2, .int t), (3, .int g)] → W p l e (headSpec wsX2_extreme ({ frames := 4, cells := 0, slots := 0, locals := 91 })).room s m ([.ref (b_o Y), .int f, .int t, .int g] : List Value).toArray below meth c s.heap [] 0 0 (MQ below (ro_Q (.int (exM q f t g)) s.heap) ([.ref (b_o Y), .int f, .int t, .int g] : List Value).toArray s 0 0 ro_no) (F0 m 9 ls []) := by
    intro n
    induction n with
    | zero =>
      intro p0 ls hi hl
      have g0 := mnc_le q f t p0
      refine lv_iload hx hb dX2_extreme_9 (lv_at hl 0 rfl) ?_
      refine lv_aload_n hx hb dX2_extreme_11 rfl (lv_at hl 3 rfl) ?_
      refine va_get (D := D) (ci := 2) (v := .int (nI (m_P q))) (C := RX2) (T := TX2) (N := 6) hx hb hts hi2 hown hK hM 0 rfl rfl 3 (by decide) (hts (.fieldLink RX2 32 "RingSeriesModel" "points" "I") (by decide +kernel)) (fun _ h9 => h9) rfl dX2_extreme_12 ?_
      refine lv_icmp_ge (tgt := 100) hx hb dX2_extreme_15 (by decide) (fun c_15 => ?_) (fun c_15 => ?_)
      · have c_15 := (nI_leI (a := m_P q) (b := p0) (by omega) (by omega)).mp c_15
        refine lv_iload_n hx hb dX2_extreme_100 rfl (lv_at hl 6 rfl) ?_
        refine lv_iconst (v := 1) hx hb dX2_extreme_101 (by decide) ?_
        refine lv_icmp_eq (tgt := 110) hx hb dX2_extreme_102 (by decide) (fun c_102 => ?_) (fun c_102 => ?_)
        · refine lv_iload hx hb dX2_extreme_110 (lv_at hl 1 rfl) ?_
          refine lv_goto (tgt := 116) hx hb dX2_extreme_112 (by decide) ?_
          exact ro_iret hx hb hr (by unfold exM; rw [if_pos (Or.inl c_102), show p0 = m_P q by omega]) dX2_extreme_116 hlocks
        · refine lv_iload_n hx hb dX2_extreme_105 rfl (lv_at hl 6 rfl) ?_
          refine lv_iconst (v := (-1)) hx hb dX2_extreme_106 (by decide) ?_
          refine lv_icmp_ne (tgt := 115) hx hb dX2_extreme_107 (by decide) (fun c_107 => ?_) (fun c_107 => ?_)
          · refine lv_iconst (v := 0) hx hb dX2_extreme_115 (by decide) ?_
            exact ro_iret hx hb hr (by unfold exM; rw [if_neg (fun z => z.elim c_102 c_107)]) dX2_extreme_116 hlocks
          · refine lv_iload hx hb dX2_extreme_110 (lv_at hl 1 rfl) ?_
            refine lv_goto (tgt := 116) hx hb dX2_extreme_112 (by decide) ?_
            exact ro_iret hx hb hr (by unfold exM; rw [if_pos (Or.inr c_107), show p0 = m_P q by omega]) dX2_extreme_116 hlocks
      · have c_15 := mt (nI_leI (a := m_P q) (b := p0) (by omega) (by omega)).mpr c_15
        exact absurd c_15 (by omega)
    | succ n ih =>
      intro p0 ls hi hl
      have g0 := mnc_le q f t p0
      refine lv_iload hx hb dX2_extreme_9 (lv_at hl 0 rfl) ?_
      refine lv_aload_n hx hb dX2_extreme_11 rfl (lv_at hl 3 rfl) ?_
      refine va_get (D := D) (ci := 2) (v := .int (nI (m_P q))) (C := RX2) (T := TX2) (N := 6) hx hb hts hi2 hown hK hM 0 rfl rfl 3 (by decide) (hts (.fieldLink RX2 32 "RingSeriesModel" "points" "I") (by decide +kernel)) (fun _ h9 => h9) rfl dX2_extreme_12 ?_
      refine lv_icmp_ge (tgt := 100) hx hb dX2_extreme_15 (by decide) (fun c_15 => ?_) (fun c_15 => ?_)
      · have c_15 := (nI_leI (a := m_P q) (b := p0) (by omega) (by omega)).mp c_15
        exact absurd c_15 (by omega)
      · have c_15 := mt (nI_leI (a := m_P q) (b := p0) (by omega) (by omega)).mpr c_15
        refine lv_aload_n hx hb dX2_extreme_18 rfl (lv_at hl 3 rfl) ?_
        refine lv_iload hx hb dX2_extreme_19 (lv_at hl 0 rfl) ?_
        refine lv_iload_n hx hb dX2_extreme_21 rfl (lv_at hl 4 rfl) ?_
        refine lv_iload_n hx hb dX2_extreme_22 rfl (lv_at hl 5 rfl) ?_
        refine ro_call (va_runV (As := [.int (nI p0), .int f, .int t]) (rest := []) ⟨hx, hb, hml, hown, hts⟩ (c_X2_isIn l Y q hm hM p0 (by omega) f t) (cwV 3 hts gX2_extreme_X2_isIn rfl rfl rfl (by decide +kernel) ⟨Nat.le_of_ble_eq_true rfl, Nat.le_of_ble_eq_true rfl⟩) (ro_preV hK (va_recv hK hM (ci := 2) (q0 := 0) rfl rfl)) rfl rfl hl.1 rfl (lv_room (Nat.le_of_ble_eq_true rfl)) dX2_extreme_23 ⟨Nat.zero_le _, Nat.zero_le _⟩) ?_
        refine lv_if_eq (tgt := 94) hx hb dX2_extreme_26 (by decide) (fun c_26 => ?_) (fun c_26 => ?_)
        · have c_26 := bi_eq c_26
          refine lv_iinc (v := nI (p0 + 1)) (lv' := [(6, .int (nI (p0 + 1))), (5, .int (exq q f t g p0)), (4, .int (if mnc q f t p0 = 0 then 0 else 1)), (0, .ref (b_o Y)), (1, .int f), (2, .int t), (3, .int g)]) hx hb dX2_extreme_94 hl (k := 0) rfl (inc1 _) (by decide) rfl (fun ls hl => ?_)
          refine lv_goto (tgt := 9) hx hb dX2_extreme_97 (by decide) ?_
          have e9 : exq q f t g (p0 + 1) = exq q f t g p0 := by rw [exq, if_neg c_26]
          have e8 : mnc q f t (p0 + 1) = mnc q f t p0 := by rw [mnc, if_neg c_26]
          exact ih (p0 + 1) ls (by omega) (by rw [e9, e8]; exact (lv_sub hl [0, 1, 2, 3, 4, 5, 6] rfl))
        · have c_26 := bi_ne c_26
          refine lv_iload hx hb dX2_extreme_29 (lv_at hl 2 rfl) ?_
          refine lv_if_eq (tgt := 65) hx hb dX2_extreme_31 (by decide) (fun c_31 => ?_) (fun c_31 => ?_)
          · have c_31 := so_eq c_31
            refine lv_iconst (v := 1) hx hb dX2_extreme_65 (by decide) ?_
            refine lv_goto (tgt := 70) hx hb dX2_extreme_66 (by decide) ?_
            refine lv_istore (lv' := [(7, .int 1), (6, .int (nI p0)), (5, .int (exq q f t g p0)), (4, .int (if mnc q f t p0 = 0 then 0 else 1)), (0, .ref (b_o Y)), (1, .int f), (2, .int t), (3, .int g)]) hx hb dX2_extreme_70 hl (by decide) rfl (fun ls hl => ?_)
            refine lv_iload hx hb dX2_extreme_72 (lv_at hl 0 rfl) ?_
            refine lv_if_eq (tgt := 87) hx hb dX2_extreme_74 (by decide) (fun c_74 => ?_) (fun c_74 => ?_)
            · exact absurd c_74 (by decide)
            · refine lv_aload_n hx hb dX2_extreme_77 rfl (lv_at hl 4 rfl) ?_
              refine va_get (D := D) (ci := 2) (v := .ref (b_v Y)) (C := RX2) (T := TX2) (N := 6) hx hb hts hi2 hown hK hM 0 rfl rfl 5 (by decide) (hts (.fieldLink RX2 20 "RingSeriesModel" "values" "[I") (by decide +kernel)) (fun _ h9 => h9) rfl dX2_extreme_78 ?_
              refine lv_iload hx hb dX2_extreme_81 (lv_at hl 1 rfl) ?_
              refine ald_i (j := p0) hx hb hK hM 4 0 rfl rfl (by omega) (by omega) dX2_extreme_83 ?_
              refine lv_goto (tgt := 89) hx hb dX2_extreme_84 (by decide) ?_
              refine lv_istore (lv' := [(5, .int (m_V q p0)), (7, .int 1), (6, .int (nI p0)), (4, .int (if mnc q f t p0 = 0 then 0 else 1)), (0, .ref (b_o Y)), (1, .int f), (2, .int t), (3, .int g)]) hx hb dX2_extreme_89 hl (by decide) rfl (fun ls hl => ?_)
              refine lv_iconst (v := 1) hx hb dX2_extreme_91 (by decide) ?_
              refine lv_istore (lv' := [(4, .int 1), (5, .int (m_V q p0)), (7, .int 1), (6, .int (nI p0)), (0, .ref (b_o Y)), (1, .int f), (2, .int t), (3, .int g)]) hx hb dX2_extreme_92 hl (by decide) rfl (fun ls hl => ?_)
              refine lv_iinc (v := nI (p0 + 1)) (lv' := [(6, .int (nI (p0 + 1))), (4, .int 1), (5, .int (m_V q p0)), (7, .int 1), (0, .ref (b_o Y)), (1, .int f), (2, .int t), (3, .int g)]) hx hb dX2_extreme_94 hl (k := 3) rfl (inc1 _) (by decide) rfl (fun ls hl => ?_)
              refine lv_goto (tgt := 9) hx hb dX2_extreme_97 (by decide) ?_
              have e9 : exq q f t g (p0 + 1) = m_V q p0 := by rw [exq, if_pos c_26, if_pos (Or.inl c_31)]
              have e8 : (if mnc q f t (p0 + 1) = 0 then (0 : Int32) else 1) = 1 := by rw [mnc, if_pos c_26, if_neg (by omega)]
              exact ih (p0 + 1) ls (by omega) (by rw [e9, e8]; exact (lv_sub hl [0, 2, 1, 4, 5, 6, 7] rfl))
          · have c_31 := so_ne c_31
            refine lv_iload_n hx hb dX2_extreme_34 rfl (lv_at hl 6 rfl) ?_
            refine lv_if_ge (tgt := 53) hx hb dX2_extreme_35 (by decide) (fun c_35 => ?_) (fun c_35 => ?_)
            · refine lv_aload_n hx hb dX2_extreme_53 rfl (lv_at hl 3 rfl) ?_
              refine va_get (D := D) (ci := 2) (v := .ref (b_v Y)) (C := RX2) (T := TX2) (N := 6) hx hb hts hi2 hown hK hM 0 rfl rfl 5 (by decide) (hts (.fieldLink RX2 20 "RingSeriesModel" "values" "[I") (by decide +kernel)) (fun _ h9 => h9) rfl dX2_extreme_54 ?_
              refine lv_iload hx hb dX2_extreme_57 (lv_at hl 0 rfl) ?_
              refine ald_i (j := p0) hx hb hK hM 4 0 rfl rfl (by omega) (by omega) dX2_extreme_59 ?_
              refine lv_iload hx hb dX2_extreme_60 (lv_at hl 1 rfl) ?_
              refine lv_icmp_le (tgt := 69) hx hb dX2_extreme_62 (by decide) (fun c_62 => ?_) (fun c_62 => ?_)
              · refine lv_iconst (v := 0) hx hb dX2_extreme_69 (by decide) ?_
                refine lv_istore (lv' := [(7, .int 0), (6, .int (nI p0)), (5, .int (exq q f t g p0)), (4, .int (if mnc q f t p0 = 0 then 0 else 1)), (0, .ref (b_o Y)), (1, .int f), (2, .int t), (3, .int g)]) hx hb dX2_extreme_70 hl (by decide) rfl (fun ls hl => ?_)
                refine lv_iload hx hb dX2_extreme_72 (lv_at hl 0 rfl) ?_
                refine lv_if_eq (tgt := 87) hx hb dX2_extreme_74 (by decide) (fun c_74 => ?_) (fun c_74 => ?_)
                · refine lv_iload hx hb dX2_extreme_87 (lv_at hl 2 rfl) ?_
                  refine lv_istore (lv' := [(5, .int (exq q f t g p0)), (7, .int 0), (6, .int (nI p0)), (4, .int (if mnc q f t p0 = 0 then 0 else 1)), (0, .ref (b_o Y)), (1, .int f), (2, .int t), (3, .int g)]) hx hb dX2_extreme_89 hl (by decide) rfl (fun ls hl => ?_)
                  refine lv_iconst (v := 1) hx hb dX2_extreme_91 (by decide) ?_
                  refine lv_istore (lv' := [(4, .int 1), (5, .int (exq q f t g p0)), (7, .int 0), (6, .int (nI p0)), (0, .ref (b_o Y)), (1, .int f), (2, .int t), (3, .int g)]) hx hb dX2_extreme_92 hl (by decide) rfl (fun ls hl => ?_)
                  refine lv_iinc (v := nI (p0 + 1)) (lv' := [(6, .int (nI (p0 + 1))), (4, .int 1), (5, .int (exq q f t g p0)), (7, .int 0), (0, .ref (b_o Y)), (1, .int f), (2, .int t), (3, .int g)]) hx hb dX2_extreme_94 hl (k := 3) rfl (inc1 _) (by decide) rfl (fun ls hl => ?_)
                  refine lv_goto (tgt := 9) hx hb dX2_extreme_97 (by decide) ?_
                  have e9 : exq q f t g (p0 + 1) = exq q f t g p0 := by rw [exq, if_pos c_26, if_neg (fun z => z.elim c_31 (fun z => by rw [if_neg (Int32.not_lt.mpr c_35)] at z; exact Int32.not_lt.mpr c_62 z))]
                  have e8 : (if mnc q f t (p0 + 1) = 0 then (0 : Int32) else 1) = 1 := by rw [mnc, if_pos c_26, if_neg (by omega)]
                  exact ih (p0 + 1) ls (by omega) (by rw [e9, e8]; exact (lv_sub hl [0, 2, 1, 4, 5, 6, 7] rfl))
                · exact absurd rfl c_74
              · refine lv_iconst (v := 1) hx hb dX2_extreme_65 (by decide) ?_
                refine lv_goto (tgt := 70) hx hb dX2_extreme_66 (by decide) ?_
                refine lv_istore (lv' := [(7, .int 1), (6, .int (nI p0)), (5, .int (exq q f t g p0)), (4, .int (if mnc q f t p0 = 0 then 0 else 1)), (0, .ref (b_o Y)), (1, .int f), (2, .int t), (3, .int g)]) hx hb dX2_extreme_70 hl (by decide) rfl (fun ls hl => ?_)
                refine lv_iload hx hb dX2_extreme_72 (lv_at hl 0 rfl) ?_
                refine lv_if_eq (tgt := 87) hx hb dX2_extreme_74 (by decide) (fun c_74 => ?_) (fun c_74 => ?_)
                · exact absurd c_74 (by decide)
                · refine lv_aload_n hx hb dX2_extreme_77 rfl (lv_at hl 4 rfl) ?_
                  refine va_get (D := D) (ci := 2) (v := .ref (b_v Y)) (C := RX2) (T := TX2) (N := 6) hx hb hts hi2 hown hK hM 0 rfl rfl 5 (by decide) (hts (.fieldLink RX2 20 "RingSeriesModel" "values" "[I") (by decide +kernel)) (fun _ h9 => h9) rfl dX2_extreme_78 ?_
                  refine lv_iload hx hb dX2_extreme_81 (lv_at hl 1 rfl) ?_
                  refine ald_i (j := p0) hx hb hK hM 4 0 rfl rfl (by omega) (by omega) dX2_extreme_83 ?_
                  refine lv_goto (tgt := 89) hx hb dX2_extreme_84 (by decide) ?_
                  refine lv_istore (lv' := [(5, .int (m_V q p0)), (7, .int 1), (6, .int (nI p0)), (4, .int (if mnc q f t p0 = 0 then 0 else 1)), (0, .ref (b_o Y)), (1, .int f), (2, .int t), (3, .int g)]) hx hb dX2_extreme_89 hl (by decide) rfl (fun ls hl => ?_)
                  refine lv_iconst (v := 1) hx hb dX2_extreme_91 (by decide) ?_
                  refine lv_istore (lv' := [(4, .int 1), (5, .int (m_V q p0)), (7, .int 1), (6, .int (nI p0)), (0, .ref (b_o Y)), (1, .int f), (2, .int t), (3, .int g)]) hx hb dX2_extreme_92 hl (by decide) rfl (fun ls hl => ?_)
                  refine lv_iinc (v := nI (p0 + 1)) (lv' := [(6, .int (nI (p0 + 1))), (4, .int 1), (5, .int (m_V q p0)), (7, .int 1), (0, .ref (b_o Y)), (1, .int f), (2, .int t), (3, .int g)]) hx hb dX2_extreme_94 hl (k := 3) rfl (inc1 _) (by decide) rfl (fun ls hl => ?_)
                  refine lv_goto (tgt := 9) hx hb dX2_extreme_97 (by decide) ?_
                  have e9 : exq q f t g (p0 + 1) = m_V q p0 := by rw [exq, if_pos c_26, if_pos (Or.inr (by rw [if_neg (Int32.not_lt.mpr c_35)]; exact Int32.not_le.mp c_62))]
                  have e8 : (if mnc q f t (p0 + 1) = 0 then (0 : Int32) else 1) = 1 := by rw [mnc, if_pos c_26, if_neg (by omega)]
                  exact ih (p0 + 1) ls (by omega) (by rw [e9, e8]; exact (lv_sub hl [0, 2, 1, 4, 5, 6, 7] rfl))
            · refine lv_aload_n hx hb dX2_extreme_38 rfl (lv_at hl 3 rfl) ?_
              refine va_get (D := D) (ci := 2) (v := .ref (b_v Y)) (C := RX2) (T := TX2) (N := 6) hx hb hts hi2 hown hK hM 0 rfl rfl 5 (by decide) (hts (.fieldLink RX2 20 "RingSeriesModel" "values" "[I") (by decide +kernel)) (fun _ h9 => h9) rfl dX2_extreme_39 ?_
              refine lv_iload hx hb dX2_extreme_42 (lv_at hl 0 rfl) ?_
              refine ald_i (j := p0) hx hb hK hM 4 0 rfl rfl (by omega) (by omega) dX2_extreme_44 ?_
              refine lv_iload hx hb dX2_extreme_45 (lv_at hl 1 rfl) ?_
              refine lv_icmp_ge (tgt := 69) hx hb dX2_extreme_47 (by decide) (fun c_47 => ?_) (fun c_47 => ?_)
              · refine lv_iconst (v := 0) hx hb dX2_extreme_69 (by decide) ?_
                refine lv_istore (lv' := [(7, .int 0), (6, .int (nI p0)), (5, .int (exq q f t g p0)), (4, .int (if mnc q f t p0 = 0 then 0 else 1)), (0, .ref (b_o Y)), (1, .int f), (2, .int t), (3, .int g)]) hx hb dX2_extreme_70 hl (by decide) rfl (fun ls hl => ?_)
                refine lv_iload hx hb dX2_extreme_72 (lv_at hl 0 rfl) ?_
                refine lv_if_eq (tgt := 87) hx hb dX2_extreme_74 (by decide) (fun c_74 => ?_) (fun c_74 => ?_)
                · refine lv_iload hx hb dX2_extreme_87 (lv_at hl 2 rfl) ?_
                  refine lv_istore (lv' := [(5, .int (exq q f t g p0)), (7, .int 0), (6, .int (nI p0)), (4, .int (if mnc q f t p0 = 0 then 0 else 1)), (0, .ref (b_o Y)), (1, .int f), (2, .int t), (3, .int g)]) hx hb dX2_extreme_89 hl (by decide) rfl (fun ls hl => ?_)
                  refine lv_iconst (v := 1) hx hb dX2_extreme_91 (by decide) ?_
                  refine lv_istore (lv' := [(4, .int 1), (5, .int (exq q f t g p0)), (7, .int 0), (6, .int (nI p0)), (0, .ref (b_o Y)), (1, .int f), (2, .int t), (3, .int g)]) hx hb dX2_extreme_92 hl (by decide) rfl (fun ls hl => ?_)
                  refine lv_iinc (v := nI (p0 + 1)) (lv' := [(6, .int (nI (p0 + 1))), (4, .int 1), (5, .int (exq q f t g p0)), (7, .int 0), (0, .ref (b_o Y)), (1, .int f), (2, .int t), (3, .int g)]) hx hb dX2_extreme_94 hl (k := 3) rfl (inc1 _) (by decide) rfl (fun ls hl => ?_)
                  refine lv_goto (tgt := 9) hx hb dX2_extreme_97 (by decide) ?_
                  have e9 : exq q f t g (p0 + 1) = exq q f t g p0 := by rw [exq, if_pos c_26, if_neg (fun z => z.elim c_31 (fun z => by rw [if_pos (Int32.not_le.mp c_35)] at z; exact Int32.not_lt.mpr c_47 z))]
                  have e8 : (if mnc q f t (p0 + 1) = 0 then (0 : Int32) else 1) = 1 := by rw [mnc, if_pos c_26, if_neg (by omega)]
                  exact ih (p0 + 1) ls (by omega) (by rw [e9, e8]; exact (lv_sub hl [0, 2, 1, 4, 5, 6, 7] rfl))
                · exact absurd rfl c_74
              · refine lv_goto (tgt := 65) hx hb dX2_extreme_50 (by decide) ?_
                refine lv_iconst (v := 1) hx hb dX2_extreme_65 (by decide) ?_
                refine lv_goto (tgt := 70) hx hb dX2_extreme_66 (by decide) ?_
                refine lv_istore (lv' := [(7, .int 1), (6, .int (nI p0)), (5, .int (exq q f t g p0)), (4, .int (if mnc q f t p0 = 0 then 0 else 1)), (0, .ref (b_o Y)), (1, .int f), (2, .int t), (3, .int g)]) hx hb dX2_extreme_70 hl (by decide) rfl (fun ls hl => ?_)
                refine lv_iload hx hb dX2_extreme_72 (lv_at hl 0 rfl) ?_
                refine lv_if_eq (tgt := 87) hx hb dX2_extreme_74 (by decide) (fun c_74 => ?_) (fun c_74 => ?_)
                · exact absurd c_74 (by decide)
                · refine lv_aload_n hx hb dX2_extreme_77 rfl (lv_at hl 4 rfl) ?_
                  refine va_get (D := D) (ci := 2) (v := .ref (b_v Y)) (C := RX2) (T := TX2) (N := 6) hx hb hts hi2 hown hK hM 0 rfl rfl 5 (by decide) (hts (.fieldLink RX2 20 "RingSeriesModel" "values" "[I") (by decide +kernel)) (fun _ h9 => h9) rfl dX2_extreme_78 ?_
                  refine lv_iload hx hb dX2_extreme_81 (lv_at hl 1 rfl) ?_
                  refine ald_i (j := p0) hx hb hK hM 4 0 rfl rfl (by omega) (by omega) dX2_extreme_83 ?_
                  refine lv_goto (tgt := 89) hx hb dX2_extreme_84 (by decide) ?_
                  refine lv_istore (lv' := [(5, .int (m_V q p0)), (7, .int 1), (6, .int (nI p0)), (4, .int (if mnc q f t p0 = 0 then 0 else 1)), (0, .ref (b_o Y)), (1, .int f), (2, .int t), (3, .int g)]) hx hb dX2_extreme_89 hl (by decide) rfl (fun ls hl => ?_)
                  refine lv_iconst (v := 1) hx hb dX2_extreme_91 (by decide) ?_
                  refine lv_istore (lv' := [(4, .int 1), (5, .int (m_V q p0)), (7, .int 1), (6, .int (nI p0)), (0, .ref (b_o Y)), (1, .int f), (2, .int t), (3, .int g)]) hx hb dX2_extreme_92 hl (by decide) rfl (fun ls hl => ?_)
                  refine lv_iinc (v := nI (p0 + 1)) (lv' := [(6, .int (nI (p0 + 1))), (4, .int 1), (5, .int (m_V q p0)), (7, .int 1), (0, .ref (b_o Y)), (1, .int f), (2, .int t), (3, .int g)]) hx hb dX2_extreme_94 hl (k := 3) rfl (inc1 _) (by decide) rfl (fun ls hl => ?_)
                  refine lv_goto (tgt := 9) hx hb dX2_extreme_97 (by decide) ?_
                  have e9 : exq q f t g (p0 + 1) = m_V q p0 := by rw [exq, if_pos c_26, if_pos (Or.inr (by rw [if_pos (Int32.not_le.mp c_35)]; exact Int32.not_le.mp c_47))]
                  have e8 : (if mnc q f t (p0 + 1) = 0 then (0 : Int32) else 1) = 1 := by rw [mnc, if_pos c_26, if_neg (by omega)]
                  exact ih (p0 + 1) ls (by omega) (by rw [e9, e8]; exact (lv_sub hl [0, 2, 1, 4, 5, 6, 7] rfl))
  refine lv_iconst (v := 0) hx hb dX2_extreme_0 (by decide) ?_
  refine lv_istore (lv' := [(4, .int 0), (0, .ref (b_o Y)), (1, .int f), (2, .int t), (3, .int g)]) hx hb dX2_extreme_1 hl (by decide) rfl (fun ls hl => ?_)
  refine lv_iconst (v := 0) hx hb dX2_extreme_3 (by decide) ?_
  refine lv_istore (lv' := [(5, .int 0), (4, .int 0), (0, .ref (b_o Y)), (1, .int f), (2, .int t), (3, .int g)]) hx hb dX2_extreme_4 hl (by decide) rfl (fun ls hl => ?_)
  refine lv_iconst (v := 0) hx hb dX2_extreme_6 (by decide) ?_
  refine lv_istore (lv' := [(6, .int 0), (5, .int 0), (4, .int 0), (0, .ref (b_o Y)), (1, .int f), (2, .int t), (3, .int g)]) hx hb dX2_extreme_7 hl (by decide) rfl (fun ls hl => ?_)
  exact loop (m_P q) 0 ls (by omega) (lv_sub hl [0, 1, 2, 3, 4, 5, 6] rfl)
set_option maxHeartbeats 4000000 in
set_option maxRecDepth 100000 in
/-- at(time, smooth) -/
theorem c_X2_at (l : Launch) {D : va_G} {cI cA cJ : ClassId} {H : Heap} (Y : mA) (q : mv) (hm : m_ok q) (hM : va_P D vwCl (mW cI cJ Y q) H) (hne : ∀ j : Nat, j + 1 < m_P q → ¬ (nI (m_T q (j + 1)) - nI (m_T q j)).toInt64 = 0) (t sw : Int32) : Met l yX2_at wsX2_at ({ frames := 3, cells := 0, slots := 0, locals := 68 }) (ro_P D vwCl (tyL cI cA cJ) H [.ref (b_o Y), .int t, .int sw]) (ro_Q (.int (atM q t sw)) H) 0 0 ro_no := by
  refine Met.ofW (cc := cX2_at) (maxL := 8) (ret := (some .int)) (by decide) rfl ?_
  intro p e s m args below meth c s₁ B hml hv
  obtain ⟨rfl, hh, hK⟩ := hv
  subst hh
  have hx := B.exec
  have hb := B.bytes
  have hr := B.returns
  have hlocks := B.notSynchronized
  have hts := atoms_spec (ws := wsX2_at) B.pre
  have hown : s.vm.findClass RX2 = some m.cls := findClass_of_methodNamed B.named
  have hi2 : ∀ w ∈ wsX20, w ∈ wsX2_at := fun w h => List.mem_cons_of_mem _ (List.mem_append_right _ h)
  have hl := lv_entry ([.ref (b_o Y), .int t, .int sw]) (n := 8) (Nat.le_of_ble_eq_true rfl)
  rw [lg_entry_eq]
  generalize (lg_sl ([.ref (b_o Y), .int t, .int sw]) ++ List.replicate (8 - (lg_sl ([.ref (b_o Y), .int t, .int sw])).length) Slot.unset).toArray = ls at hl ⊢
  have hl : lv_has ls 8 [(0, .ref (b_o Y)), (1, .int t), (2, .int sw)] := hl
  obtain ⟨hp, hT, hRW, hkn⟩ := id hm
  have w0 : kp q 0 ≤ ng q 0 (m_P q) := hkn 0 (by omega)
  have w6 := ng_le q 0 (m_P q)
  have loop : ∀ (n : Nat) (p0 d0 : Nat) (ls : Array Slot), p0 + n = m_P q ∧ p0 = m_P q - kp q 0 + d0 → lv_has ls 8 [(4, .int (nI p0)), (3, .int (atq q t (m_P q - kp q 0) d0)), (0, .ref (b_o Y)), (1, .int t), (2, .int sw)] → W p l e (headSpec wsX2_at ({ frames := 3, cells := 0, slots := 0, locals := 68 })).room s m ([.ref (b_o Y), .int t, .int sw] : List Value).toArray below meth c s.heap [] 0 0 (MQ below (ro_Q (.int (atM q t sw)) s.heap) ([.ref (b_o Y), .int t, .int sw] : List Value).toArray s 0 0 ro_no) (F0 m 14 ls []) := by
    intro n
    induction n with
    | zero =>
      intro p0 d0 ls hi hl
      refine lv_iload hx hb dX2_at_14 (lv_at hl 0 rfl) ?_
      refine lv_aload_n hx hb dX2_at_16 rfl (lv_at hl 2 rfl) ?_
      refine va_get (D := D) (ci := 2) (v := .int (nI (m_P q))) (C := RX2) (T := TX2) (N := 6) hx hb hts hi2 hown hK hM 0 rfl rfl 3 (by decide) (hts (.fieldLink RX2 32 "RingSeriesModel" "points" "I") (by decide +kernel)) (fun _ h9 => h9) rfl dX2_at_17 ?_
      refine lv_icmp_ge (tgt := 47) hx hb dX2_at_20 (by decide) (fun c_20 => ?_) (fun c_20 => ?_)
      · have c_20 := (nI_leI (a := m_P q) (b := p0) (by omega) (by omega)).mp c_20
        obtain rfl : d0 = kp q 0 := by omega
        rcases atq_cases q t (m_P q - kp q 0) (kp q 0) with h9 | ⟨j, h1, h2, h9⟩
        · rw [h9] at hl
          refine lv_iload_n hx hb dX2_at_47 rfl (lv_at hl 1 rfl) ?_
          refine lv_if_ge (tgt := 53) hx hb dX2_at_48 (by decide) (fun c_48 => ?_) (fun c_48 => ?_)
          · exact absurd c_48 (by decide)
          · refine lv_iconst (v := 0) hx hb dX2_at_51 (by decide) ?_
            exact ro_iret hx hb hr (by unfold atM; rw [h9, if_pos (by decide)]) dX2_at_52 hlocks
        · rw [h9] at hl
          refine lv_iload_n hx hb dX2_at_47 rfl (lv_at hl 1 rfl) ?_
          refine lv_if_ge (tgt := 53) hx hb dX2_at_48 (by decide) (fun c_48 => ?_) (fun c_48 => ?_)
          · refine lv_iload_n hx hb dX2_at_53 rfl (lv_at hl 4 rfl) ?_
            refine lv_if_eq (tgt := 67) hx hb dX2_at_54 (by decide) (fun c_54 => ?_) (fun c_54 => ?_)
            · refine lv_aload_n hx hb dX2_at_67 rfl (lv_at hl 2 rfl) ?_
              refine va_get (D := D) (ci := 2) (v := .ref (b_v Y)) (C := RX2) (T := TX2) (N := 6) hx hb hts hi2 hown hK hM 0 rfl rfl 5 (by decide) (hts (.fieldLink RX2 20 "RingSeriesModel" "values" "[I") (by decide +kernel)) (fun _ h9 => h9) rfl dX2_at_68 ?_
              refine lv_iload_n hx hb dX2_at_71 rfl (lv_at hl 1 rfl) ?_
              refine ald_i (j := j) hx hb hK hM 4 0 rfl rfl (by omega) (by omega) dX2_at_72 ?_
              exact ro_iret hx hb hr (by unfold atM; rw [h9, if_neg (nI_pos (by omega)), nI_clamp (by omega), if_pos (Or.inl c_54)]) dX2_at_73 hlocks
            · refine lv_iload_n hx hb dX2_at_57 rfl (lv_at hl 1 rfl) ?_
              refine lv_aload_n hx hb dX2_at_58 rfl (lv_at hl 2 rfl) ?_
              refine va_get (D := D) (ci := 2) (v := .int (nI (m_P q))) (C := RX2) (T := TX2) (N := 6) hx hb hts hi2 hown hK hM 0 rfl rfl 3 (by decide) (hts (.fieldLink RX2 32 "RingSeriesModel" "points" "I") (by decide +kernel)) (fun _ h9 => h9) rfl dX2_at_59 ?_
              refine lv_iconst (v := 1) hx hb dX2_at_62 (by decide) ?_
              refine lv_isub hx hb dX2_at_63 ?_
              refine top_i (pk_sub (a := m_P q) (b := 1) (by omega)) ?_
              refine lv_icmp_ne (tgt := 74) hx hb dX2_at_64 (by decide) (fun c_64 => ?_) (fun c_64 => ?_)
              · have c_64 := mt (nI_eq (a := j) (b := (m_P q) - 1) (by omega) (by omega)).mpr c_64
                refine lv_aload_n hx hb dX2_at_74 rfl (lv_at hl 2 rfl) ?_
                refine va_get (D := D) (ci := 2) (v := .ref (b_v Y)) (C := RX2) (T := TX2) (N := 6) hx hb hts hi2 hown hK hM 0 rfl rfl 5 (by decide) (hts (.fieldLink RX2 20 "RingSeriesModel" "values" "[I") (by decide +kernel)) (fun _ h9 => h9) rfl dX2_at_75 ?_
                refine lv_iload_n hx hb dX2_at_78 rfl (lv_at hl 1 rfl) ?_
                refine lv_iconst (v := 1) hx hb dX2_at_79 (by decide) ?_
                refine lv_iadd hx hb dX2_at_80 ?_
                refine top_i (nI_add _ 1) ?_
                refine ald_i (j := (j + 1)) hx hb hK hM 4 0 rfl rfl (by omega) (by omega) dX2_at_81 ?_
                refine lv_i2l hx hb dX2_at_82 rfl ?_
                refine lv_aload_n hx hb dX2_at_83 rfl (lv_at hl 2 rfl) ?_
                refine va_get (D := D) (ci := 2) (v := .ref (b_v Y)) (C := RX2) (T := TX2) (N := 6) hx hb hts hi2 hown hK hM 0 rfl rfl 5 (by decide) (hts (.fieldLink RX2 20 "RingSeriesModel" "values" "[I") (by decide +kernel)) (fun _ h9 => h9) rfl dX2_at_84 ?_
                refine lv_iload_n hx hb dX2_at_87 rfl (lv_at hl 1 rfl) ?_
                refine ald_i (j := j) hx hb hK hM 4 0 rfl rfl (by omega) (by omega) dX2_at_88 ?_
                refine lv_i2l hx hb dX2_at_89 rfl ?_
                refine lv_lsub hx hb dX2_at_90 ?_
                refine lv_lstore (lv' := [(4, .long (((m_V q (j + 1)).toInt64) - ((m_V q j).toInt64))), (3, .int (nI j)), (0, .ref (b_o Y)), (1, .int t), (2, .int sw)]) hx hb dX2_at_91 hl (by decide) rfl (fun ls hl => ?_)
                refine lv_iload_n hx hb dX2_at_93 rfl (lv_at hl 3 rfl) ?_
                refine lv_i2l hx hb dX2_at_94 rfl ?_
                refine lv_aload_n hx hb dX2_at_95 rfl (lv_at hl 2 rfl) ?_
                refine va_get (D := D) (ci := 2) (v := .ref (b_t Y)) (C := RX2) (T := TX2) (N := 6) hx hb hts hi2 hown hK hM 0 rfl rfl 4 (by decide) (hts (.fieldLink RX2 17 "RingSeriesModel" "times" "[I") (by decide +kernel)) (fun _ h9 => h9) rfl dX2_at_96 ?_
                refine lv_iload_n hx hb dX2_at_99 rfl (lv_at hl 1 rfl) ?_
                refine ald_i (j := j) hx hb hK hM 3 0 rfl rfl (by omega) (by omega) dX2_at_100 ?_
                refine lv_i2l hx hb dX2_at_101 rfl ?_
                refine lv_lsub hx hb dX2_at_102 ?_
                refine lv_lstore (lv' := [(6, .long (((t).toInt64) - ((nI (m_T q j)).toInt64))), (4, .long (((m_V q (j + 1)).toInt64) - ((m_V q j).toInt64))), (3, .int (nI j)), (0, .ref (b_o Y)), (1, .int t), (2, .int sw)]) hx hb dX2_at_103 hl (by decide) rfl (fun ls hl => ?_)
                refine lv_aload_n hx hb dX2_at_105 rfl (lv_at hl 3 rfl) ?_
                refine va_get (D := D) (ci := 2) (v := .ref (b_v Y)) (C := RX2) (T := TX2) (N := 6) hx hb hts hi2 hown hK hM 0 rfl rfl 5 (by decide) (hts (.fieldLink RX2 20 "RingSeriesModel" "values" "[I") (by decide +kernel)) (fun _ h9 => h9) rfl dX2_at_106 ?_
                refine lv_iload_n hx hb dX2_at_109 rfl (lv_at hl 2 rfl) ?_
                refine ald_i (j := j) hx hb hK hM 4 0 rfl rfl (by omega) (by omega) dX2_at_110 ?_
                refine lv_i2l hx hb dX2_at_111 rfl ?_
                refine lv_lload hx hb dX2_at_112 (lv_at hl 1 rfl) ?_
                refine lv_lload hx hb dX2_at_114 (lv_at hl 0 rfl) ?_
                refine lv_lmul hx hb dX2_at_116 ?_
                refine lv_aload_n hx hb dX2_at_117 rfl (lv_at hl 3 rfl) ?_
                refine va_get (D := D) (ci := 2) (v := .ref (b_t Y)) (C := RX2) (T := TX2) (N := 6) hx hb hts hi2 hown hK hM 0 rfl rfl 4 (by decide) (hts (.fieldLink RX2 17 "RingSeriesModel" "times" "[I") (by decide +kernel)) (fun _ h9 => h9) rfl dX2_at_118 ?_
                refine lv_iload_n hx hb dX2_at_121 rfl (lv_at hl 2 rfl) ?_
                refine lv_iconst (v := 1) hx hb dX2_at_122 (by decide) ?_
                refine lv_iadd hx hb dX2_at_123 ?_
                refine top_i (nI_add _ 1) ?_
                refine ald_i (j := (j + 1)) hx hb hK hM 3 0 rfl rfl (by omega) (by omega) dX2_at_124 ?_
                refine lv_aload_n hx hb dX2_at_125 rfl (lv_at hl 3 rfl) ?_
                refine va_get (D := D) (ci := 2) (v := .ref (b_t Y)) (C := RX2) (T := TX2) (N := 6) hx hb hts hi2 hown hK hM 0 rfl rfl 4 (by decide) (hts (.fieldLink RX2 17 "RingSeriesModel" "times" "[I") (by decide +kernel)) (fun _ h9 => h9) rfl dX2_at_126 ?_
                refine lv_iload_n hx hb dX2_at_129 rfl (lv_at hl 2 rfl) ?_
                refine ald_i (j := j) hx hb hK hM 3 0 rfl rfl (by omega) (by omega) dX2_at_130 ?_
                refine lv_isub hx hb dX2_at_131 ?_
                refine lv_i2l hx hb dX2_at_132 rfl ?_
                refine lv_ldiv hx hb dX2_at_133 (hne j (by omega)) ?_
                refine lv_ladd hx hb dX2_at_134 ?_
                refine lv_l2i hx hb dX2_at_135 rfl ?_
                exact ro_iret hx hb hr (by unfold atM; rw [h9, if_neg (nI_pos (by omega)), nI_clamp (by omega), if_neg (fun z => z.elim c_54 (fun z => c_64 ((nI_eq (by omega) (by omega)).mp z)))]) dX2_at_136 hlocks
              · have c_64 := (nI_eq (a := j) (b := (m_P q) - 1) (by omega) (by omega)).mp c_64
                refine lv_aload_n hx hb dX2_at_67 rfl (lv_at hl 2 rfl) ?_
                refine va_get (D := D) (ci := 2) (v := .ref (b_v Y)) (C := RX2) (T := TX2) (N := 6) hx hb hts hi2 hown hK hM 0 rfl rfl 5 (by decide) (hts (.fieldLink RX2 20 "RingSeriesModel" "values" "[I") (by decide +kernel)) (fun _ h9 => h9) rfl dX2_at_68 ?_
                refine lv_iload_n hx hb dX2_at_71 rfl (lv_at hl 1 rfl) ?_
                refine ald_i (j := j) hx hb hK hM 4 0 rfl rfl (by omega) (by omega) dX2_at_72 ?_
                exact ro_iret hx hb hr (by unfold atM; rw [h9, if_neg (nI_pos (by omega)), nI_clamp (by omega), if_pos (Or.inr (by rw [c_64]))]) dX2_at_73 hlocks
          · exact absurd (nI_pos' (by omega)) c_48
      · have c_20 := mt (nI_leI (a := m_P q) (b := p0) (by omega) (by omega)).mpr c_20
        exact absurd c_20 (by omega)
    | succ n ih =>
      intro p0 d0 ls hi hl
      refine lv_iload hx hb dX2_at_14 (lv_at hl 0 rfl) ?_
      refine lv_aload_n hx hb dX2_at_16 rfl (lv_at hl 2 rfl) ?_
      refine va_get (D := D) (ci := 2) (v := .int (nI (m_P q))) (C := RX2) (T := TX2) (N := 6) hx hb hts hi2 hown hK hM 0 rfl rfl 3 (by decide) (hts (.fieldLink RX2 32 "RingSeriesModel" "points" "I") (by decide +kernel)) (fun _ h9 => h9) rfl dX2_at_17 ?_
      refine lv_icmp_ge (tgt := 47) hx hb dX2_at_20 (by decide) (fun c_20 => ?_) (fun c_20 => ?_)
      · have c_20 := (nI_leI (a := m_P q) (b := p0) (by omega) (by omega)).mp c_20
        exact absurd c_20 (by omega)
      · have c_20 := mt (nI_leI (a := m_P q) (b := p0) (by omega) (by omega)).mpr c_20
        refine lv_aload_n hx hb dX2_at_23 rfl (lv_at hl 2 rfl) ?_
        refine va_get (D := D) (ci := 2) (v := .ref (b_t Y)) (C := RX2) (T := TX2) (N := 6) hx hb hts hi2 hown hK hM 0 rfl rfl 4 (by decide) (hts (.fieldLink RX2 17 "RingSeriesModel" "times" "[I") (by decide +kernel)) (fun _ h9 => h9) rfl dX2_at_24 ?_
        refine lv_iload hx hb dX2_at_27 (lv_at hl 0 rfl) ?_
        refine ald_i (j := p0) hx hb hK hM 3 0 rfl rfl (by omega) (by omega) dX2_at_29 ?_
        refine lv_iload_n hx hb dX2_at_30 rfl (lv_at hl 3 rfl) ?_
        refine lv_icmp_gt (tgt := 39) hx hb dX2_at_31 (by decide) (fun c_31 => ?_) (fun c_31 => ?_)
        · refine lv_iload_n hx hb dX2_at_39 rfl (lv_at hl 1 rfl) ?_
          refine lv_istore_n (lv' := [(3, .int (atq q t (m_P q - kp q 0) d0)), (4, .int (nI p0)), (0, .ref (b_o Y)), (1, .int t), (2, .int sw)]) hx hb dX2_at_40 rfl hl (by decide) rfl (fun ls hl => ?_)
          refine lv_iinc (v := nI (p0 + 1)) (lv' := [(4, .int (nI (p0 + 1))), (3, .int (atq q t (m_P q - kp q 0) d0)), (0, .ref (b_o Y)), (1, .int t), (2, .int sw)]) hx hb dX2_at_41 hl (k := 1) rfl (inc1 _) (by decide) rfl (fun ls hl => ?_)
          refine lv_goto (tgt := 14) hx hb dX2_at_44 (by decide) ?_
          have e9 : atq q t (m_P q - kp q 0) (d0 + 1) = atq q t (m_P q - kp q 0) d0 := by rw [atq, show m_P q - kp q 0 + d0 = p0 by omega, if_pos c_31]
          exact ih (p0 + 1) (d0 + 1) ls (by omega) (by rw [e9]; exact (lv_sub hl [0, 1, 2, 3, 4] rfl))
        · refine lv_iload hx hb dX2_at_34 (lv_at hl 0 rfl) ?_
          refine lv_goto (tgt := 40) hx hb dX2_at_36 (by decide) ?_
          refine lv_istore_n (lv' := [(3, .int (nI p0)), (4, .int (nI p0)), (0, .ref (b_o Y)), (1, .int t), (2, .int sw)]) hx hb dX2_at_40 rfl hl (by decide) rfl (fun ls hl => ?_)
          refine lv_iinc (v := nI (p0 + 1)) (lv' := [(4, .int (nI (p0 + 1))), (3, .int (nI p0)), (0, .ref (b_o Y)), (1, .int t), (2, .int sw)]) hx hb dX2_at_41 hl (k := 1) rfl (inc1 _) (by decide) rfl (fun ls hl => ?_)
          refine lv_goto (tgt := 14) hx hb dX2_at_44 (by decide) ?_
          have e9 : atq q t (m_P q - kp q 0) (d0 + 1) = nI p0 := by rw [atq, show m_P q - kp q 0 + d0 = p0 by omega, if_neg c_31]
          exact ih (p0 + 1) (d0 + 1) ls (by omega) (by rw [e9]; exact (lv_sub hl [0, 1, 2, 3, 4] rfl))
  refine lv_iconst (v := (-1)) hx hb dX2_at_0 (by decide) ?_
  refine lv_istore_n (lv' := [(3, .int (-1)), (0, .ref (b_o Y)), (1, .int t), (2, .int sw)]) hx hb dX2_at_1 rfl hl (by decide) rfl (fun ls hl => ?_)
  refine lv_aload_n hx hb dX2_at_2 rfl (lv_at hl 1 rfl) ?_
  refine va_get (D := D) (ci := 2) (v := .int (nI (m_P q))) (C := RX2) (T := TX2) (N := 6) hx hb hts hi2 hown hK hM 0 rfl rfl 3 (by decide) (hts (.fieldLink RX2 32 "RingSeriesModel" "points" "I") (by decide +kernel)) (fun _ h9 => h9) rfl dX2_at_3 ?_
  refine lv_aload_n hx hb dX2_at_6 rfl (lv_at hl 1 rfl) ?_
  refine lv_iconst (v := 0) hx hb dX2_at_7 (by decide) ?_
  refine ro_call (va_runV (As := [.int 0]) (rest := [.int (nI (m_P q))]) ⟨hx, hb, hml, hown, hts⟩ (c_X2_kept l Y q hm hM 0 (by omega)) (cwV 1 hts gX2_at_X2_kept rfl rfl rfl (by decide +kernel) ⟨Nat.le_of_ble_eq_true rfl, Nat.le_of_ble_eq_true rfl⟩) (ro_preV hK (va_recv hK hM (ci := 2) (q0 := 0) rfl rfl)) rfl rfl hl.1 rfl (lv_room (Nat.le_of_ble_eq_true rfl)) dX2_at_8 ⟨Nat.zero_le _, Nat.zero_le _⟩) ?_
  refine lv_isub hx hb dX2_at_11 ?_
  refine top_i (pk_sub (a := m_P q) (b := kp q 0) (by omega)) ?_
  refine lv_istore (lv' := [(4, .int (nI ((m_P q) - (kp q 0)))), (3, .int (-1)), (0, .ref (b_o Y)), (1, .int t), (2, .int sw)]) hx hb dX2_at_12 hl (by decide) rfl (fun ls hl => ?_)
  exact loop (kp q 0) (m_P q - kp q 0) 0 ls (by omega) (lv_sub hl [0, 1, 2, 3, 4] rfl)
set_option maxHeartbeats 4000000 in
set_option maxRecDepth 100000 in
/-- steepest(from, to) -/
theorem c_X2_steepest (l : Launch) {D : va_G} {cI cA cJ : ClassId} {H : Heap} (Y : mA) (q : mv) (hm : m_ok q) (hM : va_P D vwCl (mW cI cJ Y q) H) (f t : Int32) : Met l yX2_steepest wsX2_steepest ({ frames := 4, cells := 0, slots := 0, locals := 91 }) (ro_P D vwCl (tyL cI cA cJ) H [.ref (b_o Y), .int f, .int t]) (ro_Q (.int (spM q f t)) H) 0 0 ro_no := by
  refine Met.ofW (cc := cX2_steepest) (maxL := 10) (ret := (some .int)) (by decide) rfl ?_
  intro p e s m args below meth c s₁ B hml hv
  obtain ⟨rfl, hh, hK⟩ := hv
  subst hh
  have hx := B.exec
  have hb := B.bytes
  have hr := B.returns
  have hlocks := B.notSynchronized
  have hts := atoms_spec (ws := wsX2_steepest) B.pre
  have hown : s.vm.findClass RX2 = some m.cls := findClass_of_methodNamed B.named
  have hi2 : ∀ w ∈ wsX20, w ∈ wsX2_steepest := fun w h => List.mem_cons_of_mem _ (List.mem_append_right _ h)
  have hl := lv_entry ([.ref (b_o Y), .int f, .int t]) (n := 10) (Nat.le_of_ble_eq_true rfl)
  rw [lg_entry_eq]
  generalize (lg_sl ([.ref (b_o Y), .int f, .int t]) ++ List.replicate (10 - (lg_sl ([.ref (b_o Y), .int f, .int t])).length) Slot.unset).toArray = ls at hl ⊢
  have hl : lv_has ls 10 [(0, .ref (b_o Y)), (1, .int f), (2, .int t)] := hl
  obtain ⟨hp, hT, hRW, hkn⟩ := id hm
  have w0 : kp q 0 ≤ ng q 0 (m_P q) := hkn 0 (by omega)
  have w6 := ng_le q 0 (m_P q)
  have loop : ∀ (n : Nat) (p0 : Nat) (ys : Int64) (bs : Int32) (ls : Array Slot), ((m_P q ≤ p0 ∧ n = 0) ∨ p0 + n = m_P q) ∧ m_P q - kp q 0 + 1 ≤ p0 ∧ p0 ≤ m_P q + 1 → spq q f t (m_P q - kp q 0) n p0 bs ys = spM q f t → lv_has ls 10 [(7, .int (nI p0)), (5, .long ys), (4, .int bs), (3, .int (nI (m_P q - kp q 0))), (0, .ref (b_o Y)), (1, .int f), (2, .int t)] → W p l e (headSpec wsX2_steepest ({ frames := 4, cells := 0, slots := 0, locals := 91 })).room s m ([.ref (b_o Y), .int f, .int t] : List Value).toArray below meth c s.heap [] 0 0 (MQ below (ro_Q (.int (spM q f t)) s.heap) ([.ref (b_o Y), .int f, .int t] : List Value).toArray s 0 0 ro_no) (F0 m 22 ls []) := by
    intro n
    induction n with
    | zero =>
      intro p0 ys bs ls hi hf hl
      refine lv_iload hx hb dX2_steepest_22 (lv_at hl 0 rfl) ?_
      refine lv_aload_n hx hb dX2_steepest_24 rfl (lv_at hl 4 rfl) ?_
      refine va_get (D := D) (ci := 2) (v := .int (nI (m_P q))) (C := RX2) (T := TX2) (N := 6) hx hb hts hi2 hown hK hM 0 rfl rfl 3 (by decide) (hts (.fieldLink RX2 32 "RingSeriesModel" "points" "I") (by decide +kernel)) (fun _ h9 => h9) rfl dX2_steepest_25 ?_
      refine lv_icmp_ge (tgt := 106) hx hb dX2_steepest_28 (by decide) (fun c_28 => ?_) (fun c_28 => ?_)
      · have c_28 := (nI_leI (a := m_P q) (b := p0) (by omega) (by omega)).mp c_28
        refine lv_iload hx hb dX2_steepest_106 (lv_at hl 2 rfl) ?_
        exact ro_iret hx hb hr (by rw [← hf]; rfl) dX2_steepest_108 hlocks
      · have c_28 := mt (nI_leI (a := m_P q) (b := p0) (by omega) (by omega)).mpr c_28
        exact absurd c_28 (by omega)
    | succ n ih =>
      intro p0 ys bs ls hi hf hl
      refine lv_iload hx hb dX2_steepest_22 (lv_at hl 0 rfl) ?_
      refine lv_aload_n hx hb dX2_steepest_24 rfl (lv_at hl 4 rfl) ?_
      refine va_get (D := D) (ci := 2) (v := .int (nI (m_P q))) (C := RX2) (T := TX2) (N := 6) hx hb hts hi2 hown hK hM 0 rfl rfl 3 (by decide) (hts (.fieldLink RX2 32 "RingSeriesModel" "points" "I") (by decide +kernel)) (fun _ h9 => h9) rfl dX2_steepest_25 ?_
      refine lv_icmp_ge (tgt := 106) hx hb dX2_steepest_28 (by decide) (fun c_28 => ?_) (fun c_28 => ?_)
      · have c_28 := (nI_leI (a := m_P q) (b := p0) (by omega) (by omega)).mp c_28
        exact absurd c_28 (by omega)
      · have c_28 := mt (nI_leI (a := m_P q) (b := p0) (by omega) (by omega)).mpr c_28
        refine lv_aload_n hx hb dX2_steepest_31 rfl (lv_at hl 4 rfl) ?_
        refine va_get (D := D) (ci := 2) (v := .ref (b_v Y)) (C := RX2) (T := TX2) (N := 6) hx hb hts hi2 hown hK hM 0 rfl rfl 5 (by decide) (hts (.fieldLink RX2 20 "RingSeriesModel" "values" "[I") (by decide +kernel)) (fun _ h9 => h9) rfl dX2_steepest_32 ?_
        refine lv_iload hx hb dX2_steepest_35 (lv_at hl 0 rfl) ?_
        refine ald_i (j := p0) hx hb hK hM 4 0 rfl rfl (by omega) (by omega) dX2_steepest_37 ?_
        refine lv_i2l hx hb dX2_steepest_38 rfl ?_
        refine lv_aload_n hx hb dX2_steepest_39 rfl (lv_at hl 4 rfl) ?_
        refine va_get (D := D) (ci := 2) (v := .ref (b_v Y)) (C := RX2) (T := TX2) (N := 6) hx hb hts hi2 hown hK hM 0 rfl rfl 5 (by decide) (hts (.fieldLink RX2 20 "RingSeriesModel" "values" "[I") (by decide +kernel)) (fun _ h9 => h9) rfl dX2_steepest_40 ?_
        refine lv_iload hx hb dX2_steepest_43 (lv_at hl 0 rfl) ?_
        refine lv_iconst (v := 1) hx hb dX2_steepest_45 (by decide) ?_
        refine lv_isub hx hb dX2_steepest_46 ?_
        refine top_i (pk_sub (a := p0) (b := 1) (by omega)) ?_
        refine ald_i (j := (p0 - 1)) hx hb hK hM 4 0 rfl rfl (by omega) (by omega) dX2_steepest_47 ?_
        refine lv_i2l hx hb dX2_steepest_48 rfl ?_
        refine lv_lsub hx hb dX2_steepest_49 ?_
        refine lv_lstore (lv' := [(8, .long (((m_V q p0).toInt64) - ((m_V q (p0 - 1)).toInt64))), (7, .int (nI p0)), (5, .long ys), (4, .int bs), (3, .int (nI (m_P q - kp q 0))), (0, .ref (b_o Y)), (1, .int f), (2, .int t)]) hx hb dX2_steepest_50 hl (by decide) rfl (fun ls hl => ?_)
        refine lv_aload_n hx hb dX2_steepest_52 rfl (lv_at hl 5 rfl) ?_
        refine lv_iload hx hb dX2_steepest_53 (lv_at hl 1 rfl) ?_
        refine lv_iconst (v := 1) hx hb dX2_steepest_55 (by decide) ?_
        refine lv_isub hx hb dX2_steepest_56 ?_
        refine top_i (pk_sub (a := p0) (b := 1) (by omega)) ?_
        refine lv_iload_n hx hb dX2_steepest_57 rfl (lv_at hl 6 rfl) ?_
        refine lv_iload_n hx hb dX2_steepest_58 rfl (lv_at hl 7 rfl) ?_
        refine ro_call (va_runV (As := [.int (nI (p0 - 1)), .int f, .int t]) (rest := []) ⟨hx, hb, hml, hown, hts⟩ (c_X2_isIn l Y q hm hM (p0 - 1) (by omega) f t) (cwV 3 hts gX2_steepest_X2_isIn rfl rfl rfl (by decide +kernel) ⟨Nat.le_of_ble_eq_true rfl, Nat.le_of_ble_eq_true rfl⟩) (ro_preV hK (va_recv hK hM (ci := 2) (q0 := 0) rfl rfl)) rfl rfl hl.1 rfl (lv_room (Nat.le_of_ble_eq_true rfl)) dX2_steepest_59 ⟨Nat.zero_le _, Nat.zero_le _⟩) ?_
        refine lv_if_eq (tgt := 100) hx hb dX2_steepest_62 (by decide) (fun c_62 => ?_) (fun c_62 => ?_)
        · have c_62 := bi_eq c_62
          refine lv_iinc (v := nI (p0 + 1)) (lv' := [(7, .int (nI (p0 + 1))), (8, .long (((m_V q p0).toInt64) - ((m_V q (p0 - 1)).toInt64))), (5, .long ys), (4, .int bs), (3, .int (nI (m_P q - kp q 0))), (0, .ref (b_o Y)), (1, .int f), (2, .int t)]) hx hb dX2_steepest_100 hl (k := 1) rfl (inc1 _) (by decide) rfl (fun ls hl => ?_)
          refine lv_goto (tgt := 22) hx hb dX2_steepest_103 (by decide) ?_
          exact ih (p0 + 1) _ _ ls (by omega) (by rw [← hf, spq, if_neg (fun z => c_62 z.1)]) (lv_sub hl [0, 2, 3, 4, 5, 6, 7] rfl)
        · have c_62 := bi_ne c_62
          refine lv_aload_n hx hb dX2_steepest_65 rfl (lv_at hl 5 rfl) ?_
          refine lv_iload hx hb dX2_steepest_66 (lv_at hl 1 rfl) ?_
          refine lv_iload_n hx hb dX2_steepest_68 rfl (lv_at hl 6 rfl) ?_
          refine lv_iload_n hx hb dX2_steepest_69 rfl (lv_at hl 7 rfl) ?_
          refine ro_call (va_runV (As := [.int (nI p0), .int f, .int t]) (rest := []) ⟨hx, hb, hml, hown, hts⟩ (c_X2_isIn l Y q hm hM p0 (by omega) f t) (cwV 3 hts gX2_steepest_X2_isIn rfl rfl rfl (by decide +kernel) ⟨Nat.le_of_ble_eq_true rfl, Nat.le_of_ble_eq_true rfl⟩) (ro_preV hK (va_recv hK hM (ci := 2) (q0 := 0) rfl rfl)) rfl rfl hl.1 rfl (lv_room (Nat.le_of_ble_eq_true rfl)) dX2_steepest_70 ⟨Nat.zero_le _, Nat.zero_le _⟩) ?_
          refine lv_if_eq (tgt := 100) hx hb dX2_steepest_73 (by decide) (fun c_73 => ?_) (fun c_73 => ?_)
          · have c_73 := bi_eq c_73
            refine lv_iinc (v := nI (p0 + 1)) (lv' := [(7, .int (nI (p0 + 1))), (8, .long (((m_V q p0).toInt64) - ((m_V q (p0 - 1)).toInt64))), (5, .long ys), (4, .int bs), (3, .int (nI (m_P q - kp q 0))), (0, .ref (b_o Y)), (1, .int f), (2, .int t)]) hx hb dX2_steepest_100 hl (k := 1) rfl (inc1 _) (by decide) rfl (fun ls hl => ?_)
            refine lv_goto (tgt := 22) hx hb dX2_steepest_103 (by decide) ?_
            exact ih (p0 + 1) _ _ ls (by omega) (by rw [← hf, spq, if_neg (fun z => c_73 z.2.1)]) (lv_sub hl [0, 2, 3, 4, 5, 6, 7] rfl)
          · have c_73 := bi_ne c_73
            refine lv_iload hx hb dX2_steepest_76 (lv_at hl 3 rfl) ?_
            refine lv_iconst (v := (-1)) hx hb dX2_steepest_78 (by decide) ?_
            refine lv_icmp_eq (tgt := 90) hx hb dX2_steepest_79 (by decide) (fun c_79 => ?_) (fun c_79 => ?_)
            · refine lv_iload hx hb dX2_steepest_90 (lv_at hl 1 rfl) ?_
              refine lv_iload_n hx hb dX2_steepest_92 rfl (lv_at hl 4 rfl) ?_
              refine lv_isub hx hb dX2_steepest_93 ?_
              refine top_i (pk_sub (a := p0) (b := m_P q - kp q 0) (by omega)) ?_
              refine lv_istore (lv' := [(4, .int (nI (p0 - (m_P q - kp q 0)))), (8, .long (((m_V q p0).toInt64) - ((m_V q (p0 - 1)).toInt64))), (7, .int (nI p0)), (5, .long ys), (3, .int (nI (m_P q - kp q 0))), (0, .ref (b_o Y)), (1, .int f), (2, .int t)]) hx hb dX2_steepest_94 hl (by decide) rfl (fun ls hl => ?_)
              refine lv_lload hx hb dX2_steepest_96 (lv_at hl 1 rfl) ?_
              refine lv_lstore (lv' := [(5, .long (((m_V q p0).toInt64) - ((m_V q (p0 - 1)).toInt64))), (4, .int (nI (p0 - (m_P q - kp q 0)))), (8, .long (((m_V q p0).toInt64) - ((m_V q (p0 - 1)).toInt64))), (7, .int (nI p0)), (3, .int (nI (m_P q - kp q 0))), (0, .ref (b_o Y)), (1, .int f), (2, .int t)]) hx hb dX2_steepest_98 hl (by decide) rfl (fun ls hl => ?_)
              refine lv_iinc (v := nI (p0 + 1)) (lv' := [(7, .int (nI (p0 + 1))), (5, .long (((m_V q p0).toInt64) - ((m_V q (p0 - 1)).toInt64))), (4, .int (nI (p0 - (m_P q - kp q 0)))), (8, .long (((m_V q p0).toInt64) - ((m_V q (p0 - 1)).toInt64))), (3, .int (nI (m_P q - kp q 0))), (0, .ref (b_o Y)), (1, .int f), (2, .int t)]) hx hb dX2_steepest_100 hl (k := 3) rfl (inc1 _) (by decide) rfl (fun ls hl => ?_)
              refine lv_goto (tgt := 22) hx hb dX2_steepest_103 (by decide) ?_
              exact ih (p0 + 1) _ _ ls (by omega) (by rw [← hf, spq, if_pos ⟨c_62, c_73, Or.inl c_79⟩]; rfl) (lv_sub hl [0, 1, 2, 4, 5, 6, 7] rfl)
            · refine lv_lload hx hb dX2_steepest_82 (lv_at hl 0 rfl) ?_
              refine lv_lload hx hb dX2_steepest_84 (lv_at hl 2 rfl) ?_
              refine W.lcmp hx hb dX2_steepest_86 ?_
              refine lv_if_le (tgt := 100) hx hb dX2_steepest_87 (by decide) (fun c_87 => ?_) (fun c_87 => ?_)
              · have c_87 := (lg_cmp_le _ _).mp c_87
                refine lv_iinc (v := nI (p0 + 1)) (lv' := [(7, .int (nI (p0 + 1))), (8, .long (((m_V q p0).toInt64) - ((m_V q (p0 - 1)).toInt64))), (5, .long ys), (4, .int bs), (3, .int (nI (m_P q - kp q 0))), (0, .ref (b_o Y)), (1, .int f), (2, .int t)]) hx hb dX2_steepest_100 hl (k := 1) rfl (inc1 _) (by decide) rfl (fun ls hl => ?_)
                refine lv_goto (tgt := 22) hx hb dX2_steepest_103 (by decide) ?_
                exact ih (p0 + 1) _ _ ls (by omega) (by rw [← hf, spq, if_neg (fun z => z.2.2.elim c_79 (fun z => Int64.not_lt.mpr c_87 z))]) (lv_sub hl [0, 2, 3, 4, 5, 6, 7] rfl)
              · have c_87 := mt (lg_cmp_le _ _).mpr c_87
                refine lv_iload hx hb dX2_steepest_90 (lv_at hl 1 rfl) ?_
                refine lv_iload_n hx hb dX2_steepest_92 rfl (lv_at hl 4 rfl) ?_
                refine lv_isub hx hb dX2_steepest_93 ?_
                refine top_i (pk_sub (a := p0) (b := m_P q - kp q 0) (by omega)) ?_
                refine lv_istore (lv' := [(4, .int (nI (p0 - (m_P q - kp q 0)))), (8, .long (((m_V q p0).toInt64) - ((m_V q (p0 - 1)).toInt64))), (7, .int (nI p0)), (5, .long ys), (3, .int (nI (m_P q - kp q 0))), (0, .ref (b_o Y)), (1, .int f), (2, .int t)]) hx hb dX2_steepest_94 hl (by decide) rfl (fun ls hl => ?_)
                refine lv_lload hx hb dX2_steepest_96 (lv_at hl 1 rfl) ?_
                refine lv_lstore (lv' := [(5, .long (((m_V q p0).toInt64) - ((m_V q (p0 - 1)).toInt64))), (4, .int (nI (p0 - (m_P q - kp q 0)))), (8, .long (((m_V q p0).toInt64) - ((m_V q (p0 - 1)).toInt64))), (7, .int (nI p0)), (3, .int (nI (m_P q - kp q 0))), (0, .ref (b_o Y)), (1, .int f), (2, .int t)]) hx hb dX2_steepest_98 hl (by decide) rfl (fun ls hl => ?_)
                refine lv_iinc (v := nI (p0 + 1)) (lv' := [(7, .int (nI (p0 + 1))), (5, .long (((m_V q p0).toInt64) - ((m_V q (p0 - 1)).toInt64))), (4, .int (nI (p0 - (m_P q - kp q 0)))), (8, .long (((m_V q p0).toInt64) - ((m_V q (p0 - 1)).toInt64))), (3, .int (nI (m_P q - kp q 0))), (0, .ref (b_o Y)), (1, .int f), (2, .int t)]) hx hb dX2_steepest_100 hl (k := 3) rfl (inc1 _) (by decide) rfl (fun ls hl => ?_)
                refine lv_goto (tgt := 22) hx hb dX2_steepest_103 (by decide) ?_
                exact ih (p0 + 1) _ _ ls (by omega) (by rw [← hf, spq, if_pos ⟨c_62, c_73, Or.inr (Int64.not_le.mp c_87)⟩]; rfl) (lv_sub hl [0, 1, 2, 4, 5, 6, 7] rfl)
  refine lv_aload_n hx hb dX2_steepest_0 rfl (lv_at hl 0 rfl) ?_
  refine va_get (D := D) (ci := 2) (v := .int (nI (m_P q))) (C := RX2) (T := TX2) (N := 6) hx hb hts hi2 hown hK hM 0 rfl rfl 3 (by decide) (hts (.fieldLink RX2 32 "RingSeriesModel" "points" "I") (by decide +kernel)) (fun _ h9 => h9) rfl dX2_steepest_1 ?_
  refine lv_aload_n hx hb dX2_steepest_4 rfl (lv_at hl 0 rfl) ?_
  refine lv_iconst (v := 0) hx hb dX2_steepest_5 (by decide) ?_
  refine ro_call (va_runV (As := [.int 0]) (rest := [.int (nI (m_P q))]) ⟨hx, hb, hml, hown, hts⟩ (c_X2_kept l Y q hm hM 0 (by omega)) (cwV 1 hts gX2_steepest_X2_kept rfl rfl rfl (by decide +kernel) ⟨Nat.le_of_ble_eq_true rfl, Nat.le_of_ble_eq_true rfl⟩) (ro_preV hK (va_recv hK hM (ci := 2) (q0 := 0) rfl rfl)) rfl rfl hl.1 rfl (lv_room (Nat.le_of_ble_eq_true rfl)) dX2_steepest_6 ⟨Nat.zero_le _, Nat.zero_le _⟩) ?_
  refine lv_isub hx hb dX2_steepest_9 ?_
  refine top_i (pk_sub (a := m_P q) (b := kp q 0) (by omega)) ?_
  refine lv_istore_n (lv' := [(3, .int (nI ((m_P q) - (kp q 0)))), (0, .ref (b_o Y)), (1, .int f), (2, .int t)]) hx hb dX2_steepest_10 rfl hl (by decide) rfl (fun ls hl => ?_)
  refine lv_iconst (v := (-1)) hx hb dX2_steepest_11 (by decide) ?_
  refine lv_istore (lv' := [(4, .int (-1)), (3, .int (nI ((m_P q) - (kp q 0)))), (0, .ref (b_o Y)), (1, .int f), (2, .int t)]) hx hb dX2_steepest_12 hl (by decide) rfl (fun ls hl => ?_)
  refine lv_lconst (v := 0) hx hb dX2_steepest_14 (by decide) ?_
  refine lv_lstore (lv' := [(5, .long 0), (4, .int (-1)), (3, .int (nI ((m_P q) - (kp q 0)))), (0, .ref (b_o Y)), (1, .int f), (2, .int t)]) hx hb dX2_steepest_15 hl (by decide) rfl (fun ls hl => ?_)
  refine lv_iload_n hx hb dX2_steepest_17 rfl (lv_at hl 2 rfl) ?_
  refine lv_iconst (v := 1) hx hb dX2_steepest_18 (by decide) ?_
  refine lv_iadd hx hb dX2_steepest_19 ?_
  refine top_i (nI_add _ 1) ?_
  refine lv_istore (lv' := [(7, .int (nI (((m_P q) - (kp q 0)) + 1))), (5, .long 0), (4, .int (-1)), (3, .int (nI ((m_P q) - (kp q 0)))), (0, .ref (b_o Y)), (1, .int f), (2, .int t)]) hx hb dX2_steepest_20 hl (by decide) rfl (fun ls hl => ?_)
  exact loop (kp q 0 - 1) (m_P q - kp q 0 + 1) 0 (-1) ls (by omega) rfl (lv_sub hl [0, 1, 2, 3, 4, 5, 6] rfl)
set_option maxHeartbeats 4000000 in
set_option maxRecDepth 100000 in
/-- median(from, to) -/
theorem c_X2_median (l : Launch) {D : va_G} {cI cA cJ : ClassId} {H : Heap} (Y : mA) (q : mv) (hm : m_ok q) (hM : va_P D vwCl (mW cI cJ Y q) H) (f t : Int32) : Met l yX2_median wsX2_median ({ frames := 5, cells := 0, slots := 0, locals := 115 }) (ro_P D vwCl (tyL cI cA cJ) H [.ref (b_o Y), .int f, .int t]) (ro_Q (.int (mdM q f t)) H) 0 0 ro_no := by
  refine Met.ofW (cc := cX2_median) (maxL := 8) (ret := (some .int)) (by decide) rfl ?_
  intro p e s m args below meth c s₁ B hml hv
  obtain ⟨rfl, hh, hK⟩ := hv
  subst hh
  have hx := B.exec
  have hb := B.bytes
  have hr := B.returns
  have hlocks := B.notSynchronized
  have hts := atoms_spec (ws := wsX2_median) B.pre
  have hown : s.vm.findClass RX2 = some m.cls := findClass_of_methodNamed B.named
  have hi2 : ∀ w ∈ wsX20, w ∈ wsX2_median := fun w h => List.mem_cons_of_mem _ (List.mem_append_right _ h)
  have hl := lv_entry ([.ref (b_o Y), .int f, .int t]) (n := 8) (Nat.le_of_ble_eq_true rfl)
  rw [lg_entry_eq]
  generalize (lg_sl ([.ref (b_o Y), .int f, .int t]) ++ List.replicate (8 - (lg_sl ([.ref (b_o Y), .int f, .int t])).length) Slot.unset).toArray = ls at hl ⊢
  have hl : lv_has ls 8 [(0, .ref (b_o Y)), (1, .int f), (2, .int t)] := hl
  obtain ⟨hp, hT, hRW, hkn⟩ := id hm
  have w0 : kp q 0 ≤ ng q 0 (m_P q) := hkn 0 (by omega)
  have w6 := ng_le q 0 (m_P q)
  have nq := mnc_le q f t (m_P q)
  by_cases hz : 0 < mnc q f t (m_P q)
  · have loop : ∀ (n : Nat) (p0 : Nat) (ls : Array Slot), p0 + n = m_P q → mdr q f t n p0 = mdM q f t → lv_has ls 8 [(4, .int (nI p0)), (3, .int (nI (mnc q f t (m_P q)))), (0, .ref (b_o Y)), (1, .int f), (2, .int t)] → W p l e (headSpec wsX2_median ({ frames := 5, cells := 0, slots := 0, locals := 115 })).room s m ([.ref (b_o Y), .int f, .int t] : List Value).toArray below meth c s.heap [] 0 0 (MQ below (ro_Q (.int (mdM q f t)) s.heap) ([.ref (b_o Y), .int f, .int t] : List Value).toArray s 0 0 ro_no) (F0 m 10 ls []) := by
      intro n
      induction n with
      | zero =>
        intro p0 ls hi hf hl
        refine lv_iload hx hb dX2_median_10 (lv_at hl 0 rfl) ?_
        refine lv_aload_n hx hb dX2_median_12 rfl (lv_at hl 2 rfl) ?_
        refine va_get (D := D) (ci := 2) (v := .int (nI (m_P q))) (C := RX2) (T := TX2) (N := 6) hx hb hts hi2 hown hK hM 0 rfl rfl 3 (by decide) (hts (.fieldLink RX2 32 "RingSeriesModel" "points" "I") (by decide +kernel)) (fun _ h9 => h9) rfl dX2_median_13 ?_
        refine lv_icmp_ge (tgt := 174) hx hb dX2_median_16 (by decide) (fun c_16 => ?_) (fun c_16 => ?_)
        · have c_16 := (nI_leI (a := m_P q) (b := p0) (by omega) (by omega)).mp c_16
          refine lv_iconst (v := 0) hx hb dX2_median_174 (by decide) ?_
          exact ro_iret hx hb hr (by rw [← hf]; rfl) dX2_median_175 hlocks
        · have c_16 := mt (nI_leI (a := m_P q) (b := p0) (by omega) (by omega)).mpr c_16
          exact absurd c_16 (by omega)
      | succ n ih =>
        intro p0 ls hi hf hl
        have inner : (∀ ls : Array Slot, lv_has ls 8 [(7, .int (nI (m_P q))), (6, .int (nI (eqv q f t (m_V q p0) (m_P q)))), (5, .int (nI (blw q f t (m_V q p0) (m_P q)))), (4, .int (nI p0)), (3, .int (nI (mnc q f t (m_P q)))), (0, .ref (b_o Y)), (1, .int f), (2, .int t)] → W p l e (headSpec wsX2_median ({ frames := 5, cells := 0, slots := 0, locals := 115 })).room s m ([.ref (b_o Y), .int f, .int t] : List Value).toArray below meth c s.heap [] 0 0 (MQ below (ro_Q (.int (mdM q f t)) s.heap) ([.ref (b_o Y), .int f, .int t] : List Value).toArray s 0 0 ro_no) (F0 m 125 ls [])) → ∀ (n2 y : Nat) (ls : Array Slot), y + n2 = m_P q → lv_has ls 8 [(7, .int (nI y)), (6, .int (nI (eqv q f t (m_V q p0) y))), (5, .int (nI (blw q f t (m_V q p0) y))), (4, .int (nI p0)), (3, .int (nI (mnc q f t (m_P q)))), (0, .ref (b_o Y)), (1, .int f), (2, .int t)] → W p l e (headSpec wsX2_median ({ frames := 5, cells := 0, slots := 0, locals := 115 })).room s m ([.ref (b_o Y), .int f, .int t] : List Value).toArray below meth c s.heap [] 0 0 (MQ below (ro_Q (.int (mdM q f t)) s.heap) ([.ref (b_o Y), .int f, .int t] : List Value).toArray s 0 0 ro_no) (F0 m 32 ls []) := by
          intro kk n2
          induction n2 with
          | zero =>
            intro y ls hy2 hl
            have g0 := blw_le q f t (m_V q p0) y
            have g1 := eqv_le q f t (m_V q p0) y
            refine lv_iload hx hb dX2_median_32 (lv_at hl 0 rfl) ?_
            refine lv_aload_n hx hb dX2_median_34 rfl (lv_at hl 5 rfl) ?_
            refine va_get (D := D) (ci := 2) (v := .int (nI (m_P q))) (C := RX2) (T := TX2) (N := 6) hx hb hts hi2 hown hK hM 0 rfl rfl 3 (by decide) (hts (.fieldLink RX2 32 "RingSeriesModel" "points" "I") (by decide +kernel)) (fun _ h9 => h9) rfl dX2_median_35 ?_
            refine lv_icmp_ge (tgt := 125) hx hb dX2_median_38 (by decide) (fun c_38 => ?_) (fun c_38 => ?_)
            · have c_38 := (nI_leI (a := m_P q) (b := y) (by omega) (by omega)).mp c_38
              exact kk ls (by rw [show y = m_P q by omega] at hl; exact (lv_sub hl [0, 1, 2, 3, 4, 5, 6, 7] rfl))
            · have c_38 := mt (nI_leI (a := m_P q) (b := y) (by omega) (by omega)).mpr c_38
              exact absurd c_38 (by omega)
          | succ n2 ih2 =>
            intro y ls hy2 hl
            have g0 := blw_le q f t (m_V q p0) y
            have g1 := eqv_le q f t (m_V q p0) y
            refine lv_iload hx hb dX2_median_32 (lv_at hl 0 rfl) ?_
            refine lv_aload_n hx hb dX2_median_34 rfl (lv_at hl 5 rfl) ?_
            refine va_get (D := D) (ci := 2) (v := .int (nI (m_P q))) (C := RX2) (T := TX2) (N := 6) hx hb hts hi2 hown hK hM 0 rfl rfl 3 (by decide) (hts (.fieldLink RX2 32 "RingSeriesModel" "points" "I") (by decide +kernel)) (fun _ h9 => h9) rfl dX2_median_35 ?_
            refine lv_icmp_ge (tgt := 125) hx hb dX2_median_38 (by decide) (fun c_38 => ?_) (fun c_38 => ?_)
            · have c_38 := (nI_leI (a := m_P q) (b := y) (by omega) (by omega)).mp c_38
              exact absurd c_38 (by omega)
            · have c_38 := mt (nI_leI (a := m_P q) (b := y) (by omega) (by omega)).mpr c_38
              refine lv_aload_n hx hb dX2_median_41 rfl (lv_at hl 5 rfl) ?_
              refine lv_iload hx hb dX2_median_42 (lv_at hl 0 rfl) ?_
              refine lv_iload_n hx hb dX2_median_44 rfl (lv_at hl 6 rfl) ?_
              refine lv_iload_n hx hb dX2_median_45 rfl (lv_at hl 7 rfl) ?_
              refine ro_call (va_runV (As := [.int (nI y), .int f, .int t]) (rest := []) ⟨hx, hb, hml, hown, hts⟩ (c_X2_isIn l Y q hm hM y (by omega) f t) (cwV 3 hts gX2_median_X2_isIn rfl rfl rfl (by decide +kernel) ⟨Nat.le_of_ble_eq_true rfl, Nat.le_of_ble_eq_true rfl⟩) (ro_preV hK (va_recv hK hM (ci := 2) (q0 := 0) rfl rfl)) rfl rfl hl.1 rfl (lv_room (Nat.le_of_ble_eq_true rfl)) dX2_median_46 ⟨Nat.zero_le _, Nat.zero_le _⟩) ?_
              refine lv_if_eq (tgt := 76) hx hb dX2_median_49 (by decide) (fun c_49 => ?_) (fun c_49 => ?_)
              · have c_49 := bi_eq c_49
                refine lv_iload hx hb dX2_median_76 (lv_at hl 2 rfl) ?_
                refine lv_istore (lv' := [(5, .int (nI (blw q f t (m_V q p0) y))), (7, .int (nI y)), (6, .int (nI (eqv q f t (m_V q p0) y))), (4, .int (nI p0)), (3, .int (nI (mnc q f t (m_P q)))), (0, .ref (b_o Y)), (1, .int f), (2, .int t)]) hx hb dX2_median_78 hl (by decide) rfl (fun ls hl => ?_)
                refine lv_aload_n hx hb dX2_median_80 rfl (lv_at hl 5 rfl) ?_
                refine lv_iload hx hb dX2_median_81 (lv_at hl 1 rfl) ?_
                refine lv_iload_n hx hb dX2_median_83 rfl (lv_at hl 6 rfl) ?_
                refine lv_iload_n hx hb dX2_median_84 rfl (lv_at hl 7 rfl) ?_
                refine ro_call (va_runV (As := [.int (nI y), .int f, .int t]) (rest := []) ⟨hx, hb, hml, hown, hts⟩ (c_X2_isIn l Y q hm hM y (by omega) f t) (cwV 3 hts gX2_median_X2_isIn rfl rfl rfl (by decide +kernel) ⟨Nat.le_of_ble_eq_true rfl, Nat.le_of_ble_eq_true rfl⟩) (ro_preV hK (va_recv hK hM (ci := 2) (q0 := 0) rfl rfl)) rfl rfl hl.1 rfl (lv_room (Nat.le_of_ble_eq_true rfl)) dX2_median_85 ⟨Nat.zero_le _, Nat.zero_le _⟩) ?_
                refine lv_if_eq (tgt := 115) hx hb dX2_median_88 (by decide) (fun c_88 => ?_) (fun c_88 => ?_)
                · have c_88 := bi_eq c_88
                  refine lv_iload hx hb dX2_median_115 (lv_at hl 2 rfl) ?_
                  refine lv_istore (lv' := [(6, .int (nI (eqv q f t (m_V q p0) y))), (5, .int (nI (blw q f t (m_V q p0) y))), (7, .int (nI y)), (4, .int (nI p0)), (3, .int (nI (mnc q f t (m_P q)))), (0, .ref (b_o Y)), (1, .int f), (2, .int t)]) hx hb dX2_median_117 hl (by decide) rfl (fun ls hl => ?_)
                  refine lv_iinc (v := nI (y + 1)) (lv' := [(7, .int (nI (y + 1))), (6, .int (nI (eqv q f t (m_V q p0) y))), (5, .int (nI (blw q f t (m_V q p0) y))), (4, .int (nI p0)), (3, .int (nI (mnc q f t (m_P q)))), (0, .ref (b_o Y)), (1, .int f), (2, .int t)]) hx hb dX2_median_119 hl (k := 2) rfl (inc1 _) (by decide) rfl (fun ls hl => ?_)
                  refine lv_goto (tgt := 32) hx hb dX2_median_122 (by decide) ?_
                  have e5 : blw q f t (m_V q p0) (y + 1) = blw q f t (m_V q p0) y := by rw [blw, if_neg (fun z => c_49 z.1)]
                  have e6 : eqv q f t (m_V q p0) (y + 1) = eqv q f t (m_V q p0) y := by rw [eqv, if_neg (fun z => c_88 z.1)]
                  exact ih2 (y + 1) ls (by omega) (by rw [e5, e6]; exact (lv_sub hl [0, 1, 2, 3, 4, 5, 6, 7] rfl))
                · have c_88 := bi_ne c_88
                  refine lv_aload_n hx hb dX2_median_91 rfl (lv_at hl 5 rfl) ?_
                  refine va_get (D := D) (ci := 2) (v := .ref (b_v Y)) (C := RX2) (T := TX2) (N := 6) hx hb hts hi2 hown hK hM 0 rfl rfl 5 (by decide) (hts (.fieldLink RX2 20 "RingSeriesModel" "values" "[I") (by decide +kernel)) (fun _ h9 => h9) rfl dX2_median_92 ?_
                  refine lv_iload hx hb dX2_median_95 (lv_at hl 1 rfl) ?_
                  refine ald_i (j := y) hx hb hK hM 4 0 rfl rfl (by omega) (by omega) dX2_median_97 ?_
                  refine lv_aload_n hx hb dX2_median_98 rfl (lv_at hl 5 rfl) ?_
                  refine va_get (D := D) (ci := 2) (v := .ref (b_v Y)) (C := RX2) (T := TX2) (N := 6) hx hb hts hi2 hown hK hM 0 rfl rfl 5 (by decide) (hts (.fieldLink RX2 20 "RingSeriesModel" "values" "[I") (by decide +kernel)) (fun _ h9 => h9) rfl dX2_median_99 ?_
                  refine lv_iload hx hb dX2_median_102 (lv_at hl 3 rfl) ?_
                  refine ald_i (j := p0) hx hb hK hM 4 0 rfl rfl (by omega) (by omega) dX2_median_104 ?_
                  refine lv_icmp_ne (tgt := 115) hx hb dX2_median_105 (by decide) (fun c_105 => ?_) (fun c_105 => ?_)
                  · refine lv_iload hx hb dX2_median_115 (lv_at hl 2 rfl) ?_
                    refine lv_istore (lv' := [(6, .int (nI (eqv q f t (m_V q p0) y))), (5, .int (nI (blw q f t (m_V q p0) y))), (7, .int (nI y)), (4, .int (nI p0)), (3, .int (nI (mnc q f t (m_P q)))), (0, .ref (b_o Y)), (1, .int f), (2, .int t)]) hx hb dX2_median_117 hl (by decide) rfl (fun ls hl => ?_)
                    refine lv_iinc (v := nI (y + 1)) (lv' := [(7, .int (nI (y + 1))), (6, .int (nI (eqv q f t (m_V q p0) y))), (5, .int (nI (blw q f t (m_V q p0) y))), (4, .int (nI p0)), (3, .int (nI (mnc q f t (m_P q)))), (0, .ref (b_o Y)), (1, .int f), (2, .int t)]) hx hb dX2_median_119 hl (k := 2) rfl (inc1 _) (by decide) rfl (fun ls hl => ?_)
                    refine lv_goto (tgt := 32) hx hb dX2_median_122 (by decide) ?_
                    have e5 : blw q f t (m_V q p0) (y + 1) = blw q f t (m_V q p0) y := by rw [blw, if_neg (fun z => c_49 z.1)]
                    have e6 : eqv q f t (m_V q p0) (y + 1) = eqv q f t (m_V q p0) y := by rw [eqv, if_neg (fun z => c_105 z.2)]
                    exact ih2 (y + 1) ls (by omega) (by rw [e5, e6]; exact (lv_sub hl [0, 1, 2, 3, 4, 5, 6, 7] rfl))
                  · refine lv_iload hx hb dX2_median_108 (lv_at hl 2 rfl) ?_
                    refine lv_iconst (v := 1) hx hb dX2_median_110 (by decide) ?_
                    refine lv_iadd hx hb dX2_median_111 ?_
                    refine top_i (nI_add _ 1) ?_
                    refine lv_goto (tgt := 117) hx hb dX2_median_112 (by decide) ?_
                    refine lv_istore (lv' := [(6, .int (nI ((eqv q f t (m_V q p0) y) + 1))), (5, .int (nI (blw q f t (m_V q p0) y))), (7, .int (nI y)), (4, .int (nI p0)), (3, .int (nI (mnc q f t (m_P q)))), (0, .ref (b_o Y)), (1, .int f), (2, .int t)]) hx hb dX2_median_117 hl (by decide) rfl (fun ls hl => ?_)
                    refine lv_iinc (v := nI (y + 1)) (lv' := [(7, .int (nI (y + 1))), (6, .int (nI ((eqv q f t (m_V q p0) y) + 1))), (5, .int (nI (blw q f t (m_V q p0) y))), (4, .int (nI p0)), (3, .int (nI (mnc q f t (m_P q)))), (0, .ref (b_o Y)), (1, .int f), (2, .int t)]) hx hb dX2_median_119 hl (k := 2) rfl (inc1 _) (by decide) rfl (fun ls hl => ?_)
                    refine lv_goto (tgt := 32) hx hb dX2_median_122 (by decide) ?_
                    have e5 : blw q f t (m_V q p0) (y + 1) = blw q f t (m_V q p0) y := by rw [blw, if_neg (fun z => c_49 z.1)]
                    have e6 : eqv q f t (m_V q p0) (y + 1) = (eqv q f t (m_V q p0) y) + 1 := by rw [eqv, if_pos ⟨c_88, c_105⟩]
                    exact ih2 (y + 1) ls (by omega) (by rw [e5, e6]; exact (lv_sub hl [0, 1, 2, 3, 4, 5, 6, 7] rfl))
              · have c_49 := bi_ne c_49
                refine lv_aload_n hx hb dX2_median_52 rfl (lv_at hl 5 rfl) ?_
                refine va_get (D := D) (ci := 2) (v := .ref (b_v Y)) (C := RX2) (T := TX2) (N := 6) hx hb hts hi2 hown hK hM 0 rfl rfl 5 (by decide) (hts (.fieldLink RX2 20 "RingSeriesModel" "values" "[I") (by decide +kernel)) (fun _ h9 => h9) rfl dX2_median_53 ?_
                refine lv_iload hx hb dX2_median_56 (lv_at hl 0 rfl) ?_
                refine ald_i (j := y) hx hb hK hM 4 0 rfl rfl (by omega) (by omega) dX2_median_58 ?_
                refine lv_aload_n hx hb dX2_median_59 rfl (lv_at hl 5 rfl) ?_
                refine va_get (D := D) (ci := 2) (v := .ref (b_v Y)) (C := RX2) (T := TX2) (N := 6) hx hb hts hi2 hown hK hM 0 rfl rfl 5 (by decide) (hts (.fieldLink RX2 20 "RingSeriesModel" "values" "[I") (by decide +kernel)) (fun _ h9 => h9) rfl dX2_median_60 ?_
                refine lv_iload hx hb dX2_median_63 (lv_at hl 3 rfl) ?_
                refine ald_i (j := p0) hx hb hK hM 4 0 rfl rfl (by omega) (by omega) dX2_median_65 ?_
                refine lv_icmp_ge (tgt := 76) hx hb dX2_median_66 (by decide) (fun c_66 => ?_) (fun c_66 => ?_)
                · refine lv_iload hx hb dX2_median_76 (lv_at hl 2 rfl) ?_
                  refine lv_istore (lv' := [(5, .int (nI (blw q f t (m_V q p0) y))), (7, .int (nI y)), (6, .int (nI (eqv q f t (m_V q p0) y))), (4, .int (nI p0)), (3, .int (nI (mnc q f t (m_P q)))), (0, .ref (b_o Y)), (1, .int f), (2, .int t)]) hx hb dX2_median_78 hl (by decide) rfl (fun ls hl => ?_)
                  refine lv_aload_n hx hb dX2_median_80 rfl (lv_at hl 5 rfl) ?_
                  refine lv_iload hx hb dX2_median_81 (lv_at hl 1 rfl) ?_
                  refine lv_iload_n hx hb dX2_median_83 rfl (lv_at hl 6 rfl) ?_
                  refine lv_iload_n hx hb dX2_median_84 rfl (lv_at hl 7 rfl) ?_
                  refine ro_call (va_runV (As := [.int (nI y), .int f, .int t]) (rest := []) ⟨hx, hb, hml, hown, hts⟩ (c_X2_isIn l Y q hm hM y (by omega) f t) (cwV 3 hts gX2_median_X2_isIn rfl rfl rfl (by decide +kernel) ⟨Nat.le_of_ble_eq_true rfl, Nat.le_of_ble_eq_true rfl⟩) (ro_preV hK (va_recv hK hM (ci := 2) (q0 := 0) rfl rfl)) rfl rfl hl.1 rfl (lv_room (Nat.le_of_ble_eq_true rfl)) dX2_median_85 ⟨Nat.zero_le _, Nat.zero_le _⟩) ?_
                  refine lv_if_eq (tgt := 115) hx hb dX2_median_88 (by decide) (fun c_88 => ?_) (fun c_88 => ?_)
                  · have c_88 := bi_eq c_88
                    refine lv_iload hx hb dX2_median_115 (lv_at hl 2 rfl) ?_
                    refine lv_istore (lv' := [(6, .int (nI (eqv q f t (m_V q p0) y))), (5, .int (nI (blw q f t (m_V q p0) y))), (7, .int (nI y)), (4, .int (nI p0)), (3, .int (nI (mnc q f t (m_P q)))), (0, .ref (b_o Y)), (1, .int f), (2, .int t)]) hx hb dX2_median_117 hl (by decide) rfl (fun ls hl => ?_)
                    refine lv_iinc (v := nI (y + 1)) (lv' := [(7, .int (nI (y + 1))), (6, .int (nI (eqv q f t (m_V q p0) y))), (5, .int (nI (blw q f t (m_V q p0) y))), (4, .int (nI p0)), (3, .int (nI (mnc q f t (m_P q)))), (0, .ref (b_o Y)), (1, .int f), (2, .int t)]) hx hb dX2_median_119 hl (k := 2) rfl (inc1 _) (by decide) rfl (fun ls hl => ?_)
                    refine lv_goto (tgt := 32) hx hb dX2_median_122 (by decide) ?_
                    have e5 : blw q f t (m_V q p0) (y + 1) = blw q f t (m_V q p0) y := by rw [blw, if_neg (fun z => Int32.not_lt.mpr c_66 z.2)]
                    have e6 : eqv q f t (m_V q p0) (y + 1) = eqv q f t (m_V q p0) y := by rw [eqv, if_neg (fun z => c_88 z.1)]
                    exact ih2 (y + 1) ls (by omega) (by rw [e5, e6]; exact (lv_sub hl [0, 1, 2, 3, 4, 5, 6, 7] rfl))
                  · have c_88 := bi_ne c_88
                    refine lv_aload_n hx hb dX2_median_91 rfl (lv_at hl 5 rfl) ?_
                    refine va_get (D := D) (ci := 2) (v := .ref (b_v Y)) (C := RX2) (T := TX2) (N := 6) hx hb hts hi2 hown hK hM 0 rfl rfl 5 (by decide) (hts (.fieldLink RX2 20 "RingSeriesModel" "values" "[I") (by decide +kernel)) (fun _ h9 => h9) rfl dX2_median_92 ?_
                    refine lv_iload hx hb dX2_median_95 (lv_at hl 1 rfl) ?_
                    refine ald_i (j := y) hx hb hK hM 4 0 rfl rfl (by omega) (by omega) dX2_median_97 ?_
                    refine lv_aload_n hx hb dX2_median_98 rfl (lv_at hl 5 rfl) ?_
                    refine va_get (D := D) (ci := 2) (v := .ref (b_v Y)) (C := RX2) (T := TX2) (N := 6) hx hb hts hi2 hown hK hM 0 rfl rfl 5 (by decide) (hts (.fieldLink RX2 20 "RingSeriesModel" "values" "[I") (by decide +kernel)) (fun _ h9 => h9) rfl dX2_median_99 ?_
                    refine lv_iload hx hb dX2_median_102 (lv_at hl 3 rfl) ?_
                    refine ald_i (j := p0) hx hb hK hM 4 0 rfl rfl (by omega) (by omega) dX2_median_104 ?_
                    refine lv_icmp_ne (tgt := 115) hx hb dX2_median_105 (by decide) (fun c_105 => ?_) (fun c_105 => ?_)
                    · refine lv_iload hx hb dX2_median_115 (lv_at hl 2 rfl) ?_
                      refine lv_istore (lv' := [(6, .int (nI (eqv q f t (m_V q p0) y))), (5, .int (nI (blw q f t (m_V q p0) y))), (7, .int (nI y)), (4, .int (nI p0)), (3, .int (nI (mnc q f t (m_P q)))), (0, .ref (b_o Y)), (1, .int f), (2, .int t)]) hx hb dX2_median_117 hl (by decide) rfl (fun ls hl => ?_)
                      refine lv_iinc (v := nI (y + 1)) (lv' := [(7, .int (nI (y + 1))), (6, .int (nI (eqv q f t (m_V q p0) y))), (5, .int (nI (blw q f t (m_V q p0) y))), (4, .int (nI p0)), (3, .int (nI (mnc q f t (m_P q)))), (0, .ref (b_o Y)), (1, .int f), (2, .int t)]) hx hb dX2_median_119 hl (k := 2) rfl (inc1 _) (by decide) rfl (fun ls hl => ?_)
                      refine lv_goto (tgt := 32) hx hb dX2_median_122 (by decide) ?_
                      have e5 : blw q f t (m_V q p0) (y + 1) = blw q f t (m_V q p0) y := by rw [blw, if_neg (fun z => Int32.not_lt.mpr c_66 z.2)]
                      have e6 : eqv q f t (m_V q p0) (y + 1) = eqv q f t (m_V q p0) y := by rw [eqv, if_neg (fun z => c_105 z.2)]
                      exact ih2 (y + 1) ls (by omega) (by rw [e5, e6]; exact (lv_sub hl [0, 1, 2, 3, 4, 5, 6, 7] rfl))
                    · refine lv_iload hx hb dX2_median_108 (lv_at hl 2 rfl) ?_
                      refine lv_iconst (v := 1) hx hb dX2_median_110 (by decide) ?_
                      refine lv_iadd hx hb dX2_median_111 ?_
                      refine top_i (nI_add _ 1) ?_
                      refine lv_goto (tgt := 117) hx hb dX2_median_112 (by decide) ?_
                      refine lv_istore (lv' := [(6, .int (nI ((eqv q f t (m_V q p0) y) + 1))), (5, .int (nI (blw q f t (m_V q p0) y))), (7, .int (nI y)), (4, .int (nI p0)), (3, .int (nI (mnc q f t (m_P q)))), (0, .ref (b_o Y)), (1, .int f), (2, .int t)]) hx hb dX2_median_117 hl (by decide) rfl (fun ls hl => ?_)
                      refine lv_iinc (v := nI (y + 1)) (lv' := [(7, .int (nI (y + 1))), (6, .int (nI ((eqv q f t (m_V q p0) y) + 1))), (5, .int (nI (blw q f t (m_V q p0) y))), (4, .int (nI p0)), (3, .int (nI (mnc q f t (m_P q)))), (0, .ref (b_o Y)), (1, .int f), (2, .int t)]) hx hb dX2_median_119 hl (k := 2) rfl (inc1 _) (by decide) rfl (fun ls hl => ?_)
                      refine lv_goto (tgt := 32) hx hb dX2_median_122 (by decide) ?_
                      have e5 : blw q f t (m_V q p0) (y + 1) = blw q f t (m_V q p0) y := by rw [blw, if_neg (fun z => Int32.not_lt.mpr c_66 z.2)]
                      have e6 : eqv q f t (m_V q p0) (y + 1) = (eqv q f t (m_V q p0) y) + 1 := by rw [eqv, if_pos ⟨c_88, c_105⟩]
                      exact ih2 (y + 1) ls (by omega) (by rw [e5, e6]; exact (lv_sub hl [0, 1, 2, 3, 4, 5, 6, 7] rfl))
                · refine lv_iload hx hb dX2_median_69 (lv_at hl 2 rfl) ?_
                  refine lv_iconst (v := 1) hx hb dX2_median_71 (by decide) ?_
                  refine lv_iadd hx hb dX2_median_72 ?_
                  refine top_i (nI_add _ 1) ?_
                  refine lv_goto (tgt := 78) hx hb dX2_median_73 (by decide) ?_
                  refine lv_istore (lv' := [(5, .int (nI ((blw q f t (m_V q p0) y) + 1))), (7, .int (nI y)), (6, .int (nI (eqv q f t (m_V q p0) y))), (4, .int (nI p0)), (3, .int (nI (mnc q f t (m_P q)))), (0, .ref (b_o Y)), (1, .int f), (2, .int t)]) hx hb dX2_median_78 hl (by decide) rfl (fun ls hl => ?_)
                  refine lv_aload_n hx hb dX2_median_80 rfl (lv_at hl 5 rfl) ?_
                  refine lv_iload hx hb dX2_median_81 (lv_at hl 1 rfl) ?_
                  refine lv_iload_n hx hb dX2_median_83 rfl (lv_at hl 6 rfl) ?_
                  refine lv_iload_n hx hb dX2_median_84 rfl (lv_at hl 7 rfl) ?_
                  refine ro_call (va_runV (As := [.int (nI y), .int f, .int t]) (rest := []) ⟨hx, hb, hml, hown, hts⟩ (c_X2_isIn l Y q hm hM y (by omega) f t) (cwV 3 hts gX2_median_X2_isIn rfl rfl rfl (by decide +kernel) ⟨Nat.le_of_ble_eq_true rfl, Nat.le_of_ble_eq_true rfl⟩) (ro_preV hK (va_recv hK hM (ci := 2) (q0 := 0) rfl rfl)) rfl rfl hl.1 rfl (lv_room (Nat.le_of_ble_eq_true rfl)) dX2_median_85 ⟨Nat.zero_le _, Nat.zero_le _⟩) ?_
                  refine lv_if_eq (tgt := 115) hx hb dX2_median_88 (by decide) (fun c_88 => ?_) (fun c_88 => ?_)
                  · have c_88 := bi_eq c_88
                    refine lv_iload hx hb dX2_median_115 (lv_at hl 2 rfl) ?_
                    refine lv_istore (lv' := [(6, .int (nI (eqv q f t (m_V q p0) y))), (5, .int (nI ((blw q f t (m_V q p0) y) + 1))), (7, .int (nI y)), (4, .int (nI p0)), (3, .int (nI (mnc q f t (m_P q)))), (0, .ref (b_o Y)), (1, .int f), (2, .int t)]) hx hb dX2_median_117 hl (by decide) rfl (fun ls hl => ?_)
                    refine lv_iinc (v := nI (y + 1)) (lv' := [(7, .int (nI (y + 1))), (6, .int (nI (eqv q f t (m_V q p0) y))), (5, .int (nI ((blw q f t (m_V q p0) y) + 1))), (4, .int (nI p0)), (3, .int (nI (mnc q f t (m_P q)))), (0, .ref (b_o Y)), (1, .int f), (2, .int t)]) hx hb dX2_median_119 hl (k := 2) rfl (inc1 _) (by decide) rfl (fun ls hl => ?_)
                    refine lv_goto (tgt := 32) hx hb dX2_median_122 (by decide) ?_
                    have e5 : blw q f t (m_V q p0) (y + 1) = (blw q f t (m_V q p0) y) + 1 := by rw [blw, if_pos ⟨c_49, Int32.not_le.mp c_66⟩]
                    have e6 : eqv q f t (m_V q p0) (y + 1) = eqv q f t (m_V q p0) y := by rw [eqv, if_neg (fun z => c_88 z.1)]
                    exact ih2 (y + 1) ls (by omega) (by rw [e5, e6]; exact (lv_sub hl [0, 1, 2, 3, 4, 5, 6, 7] rfl))
                  · have c_88 := bi_ne c_88
                    refine lv_aload_n hx hb dX2_median_91 rfl (lv_at hl 5 rfl) ?_
                    refine va_get (D := D) (ci := 2) (v := .ref (b_v Y)) (C := RX2) (T := TX2) (N := 6) hx hb hts hi2 hown hK hM 0 rfl rfl 5 (by decide) (hts (.fieldLink RX2 20 "RingSeriesModel" "values" "[I") (by decide +kernel)) (fun _ h9 => h9) rfl dX2_median_92 ?_
                    refine lv_iload hx hb dX2_median_95 (lv_at hl 1 rfl) ?_
                    refine ald_i (j := y) hx hb hK hM 4 0 rfl rfl (by omega) (by omega) dX2_median_97 ?_
                    refine lv_aload_n hx hb dX2_median_98 rfl (lv_at hl 5 rfl) ?_
                    refine va_get (D := D) (ci := 2) (v := .ref (b_v Y)) (C := RX2) (T := TX2) (N := 6) hx hb hts hi2 hown hK hM 0 rfl rfl 5 (by decide) (hts (.fieldLink RX2 20 "RingSeriesModel" "values" "[I") (by decide +kernel)) (fun _ h9 => h9) rfl dX2_median_99 ?_
                    refine lv_iload hx hb dX2_median_102 (lv_at hl 3 rfl) ?_
                    refine ald_i (j := p0) hx hb hK hM 4 0 rfl rfl (by omega) (by omega) dX2_median_104 ?_
                    refine lv_icmp_ne (tgt := 115) hx hb dX2_median_105 (by decide) (fun c_105 => ?_) (fun c_105 => ?_)
                    · refine lv_iload hx hb dX2_median_115 (lv_at hl 2 rfl) ?_
                      refine lv_istore (lv' := [(6, .int (nI (eqv q f t (m_V q p0) y))), (5, .int (nI ((blw q f t (m_V q p0) y) + 1))), (7, .int (nI y)), (4, .int (nI p0)), (3, .int (nI (mnc q f t (m_P q)))), (0, .ref (b_o Y)), (1, .int f), (2, .int t)]) hx hb dX2_median_117 hl (by decide) rfl (fun ls hl => ?_)
                      refine lv_iinc (v := nI (y + 1)) (lv' := [(7, .int (nI (y + 1))), (6, .int (nI (eqv q f t (m_V q p0) y))), (5, .int (nI ((blw q f t (m_V q p0) y) + 1))), (4, .int (nI p0)), (3, .int (nI (mnc q f t (m_P q)))), (0, .ref (b_o Y)), (1, .int f), (2, .int t)]) hx hb dX2_median_119 hl (k := 2) rfl (inc1 _) (by decide) rfl (fun ls hl => ?_)
                      refine lv_goto (tgt := 32) hx hb dX2_median_122 (by decide) ?_
                      have e5 : blw q f t (m_V q p0) (y + 1) = (blw q f t (m_V q p0) y) + 1 := by rw [blw, if_pos ⟨c_49, Int32.not_le.mp c_66⟩]
                      have e6 : eqv q f t (m_V q p0) (y + 1) = eqv q f t (m_V q p0) y := by rw [eqv, if_neg (fun z => c_105 z.2)]
                      exact ih2 (y + 1) ls (by omega) (by rw [e5, e6]; exact (lv_sub hl [0, 1, 2, 3, 4, 5, 6, 7] rfl))
                    · refine lv_iload hx hb dX2_median_108 (lv_at hl 2 rfl) ?_
                      refine lv_iconst (v := 1) hx hb dX2_median_110 (by decide) ?_
                      refine lv_iadd hx hb dX2_median_111 ?_
                      refine top_i (nI_add _ 1) ?_
                      refine lv_goto (tgt := 117) hx hb dX2_median_112 (by decide) ?_
                      refine lv_istore (lv' := [(6, .int (nI ((eqv q f t (m_V q p0) y) + 1))), (5, .int (nI ((blw q f t (m_V q p0) y) + 1))), (7, .int (nI y)), (4, .int (nI p0)), (3, .int (nI (mnc q f t (m_P q)))), (0, .ref (b_o Y)), (1, .int f), (2, .int t)]) hx hb dX2_median_117 hl (by decide) rfl (fun ls hl => ?_)
                      refine lv_iinc (v := nI (y + 1)) (lv' := [(7, .int (nI (y + 1))), (6, .int (nI ((eqv q f t (m_V q p0) y) + 1))), (5, .int (nI ((blw q f t (m_V q p0) y) + 1))), (4, .int (nI p0)), (3, .int (nI (mnc q f t (m_P q)))), (0, .ref (b_o Y)), (1, .int f), (2, .int t)]) hx hb dX2_median_119 hl (k := 2) rfl (inc1 _) (by decide) rfl (fun ls hl => ?_)
                      refine lv_goto (tgt := 32) hx hb dX2_median_122 (by decide) ?_
                      have e5 : blw q f t (m_V q p0) (y + 1) = (blw q f t (m_V q p0) y) + 1 := by rw [blw, if_pos ⟨c_49, Int32.not_le.mp c_66⟩]
                      have e6 : eqv q f t (m_V q p0) (y + 1) = (eqv q f t (m_V q p0) y) + 1 := by rw [eqv, if_pos ⟨c_88, c_105⟩]
                      exact ih2 (y + 1) ls (by omega) (by rw [e5, e6]; exact (lv_sub hl [0, 1, 2, 3, 4, 5, 6, 7] rfl))
        refine lv_iload hx hb dX2_median_10 (lv_at hl 0 rfl) ?_
        refine lv_aload_n hx hb dX2_median_12 rfl (lv_at hl 2 rfl) ?_
        refine va_get (D := D) (ci := 2) (v := .int (nI (m_P q))) (C := RX2) (T := TX2) (N := 6) hx hb hts hi2 hown hK hM 0 rfl rfl 3 (by decide) (hts (.fieldLink RX2 32 "RingSeriesModel" "points" "I") (by decide +kernel)) (fun _ h9 => h9) rfl dX2_median_13 ?_
        refine lv_icmp_ge (tgt := 174) hx hb dX2_median_16 (by decide) (fun c_16 => ?_) (fun c_16 => ?_)
        · have c_16 := (nI_leI (a := m_P q) (b := p0) (by omega) (by omega)).mp c_16
          exact absurd c_16 (by omega)
        · have c_16 := mt (nI_leI (a := m_P q) (b := p0) (by omega) (by omega)).mpr c_16
          refine lv_iload_n hx hb dX2_median_19 rfl (lv_at hl 1 rfl) ?_
          refine lv_if_le (tgt := 174) hx hb dX2_median_20 (by decide) (fun c_20 => ?_) (fun c_20 => ?_)
          · have c_20 := (nI_leI (a := mnc q f t (m_P q)) (b := 0) (by omega) (by omega)).mp c_20
            exact absurd c_20 (by omega)
          · have c_20 := mt (nI_leI (a := mnc q f t (m_P q)) (b := 0) (by omega) (by omega)).mpr c_20
            refine lv_iconst (v := 0) hx hb dX2_median_23 (by decide) ?_
            refine lv_istore (lv' := [(5, .int 0), (4, .int (nI p0)), (3, .int (nI (mnc q f t (m_P q)))), (0, .ref (b_o Y)), (1, .int f), (2, .int t)]) hx hb dX2_median_24 hl (by decide) rfl (fun ls hl => ?_)
            refine lv_iconst (v := 0) hx hb dX2_median_26 (by decide) ?_
            refine lv_istore (lv' := [(6, .int 0), (5, .int 0), (4, .int (nI p0)), (3, .int (nI (mnc q f t (m_P q)))), (0, .ref (b_o Y)), (1, .int f), (2, .int t)]) hx hb dX2_median_27 hl (by decide) rfl (fun ls hl => ?_)
            refine lv_iconst (v := 0) hx hb dX2_median_29 (by decide) ?_
            refine lv_istore (lv' := [(7, .int 0), (6, .int 0), (5, .int 0), (4, .int (nI p0)), (3, .int (nI (mnc q f t (m_P q)))), (0, .ref (b_o Y)), (1, .int f), (2, .int t)]) hx hb dX2_median_30 hl (by decide) rfl (fun ls hl => ?_)
            refine inner (fun ls hl => ?_) (m_P q) 0 ls (by omega) (lv_sub hl [0, 1, 2, 3, 4, 5, 6, 7] rfl)
            have g0 := blw_le q f t (m_V q p0) (m_P q)
            have g1 := eqv_le q f t (m_V q p0) (m_P q)
            refine lv_iload_n hx hb dX2_median_125 rfl (lv_at hl 4 rfl) ?_
            refine lv_iconst (v := 1) hx hb dX2_median_126 (by decide) ?_
            refine lv_isub hx hb dX2_median_127 ?_
            refine top_i (pk_sub (a := mnc q f t (m_P q)) (b := 1) (by omega)) ?_
            refine lv_iconst (v := 2) hx hb dX2_median_128 (by decide) ?_
            refine lv_idiv hx hb dX2_median_129 (by decide) ?_
            refine top_i (pk_div (a := (mnc q f t (m_P q)) - 1) (d := 2) (by omega) (by omega) (by omega)) ?_
            refine lv_istore (lv' := [(7, .int (nI (((mnc q f t (m_P q)) - 1) / 2))), (6, .int (nI (eqv q f t (m_V q p0) (m_P q)))), (5, .int (nI (blw q f t (m_V q p0) (m_P q)))), (4, .int (nI p0)), (3, .int (nI (mnc q f t (m_P q)))), (0, .ref (b_o Y)), (1, .int f), (2, .int t)]) hx hb dX2_median_130 hl (by decide) rfl (fun ls hl => ?_)
            refine lv_aload_n hx hb dX2_median_132 rfl (lv_at hl 5 rfl) ?_
            refine lv_iload hx hb dX2_median_133 (lv_at hl 3 rfl) ?_
            refine lv_iload_n hx hb dX2_median_135 rfl (lv_at hl 6 rfl) ?_
            refine lv_iload_n hx hb dX2_median_136 rfl (lv_at hl 7 rfl) ?_
            refine ro_call (va_runV (As := [.int (nI p0), .int f, .int t]) (rest := []) ⟨hx, hb, hml, hown, hts⟩ (c_X2_isIn l Y q hm hM p0 (by omega) f t) (cwV 3 hts gX2_median_X2_isIn rfl rfl rfl (by decide +kernel) ⟨Nat.le_of_ble_eq_true rfl, Nat.le_of_ble_eq_true rfl⟩) (ro_preV hK (va_recv hK hM (ci := 2) (q0 := 0) rfl rfl)) rfl rfl hl.1 rfl (lv_room (Nat.le_of_ble_eq_true rfl)) dX2_median_137 ⟨Nat.zero_le _, Nat.zero_le _⟩) ?_
            refine lv_if_eq (tgt := 168) hx hb dX2_median_140 (by decide) (fun c_140 => ?_) (fun c_140 => ?_)
            · have c_140 := bi_eq c_140
              refine lv_iinc (v := nI (p0 + 1)) (lv' := [(4, .int (nI (p0 + 1))), (7, .int (nI (((mnc q f t (m_P q)) - 1) / 2))), (6, .int (nI (eqv q f t (m_V q p0) (m_P q)))), (5, .int (nI (blw q f t (m_V q p0) (m_P q)))), (3, .int (nI (mnc q f t (m_P q)))), (0, .ref (b_o Y)), (1, .int f), (2, .int t)]) hx hb dX2_median_168 hl (k := 3) rfl (inc1 _) (by decide) rfl (fun ls hl => ?_)
              refine lv_goto (tgt := 10) hx hb dX2_median_171 (by decide) ?_
              exact ih (p0 + 1) ls (by omega) (by rw [← hf, mdr, if_neg (fun z => c_140 z.1)]) (lv_sub hl [0, 4, 5, 6, 7] rfl)
            · have c_140 := bi_ne c_140
              refine lv_iload hx hb dX2_median_143 (lv_at hl 2 rfl) ?_
              refine lv_iload hx hb dX2_median_145 (lv_at hl 0 rfl) ?_
              refine lv_icmp_gt (tgt := 168) hx hb dX2_median_147 (by decide) (fun c_147 => ?_) (fun c_147 => ?_)
              · have c_147 := (nI_ltI (a := ((mnc q f t (m_P q)) - 1) / 2) (b := blw q f t (m_V q p0) (m_P q)) (by omega) (by omega)).mp c_147
                refine lv_iinc (v := nI (p0 + 1)) (lv' := [(4, .int (nI (p0 + 1))), (7, .int (nI (((mnc q f t (m_P q)) - 1) / 2))), (6, .int (nI (eqv q f t (m_V q p0) (m_P q)))), (5, .int (nI (blw q f t (m_V q p0) (m_P q)))), (3, .int (nI (mnc q f t (m_P q)))), (0, .ref (b_o Y)), (1, .int f), (2, .int t)]) hx hb dX2_median_168 hl (k := 3) rfl (inc1 _) (by decide) rfl (fun ls hl => ?_)
                refine lv_goto (tgt := 10) hx hb dX2_median_171 (by decide) ?_
                exact ih (p0 + 1) ls (by omega) (by rw [← hf, mdr, if_neg (fun z => absurd z.2.1 (by omega))]) (lv_sub hl [0, 4, 5, 6, 7] rfl)
              · have c_147 := mt (nI_ltI (a := ((mnc q f t (m_P q)) - 1) / 2) (b := blw q f t (m_V q p0) (m_P q)) (by omega) (by omega)).mpr c_147
                refine lv_iload hx hb dX2_median_150 (lv_at hl 0 rfl) ?_
                refine lv_iload hx hb dX2_median_152 (lv_at hl 2 rfl) ?_
                refine lv_iload hx hb dX2_median_154 (lv_at hl 1 rfl) ?_
                refine lv_iadd hx hb dX2_median_156 ?_
                refine top_i (nI_add _ _) ?_
                refine lv_icmp_ge (tgt := 168) hx hb dX2_median_157 (by decide) (fun c_157 => ?_) (fun c_157 => ?_)
                · have c_157 := (nI_leI (a := (blw q f t (m_V q p0) (m_P q)) + (eqv q f t (m_V q p0) (m_P q))) (b := ((mnc q f t (m_P q)) - 1) / 2) (by omega) (by omega)).mp c_157
                  refine lv_iinc (v := nI (p0 + 1)) (lv' := [(4, .int (nI (p0 + 1))), (7, .int (nI (((mnc q f t (m_P q)) - 1) / 2))), (6, .int (nI (eqv q f t (m_V q p0) (m_P q)))), (5, .int (nI (blw q f t (m_V q p0) (m_P q)))), (3, .int (nI (mnc q f t (m_P q)))), (0, .ref (b_o Y)), (1, .int f), (2, .int t)]) hx hb dX2_median_168 hl (k := 3) rfl (inc1 _) (by decide) rfl (fun ls hl => ?_)
                  refine lv_goto (tgt := 10) hx hb dX2_median_171 (by decide) ?_
                  exact ih (p0 + 1) ls (by omega) (by rw [← hf, mdr, if_neg (fun z => absurd z.2.2 (by omega))]) (lv_sub hl [0, 4, 5, 6, 7] rfl)
                · have c_157 := mt (nI_leI (a := (blw q f t (m_V q p0) (m_P q)) + (eqv q f t (m_V q p0) (m_P q))) (b := ((mnc q f t (m_P q)) - 1) / 2) (by omega) (by omega)).mpr c_157
                  refine lv_aload_n hx hb dX2_median_160 rfl (lv_at hl 5 rfl) ?_
                  refine va_get (D := D) (ci := 2) (v := .ref (b_v Y)) (C := RX2) (T := TX2) (N := 6) hx hb hts hi2 hown hK hM 0 rfl rfl 5 (by decide) (hts (.fieldLink RX2 20 "RingSeriesModel" "values" "[I") (by decide +kernel)) (fun _ h9 => h9) rfl dX2_median_161 ?_
                  refine lv_iload hx hb dX2_median_164 (lv_at hl 3 rfl) ?_
                  refine ald_i (j := p0) hx hb hK hM 4 0 rfl rfl (by omega) (by omega) dX2_median_166 ?_
                  exact ro_iret hx hb hr (by rw [← hf, mdr, if_pos ⟨c_140, by omega, by omega⟩]) dX2_median_167 hlocks
    refine lv_aload_n hx hb dX2_median_0 rfl (lv_at hl 0 rfl) ?_
    refine lv_iload_n hx hb dX2_median_1 rfl (lv_at hl 1 rfl) ?_
    refine lv_iload_n hx hb dX2_median_2 rfl (lv_at hl 2 rfl) ?_
    refine ro_call (va_runV (As := [.int f, .int t]) (rest := []) ⟨hx, hb, hml, hown, hts⟩ (c_X2_many l Y q hm hM f t) (cwV 2 hts gX2_median_X2_many rfl rfl rfl (by decide +kernel) ⟨Nat.le_of_ble_eq_true rfl, Nat.le_of_ble_eq_true rfl⟩) (ro_preV hK (va_recv hK hM (ci := 2) (q0 := 0) rfl rfl)) rfl rfl hl.1 rfl (lv_room (Nat.le_of_ble_eq_true rfl)) dX2_median_3 ⟨Nat.zero_le _, Nat.zero_le _⟩) ?_
    refine lv_istore_n (lv' := [(3, .int (nI (mnc q f t (m_P q)))), (0, .ref (b_o Y)), (1, .int f), (2, .int t)]) hx hb dX2_median_6 rfl hl (by decide) rfl (fun ls hl => ?_)
    refine lv_iconst (v := 0) hx hb dX2_median_7 (by decide) ?_
    refine lv_istore (lv' := [(4, .int 0), (3, .int (nI (mnc q f t (m_P q)))), (0, .ref (b_o Y)), (1, .int f), (2, .int t)]) hx hb dX2_median_8 hl (by decide) rfl (fun ls hl => ?_)
    exact loop (m_P q) 0 ls (by omega) (by unfold mdM; rw [if_neg (by omega)]) (lv_sub hl [0, 1, 2, 3, 4] rfl)
  · refine lv_aload_n hx hb dX2_median_0 rfl (lv_at hl 0 rfl) ?_
    refine lv_iload_n hx hb dX2_median_1 rfl (lv_at hl 1 rfl) ?_
    refine lv_iload_n hx hb dX2_median_2 rfl (lv_at hl 2 rfl) ?_
    refine ro_call (va_runV (As := [.int f, .int t]) (rest := []) ⟨hx, hb, hml, hown, hts⟩ (c_X2_many l Y q hm hM f t) (cwV 2 hts gX2_median_X2_many rfl rfl rfl (by decide +kernel) ⟨Nat.le_of_ble_eq_true rfl, Nat.le_of_ble_eq_true rfl⟩) (ro_preV hK (va_recv hK hM (ci := 2) (q0 := 0) rfl rfl)) rfl rfl hl.1 rfl (lv_room (Nat.le_of_ble_eq_true rfl)) dX2_median_3 ⟨Nat.zero_le _, Nat.zero_le _⟩) ?_
    refine lv_istore_n (lv' := [(3, .int (nI (mnc q f t (m_P q)))), (0, .ref (b_o Y)), (1, .int f), (2, .int t)]) hx hb dX2_median_6 rfl hl (by decide) rfl (fun ls hl => ?_)
    refine lv_iconst (v := 0) hx hb dX2_median_7 (by decide) ?_
    refine lv_istore (lv' := [(4, .int 0), (3, .int (nI (mnc q f t (m_P q)))), (0, .ref (b_o Y)), (1, .int f), (2, .int t)]) hx hb dX2_median_8 hl (by decide) rfl (fun ls hl => ?_)
    refine lv_iload hx hb dX2_median_10 (lv_at hl 0 rfl) ?_
    refine lv_aload_n hx hb dX2_median_12 rfl (lv_at hl 2 rfl) ?_
    refine va_get (D := D) (ci := 2) (v := .int (nI (m_P q))) (C := RX2) (T := TX2) (N := 6) hx hb hts hi2 hown hK hM 0 rfl rfl 3 (by decide) (hts (.fieldLink RX2 32 "RingSeriesModel" "points" "I") (by decide +kernel)) (fun _ h9 => h9) rfl dX2_median_13 ?_
    refine lv_icmp_ge (tgt := 174) hx hb dX2_median_16 (by decide) (fun c_16 => ?_) (fun c_16 => ?_)
    · have c_16 := (nI_leI (a := m_P q) (b := 0) (by omega) (by omega)).mp c_16
      refine lv_iconst (v := 0) hx hb dX2_median_174 (by decide) ?_
      exact ro_iret hx hb hr (by unfold mdM; rw [if_pos (by omega)]) dX2_median_175 hlocks
    · have c_16 := mt (nI_leI (a := m_P q) (b := 0) (by omega) (by omega)).mpr c_16
      refine lv_iload_n hx hb dX2_median_19 rfl (lv_at hl 1 rfl) ?_
      refine lv_if_le (tgt := 174) hx hb dX2_median_20 (by decide) (fun c_20 => ?_) (fun c_20 => ?_)
      · have c_20 := (nI_leI (a := mnc q f t (m_P q)) (b := 0) (by omega) (by omega)).mp c_20
        refine lv_iconst (v := 0) hx hb dX2_median_174 (by decide) ?_
        exact ro_iret hx hb hr (by unfold mdM; rw [if_pos (by omega)]) dX2_median_175 hlocks
      · have c_20 := mt (nI_leI (a := mnc q f t (m_P q)) (b := 0) (by omega) (by omega)).mpr c_20
        exact absurd c_20 (by omega)
set_option maxHeartbeats 4000000 in
set_option maxRecDepth 100000 in
/-- whole(level, from, to, before) -/
theorem c_X2_whole (l : Launch) {D : va_G} {cI cA cJ : ClassId} {H : Heap} (Y : mA) (q : mv) (hm : m_ok q) (hM : va_P D vwCl (mW cI cJ Y q) H) (k : Nat) (hq : k < 3) (f t : Int32) (b0 : Int64) : Met l yX2_whole wsX2_whole ({ frames := 5, cells := 0, slots := 0, locals := 122 }) (ro_P D vwCl (tyL cI cA cJ) H [.ref (b_o Y), .int (nI k), .int f, .int t, .long b0]) (ro_Q (.long (whq q k f t b0 (kp q k))) H) 0 0 ro_no := by
  refine Met.ofW (cc := cX2_whole) (maxL := 13) (ret := (some .long)) (by decide) rfl ?_
  intro p e s m args below meth c s₁ B hml hv
  obtain ⟨rfl, hh, hK⟩ := hv
  subst hh
  have hx := B.exec
  have hb := B.bytes
  have hr := B.returns
  have hlocks := B.notSynchronized
  have hts := atoms_spec (ws := wsX2_whole) B.pre
  have hown : s.vm.findClass RX2 = some m.cls := findClass_of_methodNamed B.named
  have hi2 : ∀ w ∈ wsX20, w ∈ wsX2_whole := fun w h => List.mem_cons_of_mem _ (List.mem_append_right _ h)
  have hl := lv_entry ([.ref (b_o Y), .int (nI k), .int f, .int t, .long b0]) (n := 13) (Nat.le_of_ble_eq_true rfl)
  rw [lg_entry_eq]
  generalize (lg_sl ([.ref (b_o Y), .int (nI k), .int f, .int t, .long b0]) ++ List.replicate (13 - (lg_sl ([.ref (b_o Y), .int (nI k), .int f, .int t, .long b0])).length) Slot.unset).toArray = ls at hl ⊢
  have hl : lv_has ls 13 [(0, .ref (b_o Y)), (1, .int (nI k)), (2, .int f), (3, .int t), (4, .long b0)] := hl
  obtain ⟨hp, hT, hRW, hkn⟩ := id hm
  obtain ⟨w1, w2, w3, w4⟩ := hRW k (by omega)
  have w5 := hkn k (by omega)
  have w6 := ng_le q k (m_P q)
  have loop : ∀ (n : Nat) (i : Nat) (ls : Array Slot), i + n = kp q k → lv_has ls 13 [(8, .int (nI i)), (6, .long (whq q k f t b0 i)), (0, .ref (b_o Y)), (1, .int (nI k)), (2, .int f), (3, .int t), (4, .long b0)] → W p l e (headSpec wsX2_whole ({ frames := 5, cells := 0, slots := 0, locals := 122 })).room s m ([.ref (b_o Y), .int (nI k), .int f, .int t, .long b0] : List Value).toArray below meth c s.heap [] 0 0 (MQ below (ro_Q (.long (whq q k f t b0 (kp q k))) s.heap) ([.ref (b_o Y), .int (nI k), .int f, .int t, .long b0] : List Value).toArray s 0 0 ro_no) (F0 m 6 ls []) := by
    intro n
    induction n with
    | zero =>
      intro i ls hi hl
      refine lv_iload hx hb dX2_whole_6 (lv_at hl 0 rfl) ?_
      refine lv_aload_n hx hb dX2_whole_8 rfl (lv_at hl 2 rfl) ?_
      refine lv_iload_n hx hb dX2_whole_9 rfl (lv_at hl 3 rfl) ?_
      refine ro_call (va_runV (As := [.int (nI k)]) (rest := [.int (nI i)]) ⟨hx, hb, hml, hown, hts⟩ (c_X2_kept l Y q hm hM k (by omega)) (cwV 1 hts gX2_whole_X2_kept rfl rfl rfl (by decide +kernel) ⟨Nat.le_of_ble_eq_true rfl, Nat.le_of_ble_eq_true rfl⟩) (ro_preV hK (va_recv hK hM (ci := 2) (q0 := 0) rfl rfl)) rfl rfl hl.1 rfl (lv_room (Nat.le_of_ble_eq_true rfl)) dX2_whole_10 ⟨Nat.zero_le _, Nat.zero_le _⟩) ?_
      refine lv_icmp_ge (tgt := 87) hx hb dX2_whole_13 (by decide) (fun c_13 => ?_) (fun c_13 => ?_)
      · have c_13 := (nI_leI (a := kp q k) (b := i) (by omega) (by omega)).mp c_13
        refine lv_lload hx hb dX2_whole_87 (lv_at hl 1 rfl) ?_
        exact ro_lret hx hb hr (by rw [show i = kp q k by omega]) dX2_whole_89 hlocks
      · have c_13 := mt (nI_leI (a := kp q k) (b := i) (by omega) (by omega)).mpr c_13
        exact absurd c_13 (by omega)
    | succ n ih =>
      intro i ls hi hl
      refine lv_iload hx hb dX2_whole_6 (lv_at hl 0 rfl) ?_
      refine lv_aload_n hx hb dX2_whole_8 rfl (lv_at hl 2 rfl) ?_
      refine lv_iload_n hx hb dX2_whole_9 rfl (lv_at hl 3 rfl) ?_
      refine ro_call (va_runV (As := [.int (nI k)]) (rest := [.int (nI i)]) ⟨hx, hb, hml, hown, hts⟩ (c_X2_kept l Y q hm hM k (by omega)) (cwV 1 hts gX2_whole_X2_kept rfl rfl rfl (by decide +kernel) ⟨Nat.le_of_ble_eq_true rfl, Nat.le_of_ble_eq_true rfl⟩) (ro_preV hK (va_recv hK hM (ci := 2) (q0 := 0) rfl rfl)) rfl rfl hl.1 rfl (lv_room (Nat.le_of_ble_eq_true rfl)) dX2_whole_10 ⟨Nat.zero_le _, Nat.zero_le _⟩) ?_
      refine lv_icmp_ge (tgt := 87) hx hb dX2_whole_13 (by decide) (fun c_13 => ?_) (fun c_13 => ?_)
      · have c_13 := (nI_leI (a := kp q k) (b := i) (by omega) (by omega)).mp c_13
        exact absurd c_13 (by omega)
      · have c_13 := mt (nI_leI (a := kp q k) (b := i) (by omega) (by omega)).mpr c_13
        refine lv_aload_n hx hb dX2_whole_16 rfl (lv_at hl 2 rfl) ?_
        refine lv_iload_n hx hb dX2_whole_17 rfl (lv_at hl 3 rfl) ?_
        refine lv_iload hx hb dX2_whole_18 (lv_at hl 0 rfl) ?_
        refine ro_call (va_runV (As := [.int (nI k), .int (nI i)]) (rest := []) ⟨hx, hb, hml, hown, hts⟩ (c_X2_begin l Y q hm hM k i (by omega) (by omega)) (cwV 2 hts gX2_whole_X2_begin rfl rfl rfl (by decide +kernel) ⟨Nat.le_of_ble_eq_true rfl, Nat.le_of_ble_eq_true rfl⟩) (ro_preV hK (va_recv hK hM (ci := 2) (q0 := 0) rfl rfl)) rfl rfl hl.1 rfl (lv_room (Nat.le_of_ble_eq_true rfl)) dX2_whole_20 ⟨Nat.zero_le _, Nat.zero_le _⟩) ?_
        refine lv_lstore (lv' := [(9, .long (lN (bg q k i))), (8, .int (nI i)), (6, .long (whq q k f t b0 i)), (0, .ref (b_o Y)), (1, .int (nI k)), (2, .int f), (3, .int t), (4, .long b0)]) hx hb dX2_whole_23 hl (by decide) rfl (fun ls hl => ?_)
        refine lv_lload hx hb dX2_whole_25 (lv_at hl 0 rfl) ?_
        refine lv_aload_n hx hb dX2_whole_27 rfl (lv_at hl 3 rfl) ?_
        refine va_get (D := D) (ci := 2) (v := .ref (b_w Y)) (C := RX2) (T := TX2) (N := 6) hx hb hts hi2 hown hK hM 0 rfl rfl 2 (by decide) (hts (.fieldLink RX2 13 "RingSeriesModel" "widths" "[J") (by decide +kernel)) (fun _ h9 => h9) rfl dX2_whole_28 ?_
        refine lv_iload_n hx hb dX2_whole_31 rfl (lv_at hl 4 rfl) ?_
        refine ald_l (j := k) hx hb hK hM 2 2 rfl rfl (by omega) (by omega) dX2_whole_32 ?_
        refine lv_ladd hx hb dX2_whole_33 ?_
        refine top_l (lN_add _ _) ?_
        refine lv_lconst (v := 1) hx hb dX2_whole_34 (by decide) ?_
        refine lv_lsub hx hb dX2_whole_35 ?_
        refine top_l (lN_sub (a := (bg q k i) + (m_W q k)) (b := 1) (by omega)) ?_
        refine lv_lstore (lv' := [(11, .long (lN (((bg q k i) + (m_W q k)) - 1))), (9, .long (lN (bg q k i))), (8, .int (nI i)), (6, .long (whq q k f t b0 i)), (0, .ref (b_o Y)), (1, .int (nI k)), (2, .int f), (3, .int t), (4, .long b0)]) hx hb dX2_whole_36 hl (by decide) rfl (fun ls hl => ?_)
        refine lv_lload hx hb dX2_whole_38 (lv_at hl 1 rfl) ?_
        refine lv_iload_n hx hb dX2_whole_40 rfl (lv_at hl 6 rfl) ?_
        refine lv_i2l hx hb dX2_whole_41 rfl ?_
        refine W.lcmp hx hb dX2_whole_42 ?_
        refine lv_if_lt (tgt := 77) hx hb dX2_whole_43 (by decide) (fun c_43 => ?_) (fun c_43 => ?_)
        · have c_43 := (lg_cmp_lt _ _).mp c_43
          refine lv_lload hx hb dX2_whole_77 (lv_at hl 3 rfl) ?_
          refine lv_lstore (lv' := [(6, .long (whq q k f t b0 i)), (11, .long (lN (((bg q k i) + (m_W q k)) - 1))), (9, .long (lN (bg q k i))), (8, .int (nI i)), (0, .ref (b_o Y)), (1, .int (nI k)), (2, .int f), (3, .int t), (4, .long b0)]) hx hb dX2_whole_79 hl (by decide) rfl (fun ls hl => ?_)
          refine lv_iinc (v := nI (i + 1)) (lv' := [(8, .int (nI (i + 1))), (6, .long (whq q k f t b0 i)), (11, .long (lN (((bg q k i) + (m_W q k)) - 1))), (9, .long (lN (bg q k i))), (0, .ref (b_o Y)), (1, .int (nI k)), (2, .int f), (3, .int t), (4, .long b0)]) hx hb dX2_whole_81 hl (k := 3) rfl (inc1 _) (by decide) rfl (fun ls hl => ?_)
          refine lv_goto (tgt := 6) hx hb dX2_whole_84 (by decide) ?_
          have e9 : whq q k f t b0 (i + 1) = whq q k f t b0 i := by rw [whq, if_neg (fun z => Int64.not_le.mpr c_43 z.1)]
          exact ih (i + 1) ls (by omega) (by rw [e9]; exact (lv_sub hl [0, 1, 4, 5, 6, 7, 8] rfl))
        · have c_43 := mt (lg_cmp_lt _ _).mpr c_43
          refine lv_lload hx hb dX2_whole_46 (lv_at hl 0 rfl) ?_
          refine lv_iload_n hx hb dX2_whole_48 rfl (lv_at hl 7 rfl) ?_
          refine lv_i2l hx hb dX2_whole_49 rfl ?_
          refine W.lcmp hx hb dX2_whole_50 ?_
          refine lv_if_gt (tgt := 77) hx hb dX2_whole_51 (by decide) (fun c_51 => ?_) (fun c_51 => ?_)
          · have c_51 := (lg_cmp_gt _ _).mp c_51
            refine lv_lload hx hb dX2_whole_77 (lv_at hl 3 rfl) ?_
            refine lv_lstore (lv' := [(6, .long (whq q k f t b0 i)), (11, .long (lN (((bg q k i) + (m_W q k)) - 1))), (9, .long (lN (bg q k i))), (8, .int (nI i)), (0, .ref (b_o Y)), (1, .int (nI k)), (2, .int f), (3, .int t), (4, .long b0)]) hx hb dX2_whole_79 hl (by decide) rfl (fun ls hl => ?_)
            refine lv_iinc (v := nI (i + 1)) (lv' := [(8, .int (nI (i + 1))), (6, .long (whq q k f t b0 i)), (11, .long (lN (((bg q k i) + (m_W q k)) - 1))), (9, .long (lN (bg q k i))), (0, .ref (b_o Y)), (1, .int (nI k)), (2, .int f), (3, .int t), (4, .long b0)]) hx hb dX2_whole_81 hl (k := 3) rfl (inc1 _) (by decide) rfl (fun ls hl => ?_)
            refine lv_goto (tgt := 6) hx hb dX2_whole_84 (by decide) ?_
            have e9 : whq q k f t b0 (i + 1) = whq q k f t b0 i := by rw [whq, if_neg (fun z => Int64.not_le.mpr c_51 z.2.1)]
            exact ih (i + 1) ls (by omega) (by rw [e9]; exact (lv_sub hl [0, 1, 4, 5, 6, 7, 8] rfl))
          · have c_51 := mt (lg_cmp_gt _ _).mpr c_51
            refine lv_lload hx hb dX2_whole_54 (lv_at hl 0 rfl) ?_
            refine lv_lload hx hb dX2_whole_56 (lv_at hl 8 rfl) ?_
            refine W.lcmp hx hb dX2_whole_58 ?_
            refine lv_if_ge (tgt := 77) hx hb dX2_whole_59 (by decide) (fun c_59 => ?_) (fun c_59 => ?_)
            · have c_59 := (lg_cmp_ge _ _).mp c_59
              refine lv_lload hx hb dX2_whole_77 (lv_at hl 3 rfl) ?_
              refine lv_lstore (lv' := [(6, .long (whq q k f t b0 i)), (11, .long (lN (((bg q k i) + (m_W q k)) - 1))), (9, .long (lN (bg q k i))), (8, .int (nI i)), (0, .ref (b_o Y)), (1, .int (nI k)), (2, .int f), (3, .int t), (4, .long b0)]) hx hb dX2_whole_79 hl (by decide) rfl (fun ls hl => ?_)
              refine lv_iinc (v := nI (i + 1)) (lv' := [(8, .int (nI (i + 1))), (6, .long (whq q k f t b0 i)), (11, .long (lN (((bg q k i) + (m_W q k)) - 1))), (9, .long (lN (bg q k i))), (0, .ref (b_o Y)), (1, .int (nI k)), (2, .int f), (3, .int t), (4, .long b0)]) hx hb dX2_whole_81 hl (k := 3) rfl (inc1 _) (by decide) rfl (fun ls hl => ?_)
              refine lv_goto (tgt := 6) hx hb dX2_whole_84 (by decide) ?_
              have e9 : whq q k f t b0 (i + 1) = whq q k f t b0 i := by rw [whq, if_neg (fun z => Int64.not_lt.mpr c_59 z.2.2)]
              exact ih (i + 1) ls (by omega) (by rw [e9]; exact (lv_sub hl [0, 1, 4, 5, 6, 7, 8] rfl))
            · have c_59 := mt (lg_cmp_ge _ _).mpr c_59
              refine lv_lload hx hb dX2_whole_62 (lv_at hl 3 rfl) ?_
              refine lv_aload_n hx hb dX2_whole_64 rfl (lv_at hl 4 rfl) ?_
              refine lv_iload_n hx hb dX2_whole_65 rfl (lv_at hl 5 rfl) ?_
              refine lv_iload hx hb dX2_whole_66 (lv_at hl 2 rfl) ?_
              refine lv_iconst (v := 3) hx hb dX2_whole_68 (by decide) ?_
              refine ro_call (va_runV (As := [.int (nI k), .int (nI i), .int 3]) (rest := [.long (whq q k f t b0 i)]) ⟨hx, hb, hml, hown, hts⟩ (c_X2_figure l Y q hm hM k i (by omega) (by omega) 3 (by omega)) (cwV 3 hts gX2_whole_X2_figure rfl rfl rfl (by decide +kernel) ⟨Nat.le_of_ble_eq_true rfl, Nat.le_of_ble_eq_true rfl⟩) (ro_preV hK (va_recv hK hM (ci := 2) (q0 := 0) rfl rfl)) rfl rfl hl.1 rfl (lv_room (Nat.le_of_ble_eq_true rfl)) dX2_whole_69 ⟨Nat.zero_le _, Nat.zero_le _⟩) ?_
              refine lv_i2l hx hb dX2_whole_72 rfl ?_
              refine lv_ladd hx hb dX2_whole_73 ?_
              refine lv_goto (tgt := 79) hx hb dX2_whole_74 (by decide) ?_
              refine lv_lstore (lv' := [(6, .long ((whq q k f t b0 i) + ((fg q k i 3).toInt64))), (11, .long (lN (((bg q k i) + (m_W q k)) - 1))), (9, .long (lN (bg q k i))), (8, .int (nI i)), (0, .ref (b_o Y)), (1, .int (nI k)), (2, .int f), (3, .int t), (4, .long b0)]) hx hb dX2_whole_79 hl (by decide) rfl (fun ls hl => ?_)
              refine lv_iinc (v := nI (i + 1)) (lv' := [(8, .int (nI (i + 1))), (6, .long ((whq q k f t b0 i) + ((fg q k i 3).toInt64))), (11, .long (lN (((bg q k i) + (m_W q k)) - 1))), (9, .long (lN (bg q k i))), (0, .ref (b_o Y)), (1, .int (nI k)), (2, .int f), (3, .int t), (4, .long b0)]) hx hb dX2_whole_81 hl (k := 3) rfl (inc1 _) (by decide) rfl (fun ls hl => ?_)
              refine lv_goto (tgt := 6) hx hb dX2_whole_84 (by decide) ?_
              have e9 : whq q k f t b0 (i + 1) = (whq q k f t b0 i) + ((fg q k i 3).toInt64) := by rw [whq, if_pos ⟨Int64.not_lt.mp c_43, Int64.not_lt.mp c_51, Int64.not_le.mp c_59⟩]
              exact ih (i + 1) ls (by omega) (by rw [e9]; exact (lv_sub hl [0, 1, 4, 5, 6, 7, 8] rfl))
  refine lv_lconst (v := 0) hx hb dX2_whole_0 (by decide) ?_
  refine lv_lstore (lv' := [(6, .long 0), (0, .ref (b_o Y)), (1, .int (nI k)), (2, .int f), (3, .int t), (4, .long b0)]) hx hb dX2_whole_1 hl (by decide) rfl (fun ls hl => ?_)
  refine lv_iconst (v := 0) hx hb dX2_whole_3 (by decide) ?_
  refine lv_istore (lv' := [(8, .int 0), (6, .long 0), (0, .ref (b_o Y)), (1, .int (nI k)), (2, .int f), (3, .int t), (4, .long b0)]) hx hb dX2_whole_4 hl (by decide) rfl (fun ls hl => ?_)
  exact loop (kp q k) 0 ls (by omega) (lv_sub hl [0, 1, 2, 3, 4, 5, 6] rfl)
set_option maxHeartbeats 4000000 in
set_option maxRecDepth 100000 in
/-- reach(from, to) -/
theorem c_X2_reach (l : Launch) {D : va_G} {cI cA cJ : ClassId} {H : Heap} (Y : mA) (q : mv) (hm : m_ok q) (hM : va_P D vwCl (mW cI cJ Y q) H) (hps : ¬ m_P q = 0 → 1 ≤ kp q 0 ∧ 1 ≤ kp q 1) (f t : Int32) : Met l yX2_reach wsX2_reach ({ frames := 6, cells := 0, slots := 0, locals := 154 }) (ro_P D vwCl (tyL cI cA cJ) H [.ref (b_o Y), .int f, .int t]) (ro_Q (.long (rcM q f t)) H) 0 0 ro_no := by
  refine Met.ofW (cc := cX2_reach) (maxL := 7) (ret := (some .long)) (by decide) rfl ?_
  intro p e s m args below meth c s₁ B hml hv
  obtain ⟨rfl, hh, hK⟩ := hv
  subst hh
  have hx := B.exec
  have hb := B.bytes
  have hr := B.returns
  have hlocks := B.notSynchronized
  have hts := atoms_spec (ws := wsX2_reach) B.pre
  have hown : s.vm.findClass RX2 = some m.cls := findClass_of_methodNamed B.named
  have hi2 : ∀ w ∈ wsX20, w ∈ wsX2_reach := fun w h => List.mem_cons_of_mem _ (List.mem_append_right _ h)
  have hl := lv_entry ([.ref (b_o Y), .int f, .int t]) (n := 7) (Nat.le_of_ble_eq_true rfl)
  rw [lg_entry_eq]
  generalize (lg_sl ([.ref (b_o Y), .int f, .int t]) ++ List.replicate (7 - (lg_sl ([.ref (b_o Y), .int f, .int t])).length) Slot.unset).toArray = ls at hl ⊢
  have hl : lv_has ls 7 [(0, .ref (b_o Y)), (1, .int f), (2, .int t)] := hl
  obtain ⟨hp, hT, hRW, hkn⟩ := id hm
  have w0 : kp q 0 ≤ ng q 0 (m_P q) := hkn 0 (by omega)
  have w6 := ng_le q 0 (m_P q)
  have nq := mnc_le q f t (m_P q)
  refine lv_aload_n hx hb dX2_reach_0 rfl (lv_at hl 0 rfl) ?_
  refine va_get (D := D) (ci := 2) (v := .int (nI (m_P q))) (C := RX2) (T := TX2) (N := 6) hx hb hts hi2 hown hK hM 0 rfl rfl 3 (by decide) (hts (.fieldLink RX2 32 "RingSeriesModel" "points" "I") (by decide +kernel)) (fun _ h9 => h9) rfl dX2_reach_1 ?_
  refine lv_if_ne (tgt := 9) hx hb dX2_reach_4 (by decide) (fun c_4 => ?_) (fun c_4 => ?_)
  · have c_4 := mt (nI_eq (a := m_P q) (b := 0) (by omega) (by omega)).mpr c_4
    obtain ⟨p1, p2⟩ := hps c_4
    refine lv_aload_n hx hb dX2_reach_9 rfl (lv_at hl 0 rfl) ?_
    refine va_get (D := D) (ci := 2) (v := .ref (b_t Y)) (C := RX2) (T := TX2) (N := 6) hx hb hts hi2 hown hK hM 0 rfl rfl 4 (by decide) (hts (.fieldLink RX2 17 "RingSeriesModel" "times" "[I") (by decide +kernel)) (fun _ h9 => h9) rfl dX2_reach_10 ?_
    refine lv_aload_n hx hb dX2_reach_13 rfl (lv_at hl 0 rfl) ?_
    refine va_get (D := D) (ci := 2) (v := .int (nI (m_P q))) (C := RX2) (T := TX2) (N := 6) hx hb hts hi2 hown hK hM 0 rfl rfl 3 (by decide) (hts (.fieldLink RX2 32 "RingSeriesModel" "points" "I") (by decide +kernel)) (fun _ h9 => h9) rfl dX2_reach_14 ?_
    refine lv_aload_n hx hb dX2_reach_17 rfl (lv_at hl 0 rfl) ?_
    refine lv_iconst (v := 0) hx hb dX2_reach_18 (by decide) ?_
    refine ro_call (va_runV (As := [.int 0]) (rest := [.int (nI (m_P q)), .ref (b_t Y)]) ⟨hx, hb, hml, hown, hts⟩ (c_X2_kept l Y q hm hM 0 (by omega)) (cwV 1 hts gX2_reach_X2_kept rfl rfl rfl (by decide +kernel) ⟨Nat.le_of_ble_eq_true rfl, Nat.le_of_ble_eq_true rfl⟩) (ro_preV hK (va_recv hK hM (ci := 2) (q0 := 0) rfl rfl)) rfl rfl hl.1 rfl (lv_room (Nat.le_of_ble_eq_true rfl)) dX2_reach_19 ⟨Nat.zero_le _, Nat.zero_le _⟩) ?_
    refine lv_isub hx hb dX2_reach_22 ?_
    refine top_i (pk_sub (a := m_P q) (b := kp q 0) (by omega)) ?_
    refine ald_i (j := ((m_P q) - (kp q 0))) hx hb hK hM 3 0 rfl rfl (by omega) (by omega) dX2_reach_23 ?_
    refine lv_i2l hx hb dX2_reach_24 rfl ?_
    refine lv_lstore_n (lv' := [(3, .long ((nI (m_T q ((m_P q) - (kp q 0)))).toInt64)), (0, .ref (b_o Y)), (1, .int f), (2, .int t)]) hx hb dX2_reach_25 rfl hl (by decide) rfl (fun ls hl => ?_)
    refine lv_aload_n hx hb dX2_reach_26 rfl (lv_at hl 1 rfl) ?_
    refine lv_iconst (v := 1) hx hb dX2_reach_27 (by decide) ?_
    refine lv_iconst (v := 0) hx hb dX2_reach_28 (by decide) ?_
    refine ro_call (va_runV (As := [.int 1, .int 0]) (rest := []) ⟨hx, hb, hml, hown, hts⟩ (c_X2_begin l Y q hm hM 1 0 (by omega) (by omega)) (cwV 2 hts gX2_reach_X2_begin rfl rfl rfl (by decide +kernel) ⟨Nat.le_of_ble_eq_true rfl, Nat.le_of_ble_eq_true rfl⟩) (ro_preV hK (va_recv hK hM (ci := 2) (q0 := 0) rfl rfl)) rfl rfl hl.1 rfl (lv_room (Nat.le_of_ble_eq_true rfl)) dX2_reach_29 ⟨Nat.zero_le _, Nat.zero_le _⟩) ?_
    refine lv_lstore (lv' := [(5, .long (lN (bg q 1 0))), (3, .long ((nI (m_T q ((m_P q) - (kp q 0)))).toInt64)), (0, .ref (b_o Y)), (1, .int f), (2, .int t)]) hx hb dX2_reach_32 hl (by decide) rfl (fun ls hl => ?_)
    refine lv_aload_n hx hb dX2_reach_34 rfl (lv_at hl 2 rfl) ?_
    refine lv_iload_n hx hb dX2_reach_35 rfl (lv_at hl 3 rfl) ?_
    refine lv_iload_n hx hb dX2_reach_36 rfl (lv_at hl 4 rfl) ?_
    refine ro_call (va_runV (As := [.int f, .int t]) (rest := []) ⟨hx, hb, hml, hown, hts⟩ (c_X2_many l Y q hm hM f t) (cwV 2 hts gX2_reach_X2_many rfl rfl rfl (by decide +kernel) ⟨Nat.le_of_ble_eq_true rfl, Nat.le_of_ble_eq_true rfl⟩) (ro_preV hK (va_recv hK hM (ci := 2) (q0 := 0) rfl rfl)) rfl rfl hl.1 rfl (lv_room (Nat.le_of_ble_eq_true rfl)) dX2_reach_37 ⟨Nat.zero_le _, Nat.zero_le _⟩) ?_
    refine lv_i2l hx hb dX2_reach_40 rfl ?_
    refine lv_aload_n hx hb dX2_reach_41 rfl (lv_at hl 2 rfl) ?_
    refine lv_iconst (v := 1) hx hb dX2_reach_42 (by decide) ?_
    refine lv_iload_n hx hb dX2_reach_43 rfl (lv_at hl 3 rfl) ?_
    refine lv_iload_n hx hb dX2_reach_44 rfl (lv_at hl 4 rfl) ?_
    refine lv_lload_n hx hb dX2_reach_45 rfl (lv_at hl 1 rfl) ?_
    refine ro_call (va_runV (As := [.int 1, .int f, .int t, .long ((nI (m_T q ((m_P q) - (kp q 0)))).toInt64)]) (rest := [.long ((nI (mnc q f t (m_P q))).toInt64)]) ⟨hx, hb, hml, hown, hts⟩ (c_X2_whole l Y q hm hM 1 (by omega) f t ((nI (m_T q ((m_P q) - (kp q 0)))).toInt64)) (cwV 4 hts gX2_reach_X2_whole rfl rfl rfl (by decide +kernel) ⟨Nat.le_of_ble_eq_true rfl, Nat.le_of_ble_eq_true rfl⟩) (ro_preV hK (va_recv hK hM (ci := 2) (q0 := 0) rfl rfl)) rfl rfl hl.1 rfl (lv_room (Nat.le_of_ble_eq_true rfl)) dX2_reach_46 ⟨Nat.zero_le _, Nat.zero_le _⟩) ?_
    refine lv_ladd hx hb dX2_reach_49 ?_
    refine lv_aload_n hx hb dX2_reach_50 rfl (lv_at hl 2 rfl) ?_
    refine lv_iconst (v := 2) hx hb dX2_reach_51 (by decide) ?_
    refine lv_iload_n hx hb dX2_reach_52 rfl (lv_at hl 3 rfl) ?_
    refine lv_iload_n hx hb dX2_reach_53 rfl (lv_at hl 4 rfl) ?_
    refine lv_lload hx hb dX2_reach_54 (lv_at hl 0 rfl) ?_
    refine lv_lload_n hx hb dX2_reach_56 rfl (lv_at hl 1 rfl) ?_
    refine W.lcmp hx hb dX2_reach_57 ?_
    refine lv_if_ge (tgt := 66) hx hb dX2_reach_58 (by decide) (fun c_58 => ?_) (fun c_58 => ?_)
    · have c_58 := (lg_cmp_ge _ _).mp c_58
      refine lv_lload_n hx hb dX2_reach_66 rfl (lv_at hl 1 rfl) ?_
      refine ro_call (va_runV (As := [.int 2, .int f, .int t, .long ((nI (m_T q ((m_P q) - (kp q 0)))).toInt64)]) (rest := [.long (((nI (mnc q f t (m_P q))).toInt64) + (whq q 1 f t ((nI (m_T q ((m_P q) - (kp q 0)))).toInt64) (kp q 1)))]) ⟨hx, hb, hml, hown, hts⟩ (c_X2_whole l Y q hm hM 2 (by omega) f t ((nI (m_T q ((m_P q) - (kp q 0)))).toInt64)) (cwV 4 hts gX2_reach_X2_whole rfl rfl rfl (by decide +kernel) ⟨Nat.le_of_ble_eq_true rfl, Nat.le_of_ble_eq_true rfl⟩) (ro_preV hK (va_recv hK hM (ci := 2) (q0 := 0) rfl rfl)) rfl rfl hl.1 rfl (lv_room (Nat.le_of_ble_eq_true rfl)) dX2_reach_67 ⟨Nat.zero_le _, Nat.zero_le _⟩) ?_
      refine lv_ladd hx hb dX2_reach_70 ?_
      exact ro_lret hx hb hr (by unfold rcM; rw [if_neg c_4, if_neg (Int64.not_lt.mpr c_58)]) dX2_reach_71 hlocks
    · have c_58 := mt (lg_cmp_ge _ _).mpr c_58
      refine lv_lload hx hb dX2_reach_61 (lv_at hl 0 rfl) ?_
      refine lv_goto (tgt := 67) hx hb dX2_reach_63 (by decide) ?_
      refine ro_call (va_runV (As := [.int 2, .int f, .int t, .long (lN (bg q 1 0))]) (rest := [.long (((nI (mnc q f t (m_P q))).toInt64) + (whq q 1 f t ((nI (m_T q ((m_P q) - (kp q 0)))).toInt64) (kp q 1)))]) ⟨hx, hb, hml, hown, hts⟩ (c_X2_whole l Y q hm hM 2 (by omega) f t (lN (bg q 1 0))) (cwV 4 hts gX2_reach_X2_whole rfl rfl rfl (by decide +kernel) ⟨Nat.le_of_ble_eq_true rfl, Nat.le_of_ble_eq_true rfl⟩) (ro_preV hK (va_recv hK hM (ci := 2) (q0 := 0) rfl rfl)) rfl rfl hl.1 rfl (lv_room (Nat.le_of_ble_eq_true rfl)) dX2_reach_67 ⟨Nat.zero_le _, Nat.zero_le _⟩) ?_
      refine lv_ladd hx hb dX2_reach_70 ?_
      exact ro_lret hx hb hr (by unfold rcM; rw [if_neg c_4, if_pos (Int64.not_le.mp c_58)]) dX2_reach_71 hlocks
  · have c_4 := (nI_eq (a := m_P q) (b := 0) (by omega) (by omega)).mp c_4
    refine lv_lconst (v := 0) hx hb dX2_reach_7 (by decide) ?_
    exact ro_lret hx hb hr (by unfold rcM; rw [if_pos c_4]) dX2_reach_8 hlocks
set_option maxHeartbeats 4000000 in
set_option maxRecDepth 100000 in
/-- sound() -/
theorem c_X2_sound (l : Launch) {D : va_G} {cI cA cJ : ClassId} {H : Heap} (Y : mA) (q : mv) (hm : m_ok q) (hM : va_P D vwCl (mW cI cJ Y q) H) : Met l yX2_sound wsX2_sound ({ frames := 0, cells := 0, slots := 0, locals := 0 }) (ro_P D vwCl (tyL cI cA cJ) H [.ref (b_o Y)]) (ro_Q (.int 1) H) 0 0 ro_no := by
  refine Met.ofW (cc := cX2_sound) (maxL := 1) (ret := (some .boolean)) (by decide) rfl ?_
  intro p e s m args below meth c s₁ B hml hv
  obtain ⟨rfl, hh, hK⟩ := hv
  subst hh
  have hx := B.exec
  have hb := B.bytes
  have hr := B.returns
  have hlocks := B.notSynchronized
  have hts := atoms_spec (ws := wsX2_sound) B.pre
  have hown : s.vm.findClass RX2 = some m.cls := findClass_of_methodNamed B.named
  have hl := lv_entry ([.ref (b_o Y)]) (n := 1) (Nat.le_of_ble_eq_true rfl)
  rw [lg_entry_eq]
  generalize (lg_sl ([.ref (b_o Y)]) ++ List.replicate (1 - (lg_sl ([.ref (b_o Y)])).length) Slot.unset).toArray = ls at hl ⊢
  have hl : lv_has ls 1 [(0, .ref (b_o Y))] := hl
  refine lv_iconst (v := 1) hx hb dX2_sound_0 (by decide) ?_
  exact ro_zret hx hb hr (by first | rfl | decide) rfl dX2_sound_1 hlocks
