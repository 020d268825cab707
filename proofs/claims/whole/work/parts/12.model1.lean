def wjV (n lo hi : Int32) : Int32 := if n < lo then lo else if hi < n then hi else n
theorem nix3b {v : Int32} (hn : ¬ ix 3 v) : v < 0 ∨ 2 < v := by
  rcases nix3 hn with h | h
  · exact Or.inl (Int32.lt_iff_toInt_lt.mpr h)
  · exact Or.inr (Int32.lt_iff_toInt_lt.mpr h)
theorem ge_m1 {g a : Nat} (hg : g < 2 ^ 31) (ha : a < 2 ^ 31) : nI g ≤ nI a - 1 ↔ g + 1 ≤ a := by
  rcases Nat.eq_zero_or_pos a with h | h
  · subst h
    constructor
    · intro h
      rw [Int32.le_iff_toInt_le, nI_toInt hg] at h
      have : (nI 0 - 1).toInt = -1 := by decide
      omega
    · intro h
      omega
  · obtain ⟨b, rfl⟩ : ∃ b, a = b + 1 := ⟨a - 1, by omega⟩
    rw [nI_pred, nI_leI hg (by omega)]
    omega
set_option maxHeartbeats 4000000 in
set_option maxRecDepth 100000 in
/-- within(v, low, high) -/
theorem c_X2_within (l : Launch) {D : va_G} {cI cA cJ : ClassId} {H : Heap} (n lo hi : Int32) : Met l yX2_within wsX2_within ({ frames := 0, cells := 0, slots := 0, locals := 0 }) (ro_P D vwCl (tyL cI cA cJ) H [.int n, .int lo, .int hi]) (ro_Q (.int (wjV n lo hi)) H) 0 0 ro_no := by
  refine Met.ofW (cc := cX2_within) (maxL := 3) (ret := (some .int)) (by decide) rfl ?_
  intro p e s m args below meth c s₁ B hml hv
  obtain ⟨rfl, hh, hK⟩ := hv
  subst hh
  have hx := B.exec
  have hb := B.bytes
  have hr := B.returns
  have hlocks := B.notSynchronized
  have hts := atoms_spec (ws := wsX2_within) B.pre
  have hown : s.vm.findClass RX2 = some m.cls := findClass_of_methodNamed B.named
  have hl := lv_entry ([.int n, .int lo, .int hi]) (n := 3) (Nat.le_of_ble_eq_true rfl)
  rw [lg_entry_eq]
  generalize (lg_sl ([.int n, .int lo, .int hi]) ++ List.replicate (3 - (lg_sl ([.int n, .int lo, .int hi])).length) Slot.unset).toArray = ls at hl ⊢
  have hl : lv_has ls 3 [(0, .int n), (1, .int lo), (2, .int hi)] := hl
  refine lv_iload_n hx hb dX2_within_0 rfl (lv_at hl 0 rfl) ?_
  refine lv_iload_n hx hb dX2_within_1 rfl (lv_at hl 1 rfl) ?_
  refine lv_icmp_ge (tgt := 9) hx hb dX2_within_2 (by decide) (fun c_2 => ?_) (fun c_2 => ?_)
  · refine lv_iload_n hx hb dX2_within_9 rfl (lv_at hl 0 rfl) ?_
    refine lv_iload_n hx hb dX2_within_10 rfl (lv_at hl 2 rfl) ?_
    refine lv_icmp_le (tgt := 18) hx hb dX2_within_11 (by decide) (fun c_11 => ?_) (fun c_11 => ?_)
    · refine lv_iload_n hx hb dX2_within_18 rfl (lv_at hl 0 rfl) ?_
      exact ro_iret hx hb hr (by unfold wjV; rw [if_neg (Int32.not_lt.mpr c_2), if_neg (Int32.not_lt.mpr c_11)]) dX2_within_19 hlocks
    · refine lv_iload_n hx hb dX2_within_14 rfl (lv_at hl 2 rfl) ?_
      refine lv_goto (tgt := 19) hx hb dX2_within_15 (by decide) ?_
      exact ro_iret hx hb hr (by unfold wjV; rw [if_neg (Int32.not_lt.mpr c_2), if_pos (Int32.not_le.mp c_11)]) dX2_within_19 hlocks
  · refine lv_iload_n hx hb dX2_within_5 rfl (lv_at hl 1 rfl) ?_
    refine lv_goto (tgt := 19) hx hb dX2_within_6 (by decide) ?_
    exact ro_iret hx hb hr (by unfold wjV; rw [if_pos (Int32.not_le.mp c_2)]) dX2_within_19 hlocks
set_option maxHeartbeats 4000000 in
set_option maxRecDepth 100000 in
/-- isSame(level, p, q) -/
theorem c_X2_isSame (l : Launch) {D : va_G} {cI cA cJ : ClassId} {H : Heap} (Y : mA) (q : mv) (hm : m_ok q) (hM : va_P D vwCl (mW cI cJ Y q) H) (k x y : Nat) (hq : k < 3) (hx0 : x < m_P q) (hy0 : y < m_P q) : Met l yX2_isSame wsX2_isSame ({ frames := 0, cells := 0, slots := 0, locals := 0 }) (ro_P D vwCl (tyL cI cA cJ) H [.ref (b_o Y), .int (nI k), .int (nI x), .int (nI y)]) (ro_Q (.int (if sm q k x y then 1 else 0)) H) 0 0 ro_no := by
  refine Met.ofW (cc := cX2_isSame) (maxL := 4) (ret := (some .boolean)) (by decide) rfl ?_
  intro p e s m args below meth c s₁ B hml hv
  obtain ⟨rfl, hh, hK⟩ := hv
  subst hh
  have hx := B.exec
  have hb := B.bytes
  have hr := B.returns
  have hlocks := B.notSynchronized
  have hts := atoms_spec (ws := wsX2_isSame) B.pre
  have hown : s.vm.findClass RX2 = some m.cls := findClass_of_methodNamed B.named
  have hi2 : ∀ w ∈ wsX20, w ∈ wsX2_isSame := fun w h => List.mem_cons_of_mem _ (List.mem_append_right _ h)
  have hl := lv_entry ([.ref (b_o Y), .int (nI k), .int (nI x), .int (nI y)]) (n := 4) (Nat.le_of_ble_eq_true rfl)
  rw [lg_entry_eq]
  generalize (lg_sl ([.ref (b_o Y), .int (nI k), .int (nI x), .int (nI y)]) ++ List.replicate (4 - (lg_sl ([.ref (b_o Y), .int (nI k), .int (nI x), .int (nI y)])).length) Slot.unset).toArray = ls at hl ⊢
  have hl : lv_has ls 4 [(0, .ref (b_o Y)), (1, .int (nI k)), (2, .int (nI x)), (3, .int (nI y))] := hl
  obtain ⟨hp, hT, hRW, hkn⟩ := id hm
  obtain ⟨w1, w2, w3, w4⟩ := hRW k (by omega)
  have w5 := hkn k (by omega)
  have w6 := ng_le q k (m_P q)
  refine lv_aload_n hx hb dX2_isSame_0 rfl (lv_at hl 0 rfl) ?_
  refine va_get (D := D) (ci := 2) (v := .ref (b_t Y)) (C := RX2) (T := TX2) (N := 6) hx hb hts hi2 hown hK hM 0 rfl rfl 4 (by decide) (hts (.fieldLink RX2 17 "RingSeriesModel" "times" "[I") (by decide +kernel)) (fun _ h9 => h9) rfl dX2_isSame_1 ?_
  refine lv_iload_n hx hb dX2_isSame_4 rfl (lv_at hl 2 rfl) ?_
  refine ald_i (j := x) hx hb hK hM 3 0 rfl rfl (by omega) (by omega) dX2_isSame_5 ?_
  refine lv_i2l hx hb dX2_isSame_6 rfl ?_
  refine top_l (nI_l (hT _)) ?_
  refine lv_aload_n hx hb dX2_isSame_7 rfl (lv_at hl 0 rfl) ?_
  refine va_get (D := D) (ci := 2) (v := .ref (b_w Y)) (C := RX2) (T := TX2) (N := 6) hx hb hts hi2 hown hK hM 0 rfl rfl 2 (by decide) (hts (.fieldLink RX2 13 "RingSeriesModel" "widths" "[J") (by decide +kernel)) (fun _ h9 => h9) rfl dX2_isSame_8 ?_
  refine lv_iload_n hx hb dX2_isSame_11 rfl (lv_at hl 1 rfl) ?_
  refine ald_l (j := k) hx hb hK hM 2 2 rfl rfl (by omega) (by omega) dX2_isSame_12 ?_
  refine lv_ldiv hx hb dX2_isSame_13 (fun z => absurd ((pk_lEQ (b := 0) (by omega) (by omega)).mp z) (by omega)) ?_
  refine top_l (pk_lDiv (by have := hT x; omega) (by omega) (by omega)) ?_
  refine lv_aload_n hx hb dX2_isSame_14 rfl (lv_at hl 0 rfl) ?_
  refine va_get (D := D) (ci := 2) (v := .ref (b_t Y)) (C := RX2) (T := TX2) (N := 6) hx hb hts hi2 hown hK hM 0 rfl rfl 4 (by decide) (hts (.fieldLink RX2 17 "RingSeriesModel" "times" "[I") (by decide +kernel)) (fun _ h9 => h9) rfl dX2_isSame_15 ?_
  refine lv_iload_n hx hb dX2_isSame_18 rfl (lv_at hl 3 rfl) ?_
  refine ald_i (j := y) hx hb hK hM 3 0 rfl rfl (by omega) (by omega) dX2_isSame_19 ?_
  refine lv_i2l hx hb dX2_isSame_20 rfl ?_
  refine top_l (nI_l (hT _)) ?_
  refine lv_aload_n hx hb dX2_isSame_21 rfl (lv_at hl 0 rfl) ?_
  refine va_get (D := D) (ci := 2) (v := .ref (b_w Y)) (C := RX2) (T := TX2) (N := 6) hx hb hts hi2 hown hK hM 0 rfl rfl 2 (by decide) (hts (.fieldLink RX2 13 "RingSeriesModel" "widths" "[J") (by decide +kernel)) (fun _ h9 => h9) rfl dX2_isSame_22 ?_
  refine lv_iload_n hx hb dX2_isSame_25 rfl (lv_at hl 1 rfl) ?_
  refine ald_l (j := k) hx hb hK hM 2 2 rfl rfl (by omega) (by omega) dX2_isSame_26 ?_
  refine lv_ldiv hx hb dX2_isSame_27 (fun z => absurd ((pk_lEQ (b := 0) (by omega) (by omega)).mp z) (by omega)) ?_
  refine top_l (pk_lDiv (by have := hT y; omega) (by omega) (by omega)) ?_
  refine W.lcmp hx hb dX2_isSame_28 ?_
  refine lv_if_ne (tgt := 36) hx hb dX2_isSame_29 (by decide) (fun c_29 => ?_) (fun c_29 => ?_)
  · have c_29 := mt (lg_cmp_eq _ _).mpr c_29
    refine lv_iconst (v := 0) hx hb dX2_isSame_36 (by decide) ?_
    exact ro_zret hx hb hr (by first | rfl | decide) (by rw [if_neg (fun z => c_29 (congrArg lN z))]) dX2_isSame_37 hlocks
  · have c_29 := (lg_cmp_eq _ _).mp c_29
    refine lv_iconst (v := 1) hx hb dX2_isSame_32 (by decide) ?_
    refine lv_goto (tgt := 37) hx hb dX2_isSame_33 (by decide) ?_
    exact ro_zret hx hb hr (by first | rfl | decide) (by rw [if_pos ((pk_lEQ (Nat.lt_of_le_of_lt (Nat.div_le_self _ _) (by have := hT x; omega)) (Nat.lt_of_le_of_lt (Nat.div_le_self _ _) (by have := hT y; omega))).mp c_29)]) dX2_isSame_37 hlocks
set_option maxHeartbeats 4000000 in
set_option maxRecDepth 100000 in
/-- all(level) -/
theorem c_X2_all (l : Launch) {D : va_G} {cI cA cJ : ClassId} {H : Heap} (Y : mA) (q : mv) (hm : m_ok q) (hM : va_P D vwCl (mW cI cJ Y q) H) (k : Nat) (hq : k < 3) : Met l yX2_all wsX2_all ({ frames := 1, cells := 0, slots := 0, locals := 23 }) (ro_P D vwCl (tyL cI cA cJ) H [.ref (b_o Y), .int (nI k)]) (ro_Q (.int (nI (ng q k (m_P q)))) H) 0 0 ro_no := by
  refine Met.ofW (cc := cX2_all) (maxL := 4) (ret := (some .int)) (by decide) rfl ?_
  intro p e s m args below meth c s₁ B hml hv
  obtain ⟨rfl, hh, hK⟩ := hv
  subst hh
  have hx := B.exec
  have hb := B.bytes
  have hr := B.returns
  have hlocks := B.notSynchronized
  have hts := atoms_spec (ws := wsX2_all) B.pre
  have hown : s.vm.findClass RX2 = some m.cls := findClass_of_methodNamed B.named
  have hi2 : ∀ w ∈ wsX20, w ∈ wsX2_all := fun w h => List.mem_cons_of_mem _ (List.mem_append_right _ h)
  have hl := lv_entry ([.ref (b_o Y), .int (nI k)]) (n := 4) (Nat.le_of_ble_eq_true rfl)
  rw [lg_entry_eq]
  generalize (lg_sl ([.ref (b_o Y), .int (nI k)]) ++ List.replicate (4 - (lg_sl ([.ref (b_o Y), .int (nI k)])).length) Slot.unset).toArray = ls at hl ⊢
  have hl : lv_has ls 4 [(0, .ref (b_o Y)), (1, .int (nI k))] := hl
  obtain ⟨hp, hT, hRW, hkn⟩ := id hm
  obtain ⟨w1, w2, w3, w4⟩ := hRW k (by omega)
  have w5 := hkn k (by omega)
  have w6 := ng_le q k (m_P q)
  have loop : ∀ (n : Nat) (p0 : Nat) (ls : Array Slot), p0 + n = m_P q → lv_has ls 4 [(3, .int (nI p0)), (2, .int (nI (ng q k p0))), (0, .ref (b_o Y)), (1, .int (nI k))] → W p l e (headSpec wsX2_all ({ frames := 1, cells := 0, slots := 0, locals := 23 })).room s m ([.ref (b_o Y), .int (nI k)] : List Value).toArray below meth c s.heap [] 0 0 (MQ below (ro_Q (.int (nI (ng q k (m_P q)))) s.heap) ([.ref (b_o Y), .int (nI k)] : List Value).toArray s 0 0 ro_no) (F0 m 4 ls []) := by
    intro n
    induction n with
    | zero =>
      intro p0 ls hi hl
      have g0 := ng_le q k p0
      refine lv_iload_n hx hb dX2_all_4 rfl (lv_at hl 0 rfl) ?_
      refine lv_aload_n hx hb dX2_all_5 rfl (lv_at hl 2 rfl) ?_
      refine va_get (D := D) (ci := 2) (v := .int (nI (m_P q))) (C := RX2) (T := TX2) (N := 6) hx hb hts hi2 hown hK hM 0 rfl rfl 3 (by decide) (hts (.fieldLink RX2 32 "RingSeriesModel" "points" "I") (by decide +kernel)) (fun _ h9 => h9) rfl dX2_all_6 ?_
      refine lv_icmp_ge (tgt := 42) hx hb dX2_all_9 (by decide) (fun c_9 => ?_) (fun c_9 => ?_)
      · have c_9 := (nI_leI (a := m_P q) (b := p0) (by omega) (by omega)).mp c_9
        refine lv_iload_n hx hb dX2_all_42 rfl (lv_at hl 1 rfl) ?_
        exact ro_iret hx hb hr (by rw [show p0 = m_P q by omega]) dX2_all_43 hlocks
      · have c_9 := mt (nI_leI (a := m_P q) (b := p0) (by omega) (by omega)).mpr c_9
        exact absurd c_9 (by omega)
    | succ n ih =>
      intro p0 ls hi hl
      have g0 := ng_le q k p0
      refine lv_iload_n hx hb dX2_all_4 rfl (lv_at hl 0 rfl) ?_
      refine lv_aload_n hx hb dX2_all_5 rfl (lv_at hl 2 rfl) ?_
      refine va_get (D := D) (ci := 2) (v := .int (nI (m_P q))) (C := RX2) (T := TX2) (N := 6) hx hb hts hi2 hown hK hM 0 rfl rfl 3 (by decide) (hts (.fieldLink RX2 32 "RingSeriesModel" "points" "I") (by decide +kernel)) (fun _ h9 => h9) rfl dX2_all_6 ?_
      refine lv_icmp_ge (tgt := 42) hx hb dX2_all_9 (by decide) (fun c_9 => ?_) (fun c_9 => ?_)
      · have c_9 := (nI_leI (a := m_P q) (b := p0) (by omega) (by omega)).mp c_9
        exact absurd c_9 (by omega)
      · have c_9 := mt (nI_leI (a := m_P q) (b := p0) (by omega) (by omega)).mpr c_9
        refine lv_iload_n hx hb dX2_all_12 rfl (lv_at hl 0 rfl) ?_
        refine lv_if_eq (tgt := 28) hx hb dX2_all_13 (by decide) (fun c_13 => ?_) (fun c_13 => ?_)
        · have c_13 := (nI_eq (a := p0) (b := 0) (by omega) (by omega)).mp c_13
          refine lv_iload_n hx hb dX2_all_28 rfl (lv_at hl 1 rfl) ?_
          refine lv_iconst (v := 1) hx hb dX2_all_29 (by decide) ?_
          refine lv_iadd hx hb dX2_all_30 ?_
          refine top_i (nI_add _ 1) ?_
          refine lv_goto (tgt := 35) hx hb dX2_all_31 (by decide) ?_
          refine lv_istore_n (lv' := [(2, .int (nI ((ng q k p0) + 1))), (3, .int (nI p0)), (0, .ref (b_o Y)), (1, .int (nI k))]) hx hb dX2_all_35 rfl hl (by decide) rfl (fun ls hl => ?_)
          refine lv_iinc (v := nI (p0 + 1)) (lv' := [(3, .int (nI (p0 + 1))), (2, .int (nI ((ng q k p0) + 1))), (0, .ref (b_o Y)), (1, .int (nI k))]) hx hb dX2_all_36 hl (k := 1) rfl (inc1 _) (by decide) rfl (fun ls hl => ?_)
          refine lv_goto (tgt := 4) hx hb dX2_all_39 (by decide) ?_
          have e9 : ng q k (p0 + 1) = (ng q k p0) + 1 := by rw [ng, if_pos (Or.inl c_13)]
          exact ih (p0 + 1) ls (by omega) (by rw [e9]; exact (lv_sub hl [0, 1, 2, 3] rfl))
        · have c_13 := mt (nI_eq (a := p0) (b := 0) (by omega) (by omega)).mpr c_13
          refine lv_aload_n hx hb dX2_all_16 rfl (lv_at hl 2 rfl) ?_
          refine lv_iload_n hx hb dX2_all_17 rfl (lv_at hl 3 rfl) ?_
          refine lv_iload_n hx hb dX2_all_18 rfl (lv_at hl 0 rfl) ?_
          refine lv_iconst (v := 1) hx hb dX2_all_19 (by decide) ?_
          refine lv_isub hx hb dX2_all_20 ?_
          refine top_i (pk_sub (a := p0) (b := 1) (by omega)) ?_
          refine lv_iload_n hx hb dX2_all_21 rfl (lv_at hl 0 rfl) ?_
          refine ro_call (va_runV (As := [.int (nI k), .int (nI (p0 - 1)), .int (nI p0)]) (rest := []) ⟨hx, hb, hml, hown, hts⟩ (c_X2_isSame l Y q hm hM k (p0 - 1) p0 (by omega) (by omega) (by omega)) (cwV 3 hts gX2_all_X2_isSame rfl rfl rfl (by decide +kernel) ⟨Nat.le_of_ble_eq_true rfl, Nat.le_of_ble_eq_true rfl⟩) (ro_preV hK (va_recv hK hM (ci := 2) (q0 := 0) rfl rfl)) rfl rfl hl.1 rfl (lv_room (Nat.le_of_ble_eq_true rfl)) dX2_all_22 ⟨Nat.zero_le _, Nat.zero_le _⟩) ?_
          refine lv_if_ne (tgt := 34) hx hb dX2_all_25 (by decide) (fun c_25 => ?_) (fun c_25 => ?_)
          · have c_25 := bi_ne c_25
            refine lv_iload_n hx hb dX2_all_34 rfl (lv_at hl 1 rfl) ?_
            refine lv_istore_n (lv' := [(2, .int (nI (ng q k p0))), (3, .int (nI p0)), (0, .ref (b_o Y)), (1, .int (nI k))]) hx hb dX2_all_35 rfl hl (by decide) rfl (fun ls hl => ?_)
            refine lv_iinc (v := nI (p0 + 1)) (lv' := [(3, .int (nI (p0 + 1))), (2, .int (nI (ng q k p0))), (0, .ref (b_o Y)), (1, .int (nI k))]) hx hb dX2_all_36 hl (k := 1) rfl (inc1 _) (by decide) rfl (fun ls hl => ?_)
            refine lv_goto (tgt := 4) hx hb dX2_all_39 (by decide) ?_
            have e9 : ng q k (p0 + 1) = ng q k p0 := by rw [ng, if_neg (fun z => z.elim c_13 (fun z => z c_25))]
            exact ih (p0 + 1) ls (by omega) (by rw [e9]; exact (lv_sub hl [0, 1, 2, 3] rfl))
          · have c_25 := bi_eq c_25
            refine lv_iload_n hx hb dX2_all_28 rfl (lv_at hl 1 rfl) ?_
            refine lv_iconst (v := 1) hx hb dX2_all_29 (by decide) ?_
            refine lv_iadd hx hb dX2_all_30 ?_
            refine top_i (nI_add _ 1) ?_
            refine lv_goto (tgt := 35) hx hb dX2_all_31 (by decide) ?_
            refine lv_istore_n (lv' := [(2, .int (nI ((ng q k p0) + 1))), (3, .int (nI p0)), (0, .ref (b_o Y)), (1, .int (nI k))]) hx hb dX2_all_35 rfl hl (by decide) rfl (fun ls hl => ?_)
            refine lv_iinc (v := nI (p0 + 1)) (lv' := [(3, .int (nI (p0 + 1))), (2, .int (nI ((ng q k p0) + 1))), (0, .ref (b_o Y)), (1, .int (nI k))]) hx hb dX2_all_36 hl (k := 1) rfl (inc1 _) (by decide) rfl (fun ls hl => ?_)
            refine lv_goto (tgt := 4) hx hb dX2_all_39 (by decide) ?_
            have e9 : ng q k (p0 + 1) = (ng q k p0) + 1 := by rw [ng, if_pos (Or.inr c_25)]
            exact ih (p0 + 1) ls (by omega) (by rw [e9]; exact (lv_sub hl [0, 1, 2, 3] rfl))
  refine lv_iconst (v := 0) hx hb dX2_all_0 (by decide) ?_
  refine lv_istore_n (lv' := [(2, .int 0), (0, .ref (b_o Y)), (1, .int (nI k))]) hx hb dX2_all_1 rfl hl (by decide) rfl (fun ls hl => ?_)
  refine lv_iconst (v := 0) hx hb dX2_all_2 (by decide) ?_
  refine lv_istore_n (lv' := [(3, .int 0), (2, .int 0), (0, .ref (b_o Y)), (1, .int (nI k))]) hx hb dX2_all_3 rfl hl (by decide) rfl (fun ls hl => ?_)
  exact loop (m_P q) 0 ls (by omega) (lv_sub hl [0, 1, 2, 3] rfl)
set_option maxHeartbeats 4000000 in
set_option maxRecDepth 100000 in
/-- kept(level) -/
theorem c_X2_kept (l : Launch) {D : va_G} {cI cA cJ : ClassId} {H : Heap} (Y : mA) (q : mv) (hm : m_ok q) (hM : va_P D vwCl (mW cI cJ Y q) H) (k : Nat) (hq : k < 3) : Met l yX2_kept wsX2_kept ({ frames := 2, cells := 0, slots := 0, locals := 46 }) (ro_P D vwCl (tyL cI cA cJ) H [.ref (b_o Y), .int (nI k)]) (ro_Q (.int (nI (kp q k))) H) 0 0 ro_no := by
  refine Met.ofW (cc := cX2_kept) (maxL := 3) (ret := (some .int)) (by decide) rfl ?_
  intro p e s m args below meth c s₁ B hml hv
  obtain ⟨rfl, hh, hK⟩ := hv
  subst hh
  have hx := B.exec
  have hb := B.bytes
  have hr := B.returns
  have hlocks := B.notSynchronized
  have hts := atoms_spec (ws := wsX2_kept) B.pre
  have hown : s.vm.findClass RX2 = some m.cls := findClass_of_methodNamed B.named
  have hi2 : ∀ w ∈ wsX20, w ∈ wsX2_kept := fun w h => List.mem_cons_of_mem _ (List.mem_append_right _ h)
  have hl := lv_entry ([.ref (b_o Y), .int (nI k)]) (n := 3) (Nat.le_of_ble_eq_true rfl)
  rw [lg_entry_eq]
  generalize (lg_sl ([.ref (b_o Y), .int (nI k)]) ++ List.replicate (3 - (lg_sl ([.ref (b_o Y), .int (nI k)])).length) Slot.unset).toArray = ls at hl ⊢
  have hl : lv_has ls 3 [(0, .ref (b_o Y)), (1, .int (nI k))] := hl
  obtain ⟨hp, hT, hRW, hkn⟩ := id hm
  obtain ⟨w1, w2, w3, w4⟩ := hRW k (by omega)
  have w5 := hkn k (by omega)
  have w6 := ng_le q k (m_P q)
  refine lv_iload_n hx hb dX2_kept_0 rfl (lv_at hl 1 rfl) ?_
  refine lv_if_ne (tgt := 11) hx hb dX2_kept_1 (by decide) (fun c_1 => ?_) (fun c_1 => ?_)
  · have c_1 := mt (nI_eq (a := k) (b := 0) (by omega) (by omega)).mpr c_1
    refine lv_aload_n hx hb dX2_kept_11 rfl (lv_at hl 0 rfl) ?_
    refine lv_iload_n hx hb dX2_kept_12 rfl (lv_at hl 1 rfl) ?_
    refine ro_call (va_runV (As := [.int (nI k)]) (rest := []) ⟨hx, hb, hml, hown, hts⟩ (c_X2_all l Y q hm hM k (by omega)) (cwV 1 hts gX2_kept_X2_all rfl rfl rfl (by decide +kernel) ⟨Nat.le_of_ble_eq_true rfl, Nat.le_of_ble_eq_true rfl⟩) (ro_preV hK (va_recv hK hM (ci := 2) (q0 := 0) rfl rfl)) rfl rfl hl.1 rfl (lv_room (Nat.le_of_ble_eq_true rfl)) dX2_kept_13 ⟨Nat.zero_le _, Nat.zero_le _⟩) ?_
    refine lv_istore_n (lv' := [(2, .int (nI (ng q k (m_P q)))), (0, .ref (b_o Y)), (1, .int (nI k))]) hx hb dX2_kept_16 rfl hl (by decide) rfl (fun ls hl => ?_)
    refine lv_iload_n hx hb dX2_kept_17 rfl (lv_at hl 0 rfl) ?_
    refine lv_aload_n hx hb dX2_kept_18 rfl (lv_at hl 1 rfl) ?_
    refine va_get (D := D) (ci := 2) (v := .ref (b_r Y)) (C := RX2) (T := TX2) (N := 6) hx hb hts hi2 hown hK hM 0 rfl rfl 1 (by decide) (hts (.fieldLink RX2 7 "RingSeriesModel" "room" "[I") (by decide +kernel)) (fun _ h9 => h9) rfl dX2_kept_19 ?_
    refine lv_iload_n hx hb dX2_kept_22 rfl (lv_at hl 2 rfl) ?_
    refine ald_i (j := k) hx hb hK hM 1 0 rfl rfl (by omega) (by omega) dX2_kept_23 ?_
    refine lv_icmp_ge (tgt := 31) hx hb dX2_kept_24 (by decide) (fun c_24 => ?_) (fun c_24 => ?_)
    · have c_24 := (nI_leI (a := m_R q k) (b := ng q k (m_P q)) (by omega) (by omega)).mp c_24
      refine lv_aload_n hx hb dX2_kept_31 rfl (lv_at hl 1 rfl) ?_
      refine va_get (D := D) (ci := 2) (v := .ref (b_r Y)) (C := RX2) (T := TX2) (N := 6) hx hb hts hi2 hown hK hM 0 rfl rfl 1 (by decide) (hts (.fieldLink RX2 7 "RingSeriesModel" "room" "[I") (by decide +kernel)) (fun _ h9 => h9) rfl dX2_kept_32 ?_
      refine lv_iload_n hx hb dX2_kept_35 rfl (lv_at hl 2 rfl) ?_
      refine ald_i (j := k) hx hb hK hM 1 0 rfl rfl (by omega) (by omega) dX2_kept_36 ?_
      exact ro_iret hx hb hr (by unfold kp; rw [show nE q k = ng q k (m_P q) by unfold nE; rw [if_neg c_1], if_neg (by omega)]) dX2_kept_37 hlocks
    · have c_24 := mt (nI_leI (a := m_R q k) (b := ng q k (m_P q)) (by omega) (by omega)).mpr c_24
      refine lv_iload_n hx hb dX2_kept_27 rfl (lv_at hl 0 rfl) ?_
      refine lv_goto (tgt := 37) hx hb dX2_kept_28 (by decide) ?_
      exact ro_iret hx hb hr (by unfold kp; rw [show nE q k = ng q k (m_P q) by unfold nE; rw [if_neg c_1], if_pos (by omega)]) dX2_kept_37 hlocks
  · have c_1 := (nI_eq (a := k) (b := 0) (by omega) (by omega)).mp c_1
    refine lv_aload_n hx hb dX2_kept_4 rfl (lv_at hl 0 rfl) ?_
    refine va_get (D := D) (ci := 2) (v := .int (nI (m_P q))) (C := RX2) (T := TX2) (N := 6) hx hb hts hi2 hown hK hM 0 rfl rfl 3 (by decide) (hts (.fieldLink RX2 32 "RingSeriesModel" "points" "I") (by decide +kernel)) (fun _ h9 => h9) rfl dX2_kept_5 ?_
    refine lv_goto (tgt := 16) hx hb dX2_kept_8 (by decide) ?_
    refine lv_istore_n (lv' := [(2, .int (nI (m_P q))), (0, .ref (b_o Y)), (1, .int (nI k))]) hx hb dX2_kept_16 rfl hl (by decide) rfl (fun ls hl => ?_)
    refine lv_iload_n hx hb dX2_kept_17 rfl (lv_at hl 0 rfl) ?_
    refine lv_aload_n hx hb dX2_kept_18 rfl (lv_at hl 1 rfl) ?_
    refine va_get (D := D) (ci := 2) (v := .ref (b_r Y)) (C := RX2) (T := TX2) (N := 6) hx hb hts hi2 hown hK hM 0 rfl rfl 1 (by decide) (hts (.fieldLink RX2 7 "RingSeriesModel" "room" "[I") (by decide +kernel)) (fun _ h9 => h9) rfl dX2_kept_19 ?_
    refine lv_iload_n hx hb dX2_kept_22 rfl (lv_at hl 2 rfl) ?_
    refine ald_i (j := k) hx hb hK hM 1 0 rfl rfl (by omega) (by omega) dX2_kept_23 ?_
    refine lv_icmp_ge (tgt := 31) hx hb dX2_kept_24 (by decide) (fun c_24 => ?_) (fun c_24 => ?_)
    · have c_24 := (nI_leI (a := m_R q k) (b := m_P q) (by omega) (by omega)).mp c_24
      refine lv_aload_n hx hb dX2_kept_31 rfl (lv_at hl 1 rfl) ?_
      refine va_get (D := D) (ci := 2) (v := .ref (b_r Y)) (C := RX2) (T := TX2) (N := 6) hx hb hts hi2 hown hK hM 0 rfl rfl 1 (by decide) (hts (.fieldLink RX2 7 "RingSeriesModel" "room" "[I") (by decide +kernel)) (fun _ h9 => h9) rfl dX2_kept_32 ?_
      refine lv_iload_n hx hb dX2_kept_35 rfl (lv_at hl 2 rfl) ?_
      refine ald_i (j := k) hx hb hK hM 1 0 rfl rfl (by omega) (by omega) dX2_kept_36 ?_
      exact ro_iret hx hb hr (by unfold kp; rw [show nE q k = m_P q by unfold nE; rw [if_pos c_1], if_neg (by omega)]) dX2_kept_37 hlocks
    · have c_24 := mt (nI_leI (a := m_R q k) (b := m_P q) (by omega) (by omega)).mpr c_24
      refine lv_iload_n hx hb dX2_kept_27 rfl (lv_at hl 0 rfl) ?_
      refine lv_goto (tgt := 37) hx hb dX2_kept_28 (by decide) ?_
      exact ro_iret hx hb hr (by unfold kp; rw [show nE q k = m_P q by unfold nE; rw [if_pos c_1], if_pos (by omega)]) dX2_kept_37 hlocks
set_option maxHeartbeats 4000000 in
set_option maxRecDepth 100000 in
/-- first(level, i) -/
theorem c_X2_first (l : Launch) {D : va_G} {cI cA cJ : ClassId} {H : Heap} (Y : mA) (q : mv) (hm : m_ok q) (hM : va_P D vwCl (mW cI cJ Y q) H) (k j : Nat) (hq : k < 3) (hj : j < kp q k) : Met l yX2_first wsX2_first ({ frames := 3, cells := 0, slots := 0, locals := 68 }) (ro_P D vwCl (tyL cI cA cJ) H [.ref (b_o Y), .int (nI k), .int (nI j)]) (ro_Q (.int (nI (fs q k j))) H) 0 0 ro_no := by
  refine Met.ofW (cc := cX2_first) (maxL := 6) (ret := (some .int)) (by decide) rfl ?_
  intro p e s m args below meth c s₁ B hml hv
  obtain ⟨rfl, hh, hK⟩ := hv
  subst hh
  have hx := B.exec
  have hb := B.bytes
  have hr := B.returns
  have hlocks := B.notSynchronized
  have hts := atoms_spec (ws := wsX2_first) B.pre
  have hown : s.vm.findClass RX2 = some m.cls := findClass_of_methodNamed B.named
  have hi2 : ∀ w ∈ wsX20, w ∈ wsX2_first := fun w h => List.mem_cons_of_mem _ (List.mem_append_right _ h)
  have hl := lv_entry ([.ref (b_o Y), .int (nI k), .int (nI j)]) (n := 6) (Nat.le_of_ble_eq_true rfl)
  rw [lg_entry_eq]
  generalize (lg_sl ([.ref (b_o Y), .int (nI k), .int (nI j)]) ++ List.replicate (6 - (lg_sl ([.ref (b_o Y), .int (nI k), .int (nI j)])).length) Slot.unset).toArray = ls at hl ⊢
  have hl : lv_has ls 6 [(0, .ref (b_o Y)), (1, .int (nI k)), (2, .int (nI j))] := hl
  obtain ⟨hp, hT, hRW, hkn⟩ := id hm
  obtain ⟨w1, w2, w3, w4⟩ := hRW k (by omega)
  have w5 := hkn k (by omega)
  have w6 := ng_le q k (m_P q)
  have g9 : gn q k j + 1 ≤ ng q k (m_P q) := gn_lt w5 hj
  have loop : ∀ (n : Nat) (p0 : Nat) (ls : Array Slot), p0 + n = m_P q → fsr q k (gn q k j) n p0 = fs q k j → lv_has ls 6 [(5, .int (nI p0 - 1)), (4, .int (nI (ng q k p0) - 1)), (3, .int (nI (gn q k j))), (0, .ref (b_o Y)), (1, .int (nI k)), (2, .int (nI j))] → W p l e (headSpec wsX2_first ({ frames := 3, cells := 0, slots := 0, locals := 68 })).room s m ([.ref (b_o Y), .int (nI k), .int (nI j)] : List Value).toArray below meth c s.heap [] 0 0 (MQ below (ro_Q (.int (nI (fs q k j))) s.heap) ([.ref (b_o Y), .int (nI k), .int (nI j)] : List Value).toArray s 0 0 ro_no) (F0 m 20 ls []) := by
    intro n
    induction n with
    | zero =>
      intro p0 ls hi hf hl
      have g0 := ng_le q k p0
      have gz : ng q k 0 = 0 := rfl
      have g1 : 0 < p0 := by omega
      refine lv_iload hx hb dX2_first_20 (lv_at hl 1 rfl) ?_
      refine lv_iload_n hx hb dX2_first_22 rfl (lv_at hl 2 rfl) ?_
      refine lv_icmp_ge (tgt := 62) hx hb dX2_first_23 (by decide) (fun c_23 => ?_) (fun c_23 => ?_)
      · refine lv_iload hx hb dX2_first_62 (lv_at hl 0 rfl) ?_
        have c_23 := (ge_m1 (by omega) (by omega)).mp c_23
        exact ro_iret hx hb hr (by rw [← hf]; exact (pk_sub (b := 1) (by omega))) dX2_first_64 hlocks
      · exact absurd ((ge_m1 (by omega) (by omega)).mpr (by rw [show p0 = m_P q by omega]; exact g9)) c_23
    | succ n ih =>
      intro p0 ls hi hf hl
      have g0 := ng_le q k p0
      have gz : ng q k 0 = 0 := rfl
      have g7 : 0 < ng q k p0 → 0 < p0 := by omega
      refine lv_iload hx hb dX2_first_20 (lv_at hl 1 rfl) ?_
      refine lv_iload_n hx hb dX2_first_22 rfl (lv_at hl 2 rfl) ?_
      refine lv_icmp_ge (tgt := 62) hx hb dX2_first_23 (by decide) (fun c_23 => ?_) (fun c_23 => ?_)
      · refine lv_iload hx hb dX2_first_62 (lv_at hl 0 rfl) ?_
        have c_23 := (ge_m1 (by omega) (by omega)).mp c_23
        exact ro_iret hx hb hr (by rw [← hf]; exact (by rw [fsr, if_pos c_23]; exact pk_sub (b := 1) (by omega))) dX2_first_64 hlocks
      · have c_23 := mt (ge_m1 (by omega) (by omega)).mpr c_23
        have g1 : ¬ p0 = m_P q := fun z => c_23 (by rw [z]; exact g9)
        refine lv_iinc (v := nI p0) (lv' := [(5, .int (nI p0)), (4, .int (nI (ng q k p0) - 1)), (3, .int (nI (gn q k j))), (0, .ref (b_o Y)), (1, .int (nI k)), (2, .int (nI j))]) hx hb dX2_first_26 hl (k := 0) rfl (Int32.sub_add_cancel _ _) (by decide) rfl (fun ls hl => ?_)
        refine lv_iload hx hb dX2_first_29 (lv_at hl 0 rfl) ?_
        refine lv_if_eq (tgt := 48) hx hb dX2_first_31 (by decide) (fun c_31 => ?_) (fun c_31 => ?_)
        · have c_31 := (nI_eq (a := p0) (b := 0) (by omega) (by omega)).mp c_31
          refine lv_iload hx hb dX2_first_48 (lv_at hl 1 rfl) ?_
          refine lv_iconst (v := 1) hx hb dX2_first_50 (by decide) ?_
          refine lv_iadd hx hb dX2_first_51 ?_
          refine top_i (Int32.sub_add_cancel _ _) ?_
          refine lv_goto (tgt := 57) hx hb dX2_first_52 (by decide) ?_
          refine lv_istore (lv' := [(4, .int (nI (ng q k p0))), (5, .int (nI p0)), (3, .int (nI (gn q k j))), (0, .ref (b_o Y)), (1, .int (nI k)), (2, .int (nI j))]) hx hb dX2_first_57 hl (by decide) rfl (fun ls hl => ?_)
          refine lv_goto (tgt := 20) hx hb dX2_first_59 (by decide) ?_
          have e9 : ng q k (p0 + 1) = ng q k p0 + 1 := by rw [ng, if_pos (Or.inl c_31)]
          exact ih (p0 + 1) ls (by omega) (by rw [← hf, fsr, if_neg c_23]) (by rw [e9, show nI (ng q k p0 + 1) - 1 = nI (ng q k p0) from nI_pred _, show nI (p0 + 1) - 1 = nI p0 from nI_pred p0]; exact (lv_sub hl [1, 0, 2, 3, 4, 5] rfl))
        · have c_31 := mt (nI_eq (a := p0) (b := 0) (by omega) (by omega)).mpr c_31
          refine lv_aload_n hx hb dX2_first_34 rfl (lv_at hl 3 rfl) ?_
          refine lv_iload_n hx hb dX2_first_35 rfl (lv_at hl 4 rfl) ?_
          refine lv_iload hx hb dX2_first_36 (lv_at hl 0 rfl) ?_
          refine lv_iconst (v := 1) hx hb dX2_first_38 (by decide) ?_
          refine lv_isub hx hb dX2_first_39 ?_
          refine top_i (pk_sub (a := p0) (b := 1) (by omega)) ?_
          refine lv_iload hx hb dX2_first_40 (lv_at hl 0 rfl) ?_
          refine ro_call (va_runV (As := [.int (nI k), .int (nI (p0 - 1)), .int (nI p0)]) (rest := []) ⟨hx, hb, hml, hown, hts⟩ (c_X2_isSame l Y q hm hM k (p0 - 1) p0 (by omega) (by omega) (by omega)) (cwV 3 hts gX2_first_X2_isSame rfl rfl rfl (by decide +kernel) ⟨Nat.le_of_ble_eq_true rfl, Nat.le_of_ble_eq_true rfl⟩) (ro_preV hK (va_recv hK hM (ci := 2) (q0 := 0) rfl rfl)) rfl rfl hl.1 rfl (lv_room (Nat.le_of_ble_eq_true rfl)) dX2_first_42 ⟨Nat.zero_le _, Nat.zero_le _⟩) ?_
          refine lv_if_ne (tgt := 55) hx hb dX2_first_45 (by decide) (fun c_45 => ?_) (fun c_45 => ?_)
          · have c_45 := bi_ne c_45
            refine lv_iload hx hb dX2_first_55 (lv_at hl 1 rfl) ?_
            refine lv_istore (lv' := [(4, .int (nI (ng q k p0) - 1)), (5, .int (nI p0)), (3, .int (nI (gn q k j))), (0, .ref (b_o Y)), (1, .int (nI k)), (2, .int (nI j))]) hx hb dX2_first_57 hl (by decide) rfl (fun ls hl => ?_)
            refine lv_goto (tgt := 20) hx hb dX2_first_59 (by decide) ?_
            have e9 : ng q k (p0 + 1) = ng q k p0 := by rw [ng, if_neg (fun z => z.elim c_31 (fun z => z c_45))]
            exact ih (p0 + 1) ls (by omega) (by rw [← hf, fsr, if_neg c_23]) (by rw [e9, show nI (p0 + 1) - 1 = nI p0 from nI_pred p0]; exact (lv_sub hl [1, 0, 2, 3, 4, 5] rfl))
          · have c_45 := bi_eq c_45
            refine lv_iload hx hb dX2_first_48 (lv_at hl 1 rfl) ?_
            refine lv_iconst (v := 1) hx hb dX2_first_50 (by decide) ?_
            refine lv_iadd hx hb dX2_first_51 ?_
            refine top_i (Int32.sub_add_cancel _ _) ?_
            refine lv_goto (tgt := 57) hx hb dX2_first_52 (by decide) ?_
            refine lv_istore (lv' := [(4, .int (nI (ng q k p0))), (5, .int (nI p0)), (3, .int (nI (gn q k j))), (0, .ref (b_o Y)), (1, .int (nI k)), (2, .int (nI j))]) hx hb dX2_first_57 hl (by decide) rfl (fun ls hl => ?_)
            refine lv_goto (tgt := 20) hx hb dX2_first_59 (by decide) ?_
            have e9 : ng q k (p0 + 1) = ng q k p0 + 1 := by rw [ng, if_pos (Or.inr c_45)]
            exact ih (p0 + 1) ls (by omega) (by rw [← hf, fsr, if_neg c_23]) (by rw [e9, show nI (ng q k p0 + 1) - 1 = nI (ng q k p0) from nI_pred _, show nI (p0 + 1) - 1 = nI p0 from nI_pred p0]; exact (lv_sub hl [1, 0, 2, 3, 4, 5] rfl))
  refine lv_aload_n hx hb dX2_first_0 rfl (lv_at hl 0 rfl) ?_
  refine lv_iload_n hx hb dX2_first_1 rfl (lv_at hl 1 rfl) ?_
  refine ro_call (va_runV (As := [.int (nI k)]) (rest := []) ⟨hx, hb, hml, hown, hts⟩ (c_X2_all l Y q hm hM k (by omega)) (cwV 1 hts gX2_first_X2_all rfl rfl rfl (by decide +kernel) ⟨Nat.le_of_ble_eq_true rfl, Nat.le_of_ble_eq_true rfl⟩) (ro_preV hK (va_recv hK hM (ci := 2) (q0 := 0) rfl rfl)) rfl rfl hl.1 rfl (lv_room (Nat.le_of_ble_eq_true rfl)) dX2_first_2 ⟨Nat.zero_le _, Nat.zero_le _⟩) ?_
  refine lv_aload_n hx hb dX2_first_5 rfl (lv_at hl 0 rfl) ?_
  refine lv_iload_n hx hb dX2_first_6 rfl (lv_at hl 1 rfl) ?_
  refine ro_call (va_runV (As := [.int (nI k)]) (rest := [.int (nI (ng q k (m_P q)))]) ⟨hx, hb, hml, hown, hts⟩ (c_X2_kept l Y q hm hM k (by omega)) (cwV 1 hts gX2_first_X2_kept rfl rfl rfl (by decide +kernel) ⟨Nat.le_of_ble_eq_true rfl, Nat.le_of_ble_eq_true rfl⟩) (ro_preV hK (va_recv hK hM (ci := 2) (q0 := 0) rfl rfl)) rfl rfl hl.1 rfl (lv_room (Nat.le_of_ble_eq_true rfl)) dX2_first_7 ⟨Nat.zero_le _, Nat.zero_le _⟩) ?_
  refine lv_isub hx hb dX2_first_10 ?_
  refine top_i (pk_sub (a := ng q k (m_P q)) (b := kp q k) w5) ?_
  refine lv_iload_n hx hb dX2_first_11 rfl (lv_at hl 2 rfl) ?_
  refine lv_iadd hx hb dX2_first_12 ?_
  refine top_i (nI_add _ _) ?_
  refine lv_istore_n (lv' := [(3, .int (nI (((ng q k (m_P q)) - (kp q k)) + j))), (0, .ref (b_o Y)), (1, .int (nI k)), (2, .int (nI j))]) hx hb dX2_first_13 rfl hl (by decide) rfl (fun ls hl => ?_)
  refine lv_iconst (v := (-1)) hx hb dX2_first_14 (by decide) ?_
  refine lv_istore (lv' := [(4, .int (-1)), (3, .int (nI (((ng q k (m_P q)) - (kp q k)) + j))), (0, .ref (b_o Y)), (1, .int (nI k)), (2, .int (nI j))]) hx hb dX2_first_15 hl (by decide) rfl (fun ls hl => ?_)
  refine lv_iconst (v := (-1)) hx hb dX2_first_17 (by decide) ?_
  refine lv_istore (lv' := [(5, .int (-1)), (4, .int (-1)), (3, .int (nI (((ng q k (m_P q)) - (kp q k)) + j))), (0, .ref (b_o Y)), (1, .int (nI k)), (2, .int (nI j))]) hx hb dX2_first_18 hl (by decide) rfl (fun ls hl => ?_)
  exact loop (m_P q) 0 ls (by omega) rfl (lv_sub hl [0, 1, 2, 3, 4, 5] rfl)
set_option maxHeartbeats 4000000 in
set_option maxRecDepth 100000 in
/-- isEntry, one -/
theorem c_X2_isEntry_t (l : Launch) {D : va_G} {cI cA cJ : ClassId} {H : Heap} (Y : mA) (q : mv) (hm : m_ok q) (hM : va_P D vwCl (mW cI cJ Y q) H) (k j : Nat) (hq : k < 3) (hj : j < kp q k) : Met l yX2_isEntry wsX2_isEntry ({ frames := 3, cells := 0, slots := 0, locals := 68 }) (ro_P D vwCl (tyL cI cA cJ) H [.ref (b_o Y), .int (nI k), .int (nI j)]) (ro_Q (.int 1) H) 0 0 ro_no := by
  refine Met.ofW (cc := cX2_isEntry) (maxL := 3) (ret := (some .boolean)) (by decide) rfl ?_
  intro p e s m args below meth c s₁ B hml hv
  obtain ⟨rfl, hh, hK⟩ := hv
  subst hh
  have hx := B.exec
  have hb := B.bytes
  have hr := B.returns
  have hlocks := B.notSynchronized
  have hts := atoms_spec (ws := wsX2_isEntry) B.pre
  have hown : s.vm.findClass RX2 = some m.cls := findClass_of_methodNamed B.named
  have hi2 : ∀ w ∈ wsX20, w ∈ wsX2_isEntry := fun w h => List.mem_cons_of_mem _ (List.mem_append_right _ h)
  have hl := lv_entry ([.ref (b_o Y), .int (nI k), .int (nI j)]) (n := 3) (Nat.le_of_ble_eq_true rfl)
  rw [lg_entry_eq]
  generalize (lg_sl ([.ref (b_o Y), .int (nI k), .int (nI j)]) ++ List.replicate (3 - (lg_sl ([.ref (b_o Y), .int (nI k), .int (nI j)])).length) Slot.unset).toArray = ls at hl ⊢
  have hl : lv_has ls 3 [(0, .ref (b_o Y)), (1, .int (nI k)), (2, .int (nI j))] := hl
  obtain ⟨hp, hT, hRW, hkn⟩ := id hm
  obtain ⟨w1, w2, w3, w4⟩ := hRW k (by omega)
  have w5 := hkn k (by omega)
  have w6 := ng_le q k (m_P q)
  refine lv_iload_n hx hb dX2_isEntry_0 rfl (lv_at hl 1 rfl) ?_
  refine lv_if_lt (tgt := 26) hx hb dX2_isEntry_1 (by decide) (fun c_1 => ?_) (fun c_1 => ?_)
  · exact absurd c_1 (nI_pos (by omega))
  · refine lv_iload_n hx hb dX2_isEntry_4 rfl (lv_at hl 1 rfl) ?_
    refine lv_iconst (v := 2) hx hb dX2_isEntry_5 (by decide) ?_
    refine lv_icmp_gt (tgt := 26) hx hb dX2_isEntry_6 (by decide) (fun c_6 => ?_) (fun c_6 => ?_)
    · have c_6 := (nI_ltI (a := 2) (b := k) (by omega) (by omega)).mp c_6
      exact absurd c_6 (by omega)
    · have c_6 := mt (nI_ltI (a := 2) (b := k) (by omega) (by omega)).mpr c_6
      refine lv_iload_n hx hb dX2_isEntry_9 rfl (lv_at hl 2 rfl) ?_
      refine lv_if_lt (tgt := 26) hx hb dX2_isEntry_10 (by decide) (fun c_10 => ?_) (fun c_10 => ?_)
      · exact absurd c_10 (nI_pos (by omega))
      · refine lv_iload_n hx hb dX2_isEntry_13 rfl (lv_at hl 2 rfl) ?_
        refine lv_aload_n hx hb dX2_isEntry_14 rfl (lv_at hl 0 rfl) ?_
        refine lv_iload_n hx hb dX2_isEntry_15 rfl (lv_at hl 1 rfl) ?_
        refine ro_call (va_runV (As := [.int (nI k)]) (rest := [.int (nI j)]) ⟨hx, hb, hml, hown, hts⟩ (c_X2_kept l Y q hm hM k (by omega)) (cwV 1 hts gX2_isEntry_X2_kept rfl rfl rfl (by decide +kernel) ⟨Nat.le_of_ble_eq_true rfl, Nat.le_of_ble_eq_true rfl⟩) (ro_preV hK (va_recv hK hM (ci := 2) (q0 := 0) rfl rfl)) rfl rfl hl.1 rfl (lv_room (Nat.le_of_ble_eq_true rfl)) dX2_isEntry_16 ⟨Nat.zero_le _, Nat.zero_le _⟩) ?_
        refine lv_icmp_ge (tgt := 26) hx hb dX2_isEntry_19 (by decide) (fun c_19 => ?_) (fun c_19 => ?_)
        · have c_19 := (nI_leI (a := kp q k) (b := j) (by omega) (by omega)).mp c_19
          exact absurd c_19 (by omega)
        · have c_19 := mt (nI_leI (a := kp q k) (b := j) (by omega) (by omega)).mpr c_19
          refine lv_iconst (v := 1) hx hb dX2_isEntry_22 (by decide) ?_
          refine lv_goto (tgt := 27) hx hb dX2_isEntry_23 (by decide) ?_
          exact ro_zret hx hb hr (by first | rfl | decide) rfl dX2_isEntry_27 hlocks
set_option maxHeartbeats 4000000 in
set_option maxRecDepth 100000 in
/-- isEntry, none -/
theorem c_X2_isEntry_n (l : Launch) {D : va_G} {cI cA cJ : ClassId} {H : Heap} (Y : mA) (q : mv) (hm : m_ok q) (hM : va_P D vwCl (mW cI cJ Y q) H) (k : Nat) (i : Int32) (hq : k < 3) (hi : ¬ ix (kp q k) i) : Met l yX2_isEntry wsX2_isEntry ({ frames := 3, cells := 0, slots := 0, locals := 68 }) (ro_P D vwCl (tyL cI cA cJ) H [.ref (b_o Y), .int (nI k), .int i]) (ro_Q (.int 0) H) 0 0 ro_no := by
  refine Met.ofW (cc := cX2_isEntry) (maxL := 3) (ret := (some .boolean)) (by decide) rfl ?_
  intro p e s m args below meth c s₁ B hml hv
  obtain ⟨rfl, hh, hK⟩ := hv
  subst hh
  have hx := B.exec
  have hb := B.bytes
  have hr := B.returns
  have hlocks := B.notSynchronized
  have hts := atoms_spec (ws := wsX2_isEntry) B.pre
  have hown : s.vm.findClass RX2 = some m.cls := findClass_of_methodNamed B.named
  have hi2 : ∀ w ∈ wsX20, w ∈ wsX2_isEntry := fun w h => List.mem_cons_of_mem _ (List.mem_append_right _ h)
  have hl := lv_entry ([.ref (b_o Y), .int (nI k), .int i]) (n := 3) (Nat.le_of_ble_eq_true rfl)
  rw [lg_entry_eq]
  generalize (lg_sl ([.ref (b_o Y), .int (nI k), .int i]) ++ List.replicate (3 - (lg_sl ([.ref (b_o Y), .int (nI k), .int i])).length) Slot.unset).toArray = ls at hl ⊢
  have hl : lv_has ls 3 [(0, .ref (b_o Y)), (1, .int (nI k)), (2, .int i)] := hl
  obtain ⟨hp, hT, hRW, hkn⟩ := id hm
  obtain ⟨w1, w2, w3, w4⟩ := hRW k (by omega)
  have w5 := hkn k (by omega)
  have w6 := ng_le q k (m_P q)
  refine lv_iload_n hx hb dX2_isEntry_0 rfl (lv_at hl 1 rfl) ?_
  refine lv_if_lt (tgt := 26) hx hb dX2_isEntry_1 (by decide) (fun c_1 => ?_) (fun c_1 => ?_)
  · exact absurd c_1 (nI_pos (by omega))
  · refine lv_iload_n hx hb dX2_isEntry_4 rfl (lv_at hl 1 rfl) ?_
    refine lv_iconst (v := 2) hx hb dX2_isEntry_5 (by decide) ?_
    refine lv_icmp_gt (tgt := 26) hx hb dX2_isEntry_6 (by decide) (fun c_6 => ?_) (fun c_6 => ?_)
    · have c_6 := (nI_ltI (a := 2) (b := k) (by omega) (by omega)).mp c_6
      exact absurd c_6 (by omega)
    · have c_6 := mt (nI_ltI (a := 2) (b := k) (by omega) (by omega)).mpr c_6
      refine lv_iload_n hx hb dX2_isEntry_9 rfl (lv_at hl 2 rfl) ?_
      refine lv_if_lt (tgt := 26) hx hb dX2_isEntry_10 (by decide) (fun c_10 => ?_) (fun c_10 => ?_)
      · refine lv_iconst (v := 0) hx hb dX2_isEntry_26 (by decide) ?_
        exact ro_zret hx hb hr (by first | rfl | decide) rfl dX2_isEntry_27 hlocks
      · refine lv_iload_n hx hb dX2_isEntry_13 rfl (lv_at hl 2 rfl) ?_
        refine lv_aload_n hx hb dX2_isEntry_14 rfl (lv_at hl 0 rfl) ?_
        refine lv_iload_n hx hb dX2_isEntry_15 rfl (lv_at hl 1 rfl) ?_
        refine ro_call (va_runV (As := [.int (nI k)]) (rest := [.int i]) ⟨hx, hb, hml, hown, hts⟩ (c_X2_kept l Y q hm hM k (by omega)) (cwV 1 hts gX2_isEntry_X2_kept rfl rfl rfl (by decide +kernel) ⟨Nat.le_of_ble_eq_true rfl, Nat.le_of_ble_eq_true rfl⟩) (ro_preV hK (va_recv hK hM (ci := 2) (q0 := 0) rfl rfl)) rfl rfl hl.1 rfl (lv_room (Nat.le_of_ble_eq_true rfl)) dX2_isEntry_16 ⟨Nat.zero_le _, Nat.zero_le _⟩) ?_
        refine lv_icmp_ge (tgt := 26) hx hb dX2_isEntry_19 (by decide) (fun c_19 => ?_) (fun c_19 => ?_)
        · refine lv_iconst (v := 0) hx hb dX2_isEntry_26 (by decide) ?_
          exact ro_zret hx hb hr (by first | rfl | decide) rfl dX2_isEntry_27 hlocks
        · exact absurd (ix_nix hi) (fun z => z.elim c_10 c_19)
set_option maxHeartbeats 4000000 in
set_option maxRecDepth 100000 in
/-- isEntry, no level -/
theorem c_X2_isEntry_x (l : Launch) {D : va_G} {cI cA cJ : ClassId} {H : Heap} (Y : mA) (q : mv) (hm : m_ok q) (hM : va_P D vwCl (mW cI cJ Y q) H) (v i : Int32) (hn : ¬ ix 3 v) : Met l yX2_isEntry wsX2_isEntry ({ frames := 3, cells := 0, slots := 0, locals := 68 }) (ro_P D vwCl (tyL cI cA cJ) H [.ref (b_o Y), .int v, .int i]) (ro_Q (.int 0) H) 0 0 ro_no := by
  refine Met.ofW (cc := cX2_isEntry) (maxL := 3) (ret := (some .boolean)) (by decide) rfl ?_
  intro p e s m args below meth c s₁ B hml hv
  obtain ⟨rfl, hh, hK⟩ := hv
  subst hh
  have hx := B.exec
  have hb := B.bytes
  have hr := B.returns
  have hlocks := B.notSynchronized
  have hts := atoms_spec (ws := wsX2_isEntry) B.pre
  have hown : s.vm.findClass RX2 = some m.cls := findClass_of_methodNamed B.named
  have hi2 : ∀ w ∈ wsX20, w ∈ wsX2_isEntry := fun w h => List.mem_cons_of_mem _ (List.mem_append_right _ h)
  have hl := lv_entry ([.ref (b_o Y), .int v, .int i]) (n := 3) (Nat.le_of_ble_eq_true rfl)
  rw [lg_entry_eq]
  generalize (lg_sl ([.ref (b_o Y), .int v, .int i]) ++ List.replicate (3 - (lg_sl ([.ref (b_o Y), .int v, .int i])).length) Slot.unset).toArray = ls at hl ⊢
  have hl : lv_has ls 3 [(0, .ref (b_o Y)), (1, .int v), (2, .int i)] := hl
  obtain ⟨hp, hT, hRW, hkn⟩ := id hm
  refine lv_iload_n hx hb dX2_isEntry_0 rfl (lv_at hl 1 rfl) ?_
  refine lv_if_lt (tgt := 26) hx hb dX2_isEntry_1 (by decide) (fun c_1 => ?_) (fun c_1 => ?_)
  · refine lv_iconst (v := 0) hx hb dX2_isEntry_26 (by decide) ?_
    exact ro_zret hx hb hr (by first | rfl | decide) rfl dX2_isEntry_27 hlocks
  · refine lv_iload_n hx hb dX2_isEntry_4 rfl (lv_at hl 1 rfl) ?_
    refine lv_iconst (v := 2) hx hb dX2_isEntry_5 (by decide) ?_
    refine lv_icmp_gt (tgt := 26) hx hb dX2_isEntry_6 (by decide) (fun c_6 => ?_) (fun c_6 => ?_)
    · refine lv_iconst (v := 0) hx hb dX2_isEntry_26 (by decide) ?_
      exact ro_zret hx hb hr (by first | rfl | decide) rfl dX2_isEntry_27 hlocks
    · exact absurd (nix3b hn) (fun z => z.elim c_1 c_6)
set_option maxHeartbeats 4000000 in
set_option maxRecDepth 100000 in
/-- count(level) -/
theorem c_X2_count (l : Launch) {D : va_G} {cI cA cJ : ClassId} {H : Heap} (Y : mA) (q : mv) (hm : m_ok q) (hM : va_P D vwCl (mW cI cJ Y q) H) (k : Nat) (hq : k < 3) : Met l yX2_count wsX2_count ({ frames := 3, cells := 0, slots := 0, locals := 68 }) (ro_P D vwCl (tyL cI cA cJ) H [.ref (b_o Y), .int (nI k)]) (ro_Q (.int (nI (kp q k))) H) 0 0 ro_no := by
  refine Met.ofW (cc := cX2_count) (maxL := 2) (ret := (some .int)) (by decide) rfl ?_
  intro p e s m args below meth c s₁ B hml hv
  obtain ⟨rfl, hh, hK⟩ := hv
  subst hh
  have hx := B.exec
  have hb := B.bytes
  have hr := B.returns
  have hlocks := B.notSynchronized
  have hts := atoms_spec (ws := wsX2_count) B.pre
  have hown : s.vm.findClass RX2 = some m.cls := findClass_of_methodNamed B.named
  have hi2 : ∀ w ∈ wsX20, w ∈ wsX2_count := fun w h => List.mem_cons_of_mem _ (List.mem_append_right _ h)
  have hl := lv_entry ([.ref (b_o Y), .int (nI k)]) (n := 2) (Nat.le_of_ble_eq_true rfl)
  rw [lg_entry_eq]
  generalize (lg_sl ([.ref (b_o Y), .int (nI k)]) ++ List.replicate (2 - (lg_sl ([.ref (b_o Y), .int (nI k)])).length) Slot.unset).toArray = ls at hl ⊢
  have hl : lv_has ls 2 [(0, .ref (b_o Y)), (1, .int (nI k))] := hl
  obtain ⟨hp, hT, hRW, hkn⟩ := id hm
  obtain ⟨w1, w2, w3, w4⟩ := hRW k (by omega)
  have w5 := hkn k (by omega)
  have w6 := ng_le q k (m_P q)
  refine lv_iload_n hx hb dX2_count_0 rfl (lv_at hl 1 rfl) ?_
  refine lv_if_lt (tgt := 17) hx hb dX2_count_1 (by decide) (fun c_1 => ?_) (fun c_1 => ?_)
  · exact absurd c_1 (nI_pos (by omega))
  · refine lv_iload_n hx hb dX2_count_4 rfl (lv_at hl 1 rfl) ?_
    refine lv_iconst (v := 2) hx hb dX2_count_5 (by decide) ?_
    refine lv_icmp_gt (tgt := 17) hx hb dX2_count_6 (by decide) (fun c_6 => ?_) (fun c_6 => ?_)
    · have c_6 := (nI_ltI (a := 2) (b := k) (by omega) (by omega)).mp c_6
      exact absurd c_6 (by omega)
    · have c_6 := mt (nI_ltI (a := 2) (b := k) (by omega) (by omega)).mpr c_6
      refine lv_aload_n hx hb dX2_count_9 rfl (lv_at hl 0 rfl) ?_
      refine lv_iload_n hx hb dX2_count_10 rfl (lv_at hl 1 rfl) ?_
      refine ro_call (va_runV (As := [.int (nI k)]) (rest := []) ⟨hx, hb, hml, hown, hts⟩ (c_X2_kept l Y q hm hM k (by omega)) (cwV 1 hts gX2_count_X2_kept rfl rfl rfl (by decide +kernel) ⟨Nat.le_of_ble_eq_true rfl, Nat.le_of_ble_eq_true rfl⟩) (ro_preV hK (va_recv hK hM (ci := 2) (q0 := 0) rfl rfl)) rfl rfl hl.1 rfl (lv_room (Nat.le_of_ble_eq_true rfl)) dX2_count_11 ⟨Nat.zero_le _, Nat.zero_le _⟩) ?_
      refine lv_goto (tgt := 18) hx hb dX2_count_14 (by decide) ?_
      exact ro_iret hx hb hr rfl dX2_count_18 hlocks
set_option maxHeartbeats 4000000 in
set_option maxRecDepth 100000 in
/-- count, no level -/
theorem c_X2_count_x (l : Launch) {D : va_G} {cI cA cJ : ClassId} {H : Heap} (Y : mA) (q : mv) (hm : m_ok q) (hM : va_P D vwCl (mW cI cJ Y q) H) (v : Int32) (hn : ¬ ix 3 v) : Met l yX2_count wsX2_count ({ frames := 3, cells := 0, slots := 0, locals := 68 }) (ro_P D vwCl (tyL cI cA cJ) H [.ref (b_o Y), .int v]) (ro_Q (.int (-1)) H) 0 0 ro_no := by
  refine Met.ofW (cc := cX2_count) (maxL := 2) (ret := (some .int)) (by decide) rfl ?_
  intro p e s m args below meth c s₁ B hml hv
  obtain ⟨rfl, hh, hK⟩ := hv
  subst hh
  have hx := B.exec
  have hb := B.bytes
  have hr := B.returns
  have hlocks := B.notSynchronized
  have hts := atoms_spec (ws := wsX2_count) B.pre
  have hown : s.vm.findClass RX2 = some m.cls := findClass_of_methodNamed B.named
  have hi2 : ∀ w ∈ wsX20, w ∈ wsX2_count := fun w h => List.mem_cons_of_mem _ (List.mem_append_right _ h)
  have hl := lv_entry ([.ref (b_o Y), .int v]) (n := 2) (Nat.le_of_ble_eq_true rfl)
  rw [lg_entry_eq]
  generalize (lg_sl ([.ref (b_o Y), .int v]) ++ List.replicate (2 - (lg_sl ([.ref (b_o Y), .int v])).length) Slot.unset).toArray = ls at hl ⊢
  have hl : lv_has ls 2 [(0, .ref (b_o Y)), (1, .int v)] := hl
  obtain ⟨hp, hT, hRW, hkn⟩ := id hm
  refine lv_iload_n hx hb dX2_count_0 rfl (lv_at hl 1 rfl) ?_
  refine lv_if_lt (tgt := 17) hx hb dX2_count_1 (by decide) (fun c_1 => ?_) (fun c_1 => ?_)
  · refine lv_iconst (v := (-1)) hx hb dX2_count_17 (by decide) ?_
    exact ro_iret hx hb hr rfl dX2_count_18 hlocks
  · refine lv_iload_n hx hb dX2_count_4 rfl (lv_at hl 1 rfl) ?_
    refine lv_iconst (v := 2) hx hb dX2_count_5 (by decide) ?_
    refine lv_icmp_gt (tgt := 17) hx hb dX2_count_6 (by decide) (fun c_6 => ?_) (fun c_6 => ?_)
    · refine lv_iconst (v := (-1)) hx hb dX2_count_17 (by decide) ?_
      exact ro_iret hx hb hr rfl dX2_count_18 hlocks
    · exact absurd (nix3b hn) (fun z => z.elim c_1 c_6)
set_option maxHeartbeats 4000000 in
set_option maxRecDepth 100000 in
/-- begin(level, i) -/
theorem c_X2_begin (l : Launch) {D : va_G} {cI cA cJ : ClassId} {H : Heap} (Y : mA) (q : mv) (hm : m_ok q) (hM : va_P D vwCl (mW cI cJ Y q) H) (k j : Nat) (hq : k < 3) (hj : j < kp q k) : Met l yX2_begin wsX2_begin ({ frames := 4, cells := 0, slots := 0, locals := 93 }) (ro_P D vwCl (tyL cI cA cJ) H [.ref (b_o Y), .int (nI k), .int (nI j)]) (ro_Q (.long (lN (bg q k j))) H) 0 0 ro_no := by
  refine Met.ofW (cc := cX2_begin) (maxL := 5) (ret := (some .long)) (by decide) rfl ?_
  intro p e s m args below meth c s₁ B hml hv
  obtain ⟨rfl, hh, hK⟩ := hv
  subst hh
  have hx := B.exec
  have hb := B.bytes
  have hr := B.returns
  have hlocks := B.notSynchronized
  have hts := atoms_spec (ws := wsX2_begin) B.pre
  have hown : s.vm.findClass RX2 = some m.cls := findClass_of_methodNamed B.named
  have hi2 : ∀ w ∈ wsX20, w ∈ wsX2_begin := fun w h => List.mem_cons_of_mem _ (List.mem_append_right _ h)
  have hl := lv_entry ([.ref (b_o Y), .int (nI k), .int (nI j)]) (n := 5) (Nat.le_of_ble_eq_true rfl)
  rw [lg_entry_eq]
  generalize (lg_sl ([.ref (b_o Y), .int (nI k), .int (nI j)]) ++ List.replicate (5 - (lg_sl ([.ref (b_o Y), .int (nI k), .int (nI j)])).length) Slot.unset).toArray = ls at hl ⊢
  have hl : lv_has ls 5 [(0, .ref (b_o Y)), (1, .int (nI k)), (2, .int (nI j))] := hl
  obtain ⟨hp, hT, hRW, hkn⟩ := id hm
  obtain ⟨w1, w2, w3, w4⟩ := hRW k (by omega)
  have w5 := hkn k (by omega)
  have w6 := ng_le q k (m_P q)
  have f1 := fs_lt w5 hj
  refine lv_aload_n hx hb dX2_begin_0 rfl (lv_at hl 0 rfl) ?_
  refine va_get (D := D) (ci := 2) (v := .ref (b_t Y)) (C := RX2) (T := TX2) (N := 6) hx hb hts hi2 hown hK hM 0 rfl rfl 4 (by decide) (hts (.fieldLink RX2 17 "RingSeriesModel" "times" "[I") (by decide +kernel)) (fun _ h9 => h9) rfl dX2_begin_1 ?_
  refine lv_aload_n hx hb dX2_begin_4 rfl (lv_at hl 0 rfl) ?_
  refine lv_iload_n hx hb dX2_begin_5 rfl (lv_at hl 1 rfl) ?_
  refine lv_iload_n hx hb dX2_begin_6 rfl (lv_at hl 2 rfl) ?_
  refine ro_call (va_runV (As := [.int (nI k), .int (nI j)]) (rest := [.ref (b_t Y)]) ⟨hx, hb, hml, hown, hts⟩ (c_X2_first l Y q hm hM k j (by omega) (by omega)) (cwV 2 hts gX2_begin_X2_first rfl rfl rfl (by decide +kernel) ⟨Nat.le_of_ble_eq_true rfl, Nat.le_of_ble_eq_true rfl⟩) (ro_preV hK (va_recv hK hM (ci := 2) (q0 := 0) rfl rfl)) rfl rfl hl.1 rfl (lv_room (Nat.le_of_ble_eq_true rfl)) dX2_begin_7 ⟨Nat.zero_le _, Nat.zero_le _⟩) ?_
  refine ald_i (j := (fs q k j)) hx hb hK hM 3 0 rfl rfl (by omega) (by omega) dX2_begin_10 ?_
  refine lv_i2l hx hb dX2_begin_11 rfl ?_
  refine top_l (nI_l (hT _)) ?_
  refine lv_lstore_n (lv' := [(3, .long (lN (m_T q (fs q k j)))), (0, .ref (b_o Y)), (1, .int (nI k)), (2, .int (nI j))]) hx hb dX2_begin_12 rfl hl (by decide) rfl (fun ls hl => ?_)
  refine lv_lload_n hx hb dX2_begin_13 rfl (lv_at hl 0 rfl) ?_
  refine lv_aload_n hx hb dX2_begin_14 rfl (lv_at hl 1 rfl) ?_
  refine va_get (D := D) (ci := 2) (v := .ref (b_w Y)) (C := RX2) (T := TX2) (N := 6) hx hb hts hi2 hown hK hM 0 rfl rfl 2 (by decide) (hts (.fieldLink RX2 13 "RingSeriesModel" "widths" "[J") (by decide +kernel)) (fun _ h9 => h9) rfl dX2_begin_15 ?_
  refine lv_iload_n hx hb dX2_begin_18 rfl (lv_at hl 2 rfl) ?_
  refine ald_l (j := k) hx hb hK hM 2 2 rfl rfl (by omega) (by omega) dX2_begin_19 ?_
  refine lv_ldiv hx hb dX2_begin_20 (fun z => absurd ((pk_lEQ (b := 0) (by omega) (by omega)).mp z) (by omega)) ?_
  refine top_l (pk_lDiv (by have := hT (fs q k j); omega) (by omega) (by omega)) ?_
  refine lv_aload_n hx hb dX2_begin_21 rfl (lv_at hl 1 rfl) ?_
  refine va_get (D := D) (ci := 2) (v := .ref (b_w Y)) (C := RX2) (T := TX2) (N := 6) hx hb hts hi2 hown hK hM 0 rfl rfl 2 (by decide) (hts (.fieldLink RX2 13 "RingSeriesModel" "widths" "[J") (by decide +kernel)) (fun _ h9 => h9) rfl dX2_begin_22 ?_
  refine lv_iload_n hx hb dX2_begin_25 rfl (lv_at hl 2 rfl) ?_
  refine ald_l (j := k) hx hb hK hM 2 2 rfl rfl (by omega) (by omega) dX2_begin_26 ?_
  refine lv_lmul hx hb dX2_begin_27 ?_
  refine top_l (lN_mul _ _) ?_
  exact ro_lret hx hb hr rfl dX2_begin_28 hlocks
set_option maxHeartbeats 4000000 in
set_option maxRecDepth 100000 in
/-- start(level, i) -/
theorem c_X2_start (l : Launch) {D : va_G} {cI cA cJ : ClassId} {H : Heap} (Y : mA) (q : mv) (hm : m_ok q) (hM : va_P D vwCl (mW cI cJ Y q) H) (k j : Nat) (hq : k < 3) (hj : j < kp q k) : Met l yX2_start wsX2_start ({ frames := 5, cells := 0, slots := 0, locals := 117 }) (ro_P D vwCl (tyL cI cA cJ) H [.ref (b_o Y), .int (nI k), .int (nI j)]) (ro_Q (.int (nI (bg q k j))) H) 0 0 ro_no := by
  refine Met.ofW (cc := cX2_start) (maxL := 3) (ret := (some .int)) (by decide) rfl ?_
  intro p e s m args below meth c s₁ B hml hv
  obtain ⟨rfl, hh, hK⟩ := hv
  subst hh
  have hx := B.exec
  have hb := B.bytes
  have hr := B.returns
  have hlocks := B.notSynchronized
  have hts := atoms_spec (ws := wsX2_start) B.pre
  have hown : s.vm.findClass RX2 = some m.cls := findClass_of_methodNamed B.named
  have hi2 : ∀ w ∈ wsX20, w ∈ wsX2_start := fun w h => List.mem_cons_of_mem _ (List.mem_append_right _ h)
  have hl := lv_entry ([.ref (b_o Y), .int (nI k), .int (nI j)]) (n := 3) (Nat.le_of_ble_eq_true rfl)
  rw [lg_entry_eq]
  generalize (lg_sl ([.ref (b_o Y), .int (nI k), .int (nI j)]) ++ List.replicate (3 - (lg_sl ([.ref (b_o Y), .int (nI k), .int (nI j)])).length) Slot.unset).toArray = ls at hl ⊢
  have hl : lv_has ls 3 [(0, .ref (b_o Y)), (1, .int (nI k)), (2, .int (nI j))] := hl
  obtain ⟨hp, hT, hRW, hkn⟩ := id hm
  obtain ⟨w1, w2, w3, w4⟩ := hRW k (by omega)
  have w5 := hkn k (by omega)
  have w6 := ng_le q k (m_P q)
  refine lv_aload_n hx hb dX2_start_0 rfl (lv_at hl 0 rfl) ?_
  refine lv_iload_n hx hb dX2_start_1 rfl (lv_at hl 1 rfl) ?_
  refine lv_iload_n hx hb dX2_start_2 rfl (lv_at hl 2 rfl) ?_
  refine ro_call (va_runV (As := [.int (nI k), .int (nI j)]) (rest := []) ⟨hx, hb, hml, hown, hts⟩ (c_X2_isEntry_t l Y q hm hM k j (by omega) (by omega)) (cwV 2 hts gX2_start_X2_isEntry rfl rfl rfl (by decide +kernel) ⟨Nat.le_of_ble_eq_true rfl, Nat.le_of_ble_eq_true rfl⟩) (ro_preV hK (va_recv hK hM (ci := 2) (q0 := 0) rfl rfl)) rfl rfl hl.1 rfl (lv_room (Nat.le_of_ble_eq_true rfl)) dX2_start_3 ⟨Nat.zero_le _, Nat.zero_le _⟩) ?_
  refine lv_if_eq (tgt := 19) hx hb dX2_start_6 (by decide) (fun c_6 => ?_) (fun c_6 => ?_)
  · exact absurd c_6 (by decide)
  · refine lv_aload_n hx hb dX2_start_9 rfl (lv_at hl 0 rfl) ?_
    refine lv_iload_n hx hb dX2_start_10 rfl (lv_at hl 1 rfl) ?_
    refine lv_iload_n hx hb dX2_start_11 rfl (lv_at hl 2 rfl) ?_
    refine ro_call (va_runV (As := [.int (nI k), .int (nI j)]) (rest := []) ⟨hx, hb, hml, hown, hts⟩ (c_X2_begin l Y q hm hM k j (by omega) (by omega)) (cwV 2 hts gX2_start_X2_begin rfl rfl rfl (by decide +kernel) ⟨Nat.le_of_ble_eq_true rfl, Nat.le_of_ble_eq_true rfl⟩) (ro_preV hK (va_recv hK hM (ci := 2) (q0 := 0) rfl rfl)) rfl rfl hl.1 rfl (lv_room (Nat.le_of_ble_eq_true rfl)) dX2_start_12 ⟨Nat.zero_le _, Nat.zero_le _⟩) ?_
    refine lv_l2i hx hb dX2_start_15 rfl ?_
    refine top_i (lN_i _) ?_
    refine lv_goto (tgt := 20) hx hb dX2_start_16 (by decide) ?_
    exact ro_iret hx hb hr rfl dX2_start_20 hlocks
set_option maxHeartbeats 4000000 in
set_option maxRecDepth 100000 in
/-- start, none -/
theorem c_X2_start_n (l : Launch) {D : va_G} {cI cA cJ : ClassId} {H : Heap} (Y : mA) (q : mv) (hm : m_ok q) (hM : va_P D vwCl (mW cI cJ Y q) H) (k : Nat) (i : Int32) (hq : k < 3) (hi : ¬ ix (kp q k) i) : Met l yX2_start wsX2_start ({ frames := 5, cells := 0, slots := 0, locals := 117 }) (ro_P D vwCl (tyL cI cA cJ) H [.ref (b_o Y), .int (nI k), .int i]) (ro_Q (.int (-1)) H) 0 0 ro_no := by
  refine Met.ofW (cc := cX2_start) (maxL := 3) (ret := (some .int)) (by decide) rfl ?_
  intro p e s m args below meth c s₁ B hml hv
  obtain ⟨rfl, hh, hK⟩ := hv
  subst hh
  have hx := B.exec
  have hb := B.bytes
  have hr := B.returns
  have hlocks := B.notSynchronized
  have hts := atoms_spec (ws := wsX2_start) B.pre
  have hown : s.vm.findClass RX2 = some m.cls := findClass_of_methodNamed B.named
  have hi2 : ∀ w ∈ wsX20, w ∈ wsX2_start := fun w h => List.mem_cons_of_mem _ (List.mem_append_right _ h)
  have hl := lv_entry ([.ref (b_o Y), .int (nI k), .int i]) (n := 3) (Nat.le_of_ble_eq_true rfl)
  rw [lg_entry_eq]
  generalize (lg_sl ([.ref (b_o Y), .int (nI k), .int i]) ++ List.replicate (3 - (lg_sl ([.ref (b_o Y), .int (nI k), .int i])).length) Slot.unset).toArray = ls at hl ⊢
  have hl : lv_has ls 3 [(0, .ref (b_o Y)), (1, .int (nI k)), (2, .int i)] := hl
  obtain ⟨hp, hT, hRW, hkn⟩ := id hm
  obtain ⟨w1, w2, w3, w4⟩ := hRW k (by omega)
  have w5 := hkn k (by omega)
  have w6 := ng_le q k (m_P q)
  refine lv_aload_n hx hb dX2_start_0 rfl (lv_at hl 0 rfl) ?_
  refine lv_iload_n hx hb dX2_start_1 rfl (lv_at hl 1 rfl) ?_
  refine lv_iload_n hx hb dX2_start_2 rfl (lv_at hl 2 rfl) ?_
  refine ro_call (va_runV (As := [.int (nI k), .int i]) (rest := []) ⟨hx, hb, hml, hown, hts⟩ (c_X2_isEntry_n l Y q hm hM k i (by omega) hi) (cwV 2 hts gX2_start_X2_isEntry rfl rfl rfl (by decide +kernel) ⟨Nat.le_of_ble_eq_true rfl, Nat.le_of_ble_eq_true rfl⟩) (ro_preV hK (va_recv hK hM (ci := 2) (q0 := 0) rfl rfl)) rfl rfl hl.1 rfl (lv_room (Nat.le_of_ble_eq_true rfl)) dX2_start_3 ⟨Nat.zero_le _, Nat.zero_le _⟩) ?_
  refine lv_if_eq (tgt := 19) hx hb dX2_start_6 (by decide) (fun c_6 => ?_) (fun c_6 => ?_)
  · refine lv_iconst (v := (-1)) hx hb dX2_start_19 (by decide) ?_
    exact ro_iret hx hb hr rfl dX2_start_20 hlocks
  · exact absurd rfl c_6
set_option maxHeartbeats 4000000 in
set_option maxRecDepth 100000 in
/-- start, no level -/
theorem c_X2_start_x (l : Launch) {D : va_G} {cI cA cJ : ClassId} {H : Heap} (Y : mA) (q : mv) (hm : m_ok q) (hM : va_P D vwCl (mW cI cJ Y q) H) (v i : Int32) (hn : ¬ ix 3 v) : Met l yX2_start wsX2_start ({ frames := 5, cells := 0, slots := 0, locals := 117 }) (ro_P D vwCl (tyL cI cA cJ) H [.ref (b_o Y), .int v, .int i]) (ro_Q (.int (-1)) H) 0 0 ro_no := by
  refine Met.ofW (cc := cX2_start) (maxL := 3) (ret := (some .int)) (by decide) rfl ?_
  intro p e s m args below meth c s₁ B hml hv
  obtain ⟨rfl, hh, hK⟩ := hv
  subst hh
  have hx := B.exec
  have hb := B.bytes
  have hr := B.returns
  have hlocks := B.notSynchronized
  have hts := atoms_spec (ws := wsX2_start) B.pre
  have hown : s.vm.findClass RX2 = some m.cls := findClass_of_methodNamed B.named
  have hi2 : ∀ w ∈ wsX20, w ∈ wsX2_start := fun w h => List.mem_cons_of_mem _ (List.mem_append_right _ h)
  have hl := lv_entry ([.ref (b_o Y), .int v, .int i]) (n := 3) (Nat.le_of_ble_eq_true rfl)
  rw [lg_entry_eq]
  generalize (lg_sl ([.ref (b_o Y), .int v, .int i]) ++ List.replicate (3 - (lg_sl ([.ref (b_o Y), .int v, .int i])).length) Slot.unset).toArray = ls at hl ⊢
  have hl : lv_has ls 3 [(0, .ref (b_o Y)), (1, .int v), (2, .int i)] := hl
  obtain ⟨hp, hT, hRW, hkn⟩ := id hm
  refine lv_aload_n hx hb dX2_start_0 rfl (lv_at hl 0 rfl) ?_
  refine lv_iload_n hx hb dX2_start_1 rfl (lv_at hl 1 rfl) ?_
  refine lv_iload_n hx hb dX2_start_2 rfl (lv_at hl 2 rfl) ?_
  refine ro_call (va_runV (As := [.int v, .int i]) (rest := []) ⟨hx, hb, hml, hown, hts⟩ (c_X2_isEntry_x l Y q hm hM v i hn) (cwV 2 hts gX2_start_X2_isEntry rfl rfl rfl (by decide +kernel) ⟨Nat.le_of_ble_eq_true rfl, Nat.le_of_ble_eq_true rfl⟩) (ro_preV hK (va_recv hK hM (ci := 2) (q0 := 0) rfl rfl)) rfl rfl hl.1 rfl (lv_room (Nat.le_of_ble_eq_true rfl)) dX2_start_3 ⟨Nat.zero_le _, Nat.zero_le _⟩) ?_
  refine lv_if_eq (tgt := 19) hx hb dX2_start_6 (by decide) (fun c_6 => ?_) (fun c_6 => ?_)
  · refine lv_iconst (v := (-1)) hx hb dX2_start_19 (by decide) ?_
    exact ro_iret hx hb hr rfl dX2_start_20 hlocks
  · exact absurd rfl c_6
set_option maxHeartbeats 4000000 in
set_option maxRecDepth 100000 in
/-- figure, none -/
theorem c_X2_figure_n (l : Launch) {D : va_G} {cI cA cJ : ClassId} {H : Heap} (Y : mA) (q : mv) (hm : m_ok q) (hM : va_P D vwCl (mW cI cJ Y q) H) (k : Nat) (i w : Int32) (hq : k < 3) (hi : ¬ ix (kp q k) i) : Met l yX2_figure wsX2_figure ({ frames := 4, cells := 0, slots := 0, locals := 93 }) (ro_P D vwCl (tyL cI cA cJ) H [.ref (b_o Y), .int (nI k), .int i, .int w]) (ro_Q (.int 0) H) 0 0 ro_no := by
  refine Met.ofW (cc := cX2_figure) (maxL := 10) (ret := (some .int)) (by decide) rfl ?_
  intro p e s m args below meth c s₁ B hml hv
  obtain ⟨rfl, hh, hK⟩ := hv
  subst hh
  have hx := B.exec
  have hb := B.bytes
  have hr := B.returns
  have hlocks := B.notSynchronized
  have hts := atoms_spec (ws := wsX2_figure) B.pre
  have hown : s.vm.findClass RX2 = some m.cls := findClass_of_methodNamed B.named
  have hi2 : ∀ w ∈ wsX20, w ∈ wsX2_figure := fun w h => List.mem_cons_of_mem _ (List.mem_append_right _ h)
  have hl := lv_entry ([.ref (b_o Y), .int (nI k), .int i, .int w]) (n := 10) (Nat.le_of_ble_eq_true rfl)
  rw [lg_entry_eq]
  generalize (lg_sl ([.ref (b_o Y), .int (nI k), .int i, .int w]) ++ List.replicate (10 - (lg_sl ([.ref (b_o Y), .int (nI k), .int i, .int w])).length) Slot.unset).toArray = ls at hl ⊢
  have hl : lv_has ls 10 [(0, .ref (b_o Y)), (1, .int (nI k)), (2, .int i), (3, .int w)] := hl
  obtain ⟨hp, hT, hRW, hkn⟩ := id hm
  obtain ⟨w1, w2, w3, w4⟩ := hRW k (by omega)
  have w5 := hkn k (by omega)
  have w6 := ng_le q k (m_P q)
  refine lv_aload_n hx hb dX2_figure_0 rfl (lv_at hl 0 rfl) ?_
  refine lv_iload_n hx hb dX2_figure_1 rfl (lv_at hl 1 rfl) ?_
  refine lv_iload_n hx hb dX2_figure_2 rfl (lv_at hl 2 rfl) ?_
  refine ro_call (va_runV (As := [.int (nI k), .int i]) (rest := []) ⟨hx, hb, hml, hown, hts⟩ (c_X2_isEntry_n l Y q hm hM k i (by omega) hi) (cwV 2 hts gX2_figure_X2_isEntry rfl rfl rfl (by decide +kernel) ⟨Nat.le_of_ble_eq_true rfl, Nat.le_of_ble_eq_true rfl⟩) (ro_preV hK (va_recv hK hM (ci := 2) (q0 := 0) rfl rfl)) rfl rfl hl.1 rfl (lv_room (Nat.le_of_ble_eq_true rfl)) dX2_figure_3 ⟨Nat.zero_le _, Nat.zero_le _⟩) ?_
  refine lv_if_ne (tgt := 11) hx hb dX2_figure_6 (by decide) (fun c_6 => ?_) (fun c_6 => ?_)
  · exact absurd rfl c_6
  · refine lv_iconst (v := 0) hx hb dX2_figure_9 (by decide) ?_
    exact ro_iret hx hb hr rfl dX2_figure_10 hlocks
set_option maxHeartbeats 4000000 in
set_option maxRecDepth 100000 in
/-- figure, no level -/
theorem c_X2_figure_x (l : Launch) {D : va_G} {cI cA cJ : ClassId} {H : Heap} (Y : mA) (q : mv) (hm : m_ok q) (hM : va_P D vwCl (mW cI cJ Y q) H) (v i w : Int32) (hn : ¬ ix 3 v) : Met l yX2_figure wsX2_figure ({ frames := 4, cells := 0, slots := 0, locals := 93 }) (ro_P D vwCl (tyL cI cA cJ) H [.ref (b_o Y), .int v, .int i, .int w]) (ro_Q (.int 0) H) 0 0 ro_no := by
  refine Met.ofW (cc := cX2_figure) (maxL := 10) (ret := (some .int)) (by decide) rfl ?_
  intro p e s m args below meth c s₁ B hml hv
  obtain ⟨rfl, hh, hK⟩ := hv
  subst hh
  have hx := B.exec
  have hb := B.bytes
  have hr := B.returns
  have hlocks := B.notSynchronized
  have hts := atoms_spec (ws := wsX2_figure) B.pre
  have hown : s.vm.findClass RX2 = some m.cls := findClass_of_methodNamed B.named
  have hi2 : ∀ w ∈ wsX20, w ∈ wsX2_figure := fun w h => List.mem_cons_of_mem _ (List.mem_append_right _ h)
  have hl := lv_entry ([.ref (b_o Y), .int v, .int i, .int w]) (n := 10) (Nat.le_of_ble_eq_true rfl)
  rw [lg_entry_eq]
  generalize (lg_sl ([.ref (b_o Y), .int v, .int i, .int w]) ++ List.replicate (10 - (lg_sl ([.ref (b_o Y), .int v, .int i, .int w])).length) Slot.unset).toArray = ls at hl ⊢
  have hl : lv_has ls 10 [(0, .ref (b_o Y)), (1, .int v), (2, .int i), (3, .int w)] := hl
  obtain ⟨hp, hT, hRW, hkn⟩ := id hm
  refine lv_aload_n hx hb dX2_figure_0 rfl (lv_at hl 0 rfl) ?_
  refine lv_iload_n hx hb dX2_figure_1 rfl (lv_at hl 1 rfl) ?_
  refine lv_iload_n hx hb dX2_figure_2 rfl (lv_at hl 2 rfl) ?_
  refine ro_call (va_runV (As := [.int v, .int i]) (rest := []) ⟨hx, hb, hml, hown, hts⟩ (c_X2_isEntry_x l Y q hm hM v i hn) (cwV 2 hts gX2_figure_X2_isEntry rfl rfl rfl (by decide +kernel) ⟨Nat.le_of_ble_eq_true rfl, Nat.le_of_ble_eq_true rfl⟩) (ro_preV hK (va_recv hK hM (ci := 2) (q0 := 0) rfl rfl)) rfl rfl hl.1 rfl (lv_room (Nat.le_of_ble_eq_true rfl)) dX2_figure_3 ⟨Nat.zero_le _, Nat.zero_le _⟩) ?_
  refine lv_if_ne (tgt := 11) hx hb dX2_figure_6 (by decide) (fun c_6 => ?_) (fun c_6 => ?_)
  · exact absurd rfl c_6
  · refine lv_iconst (v := 0) hx hb dX2_figure_9 (by decide) ?_
    exact ro_iret hx hb hr rfl dX2_figure_10 hlocks
set_option maxHeartbeats 4000000 in
set_option maxRecDepth 100000 in
/-- figure(level, i, what) -/
theorem c_X2_figure (l : Launch) {D : va_G} {cI cA cJ : ClassId} {H : Heap} (Y : mA) (q : mv) (hm : m_ok q) (hM : va_P D vwCl (mW cI cJ Y q) H) (k j : Nat) (hq : k < 3) (hj : j < kp q k) (w : Nat) (hw : w < 4) : Met l yX2_figure wsX2_figure ({ frames := 4, cells := 0, slots := 0, locals := 93 }) (ro_P D vwCl (tyL cI cA cJ) H [.ref (b_o Y), .int (nI k), .int (nI j), .int (nI w)]) (ro_Q (.int (fg q k j w)) H) 0 0 ro_no := by
  refine Met.ofW (cc := cX2_figure) (maxL := 10) (ret := (some .int)) (by decide) rfl ?_
  intro p e s m args below meth c s₁ B hml hv
  obtain ⟨rfl, hh, hK⟩ := hv
  subst hh
  have hx := B.exec
  have hb := B.bytes
  have hr := B.returns
  have hlocks := B.notSynchronized
  have hts := atoms_spec (ws := wsX2_figure) B.pre
  have hown : s.vm.findClass RX2 = some m.cls := findClass_of_methodNamed B.named
  have hi2 : ∀ w ∈ wsX20, w ∈ wsX2_figure := fun w h => List.mem_cons_of_mem _ (List.mem_append_right _ h)
  have hl := lv_entry ([.ref (b_o Y), .int (nI k), .int (nI j), .int (nI w)]) (n := 10) (Nat.le_of_ble_eq_true rfl)
  rw [lg_entry_eq]
  generalize (lg_sl ([.ref (b_o Y), .int (nI k), .int (nI j), .int (nI w)]) ++ List.replicate (10 - (lg_sl ([.ref (b_o Y), .int (nI k), .int (nI j), .int (nI w)])).length) Slot.unset).toArray = ls at hl ⊢
  have hl : lv_has ls 10 [(0, .ref (b_o Y)), (1, .int (nI k)), (2, .int (nI j)), (3, .int (nI w))] := hl
  obtain ⟨hp, hT, hRW, hkn⟩ := id hm
  obtain ⟨w1, w2, w3, w4⟩ := hRW k (by omega)
  have w5 := hkn k (by omega)
  have w6 := ng_le q k (m_P q)
  have f1 := fs_lt w5 hj
  have loop : ∀ (n : Nat) (y d0 : Nat) (su mo le : Int32) (ls : Array Slot), y + n = m_P q → d0 + fs q k j = y → fgr q k (fs q k j) n y le mo su d0 = fg q k j → lv_has ls 10 [(9, .int (nI y)), (8, .int (nI d0)), (7, .int su), (6, .int mo), (5, .int le), (4, .int (nI (fs q k j))), (0, .ref (b_o Y)), (1, .int (nI k)), (2, .int (nI j)), (3, .int (nI w))] → W p l e (headSpec wsX2_figure ({ frames := 4, cells := 0, slots := 0, locals := 93 })).room s m ([.ref (b_o Y), .int (nI k), .int (nI j), .int (nI w)] : List Value).toArray below meth c s.heap [] 0 0 (MQ below (ro_Q (.int (fg q k j w)) s.heap) ([.ref (b_o Y), .int (nI k), .int (nI j), .int (nI w)] : List Value).toArray s 0 0 ro_no) (F0 m 47 ls []) := by
    intro n
    induction n with
    | zero =>
      intro y d0 su mo le ls hi hd hf hl
      refine lv_iload hx hb dX2_figure_47 (lv_at hl 0 rfl) ?_
      refine lv_aload_n hx hb dX2_figure_49 rfl (lv_at hl 6 rfl) ?_
      refine va_get (D := D) (ci := 2) (v := .int (nI (m_P q))) (C := RX2) (T := TX2) (N := 6) hx hb hts hi2 hown hK hM 0 rfl rfl 3 (by decide) (hts (.fieldLink RX2 32 "RingSeriesModel" "points" "I") (by decide +kernel)) (fun _ h9 => h9) rfl dX2_figure_50 ?_
      refine lv_icmp_ge (tgt := 141) hx hb dX2_figure_53 (by decide) (fun c_53 => ?_) (fun c_53 => ?_)
      · have c_53 := (nI_leI (a := m_P q) (b := y) (by omega) (by omega)).mp c_53
        refine lv_iload_n hx hb dX2_figure_141 rfl (lv_at hl 9 rfl) ?_
        refine lv_if_ne (tgt := 150) hx hb dX2_figure_142 (by decide) (fun c_142 => ?_) (fun c_142 => ?_)
        · have c_142 := mt (nI_eq (a := w) (b := 0) (by omega) (by omega)).mpr c_142
          refine lv_iload_n hx hb dX2_figure_150 rfl (lv_at hl 9 rfl) ?_
          refine lv_iconst (v := 1) hx hb dX2_figure_151 (by decide) ?_
          refine lv_icmp_ne (tgt := 160) hx hb dX2_figure_152 (by decide) (fun c_152 => ?_) (fun c_152 => ?_)
          · have c_152 := mt (nI_eq (a := w) (b := 1) (by omega) (by omega)).mpr c_152
            refine lv_iload_n hx hb dX2_figure_160 rfl (lv_at hl 9 rfl) ?_
            refine lv_iconst (v := 2) hx hb dX2_figure_161 (by decide) ?_
            refine lv_icmp_ne (tgt := 170) hx hb dX2_figure_162 (by decide) (fun c_162 => ?_) (fun c_162 => ?_)
            · have c_162 := mt (nI_eq (a := w) (b := 2) (by omega) (by omega)).mpr c_162
              refine lv_iload_n hx hb dX2_figure_170 rfl (lv_at hl 9 rfl) ?_
              refine lv_iconst (v := 3) hx hb dX2_figure_171 (by decide) ?_
              refine lv_icmp_ne (tgt := 180) hx hb dX2_figure_172 (by decide) (fun c_172 => ?_) (fun c_172 => ?_)
              · have c_172 := mt (nI_eq (a := w) (b := 3) (by omega) (by omega)).mpr c_172
                refine lv_iconst (v := 0) hx hb dX2_figure_180 (by decide) ?_
                exact ro_iret hx hb hr (by rw [← hf]; rw [fgr]; (try dsimp only); exact absurd c_172 (by omega)) dX2_figure_181 hlocks
              · have c_172 := (nI_eq (a := w) (b := 3) (by omega) (by omega)).mp c_172
                refine lv_iload hx hb dX2_figure_175 (lv_at hl 1 rfl) ?_
                refine lv_goto (tgt := 181) hx hb dX2_figure_177 (by decide) ?_
                exact ro_iret hx hb hr (by rw [← hf]; rw [fgr]; (try dsimp only); rw [if_neg c_142, if_neg c_152, if_neg c_162]) dX2_figure_181 hlocks
            · have c_162 := (nI_eq (a := w) (b := 2) (by omega) (by omega)).mp c_162
              refine lv_iload hx hb dX2_figure_165 (lv_at hl 2 rfl) ?_
              refine lv_goto (tgt := 181) hx hb dX2_figure_167 (by decide) ?_
              exact ro_iret hx hb hr (by rw [← hf]; rw [fgr]; (try dsimp only); rw [if_neg c_142, if_neg c_152, if_pos c_162]) dX2_figure_181 hlocks
          · have c_152 := (nI_eq (a := w) (b := 1) (by omega) (by omega)).mp c_152
            refine lv_iload hx hb dX2_figure_155 (lv_at hl 3 rfl) ?_
            refine lv_goto (tgt := 181) hx hb dX2_figure_157 (by decide) ?_
            exact ro_iret hx hb hr (by rw [← hf]; rw [fgr]; (try dsimp only); rw [if_neg c_142, if_pos c_152]) dX2_figure_181 hlocks
        · have c_142 := (nI_eq (a := w) (b := 0) (by omega) (by omega)).mp c_142
          refine lv_iload hx hb dX2_figure_145 (lv_at hl 4 rfl) ?_
          refine lv_goto (tgt := 181) hx hb dX2_figure_147 (by decide) ?_
          exact ro_iret hx hb hr (by rw [← hf]; rw [fgr]; (try dsimp only); rw [if_pos c_142]) dX2_figure_181 hlocks
      · have c_53 := mt (nI_leI (a := m_P q) (b := y) (by omega) (by omega)).mpr c_53
        exact absurd c_53 (by omega)
    | succ n ih =>
      intro y d0 su mo le ls hi hd hf hl
      refine lv_iload hx hb dX2_figure_47 (lv_at hl 0 rfl) ?_
      refine lv_aload_n hx hb dX2_figure_49 rfl (lv_at hl 6 rfl) ?_
      refine va_get (D := D) (ci := 2) (v := .int (nI (m_P q))) (C := RX2) (T := TX2) (N := 6) hx hb hts hi2 hown hK hM 0 rfl rfl 3 (by decide) (hts (.fieldLink RX2 32 "RingSeriesModel" "points" "I") (by decide +kernel)) (fun _ h9 => h9) rfl dX2_figure_50 ?_
      refine lv_icmp_ge (tgt := 141) hx hb dX2_figure_53 (by decide) (fun c_53 => ?_) (fun c_53 => ?_)
      · have c_53 := (nI_leI (a := m_P q) (b := y) (by omega) (by omega)).mp c_53
        exact absurd c_53 (by omega)
      · have c_53 := mt (nI_leI (a := m_P q) (b := y) (by omega) (by omega)).mpr c_53
        refine lv_aload_n hx hb dX2_figure_56 rfl (lv_at hl 6 rfl) ?_
        refine lv_iload_n hx hb dX2_figure_57 rfl (lv_at hl 7 rfl) ?_
        refine lv_iload hx hb dX2_figure_58 (lv_at hl 5 rfl) ?_
        refine lv_iload hx hb dX2_figure_60 (lv_at hl 0 rfl) ?_
        refine ro_call (va_runV (As := [.int (nI k), .int (nI (fs q k j)), .int (nI y)]) (rest := []) ⟨hx, hb, hml, hown, hts⟩ (c_X2_isSame l Y q hm hM k (fs q k j) y (by omega) (by omega) (by omega)) (cwV 3 hts gX2_figure_X2_isSame rfl rfl rfl (by decide +kernel) ⟨Nat.le_of_ble_eq_true rfl, Nat.le_of_ble_eq_true rfl⟩) (ro_preV hK (va_recv hK hM (ci := 2) (q0 := 0) rfl rfl)) rfl rfl hl.1 rfl (lv_room (Nat.le_of_ble_eq_true rfl)) dX2_figure_62 ⟨Nat.zero_le _, Nat.zero_le _⟩) ?_
        refine lv_if_eq (tgt := 141) hx hb dX2_figure_65 (by decide) (fun c_65 => ?_) (fun c_65 => ?_)
        · have c_65 := bi_eq c_65
          refine lv_iload_n hx hb dX2_figure_141 rfl (lv_at hl 9 rfl) ?_
          refine lv_if_ne (tgt := 150) hx hb dX2_figure_142 (by decide) (fun c_142 => ?_) (fun c_142 => ?_)
          · have c_142 := mt (nI_eq (a := w) (b := 0) (by omega) (by omega)).mpr c_142
            refine lv_iload_n hx hb dX2_figure_150 rfl (lv_at hl 9 rfl) ?_
            refine lv_iconst (v := 1) hx hb dX2_figure_151 (by decide) ?_
            refine lv_icmp_ne (tgt := 160) hx hb dX2_figure_152 (by decide) (fun c_152 => ?_) (fun c_152 => ?_)
            · have c_152 := mt (nI_eq (a := w) (b := 1) (by omega) (by omega)).mpr c_152
              refine lv_iload_n hx hb dX2_figure_160 rfl (lv_at hl 9 rfl) ?_
              refine lv_iconst (v := 2) hx hb dX2_figure_161 (by decide) ?_
              refine lv_icmp_ne (tgt := 170) hx hb dX2_figure_162 (by decide) (fun c_162 => ?_) (fun c_162 => ?_)
              · have c_162 := mt (nI_eq (a := w) (b := 2) (by omega) (by omega)).mpr c_162
                refine lv_iload_n hx hb dX2_figure_170 rfl (lv_at hl 9 rfl) ?_
                refine lv_iconst (v := 3) hx hb dX2_figure_171 (by decide) ?_
                refine lv_icmp_ne (tgt := 180) hx hb dX2_figure_172 (by decide) (fun c_172 => ?_) (fun c_172 => ?_)
                · have c_172 := mt (nI_eq (a := w) (b := 3) (by omega) (by omega)).mpr c_172
                  refine lv_iconst (v := 0) hx hb dX2_figure_180 (by decide) ?_
                  exact ro_iret hx hb hr (by rw [← hf]; rw [fgr, if_neg c_65]; (try dsimp only); exact absurd c_172 (by omega)) dX2_figure_181 hlocks
                · have c_172 := (nI_eq (a := w) (b := 3) (by omega) (by omega)).mp c_172
                  refine lv_iload hx hb dX2_figure_175 (lv_at hl 1 rfl) ?_
                  refine lv_goto (tgt := 181) hx hb dX2_figure_177 (by decide) ?_
                  exact ro_iret hx hb hr (by rw [← hf]; rw [fgr, if_neg c_65]; (try dsimp only); rw [if_neg c_142, if_neg c_152, if_neg c_162]) dX2_figure_181 hlocks
              · have c_162 := (nI_eq (a := w) (b := 2) (by omega) (by omega)).mp c_162
                refine lv_iload hx hb dX2_figure_165 (lv_at hl 2 rfl) ?_
                refine lv_goto (tgt := 181) hx hb dX2_figure_167 (by decide) ?_
                exact ro_iret hx hb hr (by rw [← hf]; rw [fgr, if_neg c_65]; (try dsimp only); rw [if_neg c_142, if_neg c_152, if_pos c_162]) dX2_figure_181 hlocks
            · have c_152 := (nI_eq (a := w) (b := 1) (by omega) (by omega)).mp c_152
              refine lv_iload hx hb dX2_figure_155 (lv_at hl 3 rfl) ?_
              refine lv_goto (tgt := 181) hx hb dX2_figure_157 (by decide) ?_
              exact ro_iret hx hb hr (by rw [← hf]; rw [fgr, if_neg c_65]; (try dsimp only); rw [if_neg c_142, if_pos c_152]) dX2_figure_181 hlocks
          · have c_142 := (nI_eq (a := w) (b := 0) (by omega) (by omega)).mp c_142
            refine lv_iload hx hb dX2_figure_145 (lv_at hl 4 rfl) ?_
            refine lv_goto (tgt := 181) hx hb dX2_figure_147 (by decide) ?_
            exact ro_iret hx hb hr (by rw [← hf]; rw [fgr, if_neg c_65]; (try dsimp only); rw [if_pos c_142]) dX2_figure_181 hlocks
        · have c_65 := bi_ne c_65
          refine lv_aload_n hx hb dX2_figure_68 rfl (lv_at hl 6 rfl) ?_
          refine va_get (D := D) (ci := 2) (v := .ref (b_v Y)) (C := RX2) (T := TX2) (N := 6) hx hb hts hi2 hown hK hM 0 rfl rfl 5 (by decide) (hts (.fieldLink RX2 20 "RingSeriesModel" "values" "[I") (by decide +kernel)) (fun _ h9 => h9) rfl dX2_figure_69 ?_
          refine lv_iload hx hb dX2_figure_72 (lv_at hl 0 rfl) ?_
          refine ald_i (j := y) hx hb hK hM 4 0 rfl rfl (by omega) (by omega) dX2_figure_74 ?_
          refine lv_iload hx hb dX2_figure_75 (lv_at hl 4 rfl) ?_
          refine lv_icmp_ge (tgt := 90) hx hb dX2_figure_77 (by decide) (fun c_77 => ?_) (fun c_77 => ?_)
          · refine lv_iload hx hb dX2_figure_90 (lv_at hl 4 rfl) ?_
            refine lv_istore (lv' := [(5, .int le), (9, .int (nI y)), (8, .int (nI d0)), (7, .int su), (6, .int mo), (4, .int (nI (fs q k j))), (0, .ref (b_o Y)), (1, .int (nI k)), (2, .int (nI j)), (3, .int (nI w))]) hx hb dX2_figure_92 hl (by decide) rfl (fun ls hl => ?_)
            refine lv_aload_n hx hb dX2_figure_94 rfl (lv_at hl 6 rfl) ?_
            refine va_get (D := D) (ci := 2) (v := .ref (b_v Y)) (C := RX2) (T := TX2) (N := 6) hx hb hts hi2 hown hK hM 0 rfl rfl 5 (by decide) (hts (.fieldLink RX2 20 "RingSeriesModel" "values" "[I") (by decide +kernel)) (fun _ h9 => h9) rfl dX2_figure_95 ?_
            refine lv_iload hx hb dX2_figure_98 (lv_at hl 1 rfl) ?_
            refine ald_i (j := y) hx hb hK hM 4 0 rfl rfl (by omega) (by omega) dX2_figure_100 ?_
            refine lv_iload hx hb dX2_figure_101 (lv_at hl 4 rfl) ?_
            refine lv_icmp_le (tgt := 116) hx hb dX2_figure_103 (by decide) (fun c_103 => ?_) (fun c_103 => ?_)
            · refine lv_iload hx hb dX2_figure_116 (lv_at hl 4 rfl) ?_
              refine lv_istore (lv' := [(6, .int mo), (5, .int le), (9, .int (nI y)), (8, .int (nI d0)), (7, .int su), (4, .int (nI (fs q k j))), (0, .ref (b_o Y)), (1, .int (nI k)), (2, .int (nI j)), (3, .int (nI w))]) hx hb dX2_figure_118 hl (by decide) rfl (fun ls hl => ?_)
              refine lv_iload hx hb dX2_figure_120 (lv_at hl 4 rfl) ?_
              refine lv_aload_n hx hb dX2_figure_122 rfl (lv_at hl 6 rfl) ?_
              refine va_get (D := D) (ci := 2) (v := .ref (b_v Y)) (C := RX2) (T := TX2) (N := 6) hx hb hts hi2 hown hK hM 0 rfl rfl 5 (by decide) (hts (.fieldLink RX2 20 "RingSeriesModel" "values" "[I") (by decide +kernel)) (fun _ h9 => h9) rfl dX2_figure_123 ?_
              refine lv_iload hx hb dX2_figure_126 (lv_at hl 2 rfl) ?_
              refine ald_i (j := y) hx hb hK hM 4 0 rfl rfl (by omega) (by omega) dX2_figure_128 ?_
              refine lv_iadd hx hb dX2_figure_129 ?_
              refine lv_istore (lv' := [(7, .int (su + (m_V q y))), (6, .int mo), (5, .int le), (9, .int (nI y)), (8, .int (nI d0)), (4, .int (nI (fs q k j))), (0, .ref (b_o Y)), (1, .int (nI k)), (2, .int (nI j)), (3, .int (nI w))]) hx hb dX2_figure_130 hl (by decide) rfl (fun ls hl => ?_)
              refine lv_iinc (v := nI (d0 + 1)) (lv' := [(8, .int (nI (d0 + 1))), (7, .int (su + (m_V q y))), (6, .int mo), (5, .int le), (9, .int (nI y)), (4, .int (nI (fs q k j))), (0, .ref (b_o Y)), (1, .int (nI k)), (2, .int (nI j)), (3, .int (nI w))]) hx hb dX2_figure_132 hl (k := 4) rfl (inc1 _) (by decide) rfl (fun ls hl => ?_)
              refine lv_iinc (v := nI (y + 1)) (lv' := [(9, .int (nI (y + 1))), (8, .int (nI (d0 + 1))), (7, .int (su + (m_V q y))), (6, .int mo), (5, .int le), (4, .int (nI (fs q k j))), (0, .ref (b_o Y)), (1, .int (nI k)), (2, .int (nI j)), (3, .int (nI w))]) hx hb dX2_figure_135 hl (k := 4) rfl (inc1 _) (by decide) rfl (fun ls hl => ?_)
              refine lv_goto (tgt := 47) hx hb dX2_figure_138 (by decide) ?_
              exact ih (y + 1) (d0 + 1) _ _ _ ls (by omega) (by omega) (by rw [← hf, fgr, if_pos c_65, if_neg (Int32.not_lt.mpr c_77), if_neg (Int32.not_lt.mpr c_103)]) (lv_sub hl [0, 1, 2, 3, 4, 5, 6, 7, 8, 9] rfl)
            · refine lv_aload_n hx hb dX2_figure_106 rfl (lv_at hl 6 rfl) ?_
              refine va_get (D := D) (ci := 2) (v := .ref (b_v Y)) (C := RX2) (T := TX2) (N := 6) hx hb hts hi2 hown hK hM 0 rfl rfl 5 (by decide) (hts (.fieldLink RX2 20 "RingSeriesModel" "values" "[I") (by decide +kernel)) (fun _ h9 => h9) rfl dX2_figure_107 ?_
              refine lv_iload hx hb dX2_figure_110 (lv_at hl 1 rfl) ?_
              refine ald_i (j := y) hx hb hK hM 4 0 rfl rfl (by omega) (by omega) dX2_figure_112 ?_
              refine lv_goto (tgt := 118) hx hb dX2_figure_113 (by decide) ?_
              refine lv_istore (lv' := [(6, .int (m_V q y)), (5, .int le), (9, .int (nI y)), (8, .int (nI d0)), (7, .int su), (4, .int (nI (fs q k j))), (0, .ref (b_o Y)), (1, .int (nI k)), (2, .int (nI j)), (3, .int (nI w))]) hx hb dX2_figure_118 hl (by decide) rfl (fun ls hl => ?_)
              refine lv_iload hx hb dX2_figure_120 (lv_at hl 4 rfl) ?_
              refine lv_aload_n hx hb dX2_figure_122 rfl (lv_at hl 6 rfl) ?_
              refine va_get (D := D) (ci := 2) (v := .ref (b_v Y)) (C := RX2) (T := TX2) (N := 6) hx hb hts hi2 hown hK hM 0 rfl rfl 5 (by decide) (hts (.fieldLink RX2 20 "RingSeriesModel" "values" "[I") (by decide +kernel)) (fun _ h9 => h9) rfl dX2_figure_123 ?_
              refine lv_iload hx hb dX2_figure_126 (lv_at hl 2 rfl) ?_
              refine ald_i (j := y) hx hb hK hM 4 0 rfl rfl (by omega) (by omega) dX2_figure_128 ?_
              refine lv_iadd hx hb dX2_figure_129 ?_
              refine lv_istore (lv' := [(7, .int (su + (m_V q y))), (6, .int (m_V q y)), (5, .int le), (9, .int (nI y)), (8, .int (nI d0)), (4, .int (nI (fs q k j))), (0, .ref (b_o Y)), (1, .int (nI k)), (2, .int (nI j)), (3, .int (nI w))]) hx hb dX2_figure_130 hl (by decide) rfl (fun ls hl => ?_)
              refine lv_iinc (v := nI (d0 + 1)) (lv' := [(8, .int (nI (d0 + 1))), (7, .int (su + (m_V q y))), (6, .int (m_V q y)), (5, .int le), (9, .int (nI y)), (4, .int (nI (fs q k j))), (0, .ref (b_o Y)), (1, .int (nI k)), (2, .int (nI j)), (3, .int (nI w))]) hx hb dX2_figure_132 hl (k := 4) rfl (inc1 _) (by decide) rfl (fun ls hl => ?_)
              refine lv_iinc (v := nI (y + 1)) (lv' := [(9, .int (nI (y + 1))), (8, .int (nI (d0 + 1))), (7, .int (su + (m_V q y))), (6, .int (m_V q y)), (5, .int le), (4, .int (nI (fs q k j))), (0, .ref (b_o Y)), (1, .int (nI k)), (2, .int (nI j)), (3, .int (nI w))]) hx hb dX2_figure_135 hl (k := 4) rfl (inc1 _) (by decide) rfl (fun ls hl => ?_)
              refine lv_goto (tgt := 47) hx hb dX2_figure_138 (by decide) ?_
              exact ih (y + 1) (d0 + 1) _ _ _ ls (by omega) (by omega) (by rw [← hf, fgr, if_pos c_65, if_neg (Int32.not_lt.mpr c_77), if_pos (Int32.not_le.mp c_103)]) (lv_sub hl [0, 1, 2, 3, 4, 5, 6, 7, 8, 9] rfl)
          · refine lv_aload_n hx hb dX2_figure_80 rfl (lv_at hl 6 rfl) ?_
            refine va_get (D := D) (ci := 2) (v := .ref (b_v Y)) (C := RX2) (T := TX2) (N := 6) hx hb hts hi2 hown hK hM 0 rfl rfl 5 (by decide) (hts (.fieldLink RX2 20 "RingSeriesModel" "values" "[I") (by decide +kernel)) (fun _ h9 => h9) rfl dX2_figure_81 ?_
            refine lv_iload hx hb dX2_figure_84 (lv_at hl 0 rfl) ?_
            refine ald_i (j := y) hx hb hK hM 4 0 rfl rfl (by omega) (by omega) dX2_figure_86 ?_
            refine lv_goto (tgt := 92) hx hb dX2_figure_87 (by decide) ?_
            refine lv_istore (lv' := [(5, .int (m_V q y)), (9, .int (nI y)), (8, .int (nI d0)), (7, .int su), (6, .int mo), (4, .int (nI (fs q k j))), (0, .ref (b_o Y)), (1, .int (nI k)), (2, .int (nI j)), (3, .int (nI w))]) hx hb dX2_figure_92 hl (by decide) rfl (fun ls hl => ?_)
            refine lv_aload_n hx hb dX2_figure_94 rfl (lv_at hl 6 rfl) ?_
            refine va_get (D := D) (ci := 2) (v := .ref (b_v Y)) (C := RX2) (T := TX2) (N := 6) hx hb hts hi2 hown hK hM 0 rfl rfl 5 (by decide) (hts (.fieldLink RX2 20 "RingSeriesModel" "values" "[I") (by decide +kernel)) (fun _ h9 => h9) rfl dX2_figure_95 ?_
            refine lv_iload hx hb dX2_figure_98 (lv_at hl 1 rfl) ?_
            refine ald_i (j := y) hx hb hK hM 4 0 rfl rfl (by omega) (by omega) dX2_figure_100 ?_
            refine lv_iload hx hb dX2_figure_101 (lv_at hl 4 rfl) ?_
            refine lv_icmp_le (tgt := 116) hx hb dX2_figure_103 (by decide) (fun c_103 => ?_) (fun c_103 => ?_)
            · refine lv_iload hx hb dX2_figure_116 (lv_at hl 4 rfl) ?_
              refine lv_istore (lv' := [(6, .int mo), (5, .int (m_V q y)), (9, .int (nI y)), (8, .int (nI d0)), (7, .int su), (4, .int (nI (fs q k j))), (0, .ref (b_o Y)), (1, .int (nI k)), (2, .int (nI j)), (3, .int (nI w))]) hx hb dX2_figure_118 hl (by decide) rfl (fun ls hl => ?_)
              refine lv_iload hx hb dX2_figure_120 (lv_at hl 4 rfl) ?_
              refine lv_aload_n hx hb dX2_figure_122 rfl (lv_at hl 6 rfl) ?_
              refine va_get (D := D) (ci := 2) (v := .ref (b_v Y)) (C := RX2) (T := TX2) (N := 6) hx hb hts hi2 hown hK hM 0 rfl rfl 5 (by decide) (hts (.fieldLink RX2 20 "RingSeriesModel" "values" "[I") (by decide +kernel)) (fun _ h9 => h9) rfl dX2_figure_123 ?_
              refine lv_iload hx hb dX2_figure_126 (lv_at hl 2 rfl) ?_
              refine ald_i (j := y) hx hb hK hM 4 0 rfl rfl (by omega) (by omega) dX2_figure_128 ?_
              refine lv_iadd hx hb dX2_figure_129 ?_
              refine lv_istore (lv' := [(7, .int (su + (m_V q y))), (6, .int mo), (5, .int (m_V q y)), (9, .int (nI y)), (8, .int (nI d0)), (4, .int (nI (fs q k j))), (0, .ref (b_o Y)), (1, .int (nI k)), (2, .int (nI j)), (3, .int (nI w))]) hx hb dX2_figure_130 hl (by decide) rfl (fun ls hl => ?_)
              refine lv_iinc (v := nI (d0 + 1)) (lv' := [(8, .int (nI (d0 + 1))), (7, .int (su + (m_V q y))), (6, .int mo), (5, .int (m_V q y)), (9, .int (nI y)), (4, .int (nI (fs q k j))), (0, .ref (b_o Y)), (1, .int (nI k)), (2, .int (nI j)), (3, .int (nI w))]) hx hb dX2_figure_132 hl (k := 4) rfl (inc1 _) (by decide) rfl (fun ls hl => ?_)
              refine lv_iinc (v := nI (y + 1)) (lv' := [(9, .int (nI (y + 1))), (8, .int (nI (d0 + 1))), (7, .int (su + (m_V q y))), (6, .int mo), (5, .int (m_V q y)), (4, .int (nI (fs q k j))), (0, .ref (b_o Y)), (1, .int (nI k)), (2, .int (nI j)), (3, .int (nI w))]) hx hb dX2_figure_135 hl (k := 4) rfl (inc1 _) (by decide) rfl (fun ls hl => ?_)
              refine lv_goto (tgt := 47) hx hb dX2_figure_138 (by decide) ?_
              exact ih (y + 1) (d0 + 1) _ _ _ ls (by omega) (by omega) (by rw [← hf, fgr, if_pos c_65, if_pos (Int32.not_le.mp c_77), if_neg (Int32.not_lt.mpr c_103)]) (lv_sub hl [0, 1, 2, 3, 4, 5, 6, 7, 8, 9] rfl)
            · refine lv_aload_n hx hb dX2_figure_106 rfl (lv_at hl 6 rfl) ?_
              refine va_get (D := D) (ci := 2) (v := .ref (b_v Y)) (C := RX2) (T := TX2) (N := 6) hx hb hts hi2 hown hK hM 0 rfl rfl 5 (by decide) (hts (.fieldLink RX2 20 "RingSeriesModel" "values" "[I") (by decide +kernel)) (fun _ h9 => h9) rfl dX2_figure_107 ?_
              refine lv_iload hx hb dX2_figure_110 (lv_at hl 1 rfl) ?_
              refine ald_i (j := y) hx hb hK hM 4 0 rfl rfl (by omega) (by omega) dX2_figure_112 ?_
              refine lv_goto (tgt := 118) hx hb dX2_figure_113 (by decide) ?_
              refine lv_istore (lv' := [(6, .int (m_V q y)), (5, .int (m_V q y)), (9, .int (nI y)), (8, .int (nI d0)), (7, .int su), (4, .int (nI (fs q k j))), (0, .ref (b_o Y)), (1, .int (nI k)), (2, .int (nI j)), (3, .int (nI w))]) hx hb dX2_figure_118 hl (by decide) rfl (fun ls hl => ?_)
              refine lv_iload hx hb dX2_figure_120 (lv_at hl 4 rfl) ?_
              refine lv_aload_n hx hb dX2_figure_122 rfl (lv_at hl 6 rfl) ?_
              refine va_get (D := D) (ci := 2) (v := .ref (b_v Y)) (C := RX2) (T := TX2) (N := 6) hx hb hts hi2 hown hK hM 0 rfl rfl 5 (by decide) (hts (.fieldLink RX2 20 "RingSeriesModel" "values" "[I") (by decide +kernel)) (fun _ h9 => h9) rfl dX2_figure_123 ?_
              refine lv_iload hx hb dX2_figure_126 (lv_at hl 2 rfl) ?_
              refine ald_i (j := y) hx hb hK hM 4 0 rfl rfl (by omega) (by omega) dX2_figure_128 ?_
              refine lv_iadd hx hb dX2_figure_129 ?_
              refine lv_istore (lv' := [(7, .int (su + (m_V q y))), (6, .int (m_V q y)), (5, .int (m_V q y)), (9, .int (nI y)), (8, .int (nI d0)), (4, .int (nI (fs q k j))), (0, .ref (b_o Y)), (1, .int (nI k)), (2, .int (nI j)), (3, .int (nI w))]) hx hb dX2_figure_130 hl (by decide) rfl (fun ls hl => ?_)
              refine lv_iinc (v := nI (d0 + 1)) (lv' := [(8, .int (nI (d0 + 1))), (7, .int (su + (m_V q y))), (6, .int (m_V q y)), (5, .int (m_V q y)), (9, .int (nI y)), (4, .int (nI (fs q k j))), (0, .ref (b_o Y)), (1, .int (nI k)), (2, .int (nI j)), (3, .int (nI w))]) hx hb dX2_figure_132 hl (k := 4) rfl (inc1 _) (by decide) rfl (fun ls hl => ?_)
              refine lv_iinc (v := nI (y + 1)) (lv' := [(9, .int (nI (y + 1))), (8, .int (nI (d0 + 1))), (7, .int (su + (m_V q y))), (6, .int (m_V q y)), (5, .int (m_V q y)), (4, .int (nI (fs q k j))), (0, .ref (b_o Y)), (1, .int (nI k)), (2, .int (nI j)), (3, .int (nI w))]) hx hb dX2_figure_135 hl (k := 4) rfl (inc1 _) (by decide) rfl (fun ls hl => ?_)
              refine lv_goto (tgt := 47) hx hb dX2_figure_138 (by decide) ?_
              exact ih (y + 1) (d0 + 1) _ _ _ ls (by omega) (by omega) (by rw [← hf, fgr, if_pos c_65, if_pos (Int32.not_le.mp c_77), if_pos (Int32.not_le.mp c_103)]) (lv_sub hl [0, 1, 2, 3, 4, 5, 6, 7, 8, 9] rfl)
  refine lv_aload_n hx hb dX2_figure_0 rfl (lv_at hl 0 rfl) ?_
  refine lv_iload_n hx hb dX2_figure_1 rfl (lv_at hl 1 rfl) ?_
  refine lv_iload_n hx hb dX2_figure_2 rfl (lv_at hl 2 rfl) ?_
  refine ro_call (va_runV (As := [.int (nI k), .int (nI j)]) (rest := []) ⟨hx, hb, hml, hown, hts⟩ (c_X2_isEntry_t l Y q hm hM k j (by omega) (by omega)) (cwV 2 hts gX2_figure_X2_isEntry rfl rfl rfl (by decide +kernel) ⟨Nat.le_of_ble_eq_true rfl, Nat.le_of_ble_eq_true rfl⟩) (ro_preV hK (va_recv hK hM (ci := 2) (q0 := 0) rfl rfl)) rfl rfl hl.1 rfl (lv_room (Nat.le_of_ble_eq_true rfl)) dX2_figure_3 ⟨Nat.zero_le _, Nat.zero_le _⟩) ?_
  refine lv_if_ne (tgt := 11) hx hb dX2_figure_6 (by decide) (fun c_6 => ?_) (fun c_6 => ?_)
  · refine lv_aload_n hx hb dX2_figure_11 rfl (lv_at hl 0 rfl) ?_
    refine lv_iload_n hx hb dX2_figure_12 rfl (lv_at hl 1 rfl) ?_
    refine lv_iload_n hx hb dX2_figure_13 rfl (lv_at hl 2 rfl) ?_
    refine ro_call (va_runV (As := [.int (nI k), .int (nI j)]) (rest := []) ⟨hx, hb, hml, hown, hts⟩ (c_X2_first l Y q hm hM k j (by omega) (by omega)) (cwV 2 hts gX2_figure_X2_first rfl rfl rfl (by decide +kernel) ⟨Nat.le_of_ble_eq_true rfl, Nat.le_of_ble_eq_true rfl⟩) (ro_preV hK (va_recv hK hM (ci := 2) (q0 := 0) rfl rfl)) rfl rfl hl.1 rfl (lv_room (Nat.le_of_ble_eq_true rfl)) dX2_figure_14 ⟨Nat.zero_le _, Nat.zero_le _⟩) ?_
    refine lv_istore (lv' := [(4, .int (nI (fs q k j))), (0, .ref (b_o Y)), (1, .int (nI k)), (2, .int (nI j)), (3, .int (nI w))]) hx hb dX2_figure_17 hl (by decide) rfl (fun ls hl => ?_)
    refine lv_aload_n hx hb dX2_figure_19 rfl (lv_at hl 1 rfl) ?_
    refine va_get (D := D) (ci := 2) (v := .ref (b_v Y)) (C := RX2) (T := TX2) (N := 6) hx hb hts hi2 hown hK hM 0 rfl rfl 5 (by decide) (hts (.fieldLink RX2 20 "RingSeriesModel" "values" "[I") (by decide +kernel)) (fun _ h9 => h9) rfl dX2_figure_20 ?_
    refine lv_iload hx hb dX2_figure_23 (lv_at hl 0 rfl) ?_
    refine ald_i (j := (fs q k j)) hx hb hK hM 4 0 rfl rfl (by omega) (by omega) dX2_figure_25 ?_
    refine lv_istore (lv' := [(5, .int (m_V q (fs q k j))), (4, .int (nI (fs q k j))), (0, .ref (b_o Y)), (1, .int (nI k)), (2, .int (nI j)), (3, .int (nI w))]) hx hb dX2_figure_26 hl (by decide) rfl (fun ls hl => ?_)
    refine lv_aload_n hx hb dX2_figure_28 rfl (lv_at hl 2 rfl) ?_
    refine va_get (D := D) (ci := 2) (v := .ref (b_v Y)) (C := RX2) (T := TX2) (N := 6) hx hb hts hi2 hown hK hM 0 rfl rfl 5 (by decide) (hts (.fieldLink RX2 20 "RingSeriesModel" "values" "[I") (by decide +kernel)) (fun _ h9 => h9) rfl dX2_figure_29 ?_
    refine lv_iload hx hb dX2_figure_32 (lv_at hl 1 rfl) ?_
    refine ald_i (j := (fs q k j)) hx hb hK hM 4 0 rfl rfl (by omega) (by omega) dX2_figure_34 ?_
    refine lv_istore (lv' := [(6, .int (m_V q (fs q k j))), (5, .int (m_V q (fs q k j))), (4, .int (nI (fs q k j))), (0, .ref (b_o Y)), (1, .int (nI k)), (2, .int (nI j)), (3, .int (nI w))]) hx hb dX2_figure_35 hl (by decide) rfl (fun ls hl => ?_)
    refine lv_iconst (v := 0) hx hb dX2_figure_37 (by decide) ?_
    refine lv_istore (lv' := [(7, .int 0), (6, .int (m_V q (fs q k j))), (5, .int (m_V q (fs q k j))), (4, .int (nI (fs q k j))), (0, .ref (b_o Y)), (1, .int (nI k)), (2, .int (nI j)), (3, .int (nI w))]) hx hb dX2_figure_38 hl (by decide) rfl (fun ls hl => ?_)
    refine lv_iconst (v := 0) hx hb dX2_figure_40 (by decide) ?_
    refine lv_istore (lv' := [(8, .int 0), (7, .int 0), (6, .int (m_V q (fs q k j))), (5, .int (m_V q (fs q k j))), (4, .int (nI (fs q k j))), (0, .ref (b_o Y)), (1, .int (nI k)), (2, .int (nI j)), (3, .int (nI w))]) hx hb dX2_figure_41 hl (by decide) rfl (fun ls hl => ?_)
    refine lv_iload hx hb dX2_figure_43 (lv_at hl 4 rfl) ?_
    refine lv_istore (lv' := [(9, .int (nI (fs q k j))), (8, .int 0), (7, .int 0), (6, .int (m_V q (fs q k j))), (5, .int (m_V q (fs q k j))), (4, .int (nI (fs q k j))), (0, .ref (b_o Y)), (1, .int (nI k)), (2, .int (nI j)), (3, .int (nI w))]) hx hb dX2_figure_45 hl (by decide) rfl (fun ls hl => ?_)
    exact loop (m_P q - fs q k j) (fs q k j) 0 0 _ _ ls (by omega) (by omega) rfl (lv_sub hl [0, 1, 2, 3, 4, 5, 6, 7, 8, 9] rfl)
  · exact absurd c_6 (by decide)
set_option maxHeartbeats 4000000 in
set_option maxRecDepth 100000 in
/-- figure(level, i, what) -/
theorem c_X2_figure_m (l : Launch) {D : va_G} {cI cA cJ : ClassId} {H : Heap} (Y : mA) (q : mv) (hm : m_ok q) (hM : va_P D vwCl (mW cI cJ Y q) H) (k j : Nat) (hq : k < 3) (hj : j < kp q k) (w : Int32) (hw : ¬ ix 4 w) : Met l yX2_figure wsX2_figure ({ frames := 4, cells := 0, slots := 0, locals := 93 }) (ro_P D vwCl (tyL cI cA cJ) H [.ref (b_o Y), .int (nI k), .int (nI j), .int w]) (ro_Q (.int 0) H) 0 0 ro_no := by
  refine Met.ofW (cc := cX2_figure) (maxL := 10) (ret := (some .int)) (by decide) rfl ?_
  intro p e s m args below meth c s₁ B hml hv
  obtain ⟨rfl, hh, hK⟩ := hv
  subst hh
  have hx := B.exec
  have hb := B.bytes
  have hr := B.returns
  have hlocks := B.notSynchronized
  have hts := atoms_spec (ws := wsX2_figure) B.pre
  have hown : s.vm.findClass RX2 = some m.cls := findClass_of_methodNamed B.named
  have hi2 : ∀ w ∈ wsX20, w ∈ wsX2_figure := fun w h => List.mem_cons_of_mem _ (List.mem_append_right _ h)
  have hl := lv_entry ([.ref (b_o Y), .int (nI k), .int (nI j), .int w]) (n := 10) (Nat.le_of_ble_eq_true rfl)
  rw [lg_entry_eq]
  generalize (lg_sl ([.ref (b_o Y), .int (nI k), .int (nI j), .int w]) ++ List.replicate (10 - (lg_sl ([.ref (b_o Y), .int (nI k), .int (nI j), .int w])).length) Slot.unset).toArray = ls at hl ⊢
  have hl : lv_has ls 10 [(0, .ref (b_o Y)), (1, .int (nI k)), (2, .int (nI j)), (3, .int w)] := hl
  obtain ⟨hp, hT, hRW, hkn⟩ := id hm
  obtain ⟨w1, w2, w3, w4⟩ := hRW k (by omega)
  have w5 := hkn k (by omega)
  have w6 := ng_le q k (m_P q)
  have f1 := fs_lt w5 hj
  have loop : ∀ (n : Nat) (y d0 : Nat) (su mo le : Int32) (ls : Array Slot), y + n = m_P q → d0 + fs q k j = y → fgr q k (fs q k j) n y le mo su d0 = fg q k j → lv_has ls 10 [(9, .int (nI y)), (8, .int (nI d0)), (7, .int su), (6, .int mo), (5, .int le), (4, .int (nI (fs q k j))), (0, .ref (b_o Y)), (1, .int (nI k)), (2, .int (nI j)), (3, .int w)] → W p l e (headSpec wsX2_figure ({ frames := 4, cells := 0, slots := 0, locals := 93 })).room s m ([.ref (b_o Y), .int (nI k), .int (nI j), .int w] : List Value).toArray below meth c s.heap [] 0 0 (MQ below (ro_Q (.int 0) s.heap) ([.ref (b_o Y), .int (nI k), .int (nI j), .int w] : List Value).toArray s 0 0 ro_no) (F0 m 47 ls []) := by
    intro n
    induction n with
    | zero =>
      intro y d0 su mo le ls hi hd hf hl
      refine lv_iload hx hb dX2_figure_47 (lv_at hl 0 rfl) ?_
      refine lv_aload_n hx hb dX2_figure_49 rfl (lv_at hl 6 rfl) ?_
      refine va_get (D := D) (ci := 2) (v := .int (nI (m_P q))) (C := RX2) (T := TX2) (N := 6) hx hb hts hi2 hown hK hM 0 rfl rfl 3 (by decide) (hts (.fieldLink RX2 32 "RingSeriesModel" "points" "I") (by decide +kernel)) (fun _ h9 => h9) rfl dX2_figure_50 ?_
      refine lv_icmp_ge (tgt := 141) hx hb dX2_figure_53 (by decide) (fun c_53 => ?_) (fun c_53 => ?_)
      · have c_53 := (nI_leI (a := m_P q) (b := y) (by omega) (by omega)).mp c_53
        refine lv_iload_n hx hb dX2_figure_141 rfl (lv_at hl 9 rfl) ?_
        refine lv_if_ne (tgt := 150) hx hb dX2_figure_142 (by decide) (fun c_142 => ?_) (fun c_142 => ?_)
        · refine lv_iload_n hx hb dX2_figure_150 rfl (lv_at hl 9 rfl) ?_
          refine lv_iconst (v := 1) hx hb dX2_figure_151 (by decide) ?_
          refine lv_icmp_ne (tgt := 160) hx hb dX2_figure_152 (by decide) (fun c_152 => ?_) (fun c_152 => ?_)
          · refine lv_iload_n hx hb dX2_figure_160 rfl (lv_at hl 9 rfl) ?_
            refine lv_iconst (v := 2) hx hb dX2_figure_161 (by decide) ?_
            refine lv_icmp_ne (tgt := 170) hx hb dX2_figure_162 (by decide) (fun c_162 => ?_) (fun c_162 => ?_)
            · refine lv_iload_n hx hb dX2_figure_170 rfl (lv_at hl 9 rfl) ?_
              refine lv_iconst (v := 3) hx hb dX2_figure_171 (by decide) ?_
              refine lv_icmp_ne (tgt := 180) hx hb dX2_figure_172 (by decide) (fun c_172 => ?_) (fun c_172 => ?_)
              · refine lv_iconst (v := 0) hx hb dX2_figure_180 (by decide) ?_
                exact ro_iret hx hb hr rfl dX2_figure_181 hlocks
              · exact absurd (by rw [c_172]; exact ix_nI (j := 3) (by decide) (by decide)) hw
            · exact absurd (by rw [c_162]; exact ix_nI (j := 2) (by decide) (by decide)) hw
          · exact absurd (by rw [c_152]; exact ix_nI (j := 1) (by decide) (by decide)) hw
        · exact absurd (by rw [c_142]; exact ix_nI (j := 0) (by decide) (by decide)) hw
      · have c_53 := mt (nI_leI (a := m_P q) (b := y) (by omega) (by omega)).mpr c_53
        exact absurd c_53 (by omega)
    | succ n ih =>
      intro y d0 su mo le ls hi hd hf hl
      refine lv_iload hx hb dX2_figure_47 (lv_at hl 0 rfl) ?_
      refine lv_aload_n hx hb dX2_figure_49 rfl (lv_at hl 6 rfl) ?_
      refine va_get (D := D) (ci := 2) (v := .int (nI (m_P q))) (C := RX2) (T := TX2) (N := 6) hx hb hts hi2 hown hK hM 0 rfl rfl 3 (by decide) (hts (.fieldLink RX2 32 "RingSeriesModel" "points" "I") (by decide +kernel)) (fun _ h9 => h9) rfl dX2_figure_50 ?_
      refine lv_icmp_ge (tgt := 141) hx hb dX2_figure_53 (by decide) (fun c_53 => ?_) (fun c_53 => ?_)
      · have c_53 := (nI_leI (a := m_P q) (b := y) (by omega) (by omega)).mp c_53
        exact absurd c_53 (by omega)
      · have c_53 := mt (nI_leI (a := m_P q) (b := y) (by omega) (by omega)).mpr c_53
        refine lv_aload_n hx hb dX2_figure_56 rfl (lv_at hl 6 rfl) ?_
        refine lv_iload_n hx hb dX2_figure_57 rfl (lv_at hl 7 rfl) ?_
        refine lv_iload hx hb dX2_figure_58 (lv_at hl 5 rfl) ?_
        refine lv_iload hx hb dX2_figure_60 (lv_at hl 0 rfl) ?_
        refine ro_call (va_runV (As := [.int (nI k), .int (nI (fs q k j)), .int (nI y)]) (rest := []) ⟨hx, hb, hml, hown, hts⟩ (c_X2_isSame l Y q hm hM k (fs q k j) y (by omega) (by omega) (by omega)) (cwV 3 hts gX2_figure_X2_isSame rfl rfl rfl (by decide +kernel) ⟨Nat.le_of_ble_eq_true rfl, Nat.le_of_ble_eq_true rfl⟩) (ro_preV hK (va_recv hK hM (ci := 2) (q0 := 0) rfl rfl)) rfl rfl hl.1 rfl (lv_room (Nat.le_of_ble_eq_true rfl)) dX2_figure_62 ⟨Nat.zero_le _, Nat.zero_le _⟩) ?_
        refine lv_if_eq (tgt := 141) hx hb dX2_figure_65 (by decide) (fun c_65 => ?_) (fun c_65 => ?_)
        · have c_65 := bi_eq c_65
          refine lv_iload_n hx hb dX2_figure_141 rfl (lv_at hl 9 rfl) ?_
          refine lv_if_ne (tgt := 150) hx hb dX2_figure_142 (by decide) (fun c_142 => ?_) (fun c_142 => ?_)
          · refine lv_iload_n hx hb dX2_figure_150 rfl (lv_at hl 9 rfl) ?_
            refine lv_iconst (v := 1) hx hb dX2_figure_151 (by decide) ?_
            refine lv_icmp_ne (tgt := 160) hx hb dX2_figure_152 (by decide) (fun c_152 => ?_) (fun c_152 => ?_)
            · refine lv_iload_n hx hb dX2_figure_160 rfl (lv_at hl 9 rfl) ?_
              refine lv_iconst (v := 2) hx hb dX2_figure_161 (by decide) ?_
              refine lv_icmp_ne (tgt := 170) hx hb dX2_figure_162 (by decide) (fun c_162 => ?_) (fun c_162 => ?_)
              · refine lv_iload_n hx hb dX2_figure_170 rfl (lv_at hl 9 rfl) ?_
                refine lv_iconst (v := 3) hx hb dX2_figure_171 (by decide) ?_
                refine lv_icmp_ne (tgt := 180) hx hb dX2_figure_172 (by decide) (fun c_172 => ?_) (fun c_172 => ?_)
                · refine lv_iconst (v := 0) hx hb dX2_figure_180 (by decide) ?_
                  exact ro_iret hx hb hr rfl dX2_figure_181 hlocks
                · exact absurd (by rw [c_172]; exact ix_nI (j := 3) (by decide) (by decide)) hw
              · exact absurd (by rw [c_162]; exact ix_nI (j := 2) (by decide) (by decide)) hw
            · exact absurd (by rw [c_152]; exact ix_nI (j := 1) (by decide) (by decide)) hw
          · exact absurd (by rw [c_142]; exact ix_nI (j := 0) (by decide) (by decide)) hw
        · have c_65 := bi_ne c_65
          refine lv_aload_n hx hb dX2_figure_68 rfl (lv_at hl 6 rfl) ?_
          refine va_get (D := D) (ci := 2) (v := .ref (b_v Y)) (C := RX2) (T := TX2) (N := 6) hx hb hts hi2 hown hK hM 0 rfl rfl 5 (by decide) (hts (.fieldLink RX2 20 "RingSeriesModel" "values" "[I") (by decide +kernel)) (fun _ h9 => h9) rfl dX2_figure_69 ?_
          refine lv_iload hx hb dX2_figure_72 (lv_at hl 0 rfl) ?_
          refine ald_i (j := y) hx hb hK hM 4 0 rfl rfl (by omega) (by omega) dX2_figure_74 ?_
          refine lv_iload hx hb dX2_figure_75 (lv_at hl 4 rfl) ?_
          refine lv_icmp_ge (tgt := 90) hx hb dX2_figure_77 (by decide) (fun c_77 => ?_) (fun c_77 => ?_)
          · refine lv_iload hx hb dX2_figure_90 (lv_at hl 4 rfl) ?_
            refine lv_istore (lv' := [(5, .int le), (9, .int (nI y)), (8, .int (nI d0)), (7, .int su), (6, .int mo), (4, .int (nI (fs q k j))), (0, .ref (b_o Y)), (1, .int (nI k)), (2, .int (nI j)), (3, .int w)]) hx hb dX2_figure_92 hl (by decide) rfl (fun ls hl => ?_)
            refine lv_aload_n hx hb dX2_figure_94 rfl (lv_at hl 6 rfl) ?_
            refine va_get (D := D) (ci := 2) (v := .ref (b_v Y)) (C := RX2) (T := TX2) (N := 6) hx hb hts hi2 hown hK hM 0 rfl rfl 5 (by decide) (hts (.fieldLink RX2 20 "RingSeriesModel" "values" "[I") (by decide +kernel)) (fun _ h9 => h9) rfl dX2_figure_95 ?_
            refine lv_iload hx hb dX2_figure_98 (lv_at hl 1 rfl) ?_
            refine ald_i (j := y) hx hb hK hM 4 0 rfl rfl (by omega) (by omega) dX2_figure_100 ?_
            refine lv_iload hx hb dX2_figure_101 (lv_at hl 4 rfl) ?_
            refine lv_icmp_le (tgt := 116) hx hb dX2_figure_103 (by decide) (fun c_103 => ?_) (fun c_103 => ?_)
            · refine lv_iload hx hb dX2_figure_116 (lv_at hl 4 rfl) ?_
              refine lv_istore (lv' := [(6, .int mo), (5, .int le), (9, .int (nI y)), (8, .int (nI d0)), (7, .int su), (4, .int (nI (fs q k j))), (0, .ref (b_o Y)), (1, .int (nI k)), (2, .int (nI j)), (3, .int w)]) hx hb dX2_figure_118 hl (by decide) rfl (fun ls hl => ?_)
              refine lv_iload hx hb dX2_figure_120 (lv_at hl 4 rfl) ?_
              refine lv_aload_n hx hb dX2_figure_122 rfl (lv_at hl 6 rfl) ?_
              refine va_get (D := D) (ci := 2) (v := .ref (b_v Y)) (C := RX2) (T := TX2) (N := 6) hx hb hts hi2 hown hK hM 0 rfl rfl 5 (by decide) (hts (.fieldLink RX2 20 "RingSeriesModel" "values" "[I") (by decide +kernel)) (fun _ h9 => h9) rfl dX2_figure_123 ?_
              refine lv_iload hx hb dX2_figure_126 (lv_at hl 2 rfl) ?_
              refine ald_i (j := y) hx hb hK hM 4 0 rfl rfl (by omega) (by omega) dX2_figure_128 ?_
              refine lv_iadd hx hb dX2_figure_129 ?_
              refine lv_istore (lv' := [(7, .int (su + (m_V q y))), (6, .int mo), (5, .int le), (9, .int (nI y)), (8, .int (nI d0)), (4, .int (nI (fs q k j))), (0, .ref (b_o Y)), (1, .int (nI k)), (2, .int (nI j)), (3, .int w)]) hx hb dX2_figure_130 hl (by decide) rfl (fun ls hl => ?_)
              refine lv_iinc (v := nI (d0 + 1)) (lv' := [(8, .int (nI (d0 + 1))), (7, .int (su + (m_V q y))), (6, .int mo), (5, .int le), (9, .int (nI y)), (4, .int (nI (fs q k j))), (0, .ref (b_o Y)), (1, .int (nI k)), (2, .int (nI j)), (3, .int w)]) hx hb dX2_figure_132 hl (k := 4) rfl (inc1 _) (by decide) rfl (fun ls hl => ?_)
              refine lv_iinc (v := nI (y + 1)) (lv' := [(9, .int (nI (y + 1))), (8, .int (nI (d0 + 1))), (7, .int (su + (m_V q y))), (6, .int mo), (5, .int le), (4, .int (nI (fs q k j))), (0, .ref (b_o Y)), (1, .int (nI k)), (2, .int (nI j)), (3, .int w)]) hx hb dX2_figure_135 hl (k := 4) rfl (inc1 _) (by decide) rfl (fun ls hl => ?_)
              refine lv_goto (tgt := 47) hx hb dX2_figure_138 (by decide) ?_
              exact ih (y + 1) (d0 + 1) _ _ _ ls (by omega) (by omega) (by rw [← hf, fgr, if_pos c_65, if_neg (Int32.not_lt.mpr c_77), if_neg (Int32.not_lt.mpr c_103)]) (lv_sub hl [0, 1, 2, 3, 4, 5, 6, 7, 8, 9] rfl)
            · refine lv_aload_n hx hb dX2_figure_106 rfl (lv_at hl 6 rfl) ?_
              refine va_get (D := D) (ci := 2) (v := .ref (b_v Y)) (C := RX2) (T := TX2) (N := 6) hx hb hts hi2 hown hK hM 0 rfl rfl 5 (by decide) (hts (.fieldLink RX2 20 "RingSeriesModel" "values" "[I") (by decide +kernel)) (fun _ h9 => h9) rfl dX2_figure_107 ?_
              refine lv_iload hx hb dX2_figure_110 (lv_at hl 1 rfl) ?_
              refine ald_i (j := y) hx hb hK hM 4 0 rfl rfl (by omega) (by omega) dX2_figure_112 ?_
              refine lv_goto (tgt := 118) hx hb dX2_figure_113 (by decide) ?_
              refine lv_istore (lv' := [(6, .int (m_V q y)), (5, .int le), (9, .int (nI y)), (8, .int (nI d0)), (7, .int su), (4, .int (nI (fs q k j))), (0, .ref (b_o Y)), (1, .int (nI k)), (2, .int (nI j)), (3, .int w)]) hx hb dX2_figure_118 hl (by decide) rfl (fun ls hl => ?_)
              refine lv_iload hx hb dX2_figure_120 (lv_at hl 4 rfl) ?_
              refine lv_aload_n hx hb dX2_figure_122 rfl (lv_at hl 6 rfl) ?_
              refine va_get (D := D) (ci := 2) (v := .ref (b_v Y)) (C := RX2) (T := TX2) (N := 6) hx hb hts hi2 hown hK hM 0 rfl rfl 5 (by decide) (hts (.fieldLink RX2 20 "RingSeriesModel" "values" "[I") (by decide +kernel)) (fun _ h9 => h9) rfl dX2_figure_123 ?_
              refine lv_iload hx hb dX2_figure_126 (lv_at hl 2 rfl) ?_
              refine ald_i (j := y) hx hb hK hM 4 0 rfl rfl (by omega) (by omega) dX2_figure_128 ?_
              refine lv_iadd hx hb dX2_figure_129 ?_
              refine lv_istore (lv' := [(7, .int (su + (m_V q y))), (6, .int (m_V q y)), (5, .int le), (9, .int (nI y)), (8, .int (nI d0)), (4, .int (nI (fs q k j))), (0, .ref (b_o Y)), (1, .int (nI k)), (2, .int (nI j)), (3, .int w)]) hx hb dX2_figure_130 hl (by decide) rfl (fun ls hl => ?_)
              refine lv_iinc (v := nI (d0 + 1)) (lv' := [(8, .int (nI (d0 + 1))), (7, .int (su + (m_V q y))), (6, .int (m_V q y)), (5, .int le), (9, .int (nI y)), (4, .int (nI (fs q k j))), (0, .ref (b_o Y)), (1, .int (nI k)), (2, .int (nI j)), (3, .int w)]) hx hb dX2_figure_132 hl (k := 4) rfl (inc1 _) (by decide) rfl (fun ls hl => ?_)
              refine lv_iinc (v := nI (y + 1)) (lv' := [(9, .int (nI (y + 1))), (8, .int (nI (d0 + 1))), (7, .int (su + (m_V q y))), (6, .int (m_V q y)), (5, .int le), (4, .int (nI (fs q k j))), (0, .ref (b_o Y)), (1, .int (nI k)), (2, .int (nI j)), (3, .int w)]) hx hb dX2_figure_135 hl (k := 4) rfl (inc1 _) (by decide) rfl (fun ls hl => ?_)
              refine lv_goto (tgt := 47) hx hb dX2_figure_138 (by decide) ?_
              exact ih (y + 1) (d0 + 1) _ _ _ ls (by omega) (by omega) (by rw [← hf, fgr, if_pos c_65, if_neg (Int32.not_lt.mpr c_77), if_pos (Int32.not_le.mp c_103)]) (lv_sub hl [0, 1, 2, 3, 4, 5, 6, 7, 8, 9] rfl)
          · refine lv_aload_n hx hb dX2_figure_80 rfl (lv_at hl 6 rfl) ?_
            refine va_get (D := D) (ci := 2) (v := .ref (b_v Y)) (C := RX2) (T := TX2) (N := 6) hx hb hts hi2 hown hK hM 0 rfl rfl 5 (by decide) (hts (.fieldLink RX2 20 "RingSeriesModel" "values" "[I") (by decide +kernel)) (fun _ h9 => h9) rfl dX2_figure_81 ?_
            refine lv_iload hx hb dX2_figure_84 (lv_at hl 0 rfl) ?_
            refine ald_i (j := y) hx hb hK hM 4 0 rfl rfl (by omega) (by omega) dX2_figure_86 ?_
            refine lv_goto (tgt := 92) hx hb dX2_figure_87 (by decide) ?_
            refine lv_istore (lv' := [(5, .int (m_V q y)), (9, .int (nI y)), (8, .int (nI d0)), (7, .int su), (6, .int mo), (4, .int (nI (fs q k j))), (0, .ref (b_o Y)), (1, .int (nI k)), (2, .int (nI j)), (3, .int w)]) hx hb dX2_figure_92 hl (by decide) rfl (fun ls hl => ?_)
            refine lv_aload_n hx hb dX2_figure_94 rfl (lv_at hl 6 rfl) ?_
            refine va_get (D := D) (ci := 2) (v := .ref (b_v Y)) (C := RX2) (T := TX2) (N := 6) hx hb hts hi2 hown hK hM 0 rfl rfl 5 (by decide) (hts (.fieldLink RX2 20 "RingSeriesModel" "values" "[I") (by decide +kernel)) (fun _ h9 => h9) rfl dX2_figure_95 ?_
            refine lv_iload hx hb dX2_figure_98 (lv_at hl 1 rfl) ?_
            refine ald_i (j := y) hx hb hK hM 4 0 rfl rfl (by omega) (by omega) dX2_figure_100 ?_
            refine lv_iload hx hb dX2_figure_101 (lv_at hl 4 rfl) ?_
            refine lv_icmp_le (tgt := 116) hx hb dX2_figure_103 (by decide) (fun c_103 => ?_) (fun c_103 => ?_)
            · refine lv_iload hx hb dX2_figure_116 (lv_at hl 4 rfl) ?_
              refine lv_istore (lv' := [(6, .int mo), (5, .int (m_V q y)), (9, .int (nI y)), (8, .int (nI d0)), (7, .int su), (4, .int (nI (fs q k j))), (0, .ref (b_o Y)), (1, .int (nI k)), (2, .int (nI j)), (3, .int w)]) hx hb dX2_figure_118 hl (by decide) rfl (fun ls hl => ?_)
              refine lv_iload hx hb dX2_figure_120 (lv_at hl 4 rfl) ?_
              refine lv_aload_n hx hb dX2_figure_122 rfl (lv_at hl 6 rfl) ?_
              refine va_get (D := D) (ci := 2) (v := .ref (b_v Y)) (C := RX2) (T := TX2) (N := 6) hx hb hts hi2 hown hK hM 0 rfl rfl 5 (by decide) (hts (.fieldLink RX2 20 "RingSeriesModel" "values" "[I") (by decide +kernel)) (fun _ h9 => h9) rfl dX2_figure_123 ?_
              refine lv_iload hx hb dX2_figure_126 (lv_at hl 2 rfl) ?_
              refine ald_i (j := y) hx hb hK hM 4 0 rfl rfl (by omega) (by omega) dX2_figure_128 ?_
              refine lv_iadd hx hb dX2_figure_129 ?_
              refine lv_istore (lv' := [(7, .int (su + (m_V q y))), (6, .int mo), (5, .int (m_V q y)), (9, .int (nI y)), (8, .int (nI d0)), (4, .int (nI (fs q k j))), (0, .ref (b_o Y)), (1, .int (nI k)), (2, .int (nI j)), (3, .int w)]) hx hb dX2_figure_130 hl (by decide) rfl (fun ls hl => ?_)
              refine lv_iinc (v := nI (d0 + 1)) (lv' := [(8, .int (nI (d0 + 1))), (7, .int (su + (m_V q y))), (6, .int mo), (5, .int (m_V q y)), (9, .int (nI y)), (4, .int (nI (fs q k j))), (0, .ref (b_o Y)), (1, .int (nI k)), (2, .int (nI j)), (3, .int w)]) hx hb dX2_figure_132 hl (k := 4) rfl (inc1 _) (by decide) rfl (fun ls hl => ?_)
              refine lv_iinc (v := nI (y + 1)) (lv' := [(9, .int (nI (y + 1))), (8, .int (nI (d0 + 1))), (7, .int (su + (m_V q y))), (6, .int mo), (5, .int (m_V q y)), (4, .int (nI (fs q k j))), (0, .ref (b_o Y)), (1, .int (nI k)), (2, .int (nI j)), (3, .int w)]) hx hb dX2_figure_135 hl (k := 4) rfl (inc1 _) (by decide) rfl (fun ls hl => ?_)
              refine lv_goto (tgt := 47) hx hb dX2_figure_138 (by decide) ?_
              exact ih (y + 1) (d0 + 1) _ _ _ ls (by omega) (by omega) (by rw [← hf, fgr, if_pos c_65, if_pos (Int32.not_le.mp c_77), if_neg (Int32.not_lt.mpr c_103)]) (lv_sub hl [0, 1, 2, 3, 4, 5, 6, 7, 8, 9] rfl)
            · refine lv_aload_n hx hb dX2_figure_106 rfl (lv_at hl 6 rfl) ?_
              refine va_get (D := D) (ci := 2) (v := .ref (b_v Y)) (C := RX2) (T := TX2) (N := 6) hx hb hts hi2 hown hK hM 0 rfl rfl 5 (by decide) (hts (.fieldLink RX2 20 "RingSeriesModel" "values" "[I") (by decide +kernel)) (fun _ h9 => h9) rfl dX2_figure_107 ?_
              refine lv_iload hx hb dX2_figure_110 (lv_at hl 1 rfl) ?_
              refine ald_i (j := y) hx hb hK hM 4 0 rfl rfl (by omega) (by omega) dX2_figure_112 ?_
              refine lv_goto (tgt := 118) hx hb dX2_figure_113 (by decide) ?_
              refine lv_istore (lv' := [(6, .int (m_V q y)), (5, .int (m_V q y)), (9, .int (nI y)), (8, .int (nI d0)), (7, .int su), (4, .int (nI (fs q k j))), (0, .ref (b_o Y)), (1, .int (nI k)), (2, .int (nI j)), (3, .int w)]) hx hb dX2_figure_118 hl (by decide) rfl (fun ls hl => ?_)
              refine lv_iload hx hb dX2_figure_120 (lv_at hl 4 rfl) ?_
              refine lv_aload_n hx hb dX2_figure_122 rfl (lv_at hl 6 rfl) ?_
              refine va_get (D := D) (ci := 2) (v := .ref (b_v Y)) (C := RX2) (T := TX2) (N := 6) hx hb hts hi2 hown hK hM 0 rfl rfl 5 (by decide) (hts (.fieldLink RX2 20 "RingSeriesModel" "values" "[I") (by decide +kernel)) (fun _ h9 => h9) rfl dX2_figure_123 ?_
              refine lv_iload hx hb dX2_figure_126 (lv_at hl 2 rfl) ?_
              refine ald_i (j := y) hx hb hK hM 4 0 rfl rfl (by omega) (by omega) dX2_figure_128 ?_
              refine lv_iadd hx hb dX2_figure_129 ?_
              refine lv_istore (lv' := [(7, .int (su + (m_V q y))), (6, .int (m_V q y)), (5, .int (m_V q y)), (9, .int (nI y)), (8, .int (nI d0)), (4, .int (nI (fs q k j))), (0, .ref (b_o Y)), (1, .int (nI k)), (2, .int (nI j)), (3, .int w)]) hx hb dX2_figure_130 hl (by decide) rfl (fun ls hl => ?_)
              refine lv_iinc (v := nI (d0 + 1)) (lv' := [(8, .int (nI (d0 + 1))), (7, .int (su + (m_V q y))), (6, .int (m_V q y)), (5, .int (m_V q y)), (9, .int (nI y)), (4, .int (nI (fs q k j))), (0, .ref (b_o Y)), (1, .int (nI k)), (2, .int (nI j)), (3, .int w)]) hx hb dX2_figure_132 hl (k := 4) rfl (inc1 _) (by decide) rfl (fun ls hl => ?_)
              refine lv_iinc (v := nI (y + 1)) (lv' := [(9, .int (nI (y + 1))), (8, .int (nI (d0 + 1))), (7, .int (su + (m_V q y))), (6, .int (m_V q y)), (5, .int (m_V q y)), (4, .int (nI (fs q k j))), (0, .ref (b_o Y)), (1, .int (nI k)), (2, .int (nI j)), (3, .int w)]) hx hb dX2_figure_135 hl (k := 4) rfl (inc1 _) (by decide) rfl (fun ls hl => ?_)
              refine lv_goto (tgt := 47) hx hb dX2_figure_138 (by decide) ?_
              exact ih (y + 1) (d0 + 1) _ _ _ ls (by omega) (by omega) (by rw [← hf, fgr, if_pos c_65, if_pos (Int32.not_le.mp c_77), if_pos (Int32.not_le.mp c_103)]) (lv_sub hl [0, 1, 2, 3, 4, 5, 6, 7, 8, 9] rfl)
  refine lv_aload_n hx hb dX2_figure_0 rfl (lv_at hl 0 rfl) ?_
  refine lv_iload_n hx hb dX2_figure_1 rfl (lv_at hl 1 rfl) ?_
  refine lv_iload_n hx hb dX2_figure_2 rfl (lv_at hl 2 rfl) ?_
  refine ro_call (va_runV (As := [.int (nI k), .int (nI j)]) (rest := []) ⟨hx, hb, hml, hown, hts⟩ (c_X2_isEntry_t l Y q hm hM k j (by omega) (by omega)) (cwV 2 hts gX2_figure_X2_isEntry rfl rfl rfl (by decide +kernel) ⟨Nat.le_of_ble_eq_true rfl, Nat.le_of_ble_eq_true rfl⟩) (ro_preV hK (va_recv hK hM (ci := 2) (q0 := 0) rfl rfl)) rfl rfl hl.1 rfl (lv_room (Nat.le_of_ble_eq_true rfl)) dX2_figure_3 ⟨Nat.zero_le _, Nat.zero_le _⟩) ?_
  refine lv_if_ne (tgt := 11) hx hb dX2_figure_6 (by decide) (fun c_6 => ?_) (fun c_6 => ?_)
  · refine lv_aload_n hx hb dX2_figure_11 rfl (lv_at hl 0 rfl) ?_
    refine lv_iload_n hx hb dX2_figure_12 rfl (lv_at hl 1 rfl) ?_
    refine lv_iload_n hx hb dX2_figure_13 rfl (lv_at hl 2 rfl) ?_
    refine ro_call (va_runV (As := [.int (nI k), .int (nI j)]) (rest := []) ⟨hx, hb, hml, hown, hts⟩ (c_X2_first l Y q hm hM k j (by omega) (by omega)) (cwV 2 hts gX2_figure_X2_first rfl rfl rfl (by decide +kernel) ⟨Nat.le_of_ble_eq_true rfl, Nat.le_of_ble_eq_true rfl⟩) (ro_preV hK (va_recv hK hM (ci := 2) (q0 := 0) rfl rfl)) rfl rfl hl.1 rfl (lv_room (Nat.le_of_ble_eq_true rfl)) dX2_figure_14 ⟨Nat.zero_le _, Nat.zero_le _⟩) ?_
    refine lv_istore (lv' := [(4, .int (nI (fs q k j))), (0, .ref (b_o Y)), (1, .int (nI k)), (2, .int (nI j)), (3, .int w)]) hx hb dX2_figure_17 hl (by decide) rfl (fun ls hl => ?_)
    refine lv_aload_n hx hb dX2_figure_19 rfl (lv_at hl 1 rfl) ?_
    refine va_get (D := D) (ci := 2) (v := .ref (b_v Y)) (C := RX2) (T := TX2) (N := 6) hx hb hts hi2 hown hK hM 0 rfl rfl 5 (by decide) (hts (.fieldLink RX2 20 "RingSeriesModel" "values" "[I") (by decide +kernel)) (fun _ h9 => h9) rfl dX2_figure_20 ?_
    refine lv_iload hx hb dX2_figure_23 (lv_at hl 0 rfl) ?_
    refine ald_i (j := (fs q k j)) hx hb hK hM 4 0 rfl rfl (by omega) (by omega) dX2_figure_25 ?_
    refine lv_istore (lv' := [(5, .int (m_V q (fs q k j))), (4, .int (nI (fs q k j))), (0, .ref (b_o Y)), (1, .int (nI k)), (2, .int (nI j)), (3, .int w)]) hx hb dX2_figure_26 hl (by decide) rfl (fun ls hl => ?_)
    refine lv_aload_n hx hb dX2_figure_28 rfl (lv_at hl 2 rfl) ?_
    refine va_get (D := D) (ci := 2) (v := .ref (b_v Y)) (C := RX2) (T := TX2) (N := 6) hx hb hts hi2 hown hK hM 0 rfl rfl 5 (by decide) (hts (.fieldLink RX2 20 "RingSeriesModel" "values" "[I") (by decide +kernel)) (fun _ h9 => h9) rfl dX2_figure_29 ?_
    refine lv_iload hx hb dX2_figure_32 (lv_at hl 1 rfl) ?_
    refine ald_i (j := (fs q k j)) hx hb hK hM 4 0 rfl rfl (by omega) (by omega) dX2_figure_34 ?_
    refine lv_istore (lv' := [(6, .int (m_V q (fs q k j))), (5, .int (m_V q (fs q k j))), (4, .int (nI (fs q k j))), (0, .ref (b_o Y)), (1, .int (nI k)), (2, .int (nI j)), (3, .int w)]) hx hb dX2_figure_35 hl (by decide) rfl (fun ls hl => ?_)
    refine lv_iconst (v := 0) hx hb dX2_figure_37 (by decide) ?_
    refine lv_istore (lv' := [(7, .int 0), (6, .int (m_V q (fs q k j))), (5, .int (m_V q (fs q k j))), (4, .int (nI (fs q k j))), (0, .ref (b_o Y)), (1, .int (nI k)), (2, .int (nI j)), (3, .int w)]) hx hb dX2_figure_38 hl (by decide) rfl (fun ls hl => ?_)
    refine lv_iconst (v := 0) hx hb dX2_figure_40 (by decide) ?_
    refine lv_istore (lv' := [(8, .int 0), (7, .int 0), (6, .int (m_V q (fs q k j))), (5, .int (m_V q (fs q k j))), (4, .int (nI (fs q k j))), (0, .ref (b_o Y)), (1, .int (nI k)), (2, .int (nI j)), (3, .int w)]) hx hb dX2_figure_41 hl (by decide) rfl (fun ls hl => ?_)
    refine lv_iload hx hb dX2_figure_43 (lv_at hl 4 rfl) ?_
    refine lv_istore (lv' := [(9, .int (nI (fs q k j))), (8, .int 0), (7, .int 0), (6, .int (m_V q (fs q k j))), (5, .int (m_V q (fs q k j))), (4, .int (nI (fs q k j))), (0, .ref (b_o Y)), (1, .int (nI k)), (2, .int (nI j)), (3, .int w)]) hx hb dX2_figure_45 hl (by decide) rfl (fun ls hl => ?_)
    exact loop (m_P q - fs q k j) (fs q k j) 0 0 _ _ ls (by omega) (by omega) rfl (lv_sub hl [0, 1, 2, 3, 4, 5, 6, 7, 8, 9] rfl)
  · exact absurd c_6 (by decide)
