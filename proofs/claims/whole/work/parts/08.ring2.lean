theorem ffr_le (r : rgV) (t : Int64) : ∀ n i : Nat, i ≤ ffr r t n i ∧ ffr r t n i ≤ i + n
  | 0, i => ⟨Nat.le_refl _, Nat.le_refl _⟩
  | n + 1, i => by
    unfold ffr
    have h := ffr_le r t n (i + 1)
    split <;> omega
theorem ff_le {r : rgV} {t : Int64} {i : Nat} (hi : i ≤ v_h r) : ff r t i ≤ v_h r := by
  have h := ffr_le r t (v_h r - i) i
  unfold ff
  omega
theorem ff_ge {r : rgV} {t : Int64} {i : Nat} : i ≤ ff r t i := (ffr_le r t (v_h r - i) i).1
theorem c_X0_joined_any (l : Launch) {D : va_G} {cI cA cJ : ClassId} {H : Heap} {k : Nat} (h4 : k < 4) (x y : Int32) : Met l yX0_joined wsX0_joined ({ frames := 1, cells := 0, slots := 0, locals := 21 }) (ro_P D vwCl (tyL cI cA cJ) H [.int x, .int y, .int (nI k)]) (ro_Q (.int (jn k x y)) H) 0 0 ro_no := by
  rcases (show k = 0 ∨ k = 1 ∨ 2 ≤ k by omega) with rfl | rfl | h
  · exact c_X0_joined_0 l x y
  · exact c_X0_joined_1 l x y
  · exact c_X0_joined_2 l x y k h h4
set_option maxHeartbeats 4000000 in
set_option maxRecDepth 100000 in
/-- firstFrom(i, time) -/
theorem c_X0_firstFrom (l : Launch) {D : va_G} {cI cA cJ : ClassId} {H : Heap} (A : rgA) (r : rgV) (hk : r_ok r) (hR : va_P D vwCl (rgW cI cA A r) H) (i0 : Nat) (t : Int64) (hi0 : i0 ≤ v_h r) : Met l yX0_firstFrom wsX0_firstFrom ({ frames := 2, cells := 0, slots := 0, locals := 43 }) (ro_P D vwCl (tyL cI cA cJ) H [.ref (a_o A), .int (nI i0), .long t]) (ro_Q (.int (nI (ff r t i0))) H) 0 0 ro_no := by
  refine Met.ofW (cc := cX0_firstFrom) (maxL := 5) (ret := (some .int)) (by decide) rfl ?_
  intro p e s m args below meth c s₁ B hml hv
  obtain ⟨rfl, hh, hK⟩ := hv
  subst hh
  have hx := B.exec
  have hb := B.bytes
  have hr := B.returns
  have hlocks := B.notSynchronized
  have hts := atoms_spec (ws := wsX0_firstFrom) B.pre
  have hown : s.vm.findClass RX0 = some m.cls := findClass_of_methodNamed B.named
  have hi0 : ∀ w ∈ wsX00, w ∈ wsX0_firstFrom := fun w h => List.mem_cons_of_mem _ (List.mem_append_right _ h)
  have hl := lv_entry ([.ref (a_o A), .int (nI i0), .long t]) (n := 5) (Nat.le_of_ble_eq_true rfl)
  rw [lg_entry_eq]
  generalize (lg_sl ([.ref (a_o A), .int (nI i0), .long t]) ++ List.replicate (5 - (lg_sl ([.ref (a_o A), .int (nI i0), .long t])).length) Slot.unset).toArray = ls at hl ⊢
  have hl : lv_has ls 5 [(0, .ref (a_o A)), (1, .int (nI i0)), (2, .long t)] := hl
  obtain ⟨k1, k2, k3, k4, k5, k6⟩ := id hk
  have loop : ∀ (n : Nat) (i : Nat) (ls : Array Slot), i + n = v_h r → ffr r t n i = ff r t i0 → lv_has ls 5 [(4, .int (nI i)), (0, .ref (a_o A)), (1, .int (nI i0)), (2, .long t)] → W p l e (headSpec wsX0_firstFrom ({ frames := 2, cells := 0, slots := 0, locals := 43 })).room s m ([.ref (a_o A), .int (nI i0), .long t] : List Value).toArray below meth c s.heap [] 0 0 (MQ below (ro_Q (.int (nI (ff r t i0))) s.heap) ([.ref (a_o A), .int (nI i0), .long t] : List Value).toArray s 0 0 ro_no) (F0 m 3 ls []) := by
    intro n
    induction n with
    | zero =>
      intro i ls hi hf hl
      refine lv_iload hx hb dX0_firstFrom_3 (lv_at hl 0 rfl) ?_
      refine lv_aload_n hx hb dX0_firstFrom_5 rfl (lv_at hl 1 rfl) ?_
      refine va_get (D := D) (ci := 0) (v := .int (nI (v_h r))) (C := RX0) (T := TX0) (N := 7) hx hb hts hi0 hown hK hR 0 rfl rfl 5 (by decide) (hts (.fieldLink RX0 30 "RingSeries$Ring" "held" "I") (by decide +kernel)) (fun _ h9 => h9) rfl dX0_firstFrom_6 ?_
      refine lv_icmp_ge (tgt := 30) hx hb dX0_firstFrom_9 (by decide) (fun c_9 => ?_) (fun c_9 => ?_)
      · have c_9 := (nI_leI (a := v_h r) (b := i) (by omega) (by omega)).mp c_9
        refine lv_iload hx hb dX0_firstFrom_30 (lv_at hl 0 rfl) ?_
        exact ro_iret hx hb hr (by rw [← hf]; rfl) dX0_firstFrom_32 hlocks
      · have c_9 := mt (nI_leI (a := v_h r) (b := i) (by omega) (by omega)).mpr c_9
        exact absurd c_9 (by omega)
    | succ n ih =>
      intro i ls hi hf hl
      refine lv_iload hx hb dX0_firstFrom_3 (lv_at hl 0 rfl) ?_
      refine lv_aload_n hx hb dX0_firstFrom_5 rfl (lv_at hl 1 rfl) ?_
      refine va_get (D := D) (ci := 0) (v := .int (nI (v_h r))) (C := RX0) (T := TX0) (N := 7) hx hb hts hi0 hown hK hR 0 rfl rfl 5 (by decide) (hts (.fieldLink RX0 30 "RingSeries$Ring" "held" "I") (by decide +kernel)) (fun _ h9 => h9) rfl dX0_firstFrom_6 ?_
      refine lv_icmp_ge (tgt := 30) hx hb dX0_firstFrom_9 (by decide) (fun c_9 => ?_) (fun c_9 => ?_)
      · have c_9 := (nI_leI (a := v_h r) (b := i) (by omega) (by omega)).mp c_9
        exact absurd c_9 (by omega)
      · have c_9 := mt (nI_leI (a := v_h r) (b := i) (by omega) (by omega)).mpr c_9
        refine lv_aload_n hx hb dX0_firstFrom_12 rfl (lv_at hl 1 rfl) ?_
        refine lv_iload hx hb dX0_firstFrom_13 (lv_at hl 0 rfl) ?_
        refine ro_call (va_runV (As := [.int (nI i)]) (rest := []) ⟨hx, hb, hml, hown, hts⟩ (c_X0_startOf l A r hk hR i (by omega)) (cwV 1 hts gX0_firstFrom_X0_startOf rfl rfl rfl (by decide +kernel) ⟨Nat.le_of_ble_eq_true rfl, Nat.le_of_ble_eq_true rfl⟩) (ro_preV hK (va_recv hK hR (ci := 0) (q0 := 0) rfl rfl)) rfl rfl hl.1 rfl (lv_room (Nat.le_of_ble_eq_true rfl)) dX0_firstFrom_15 ⟨Nat.zero_le _, Nat.zero_le _⟩) ?_
        refine lv_i2l hx hb dX0_firstFrom_18 rfl ?_
        refine lv_lload_n hx hb dX0_firstFrom_19 rfl (lv_at hl 3 rfl) ?_
        refine W.lcmp hx hb dX0_firstFrom_20 ?_
        refine lv_if_ge (tgt := 30) hx hb dX0_firstFrom_21 (by decide) (fun c_21 => ?_) (fun c_21 => ?_)
        · have c_21 := (lg_cmp_ge _ _).mp c_21
          refine lv_iload hx hb dX0_firstFrom_30 (lv_at hl 0 rfl) ?_
          exact ro_iret hx hb hr (by rw [← hf, ffr, if_neg (by rw [Int64.not_lt]; exact c_21)]) dX0_firstFrom_32 hlocks
        · have c_21 := mt (lg_cmp_ge _ _).mpr c_21
          refine lv_iinc (v := nI (i + 1)) (lv' := [(4, .int (nI (i + 1))), (0, .ref (a_o A)), (1, .int (nI i0)), (2, .long t)]) hx hb dX0_firstFrom_24 hl (k := 0) rfl (inc1 _) (by decide) rfl (fun ls hl => ?_)
          refine lv_goto (tgt := 3) hx hb dX0_firstFrom_27 (by decide) ?_
          exact ih (i + 1) ls (by omega) (by rw [← hf, ffr, if_pos (by rw [← Int64.not_le]; exact c_21)]) (lv_sub hl [0, 1, 2, 3] rfl)
  refine lv_iload_n hx hb dX0_firstFrom_0 rfl (lv_at hl 1 rfl) ?_
  refine lv_istore (lv' := [(4, .int (nI i0)), (0, .ref (a_o A)), (1, .int (nI i0)), (2, .long t)]) hx hb dX0_firstFrom_1 hl (by decide) rfl (fun ls hl => ?_)
  exact loop (v_h r - i0) i0 ls (by omega) rfl (lv_sub hl [0, 1, 2, 3] rfl)
set_option maxHeartbeats 4000000 in
set_option maxRecDepth 100000 in
/-- together(first, end, what) -/
theorem c_X0_together (l : Launch) {D : va_G} {cI cA cJ : ClassId} {H : Heap} (A : rgA) (r : rgV) (hk : r_ok r) (hR : va_P D vwCl (rgW cI cA A r) H) (k a b : Nat) (hq : k < 4) (hb1 : b ≤ v_h r) (ha1 : a ≤ v_h r) : Met l yX0_together wsX0_together ({ frames := 2, cells := 0, slots := 0, locals := 44 }) (ro_P D vwCl (tyL cI cA cJ) H [.ref (a_o A), .int (nI a), .int (nI b), .int (nI k)]) (ro_Q (.int (tg r k a b)) H) 0 0 ro_no := by
  refine Met.ofW (cc := cX0_together) (maxL := 6) (ret := (some .int)) (by decide) rfl ?_
  intro p e s m args below meth c s₁ B hml hv
  obtain ⟨rfl, hh, hK⟩ := hv
  subst hh
  have hx := B.exec
  have hb := B.bytes
  have hr := B.returns
  have hlocks := B.notSynchronized
  have hts := atoms_spec (ws := wsX0_together) B.pre
  have hown : s.vm.findClass RX0 = some m.cls := findClass_of_methodNamed B.named
  have hi0 : ∀ w ∈ wsX00, w ∈ wsX0_together := fun w h => List.mem_cons_of_mem _ (List.mem_append_right _ h)
  have hl := lv_entry ([.ref (a_o A), .int (nI a), .int (nI b), .int (nI k)]) (n := 6) (Nat.le_of_ble_eq_true rfl)
  rw [lg_entry_eq]
  generalize (lg_sl ([.ref (a_o A), .int (nI a), .int (nI b), .int (nI k)]) ++ List.replicate (6 - (lg_sl ([.ref (a_o A), .int (nI a), .int (nI b), .int (nI k)])).length) Slot.unset).toArray = ls at hl ⊢
  have hl : lv_has ls 6 [(0, .ref (a_o A)), (1, .int (nI a)), (2, .int (nI b)), (3, .int (nI k))] := hl
  obtain ⟨k1, k2, k3, k4, k5, k6⟩ := id hk
  have loop : ∀ (n : Nat) (i : Nat) (x : Int32) (ls : Array Slot), (b ≤ i ∧ n = 0 ∨ i + n = b) ∧ i ≤ v_h r + 1 → tgr r k n i x = tg r k a b → lv_has ls 6 [(5, .int (nI i)), (4, .int x), (0, .ref (a_o A)), (1, .int (nI a)), (2, .int (nI b)), (3, .int (nI k))] → W p l e (headSpec wsX0_together ({ frames := 2, cells := 0, slots := 0, locals := 44 })).room s m ([.ref (a_o A), .int (nI a), .int (nI b), .int (nI k)] : List Value).toArray below meth c s.heap [] 0 0 (MQ below (ro_Q (.int (tg r k a b)) s.heap) ([.ref (a_o A), .int (nI a), .int (nI b), .int (nI k)] : List Value).toArray s 0 0 ro_no) (F0 m 22 ls []) := by
    intro n
    induction n with
    | zero =>
      intro i x ls hi hf hl
      refine lv_iload hx hb dX0_together_22 (lv_at hl 0 rfl) ?_
      refine lv_iload_n hx hb dX0_together_24 rfl (lv_at hl 4 rfl) ?_
      refine lv_icmp_ge (tgt := 49) hx hb dX0_together_25 (by decide) (fun c_25 => ?_) (fun c_25 => ?_)
      · have c_25 := (nI_leI (a := b) (b := i) (by omega) (by omega)).mp c_25
        refine lv_iload hx hb dX0_together_49 (lv_at hl 1 rfl) ?_
        exact ro_iret hx hb hr (by rw [← hf]; rfl) dX0_together_51 hlocks
      · have c_25 := mt (nI_leI (a := b) (b := i) (by omega) (by omega)).mpr c_25
        exact absurd c_25 (by omega)
    | succ n ih =>
      intro i x ls hi hf hl
      refine lv_iload hx hb dX0_together_22 (lv_at hl 0 rfl) ?_
      refine lv_iload_n hx hb dX0_together_24 rfl (lv_at hl 4 rfl) ?_
      refine lv_icmp_ge (tgt := 49) hx hb dX0_together_25 (by decide) (fun c_25 => ?_) (fun c_25 => ?_)
      · have c_25 := (nI_leI (a := b) (b := i) (by omega) (by omega)).mp c_25
        exact absurd c_25 (by omega)
      · have c_25 := mt (nI_leI (a := b) (b := i) (by omega) (by omega)).mpr c_25
        refine lv_iload hx hb dX0_together_28 (lv_at hl 1 rfl) ?_
        refine lv_aload_n hx hb dX0_together_30 rfl (lv_at hl 2 rfl) ?_
        refine lv_iload hx hb dX0_together_31 (lv_at hl 0 rfl) ?_
        refine lv_iload_n hx hb dX0_together_33 rfl (lv_at hl 5 rfl) ?_
        refine ro_call (va_runV (As := [.int (nI i), .int (nI k)]) (rest := [.int x]) ⟨hx, hb, hml, hown, hts⟩ (c_X0_figureOf l A r hk hR i k (by omega) (by omega)) (cwV 2 hts gX0_together_X0_figureOf rfl rfl rfl (by decide +kernel) ⟨Nat.le_of_ble_eq_true rfl, Nat.le_of_ble_eq_true rfl⟩) (ro_preV hK (va_recv hK hR (ci := 0) (q0 := 0) rfl rfl)) rfl rfl hl.1 rfl (lv_room (Nat.le_of_ble_eq_true rfl)) dX0_together_34 ⟨Nat.zero_le _, Nat.zero_le _⟩) ?_
        refine lv_iload_n hx hb dX0_together_37 rfl (lv_at hl 5 rfl) ?_
        refine ro_call (va_runS (As := [.int x, .int (v_G r k i), .int (nI k)]) (rest := []) ⟨hx, hb, hml, hown, hts⟩ (c_X0_joined_any l (by omega) x (v_G r k i)) (va_cwS 3 hts gX0_together_X0_joined rfl rfl rfl (by decide +kernel) ⟨Nat.le_of_ble_eq_true rfl, Nat.le_of_ble_eq_true rfl⟩) (ro_preS hK) rfl rfl hl.1 rfl (lv_room (Nat.le_of_ble_eq_true rfl)) dX0_together_38 ⟨Nat.zero_le _, Nat.zero_le _⟩) ?_
        refine lv_istore (lv' := [(4, .int (jn k x (v_G r k i))), (5, .int (nI i)), (0, .ref (a_o A)), (1, .int (nI a)), (2, .int (nI b)), (3, .int (nI k))]) hx hb dX0_together_41 hl (by decide) rfl (fun ls hl => ?_)
        refine lv_iinc (v := nI (i + 1)) (lv' := [(5, .int (nI (i + 1))), (4, .int (jn k x (v_G r k i))), (0, .ref (a_o A)), (1, .int (nI a)), (2, .int (nI b)), (3, .int (nI k))]) hx hb dX0_together_43 hl (k := 1) rfl (inc1 _) (by decide) rfl (fun ls hl => ?_)
        refine lv_goto (tgt := 22) hx hb dX0_together_46 (by decide) ?_
        exact ih (i + 1) _ ls (by omega) hf (lv_sub hl [0, 1, 2, 3, 4, 5] rfl)
  refine lv_iload_n hx hb dX0_together_0 rfl (lv_at hl 1 rfl) ?_
  refine lv_iload_n hx hb dX0_together_1 rfl (lv_at hl 2 rfl) ?_
  refine lv_icmp_ge (tgt := 14) hx hb dX0_together_2 (by decide) (fun c_2 => ?_) (fun c_2 => ?_)
  · have c_2 := (nI_leI (a := b) (b := a) (by omega) (by omega)).mp c_2
    refine lv_iconst (v := 0) hx hb dX0_together_14 (by decide) ?_
    refine lv_istore (lv' := [(4, .int 0), (0, .ref (a_o A)), (1, .int (nI a)), (2, .int (nI b)), (3, .int (nI k))]) hx hb dX0_together_15 hl (by decide) rfl (fun ls hl => ?_)
    refine lv_iload_n hx hb dX0_together_17 rfl (lv_at hl 2 rfl) ?_
    refine lv_iconst (v := 1) hx hb dX0_together_18 (by decide) ?_
    refine lv_iadd hx hb dX0_together_19 ?_
    refine top_i (nI_add _ 1) ?_
    refine lv_istore (lv' := [(5, .int (nI (a + 1))), (4, .int 0), (0, .ref (a_o A)), (1, .int (nI a)), (2, .int (nI b)), (3, .int (nI k))]) hx hb dX0_together_20 hl (by decide) rfl (fun ls hl => ?_)
    exact loop 0 (a + 1) 0 ls (by omega) (by unfold tg; rw [if_neg (by omega)]; rfl) (lv_sub hl [0, 1, 2, 3, 4, 5] rfl)
  · have c_2 := mt (nI_leI (a := b) (b := a) (by omega) (by omega)).mpr c_2
    refine lv_aload_n hx hb dX0_together_5 rfl (lv_at hl 0 rfl) ?_
    refine lv_iload_n hx hb dX0_together_6 rfl (lv_at hl 1 rfl) ?_
    refine lv_iload_n hx hb dX0_together_7 rfl (lv_at hl 3 rfl) ?_
    refine ro_call (va_runV (As := [.int (nI a), .int (nI k)]) (rest := []) ⟨hx, hb, hml, hown, hts⟩ (c_X0_figureOf l A r hk hR a k (by omega) (by omega)) (cwV 2 hts gX0_together_X0_figureOf rfl rfl rfl (by decide +kernel) ⟨Nat.le_of_ble_eq_true rfl, Nat.le_of_ble_eq_true rfl⟩) (ro_preV hK (va_recv hK hR (ci := 0) (q0 := 0) rfl rfl)) rfl rfl hl.1 rfl (lv_room (Nat.le_of_ble_eq_true rfl)) dX0_together_8 ⟨Nat.zero_le _, Nat.zero_le _⟩) ?_
    refine lv_goto (tgt := 15) hx hb dX0_together_11 (by decide) ?_
    refine lv_istore (lv' := [(4, .int (v_G r k a)), (0, .ref (a_o A)), (1, .int (nI a)), (2, .int (nI b)), (3, .int (nI k))]) hx hb dX0_together_15 hl (by decide) rfl (fun ls hl => ?_)
    refine lv_iload_n hx hb dX0_together_17 rfl (lv_at hl 2 rfl) ?_
    refine lv_iconst (v := 1) hx hb dX0_together_18 (by decide) ?_
    refine lv_iadd hx hb dX0_together_19 ?_
    refine top_i (nI_add _ 1) ?_
    refine lv_istore (lv' := [(5, .int (nI (a + 1))), (4, .int (v_G r k a)), (0, .ref (a_o A)), (1, .int (nI a)), (2, .int (nI b)), (3, .int (nI k))]) hx hb dX0_together_20 hl (by decide) rfl (fun ls hl => ?_)
    exact loop (b - (a + 1)) (a + 1) _ ls (by omega) (by unfold tg; rw [if_pos (by omega)]) (lv_sub hl [0, 1, 2, 3, 4, 5] rfl)
set_option maxHeartbeats 4000000 in
set_option maxRecDepth 100000 in
/-- manyWhollyIn(from, last) -/
theorem c_X0_manyWhollyIn (l : Launch) {D : va_G} {cI cA cJ : ClassId} {H : Heap} (A : rgA) (r : rgV) (hk : r_ok r) (hR : va_P D vwCl (rgW cI cA A r) H) (f t : Int64) : Met l yX0_manyWhollyIn wsX0_manyWhollyIn ({ frames := 3, cells := 0, slots := 0, locals := 64 }) (ro_P D vwCl (tyL cI cA cJ) H [.ref (a_o A), .long f, .long t]) (ro_Q (.long (mw r f t)) H) 0 0 ro_no := by
  refine Met.ofW (cc := cX0_manyWhollyIn) (maxL := 8) (ret := (some .long)) (by decide) rfl ?_
  intro p e s m args below meth c s₁ B hml hv
  obtain ⟨rfl, hh, hK⟩ := hv
  subst hh
  have hx := B.exec
  have hb := B.bytes
  have hr := B.returns
  have hlocks := B.notSynchronized
  have hts := atoms_spec (ws := wsX0_manyWhollyIn) B.pre
  have hown : s.vm.findClass RX0 = some m.cls := findClass_of_methodNamed B.named
  have hi0 : ∀ w ∈ wsX00, w ∈ wsX0_manyWhollyIn := fun w h => List.mem_cons_of_mem _ (List.mem_append_right _ h)
  have hl := lv_entry ([.ref (a_o A), .long f, .long t]) (n := 8) (Nat.le_of_ble_eq_true rfl)
  rw [lg_entry_eq]
  generalize (lg_sl ([.ref (a_o A), .long f, .long t]) ++ List.replicate (8 - (lg_sl ([.ref (a_o A), .long f, .long t])).length) Slot.unset).toArray = ls at hl ⊢
  have hl : lv_has ls 8 [(0, .ref (a_o A)), (1, .long f), (3, .long t)] := hl
  obtain ⟨k1, k2, k3, k4, k5, k6⟩ := id hk
  have loop : ∀ (n : Nat) (i : Nat) (x : Int64) (ls : Array Slot), i + n = v_h r → mwr r f t n i x = mw r f t → lv_has ls 8 [(7, .int (nI i)), (5, .long x), (0, .ref (a_o A)), (1, .long f), (3, .long t)] → W p l e (headSpec wsX0_manyWhollyIn ({ frames := 3, cells := 0, slots := 0, locals := 64 })).room s m ([.ref (a_o A), .long f, .long t] : List Value).toArray below meth c s.heap [] 0 0 (MQ below (ro_Q (.long (mw r f t)) s.heap) ([.ref (a_o A), .long f, .long t] : List Value).toArray s 0 0 ro_no) (F0 m 6 ls []) := by
    intro n
    induction n with
    | zero =>
      intro i x ls hi hf hl
      refine lv_iload hx hb dX0_manyWhollyIn_6 (lv_at hl 0 rfl) ?_
      refine lv_aload_n hx hb dX0_manyWhollyIn_8 rfl (lv_at hl 2 rfl) ?_
      refine va_get (D := D) (ci := 0) (v := .int (nI (v_h r))) (C := RX0) (T := TX0) (N := 7) hx hb hts hi0 hown hK hR 0 rfl rfl 5 (by decide) (hts (.fieldLink RX0 30 "RingSeries$Ring" "held" "I") (by decide +kernel)) (fun _ h9 => h9) rfl dX0_manyWhollyIn_9 ?_
      refine lv_icmp_ge (tgt := 59) hx hb dX0_manyWhollyIn_12 (by decide) (fun c_12 => ?_) (fun c_12 => ?_)
      · have c_12 := (nI_leI (a := v_h r) (b := i) (by omega) (by omega)).mp c_12
        refine lv_lload hx hb dX0_manyWhollyIn_59 (lv_at hl 1 rfl) ?_
        exact ro_lret hx hb hr (by rw [← hf]; rfl) dX0_manyWhollyIn_61 hlocks
      · have c_12 := mt (nI_leI (a := v_h r) (b := i) (by omega) (by omega)).mpr c_12
        exact absurd c_12 (by omega)
    | succ n ih =>
      intro i x ls hi hf hl
      refine lv_iload hx hb dX0_manyWhollyIn_6 (lv_at hl 0 rfl) ?_
      refine lv_aload_n hx hb dX0_manyWhollyIn_8 rfl (lv_at hl 2 rfl) ?_
      refine va_get (D := D) (ci := 0) (v := .int (nI (v_h r))) (C := RX0) (T := TX0) (N := 7) hx hb hts hi0 hown hK hR 0 rfl rfl 5 (by decide) (hts (.fieldLink RX0 30 "RingSeries$Ring" "held" "I") (by decide +kernel)) (fun _ h9 => h9) rfl dX0_manyWhollyIn_9 ?_
      refine lv_icmp_ge (tgt := 59) hx hb dX0_manyWhollyIn_12 (by decide) (fun c_12 => ?_) (fun c_12 => ?_)
      · have c_12 := (nI_leI (a := v_h r) (b := i) (by omega) (by omega)).mp c_12
        exact absurd c_12 (by omega)
      · have c_12 := mt (nI_leI (a := v_h r) (b := i) (by omega) (by omega)).mpr c_12
        refine lv_aload_n hx hb dX0_manyWhollyIn_15 rfl (lv_at hl 2 rfl) ?_
        refine lv_iload hx hb dX0_manyWhollyIn_16 (lv_at hl 0 rfl) ?_
        refine ro_call (va_runV (As := [.int (nI i)]) (rest := []) ⟨hx, hb, hml, hown, hts⟩ (c_X0_startOf l A r hk hR i (by omega)) (cwV 1 hts gX0_manyWhollyIn_X0_startOf rfl rfl rfl (by decide +kernel) ⟨Nat.le_of_ble_eq_true rfl, Nat.le_of_ble_eq_true rfl⟩) (ro_preV hK (va_recv hK hR (ci := 0) (q0 := 0) rfl rfl)) rfl rfl hl.1 rfl (lv_room (Nat.le_of_ble_eq_true rfl)) dX0_manyWhollyIn_18 ⟨Nat.zero_le _, Nat.zero_le _⟩) ?_
        refine lv_i2l hx hb dX0_manyWhollyIn_21 rfl ?_
        refine lv_lload_n hx hb dX0_manyWhollyIn_22 rfl (lv_at hl 3 rfl) ?_
        refine W.lcmp hx hb dX0_manyWhollyIn_23 ?_
        refine lv_if_lt (tgt := 53) hx hb dX0_manyWhollyIn_24 (by decide) (fun c_24 => ?_) (fun c_24 => ?_)
        · have c_24 := (lg_cmp_lt _ _).mp c_24
          refine lv_iinc (v := nI (i + 1)) (lv' := [(7, .int (nI (i + 1))), (5, .long x), (0, .ref (a_o A)), (1, .long f), (3, .long t)]) hx hb dX0_manyWhollyIn_53 hl (k := 0) rfl (inc1 _) (by decide) rfl (fun ls hl => ?_)
          refine lv_goto (tgt := 6) hx hb dX0_manyWhollyIn_56 (by decide) ?_
          exact ih (i + 1) x ls (by omega) (by rw [← hf, mwr, if_neg (fun z => Int64.not_le.mpr c_24 z.1)]) (lv_sub hl [0, 1, 2, 3, 4] rfl)
        · have c_24 := mt (lg_cmp_lt _ _).mpr c_24
          refine lv_aload_n hx hb dX0_manyWhollyIn_27 rfl (lv_at hl 2 rfl) ?_
          refine lv_iload hx hb dX0_manyWhollyIn_28 (lv_at hl 0 rfl) ?_
          refine ro_call (va_runV (As := [.int (nI i)]) (rest := []) ⟨hx, hb, hml, hown, hts⟩ (c_X0_endOfEntry l A r hk hR i (by omega)) (cwV 1 hts gX0_manyWhollyIn_X0_endOfEntry rfl rfl rfl (by decide +kernel) ⟨Nat.le_of_ble_eq_true rfl, Nat.le_of_ble_eq_true rfl⟩) (ro_preV hK (va_recv hK hR (ci := 0) (q0 := 0) rfl rfl)) rfl rfl hl.1 rfl (lv_room (Nat.le_of_ble_eq_true rfl)) dX0_manyWhollyIn_30 ⟨Nat.zero_le _, Nat.zero_le _⟩) ?_
          refine lv_lload_n hx hb dX0_manyWhollyIn_33 rfl (lv_at hl 4 rfl) ?_
          refine lv_lconst (v := 1) hx hb dX0_manyWhollyIn_34 (by decide) ?_
          refine lv_ladd hx hb dX0_manyWhollyIn_35 ?_
          refine W.lcmp hx hb dX0_manyWhollyIn_36 ?_
          refine lv_if_gt (tgt := 53) hx hb dX0_manyWhollyIn_37 (by decide) (fun c_37 => ?_) (fun c_37 => ?_)
          · have c_37 := (lg_cmp_gt _ _).mp c_37
            refine lv_iinc (v := nI (i + 1)) (lv' := [(7, .int (nI (i + 1))), (5, .long x), (0, .ref (a_o A)), (1, .long f), (3, .long t)]) hx hb dX0_manyWhollyIn_53 hl (k := 0) rfl (inc1 _) (by decide) rfl (fun ls hl => ?_)
            refine lv_goto (tgt := 6) hx hb dX0_manyWhollyIn_56 (by decide) ?_
            exact ih (i + 1) x ls (by omega) (by rw [← hf, mwr, if_neg (fun z => Int64.not_le.mpr c_37 z.2)]) (lv_sub hl [0, 1, 2, 3, 4] rfl)
          · have c_37 := mt (lg_cmp_gt _ _).mpr c_37
            refine lv_lload hx hb dX0_manyWhollyIn_40 (lv_at hl 1 rfl) ?_
            refine lv_aload_n hx hb dX0_manyWhollyIn_42 rfl (lv_at hl 2 rfl) ?_
            refine lv_iload hx hb dX0_manyWhollyIn_43 (lv_at hl 0 rfl) ?_
            refine lv_iconst (v := 3) hx hb dX0_manyWhollyIn_45 (by decide) ?_
            refine ro_call (va_runV (As := [.int (nI i), .int 3]) (rest := [.long x]) ⟨hx, hb, hml, hown, hts⟩ (c_X0_figureOf l A r hk hR i 3 (by omega) (by omega)) (cwV 2 hts gX0_manyWhollyIn_X0_figureOf rfl rfl rfl (by decide +kernel) ⟨Nat.le_of_ble_eq_true rfl, Nat.le_of_ble_eq_true rfl⟩) (ro_preV hK (va_recv hK hR (ci := 0) (q0 := 0) rfl rfl)) rfl rfl hl.1 rfl (lv_room (Nat.le_of_ble_eq_true rfl)) dX0_manyWhollyIn_46 ⟨Nat.zero_le _, Nat.zero_le _⟩) ?_
            refine lv_i2l hx hb dX0_manyWhollyIn_49 rfl ?_
            refine lv_ladd hx hb dX0_manyWhollyIn_50 ?_
            refine lv_lstore (lv' := [(5, .long (x + ((v_G r 3 i).toInt64))), (7, .int (nI i)), (0, .ref (a_o A)), (1, .long f), (3, .long t)]) hx hb dX0_manyWhollyIn_51 hl (by decide) rfl (fun ls hl => ?_)
            refine lv_iinc (v := nI (i + 1)) (lv' := [(7, .int (nI (i + 1))), (5, .long (x + ((v_G r 3 i).toInt64))), (0, .ref (a_o A)), (1, .long f), (3, .long t)]) hx hb dX0_manyWhollyIn_53 hl (k := 1) rfl (inc1 _) (by decide) rfl (fun ls hl => ?_)
            refine lv_goto (tgt := 6) hx hb dX0_manyWhollyIn_56 (by decide) ?_
            exact ih (i + 1) _ ls (by omega) (by rw [← hf, mwr, if_pos ⟨Int64.not_lt.mp c_24, Int64.not_lt.mp c_37⟩]) (lv_sub hl [0, 1, 2, 3, 4] rfl)
  refine lv_lconst (v := 0) hx hb dX0_manyWhollyIn_0 (by decide) ?_
  refine lv_lstore (lv' := [(5, .long 0), (0, .ref (a_o A)), (1, .long f), (3, .long t)]) hx hb dX0_manyWhollyIn_1 hl (by decide) rfl (fun ls hl => ?_)
  refine lv_iconst (v := 0) hx hb dX0_manyWhollyIn_3 (by decide) ?_
  refine lv_istore (lv' := [(7, .int 0), (5, .long 0), (0, .ref (a_o A)), (1, .long f), (3, .long t)]) hx hb dX0_manyWhollyIn_4 hl (by decide) rfl (fun ls hl => ?_)
  exact loop (v_h r) 0 0 ls (by omega) rfl (lv_sub hl [0, 1, 2, 3, 4] rfl)
set_option maxHeartbeats 4000000 in
set_option maxRecDepth 100000 in
/-- hasFiguresOf -/
theorem c_X0_hasFiguresOf_t (l : Launch) {D : va_G} {cI cA cJ : ClassId} {H : Heap} (A : rgA) (r : rgV) (hk : r_ok r) (hR : va_P D vwCl (rgW cI cA A r) H) (A2 : rgA) (q : rgV) (hk2 : r_ok q) (hR2 : va_P D vwCl (rgW cI cA A2 q) H) (a b j : Nat) (hj : j < v_h r) (hb1 : b ≤ v_h q) (ha1 : a ≤ v_h q) (hfg : hfr r q a b j) : Met l yX0_hasFiguresOf wsX0_hasFiguresOf ({ frames := 3, cells := 0, slots := 0, locals := 69 }) (ro_P D vwCl (tyL cI cA cJ) H [.ref (a_o A), .ref (a_o A2), .int (nI a), .int (nI b), .int (nI j)]) (ro_Q (.int 1) H) 0 0 ro_no := by
  refine Met.ofW (cc := cX0_hasFiguresOf) (maxL := 6) (ret := (some .boolean)) (by decide) rfl ?_
  intro p e s m args below meth c s₁ B hml hv
  obtain ⟨rfl, hh, hK⟩ := hv
  subst hh
  have hx := B.exec
  have hb := B.bytes
  have hr := B.returns
  have hlocks := B.notSynchronized
  have hts := atoms_spec (ws := wsX0_hasFiguresOf) B.pre
  have hown : s.vm.findClass RX0 = some m.cls := findClass_of_methodNamed B.named
  have hi0 : ∀ w ∈ wsX00, w ∈ wsX0_hasFiguresOf := fun w h => List.mem_cons_of_mem _ (List.mem_append_right _ h)
  have hl := lv_entry ([.ref (a_o A), .ref (a_o A2), .int (nI a), .int (nI b), .int (nI j)]) (n := 6) (Nat.le_of_ble_eq_true rfl)
  rw [lg_entry_eq]
  generalize (lg_sl ([.ref (a_o A), .ref (a_o A2), .int (nI a), .int (nI b), .int (nI j)]) ++ List.replicate (6 - (lg_sl ([.ref (a_o A), .ref (a_o A2), .int (nI a), .int (nI b), .int (nI j)])).length) Slot.unset).toArray = ls at hl ⊢
  have hl : lv_has ls 6 [(0, .ref (a_o A)), (1, .ref (a_o A2)), (2, .int (nI a)), (3, .int (nI b)), (4, .int (nI j))] := hl
  obtain ⟨k1, k2, k3, k4, k5, k6⟩ := id hk
  obtain ⟨m1, m2, m3, m4, m5, m6⟩ := id hk2
  have loop : ∀ (n : Nat) (k : Nat) (ls : Array Slot), k + n = 4 → lv_has ls 6 [(5, .int (nI k)), (0, .ref (a_o A)), (1, .ref (a_o A2)), (2, .int (nI a)), (3, .int (nI b)), (4, .int (nI j))] → W p l e (headSpec wsX0_hasFiguresOf ({ frames := 3, cells := 0, slots := 0, locals := 69 })).room s m ([.ref (a_o A), .ref (a_o A2), .int (nI a), .int (nI b), .int (nI j)] : List Value).toArray below meth c s.heap [] 0 0 (MQ below (ro_Q (.int 1) s.heap) ([.ref (a_o A), .ref (a_o A2), .int (nI a), .int (nI b), .int (nI j)] : List Value).toArray s 0 0 ro_no) (F0 m 3 ls []) := by
    intro n
    induction n with
    | zero =>
      intro k ls hi hl
      refine lv_iload hx hb dX0_hasFiguresOf_3 (lv_at hl 0 rfl) ?_
      refine lv_iconst (v := 4) hx hb dX0_hasFiguresOf_5 (by decide) ?_
      refine lv_icmp_ge (tgt := 36) hx hb dX0_hasFiguresOf_6 (by decide) (fun c_6 => ?_) (fun c_6 => ?_)
      · have c_6 := (nI_leI (a := 4) (b := k) (by omega) (by omega)).mp c_6
        refine lv_iconst (v := 1) hx hb dX0_hasFiguresOf_36 (by decide) ?_
        exact ro_zret hx hb hr (by first | rfl | decide) rfl dX0_hasFiguresOf_37 hlocks
      · have c_6 := mt (nI_leI (a := 4) (b := k) (by omega) (by omega)).mpr c_6
        exact absurd c_6 (by omega)
    | succ n ih =>
      intro k ls hi hl
      refine lv_iload hx hb dX0_hasFiguresOf_3 (lv_at hl 0 rfl) ?_
      refine lv_iconst (v := 4) hx hb dX0_hasFiguresOf_5 (by decide) ?_
      refine lv_icmp_ge (tgt := 36) hx hb dX0_hasFiguresOf_6 (by decide) (fun c_6 => ?_) (fun c_6 => ?_)
      · have c_6 := (nI_leI (a := 4) (b := k) (by omega) (by omega)).mp c_6
        exact absurd c_6 (by omega)
      · have c_6 := mt (nI_leI (a := 4) (b := k) (by omega) (by omega)).mpr c_6
        refine lv_aload_n hx hb dX0_hasFiguresOf_9 rfl (lv_at hl 1 rfl) ?_
        refine lv_iload hx hb dX0_hasFiguresOf_10 (lv_at hl 5 rfl) ?_
        refine lv_iload hx hb dX0_hasFiguresOf_12 (lv_at hl 0 rfl) ?_
        refine ro_call (va_runV (As := [.int (nI j), .int (nI k)]) (rest := []) ⟨hx, hb, hml, hown, hts⟩ (c_X0_figureOf l A r hk hR j k (by omega) (by omega)) (cwV 2 hts gX0_hasFiguresOf_X0_figureOf rfl rfl rfl (by decide +kernel) ⟨Nat.le_of_ble_eq_true rfl, Nat.le_of_ble_eq_true rfl⟩) (ro_preV hK (va_recv hK hR (ci := 0) (q0 := 0) rfl rfl)) rfl rfl hl.1 rfl (lv_room (Nat.le_of_ble_eq_true rfl)) dX0_hasFiguresOf_14 ⟨Nat.zero_le _, Nat.zero_le _⟩) ?_
        refine lv_aload_n hx hb dX0_hasFiguresOf_17 rfl (lv_at hl 2 rfl) ?_
        refine lv_iload_n hx hb dX0_hasFiguresOf_18 rfl (lv_at hl 3 rfl) ?_
        refine lv_iload_n hx hb dX0_hasFiguresOf_19 rfl (lv_at hl 4 rfl) ?_
        refine lv_iload hx hb dX0_hasFiguresOf_20 (lv_at hl 0 rfl) ?_
        refine ro_call (va_runV (As := [.int (nI a), .int (nI b), .int (nI k)]) (rest := [.int (v_G r k j)]) ⟨hx, hb, hml, hown, hts⟩ (c_X0_together l A2 q hk2 hR2 k a b (by omega) (by omega) (by omega)) (cwV 3 hts gX0_hasFiguresOf_X0_together rfl rfl rfl (by decide +kernel) ⟨Nat.le_of_ble_eq_true rfl, Nat.le_of_ble_eq_true rfl⟩) (ro_preV hK (va_recv hK hR2 (ci := 0) (q0 := 0) rfl rfl)) rfl rfl hl.1 rfl (lv_room (Nat.le_of_ble_eq_true rfl)) dX0_hasFiguresOf_22 ⟨Nat.zero_le _, Nat.zero_le _⟩) ?_
        refine lv_icmp_eq (tgt := 30) hx hb dX0_hasFiguresOf_25 (by decide) (fun c_25 => ?_) (fun c_25 => ?_)
        · refine lv_iinc (v := nI (k + 1)) (lv' := [(5, .int (nI (k + 1))), (0, .ref (a_o A)), (1, .ref (a_o A2)), (2, .int (nI a)), (3, .int (nI b)), (4, .int (nI j))]) hx hb dX0_hasFiguresOf_30 hl (k := 0) rfl (inc1 _) (by decide) rfl (fun ls hl => ?_)
          refine lv_goto (tgt := 3) hx hb dX0_hasFiguresOf_33 (by decide) ?_
          exact ih (k + 1) ls (by omega) (lv_sub hl [0, 1, 2, 3, 4, 5] rfl)
        · exact absurd (hfg k (by omega)) c_25
  refine lv_iconst (v := 0) hx hb dX0_hasFiguresOf_0 (by decide) ?_
  refine lv_istore (lv' := [(5, .int 0), (0, .ref (a_o A)), (1, .ref (a_o A2)), (2, .int (nI a)), (3, .int (nI b)), (4, .int (nI j))]) hx hb dX0_hasFiguresOf_1 hl (by decide) rfl (fun ls hl => ?_)
  exact loop 4 0 ls (by omega) (lv_sub hl [0, 1, 2, 3, 4, 5] rfl)
set_option maxHeartbeats 4000000 in
set_option maxRecDepth 100000 in
/-- hasFiguresOf -/
theorem c_X0_hasFiguresOf_f (l : Launch) {D : va_G} {cI cA cJ : ClassId} {H : Heap} (A : rgA) (r : rgV) (hk : r_ok r) (hR : va_P D vwCl (rgW cI cA A r) H) (A2 : rgA) (q : rgV) (hk2 : r_ok q) (hR2 : va_P D vwCl (rgW cI cA A2 q) H) (a b j : Nat) (hj : j < v_h r) (hb1 : b ≤ v_h q) (ha1 : a ≤ v_h q) (hfg : ¬ hfr r q a b j) : Met l yX0_hasFiguresOf wsX0_hasFiguresOf ({ frames := 3, cells := 0, slots := 0, locals := 69 }) (ro_P D vwCl (tyL cI cA cJ) H [.ref (a_o A), .ref (a_o A2), .int (nI a), .int (nI b), .int (nI j)]) (ro_Q (.int 0) H) 0 0 ro_no := by
  refine Met.ofW (cc := cX0_hasFiguresOf) (maxL := 6) (ret := (some .boolean)) (by decide) rfl ?_
  intro p e s m args below meth c s₁ B hml hv
  obtain ⟨rfl, hh, hK⟩ := hv
  subst hh
  have hx := B.exec
  have hb := B.bytes
  have hr := B.returns
  have hlocks := B.notSynchronized
  have hts := atoms_spec (ws := wsX0_hasFiguresOf) B.pre
  have hown : s.vm.findClass RX0 = some m.cls := findClass_of_methodNamed B.named
  have hi0 : ∀ w ∈ wsX00, w ∈ wsX0_hasFiguresOf := fun w h => List.mem_cons_of_mem _ (List.mem_append_right _ h)
  have hl := lv_entry ([.ref (a_o A), .ref (a_o A2), .int (nI a), .int (nI b), .int (nI j)]) (n := 6) (Nat.le_of_ble_eq_true rfl)
  rw [lg_entry_eq]
  generalize (lg_sl ([.ref (a_o A), .ref (a_o A2), .int (nI a), .int (nI b), .int (nI j)]) ++ List.replicate (6 - (lg_sl ([.ref (a_o A), .ref (a_o A2), .int (nI a), .int (nI b), .int (nI j)])).length) Slot.unset).toArray = ls at hl ⊢
  have hl : lv_has ls 6 [(0, .ref (a_o A)), (1, .ref (a_o A2)), (2, .int (nI a)), (3, .int (nI b)), (4, .int (nI j))] := hl
  obtain ⟨k1, k2, k3, k4, k5, k6⟩ := id hk
  obtain ⟨m1, m2, m3, m4, m5, m6⟩ := id hk2
  have loop : ∀ (n : Nat) (k : Nat) (ls : Array Slot), k + n = 4 → (∀ k9, k9 < k → v_G r k9 j = tg q k9 a b) → lv_has ls 6 [(5, .int (nI k)), (0, .ref (a_o A)), (1, .ref (a_o A2)), (2, .int (nI a)), (3, .int (nI b)), (4, .int (nI j))] → W p l e (headSpec wsX0_hasFiguresOf ({ frames := 3, cells := 0, slots := 0, locals := 69 })).room s m ([.ref (a_o A), .ref (a_o A2), .int (nI a), .int (nI b), .int (nI j)] : List Value).toArray below meth c s.heap [] 0 0 (MQ below (ro_Q (.int 0) s.heap) ([.ref (a_o A), .ref (a_o A2), .int (nI a), .int (nI b), .int (nI j)] : List Value).toArray s 0 0 ro_no) (F0 m 3 ls []) := by
    intro n
    induction n with
    | zero =>
      intro k ls hi hall hl
      refine lv_iload hx hb dX0_hasFiguresOf_3 (lv_at hl 0 rfl) ?_
      refine lv_iconst (v := 4) hx hb dX0_hasFiguresOf_5 (by decide) ?_
      refine lv_icmp_ge (tgt := 36) hx hb dX0_hasFiguresOf_6 (by decide) (fun c_6 => ?_) (fun c_6 => ?_)
      · have c_6 := (nI_leI (a := 4) (b := k) (by omega) (by omega)).mp c_6
        exact absurd (fun k9 h9 => hall k9 (by omega)) hfg
      · have c_6 := mt (nI_leI (a := 4) (b := k) (by omega) (by omega)).mpr c_6
        exact absurd c_6 (by omega)
    | succ n ih =>
      intro k ls hi hall hl
      refine lv_iload hx hb dX0_hasFiguresOf_3 (lv_at hl 0 rfl) ?_
      refine lv_iconst (v := 4) hx hb dX0_hasFiguresOf_5 (by decide) ?_
      refine lv_icmp_ge (tgt := 36) hx hb dX0_hasFiguresOf_6 (by decide) (fun c_6 => ?_) (fun c_6 => ?_)
      · have c_6 := (nI_leI (a := 4) (b := k) (by omega) (by omega)).mp c_6
        exact absurd c_6 (by omega)
      · have c_6 := mt (nI_leI (a := 4) (b := k) (by omega) (by omega)).mpr c_6
        refine lv_aload_n hx hb dX0_hasFiguresOf_9 rfl (lv_at hl 1 rfl) ?_
        refine lv_iload hx hb dX0_hasFiguresOf_10 (lv_at hl 5 rfl) ?_
        refine lv_iload hx hb dX0_hasFiguresOf_12 (lv_at hl 0 rfl) ?_
        refine ro_call (va_runV (As := [.int (nI j), .int (nI k)]) (rest := []) ⟨hx, hb, hml, hown, hts⟩ (c_X0_figureOf l A r hk hR j k (by omega) (by omega)) (cwV 2 hts gX0_hasFiguresOf_X0_figureOf rfl rfl rfl (by decide +kernel) ⟨Nat.le_of_ble_eq_true rfl, Nat.le_of_ble_eq_true rfl⟩) (ro_preV hK (va_recv hK hR (ci := 0) (q0 := 0) rfl rfl)) rfl rfl hl.1 rfl (lv_room (Nat.le_of_ble_eq_true rfl)) dX0_hasFiguresOf_14 ⟨Nat.zero_le _, Nat.zero_le _⟩) ?_
        refine lv_aload_n hx hb dX0_hasFiguresOf_17 rfl (lv_at hl 2 rfl) ?_
        refine lv_iload_n hx hb dX0_hasFiguresOf_18 rfl (lv_at hl 3 rfl) ?_
        refine lv_iload_n hx hb dX0_hasFiguresOf_19 rfl (lv_at hl 4 rfl) ?_
        refine lv_iload hx hb dX0_hasFiguresOf_20 (lv_at hl 0 rfl) ?_
        refine ro_call (va_runV (As := [.int (nI a), .int (nI b), .int (nI k)]) (rest := [.int (v_G r k j)]) ⟨hx, hb, hml, hown, hts⟩ (c_X0_together l A2 q hk2 hR2 k a b (by omega) (by omega) (by omega)) (cwV 3 hts gX0_hasFiguresOf_X0_together rfl rfl rfl (by decide +kernel) ⟨Nat.le_of_ble_eq_true rfl, Nat.le_of_ble_eq_true rfl⟩) (ro_preV hK (va_recv hK hR2 (ci := 0) (q0 := 0) rfl rfl)) rfl rfl hl.1 rfl (lv_room (Nat.le_of_ble_eq_true rfl)) dX0_hasFiguresOf_22 ⟨Nat.zero_le _, Nat.zero_le _⟩) ?_
        refine lv_icmp_eq (tgt := 30) hx hb dX0_hasFiguresOf_25 (by decide) (fun c_25 => ?_) (fun c_25 => ?_)
        · refine lv_iinc (v := nI (k + 1)) (lv' := [(5, .int (nI (k + 1))), (0, .ref (a_o A)), (1, .ref (a_o A2)), (2, .int (nI a)), (3, .int (nI b)), (4, .int (nI j))]) hx hb dX0_hasFiguresOf_30 hl (k := 0) rfl (inc1 _) (by decide) rfl (fun ls hl => ?_)
          refine lv_goto (tgt := 3) hx hb dX0_hasFiguresOf_33 (by decide) ?_
          exact ih (k + 1) ls (by omega) (fun k9 h9 => (Nat.lt_or_eq_of_le (Nat.le_of_lt_succ h9)).elim (fun z => hall k9 z) (fun z => by rw [z]; exact c_25)) (lv_sub hl [0, 1, 2, 3, 4, 5] rfl)
        · refine lv_iconst (v := 0) hx hb dX0_hasFiguresOf_28 (by decide) ?_
          exact ro_zret hx hb hr (by first | rfl | decide) rfl dX0_hasFiguresOf_29 hlocks
  refine lv_iconst (v := 0) hx hb dX0_hasFiguresOf_0 (by decide) ?_
  refine lv_istore (lv' := [(5, .int 0), (0, .ref (a_o A)), (1, .ref (a_o A2)), (2, .int (nI a)), (3, .int (nI b)), (4, .int (nI j))]) hx hb dX0_hasFiguresOf_1 hl (by decide) rfl (fun ls hl => ?_)
  exact loop 4 0 ls (by omega) (fun k9 h9 => absurd h9 (by omega)) (lv_sub hl [0, 1, 2, 3, 4, 5] rfl)
set_option maxHeartbeats 4000000 in
set_option maxRecDepth 100000 in
/-- agreesWith(finer), where all agree -/
theorem c_X0_agreesWith (l : Launch) {D : va_G} {cI cA cJ : ClassId} {H : Heap} (A : rgA) (r : rgV) (hk : r_ok r) (hR : va_P D vwCl (rgW cI cA A r) H) (A2 : rgA) (q : rgV) (hk2 : r_ok q) (hR2 : va_P D vwCl (rgW cI cA A2 q) H) (J : Nat → Nat → Prop) (hJ0 : J 0 0) (hag : ∀ i a : Nat, i < v_h r → a ≤ v_h q → J i a → J (i + 1) (ff q (v_X r i) (ff q (v_E r i).toInt64 a)) ∧ (¬ v_E r i ≤ v_g q → hfr r q (ff q (v_E r i).toInt64 a) (ff q (v_X r i) (ff q (v_E r i).toInt64 a)) i)) : Met l yX0_agreesWith wsX0_agreesWith ({ frames := 4, cells := 0, slots := 0, locals := 94 }) (ro_P D vwCl (tyL cI cA cJ) H [.ref (a_o A), .ref (a_o A2)]) (ro_Q (.int 1) H) 0 0 ro_no := by
  refine Met.ofW (cc := cX0_agreesWith) (maxL := 6) (ret := (some .boolean)) (by decide) rfl ?_
  intro p e s m args below meth c s₁ B hml hv
  obtain ⟨rfl, hh, hK⟩ := hv
  subst hh
  have hx := B.exec
  have hb := B.bytes
  have hr := B.returns
  have hlocks := B.notSynchronized
  have hts := atoms_spec (ws := wsX0_agreesWith) B.pre
  have hown : s.vm.findClass RX0 = some m.cls := findClass_of_methodNamed B.named
  have hi0 : ∀ w ∈ wsX00, w ∈ wsX0_agreesWith := fun w h => List.mem_cons_of_mem _ (List.mem_append_right _ h)
  have hl := lv_entry ([.ref (a_o A), .ref (a_o A2)]) (n := 6) (Nat.le_of_ble_eq_true rfl)
  rw [lg_entry_eq]
  generalize (lg_sl ([.ref (a_o A), .ref (a_o A2)]) ++ List.replicate (6 - (lg_sl ([.ref (a_o A), .ref (a_o A2)])).length) Slot.unset).toArray = ls at hl ⊢
  have hl : lv_has ls 6 [(0, .ref (a_o A)), (1, .ref (a_o A2))] := hl
  obtain ⟨k1, k2, k3, k4, k5, k6⟩ := id hk
  obtain ⟨m1, m2, m3, m4, m5, m6⟩ := id hk2
  have loop : ∀ (n : Nat) (i a : Nat) (ls : Array Slot), i + n = v_h r → a ≤ v_h q → J i a → lv_has ls 6 [(3, .int (nI i)), (2, .int (nI a)), (0, .ref (a_o A)), (1, .ref (a_o A2))] → W p l e (headSpec wsX0_agreesWith ({ frames := 4, cells := 0, slots := 0, locals := 94 })).room s m ([.ref (a_o A), .ref (a_o A2)] : List Value).toArray below meth c s.heap [] 0 0 (MQ below (ro_Q (.int 1) s.heap) ([.ref (a_o A), .ref (a_o A2)] : List Value).toArray s 0 0 ro_no) (F0 m 4 ls []) := by
    intro n
    induction n with
    | zero =>
      intro i a ls hi ha hJ hl
      refine lv_iload_n hx hb dX0_agreesWith_4 rfl (lv_at hl 0 rfl) ?_
      refine lv_aload_n hx hb dX0_agreesWith_5 rfl (lv_at hl 2 rfl) ?_
      refine va_get (D := D) (ci := 0) (v := .int (nI (v_h r))) (C := RX0) (T := TX0) (N := 7) hx hb hts hi0 hown hK hR 0 rfl rfl 5 (by decide) (hts (.fieldLink RX0 30 "RingSeries$Ring" "held" "I") (by decide +kernel)) (fun _ h9 => h9) rfl dX0_agreesWith_6 ?_
      refine lv_icmp_ge (tgt := 83) hx hb dX0_agreesWith_9 (by decide) (fun c_9 => ?_) (fun c_9 => ?_)
      · have c_9 := (nI_leI (a := v_h r) (b := i) (by omega) (by omega)).mp c_9
        refine lv_iconst (v := 1) hx hb dX0_agreesWith_83 (by decide) ?_
        exact ro_zret hx hb hr (by first | rfl | decide) rfl dX0_agreesWith_84 hlocks
      · have c_9 := mt (nI_leI (a := v_h r) (b := i) (by omega) (by omega)).mpr c_9
        exact absurd c_9 (by omega)
    | succ n ih =>
      intro i a ls hi ha hJ hl
      refine lv_iload_n hx hb dX0_agreesWith_4 rfl (lv_at hl 0 rfl) ?_
      refine lv_aload_n hx hb dX0_agreesWith_5 rfl (lv_at hl 2 rfl) ?_
      refine va_get (D := D) (ci := 0) (v := .int (nI (v_h r))) (C := RX0) (T := TX0) (N := 7) hx hb hts hi0 hown hK hR 0 rfl rfl 5 (by decide) (hts (.fieldLink RX0 30 "RingSeries$Ring" "held" "I") (by decide +kernel)) (fun _ h9 => h9) rfl dX0_agreesWith_6 ?_
      refine lv_icmp_ge (tgt := 83) hx hb dX0_agreesWith_9 (by decide) (fun c_9 => ?_) (fun c_9 => ?_)
      · have c_9 := (nI_leI (a := v_h r) (b := i) (by omega) (by omega)).mp c_9
        exact absurd c_9 (by omega)
      · have c_9 := mt (nI_leI (a := v_h r) (b := i) (by omega) (by omega)).mpr c_9
        refine lv_aload_n hx hb dX0_agreesWith_12 rfl (lv_at hl 3 rfl) ?_
        refine lv_iload_n hx hb dX0_agreesWith_13 rfl (lv_at hl 1 rfl) ?_
        refine lv_aload_n hx hb dX0_agreesWith_14 rfl (lv_at hl 2 rfl) ?_
        refine lv_iload_n hx hb dX0_agreesWith_15 rfl (lv_at hl 0 rfl) ?_
        refine ro_call (va_runV (As := [.int (nI i)]) (rest := [.int (nI a), .ref (a_o A2)]) ⟨hx, hb, hml, hown, hts⟩ (c_X0_startOf l A r hk hR i (by omega)) (cwV 1 hts gX0_agreesWith_X0_startOf rfl rfl rfl (by decide +kernel) ⟨Nat.le_of_ble_eq_true rfl, Nat.le_of_ble_eq_true rfl⟩) (ro_preV hK (va_recv hK hR (ci := 0) (q0 := 0) rfl rfl)) rfl rfl hl.1 rfl (lv_room (Nat.le_of_ble_eq_true rfl)) dX0_agreesWith_16 ⟨Nat.zero_le _, Nat.zero_le _⟩) ?_
        refine lv_i2l hx hb dX0_agreesWith_19 rfl ?_
        refine ro_call (va_runV (As := [.int (nI a), .long ((v_E r i).toInt64)]) (rest := []) ⟨hx, hb, hml, hown, hts⟩ (c_X0_firstFrom l A2 q hk2 hR2 a ((v_E r i).toInt64) ha) (cwV 2 hts gX0_agreesWith_X0_firstFrom rfl rfl rfl (by decide +kernel) ⟨Nat.le_of_ble_eq_true rfl, Nat.le_of_ble_eq_true rfl⟩) (ro_preV hK (va_recv hK hR2 (ci := 0) (q0 := 0) rfl rfl)) rfl rfl hl.1 rfl (lv_room (Nat.le_of_ble_eq_true rfl)) dX0_agreesWith_20 ⟨Nat.zero_le _, Nat.zero_le _⟩) ?_
        refine lv_istore_n (lv' := [(2, .int (nI (ff q ((v_E r i).toInt64) a))), (3, .int (nI i)), (0, .ref (a_o A)), (1, .ref (a_o A2))]) hx hb dX0_agreesWith_23 rfl hl (by decide) rfl (fun ls hl => ?_)
        refine lv_aload_n hx hb dX0_agreesWith_24 rfl (lv_at hl 3 rfl) ?_
        refine lv_iload_n hx hb dX0_agreesWith_25 rfl (lv_at hl 0 rfl) ?_
        refine lv_aload_n hx hb dX0_agreesWith_26 rfl (lv_at hl 2 rfl) ?_
        refine lv_iload_n hx hb dX0_agreesWith_27 rfl (lv_at hl 1 rfl) ?_
        refine ro_call (va_runV (As := [.int (nI i)]) (rest := [.int (nI (ff q ((v_E r i).toInt64) a)), .ref (a_o A2)]) ⟨hx, hb, hml, hown, hts⟩ (c_X0_endOfEntry l A r hk hR i (by omega)) (cwV 1 hts gX0_agreesWith_X0_endOfEntry rfl rfl rfl (by decide +kernel) ⟨Nat.le_of_ble_eq_true rfl, Nat.le_of_ble_eq_true rfl⟩) (ro_preV hK (va_recv hK hR (ci := 0) (q0 := 0) rfl rfl)) rfl rfl hl.1 rfl (lv_room (Nat.le_of_ble_eq_true rfl)) dX0_agreesWith_28 ⟨Nat.zero_le _, Nat.zero_le _⟩) ?_
        refine ro_call (va_runV (As := [.int (nI (ff q ((v_E r i).toInt64) a)), .long (v_X r i)]) (rest := []) ⟨hx, hb, hml, hown, hts⟩ (c_X0_firstFrom l A2 q hk2 hR2 (ff q ((v_E r i).toInt64) a) (v_X r i) (ff_le (by first | exact ha | exact ff_le ha))) (cwV 2 hts gX0_agreesWith_X0_firstFrom rfl rfl rfl (by decide +kernel) ⟨Nat.le_of_ble_eq_true rfl, Nat.le_of_ble_eq_true rfl⟩) (ro_preV hK (va_recv hK hR2 (ci := 0) (q0 := 0) rfl rfl)) rfl rfl hl.1 rfl (lv_room (Nat.le_of_ble_eq_true rfl)) dX0_agreesWith_31 ⟨Nat.zero_le _, Nat.zero_le _⟩) ?_
        refine lv_istore (lv' := [(4, .int (nI (ff q (v_X r i) (ff q ((v_E r i).toInt64) a)))), (2, .int (nI (ff q ((v_E r i).toInt64) a))), (3, .int (nI i)), (0, .ref (a_o A)), (1, .ref (a_o A2))]) hx hb dX0_agreesWith_34 hl (by decide) rfl (fun ls hl => ?_)
        refine lv_aload_n hx hb dX0_agreesWith_36 rfl (lv_at hl 4 rfl) ?_
        refine va_get (D := D) (ci := 0) (v := .int (v_g q)) (C := RX0) (T := TX0) (N := 7) hx hb hts hi0 hown hK hR2 0 rfl rfl 6 (by decide) (hts (.fieldLink RX0 9 "RingSeries$Ring" "gone" "I") (by decide +kernel)) (fun _ h9 => h9) rfl dX0_agreesWith_37 ?_
        refine lv_aload_n hx hb dX0_agreesWith_40 rfl (lv_at hl 3 rfl) ?_
        refine lv_iload_n hx hb dX0_agreesWith_41 rfl (lv_at hl 2 rfl) ?_
        refine ro_call (va_runV (As := [.int (nI i)]) (rest := [.int (v_g q)]) ⟨hx, hb, hml, hown, hts⟩ (c_X0_startOf l A r hk hR i (by omega)) (cwV 1 hts gX0_agreesWith_X0_startOf rfl rfl rfl (by decide +kernel) ⟨Nat.le_of_ble_eq_true rfl, Nat.le_of_ble_eq_true rfl⟩) (ro_preV hK (va_recv hK hR (ci := 0) (q0 := 0) rfl rfl)) rfl rfl hl.1 rfl (lv_room (Nat.le_of_ble_eq_true rfl)) dX0_agreesWith_42 ⟨Nat.zero_le _, Nat.zero_le _⟩) ?_
        refine lv_icmp_ge (tgt := 52) hx hb dX0_agreesWith_45 (by decide) (fun c_45 => ?_) (fun c_45 => ?_)
        · refine lv_iconst (v := 0) hx hb dX0_agreesWith_52 (by decide) ?_
          refine lv_istore (lv' := [(5, .int 0), (4, .int (nI (ff q (v_X r i) (ff q ((v_E r i).toInt64) a)))), (2, .int (nI (ff q ((v_E r i).toInt64) a))), (3, .int (nI i)), (0, .ref (a_o A)), (1, .ref (a_o A2))]) hx hb dX0_agreesWith_53 hl (by decide) rfl (fun ls hl => ?_)
          refine lv_iload hx hb dX0_agreesWith_55 (lv_at hl 0 rfl) ?_
          refine lv_if_eq (tgt := 74) hx hb dX0_agreesWith_57 (by decide) (fun c_57 => ?_) (fun c_57 => ?_)
          · refine lv_iload hx hb dX0_agreesWith_74 (lv_at hl 1 rfl) ?_
            refine lv_istore_n (lv' := [(2, .int (nI (ff q (v_X r i) (ff q ((v_E r i).toInt64) a)))), (5, .int 0), (4, .int (nI (ff q (v_X r i) (ff q ((v_E r i).toInt64) a)))), (3, .int (nI i)), (0, .ref (a_o A)), (1, .ref (a_o A2))]) hx hb dX0_agreesWith_76 rfl hl (by decide) rfl (fun ls hl => ?_)
            refine lv_iinc (v := nI (i + 1)) (lv' := [(3, .int (nI (i + 1))), (2, .int (nI (ff q (v_X r i) (ff q ((v_E r i).toInt64) a)))), (5, .int 0), (4, .int (nI (ff q (v_X r i) (ff q ((v_E r i).toInt64) a)))), (0, .ref (a_o A)), (1, .ref (a_o A2))]) hx hb dX0_agreesWith_77 hl (k := 3) rfl (inc1 _) (by decide) rfl (fun ls hl => ?_)
            refine lv_goto (tgt := 4) hx hb dX0_agreesWith_80 (by decide) ?_
            exact ih (i + 1) _ ls (by omega) (ff_le (by first | exact ha | exact ff_le ha)) (hag i a (by omega) ha hJ).1 (lv_sub hl [0, 1, 4, 5] rfl)
          · exact absurd rfl c_57
        · refine lv_iconst (v := 1) hx hb dX0_agreesWith_48 (by decide) ?_
          refine lv_goto (tgt := 53) hx hb dX0_agreesWith_49 (by decide) ?_
          refine lv_istore (lv' := [(5, .int 1), (4, .int (nI (ff q (v_X r i) (ff q ((v_E r i).toInt64) a)))), (2, .int (nI (ff q ((v_E r i).toInt64) a))), (3, .int (nI i)), (0, .ref (a_o A)), (1, .ref (a_o A2))]) hx hb dX0_agreesWith_53 hl (by decide) rfl (fun ls hl => ?_)
          refine lv_iload hx hb dX0_agreesWith_55 (lv_at hl 0 rfl) ?_
          refine lv_if_eq (tgt := 74) hx hb dX0_agreesWith_57 (by decide) (fun c_57 => ?_) (fun c_57 => ?_)
          · exact absurd c_57 (by decide)
          · refine lv_aload_n hx hb dX0_agreesWith_60 rfl (lv_at hl 4 rfl) ?_
            refine lv_aload_n hx hb dX0_agreesWith_61 rfl (lv_at hl 5 rfl) ?_
            refine lv_iload_n hx hb dX0_agreesWith_62 rfl (lv_at hl 2 rfl) ?_
            refine lv_iload hx hb dX0_agreesWith_63 (lv_at hl 1 rfl) ?_
            refine lv_iload_n hx hb dX0_agreesWith_65 rfl (lv_at hl 3 rfl) ?_
            refine ro_call (va_runV (As := [.ref (a_o A2), .int (nI (ff q ((v_E r i).toInt64) a)), .int (nI (ff q (v_X r i) (ff q ((v_E r i).toInt64) a))), .int (nI i)]) (rest := []) ⟨hx, hb, hml, hown, hts⟩ (c_X0_hasFiguresOf_t l A r hk hR A2 q hk2 hR2 (ff q ((v_E r i).toInt64) a) (ff q (v_X r i) (ff q ((v_E r i).toInt64) a)) i (by omega) (ff_le (by first | exact ha | exact ff_le ha)) (ff_le (by first | exact ha | exact ff_le ha)) ((hag i a (by omega) ha hJ).2 c_45)) (cwV 4 hts gX0_agreesWith_X0_hasFiguresOf rfl rfl rfl (by decide +kernel) ⟨Nat.le_of_ble_eq_true rfl, Nat.le_of_ble_eq_true rfl⟩) (ro_preV hK (va_recv hK hR (ci := 0) (q0 := 0) rfl rfl)) rfl rfl hl.1 rfl (lv_room (Nat.le_of_ble_eq_true rfl)) dX0_agreesWith_66 ⟨Nat.zero_le _, Nat.zero_le _⟩) ?_
            refine lv_if_ne (tgt := 74) hx hb dX0_agreesWith_69 (by decide) (fun c_69 => ?_) (fun c_69 => ?_)
            · refine lv_iload hx hb dX0_agreesWith_74 (lv_at hl 1 rfl) ?_
              refine lv_istore_n (lv' := [(2, .int (nI (ff q (v_X r i) (ff q ((v_E r i).toInt64) a)))), (5, .int 1), (4, .int (nI (ff q (v_X r i) (ff q ((v_E r i).toInt64) a)))), (3, .int (nI i)), (0, .ref (a_o A)), (1, .ref (a_o A2))]) hx hb dX0_agreesWith_76 rfl hl (by decide) rfl (fun ls hl => ?_)
              refine lv_iinc (v := nI (i + 1)) (lv' := [(3, .int (nI (i + 1))), (2, .int (nI (ff q (v_X r i) (ff q ((v_E r i).toInt64) a)))), (5, .int 1), (4, .int (nI (ff q (v_X r i) (ff q ((v_E r i).toInt64) a)))), (0, .ref (a_o A)), (1, .ref (a_o A2))]) hx hb dX0_agreesWith_77 hl (k := 3) rfl (inc1 _) (by decide) rfl (fun ls hl => ?_)
              refine lv_goto (tgt := 4) hx hb dX0_agreesWith_80 (by decide) ?_
              exact ih (i + 1) _ ls (by omega) (ff_le (by first | exact ha | exact ff_le ha)) (hag i a (by omega) ha hJ).1 (lv_sub hl [0, 1, 4, 5] rfl)
            · exact absurd c_69 (by decide)
  refine lv_iconst (v := 0) hx hb dX0_agreesWith_0 (by decide) ?_
  refine lv_istore_n (lv' := [(2, .int 0), (0, .ref (a_o A)), (1, .ref (a_o A2))]) hx hb dX0_agreesWith_1 rfl hl (by decide) rfl (fun ls hl => ?_)
  refine lv_iconst (v := 0) hx hb dX0_agreesWith_2 (by decide) ?_
  refine lv_istore_n (lv' := [(3, .int 0), (2, .int 0), (0, .ref (a_o A)), (1, .ref (a_o A2))]) hx hb dX0_agreesWith_3 rfl hl (by decide) rfl (fun ls hl => ?_)
  exact loop (v_h r) 0 0 ls (by omega) (by omega) hJ0 (lv_sub hl [0, 1, 2, 3] rfl)
