def sc_P (b L : Nat) (xs : Nat → Int32) (H : Heap) (av : List Value) : Array Value → State → Prop := va_Pc av (fun U => U.heap = H ∧ va_X b L xs U H)
theorem sc_pre {b L : Nat} {xs : Nat → Int32} {H : Heap} {s : State} {As : List Value} (h : va_X b L xs s H) : PreS s H (sc_P b L xs H As) As := ⟨fun a U g mk q => ⟨q.1, q.2.1, va_X.moved (u := U) (U := U.calling g mk a) (Vm.Alike.refl U.vm) q.2.2⟩, fun _ hU hW => ⟨rfl, hU, va_X.moved hW.alike h⟩⟩
set_option maxHeartbeats 4000000 in
set_option maxRecDepth 100000 in
theorem c_L_cell (l : Launch) {b L : Nat} {xs : Nat → Int32} {H : Heap} (hL : L ≤ 2053) (k : Nat) (hk : k < 5) : Met l yL_cell wsL_cell ({ frames := 0, cells := 0, slots := 0, locals := 0 }) (sc_P b L xs H [.ref b, .int (nI k)]) (ro_Q (.int (if k < L then xs k else 0)) H) 0 0 ro_no := by
  refine Met.ofW (cc := cL_cell) (maxL := 2) (ret := (some .int)) (by decide) rfl ?_
  intro p e s m args below meth c s₁ B hml hv
  obtain ⟨rfl, hh, hXs⟩ := hv
  subst hh
  have hx := B.exec
  have hb := B.bytes
  have hr := B.returns
  have hlocks := B.notSynchronized
  have hbl : b < s.heap.size := (Array.getElem?_eq_some_iff.mp hXs.choose_spec.1).1
  have hbA : ¬ ro_no b := id
  have hS : va_S ro_no s.heap s.heap [] := va_S.rf
  have hl := lv_entry ([.ref b, .int (nI k)]) (n := 2) (Nat.le_of_ble_eq_true rfl)
  rw [lg_entry_eq]
  generalize (lg_sl ([.ref b, .int (nI k)]) ++ List.replicate (2 - (lg_sl ([.ref b, .int (nI k)])).length) Slot.unset).toArray = ls at hl ⊢
  have hl : lv_has ls 2 [(0, .ref b), (1, .int (nI k))] := hl
  refine lv_iload_n hx hb dL_cell_0 rfl (lv_at hl 1 rfl) ?_
  refine lv_aload_n hx hb dL_cell_1 rfl (lv_at hl 0 rfl) ?_
  refine va_slen hx hb hXs hbl hbA hS dL_cell_2 ?_
  refine lv_icmp_ge (tgt := 12) hx hb dL_cell_3 (by decide) (fun c_3 => ?_) (fun c_3 => ?_)
  · have c_3 := (nI_leI (a := L) (b := k) (by omega) (by omega)).mp c_3
    refine lv_iconst (v := 0) hx hb dL_cell_12 (by decide) ?_
    exact ro_iret hx hb hr (by rw [if_neg (by omega)]) dL_cell_13 hlocks
  · have c_3 := mt (nI_leI (a := L) (b := k) (by omega) (by omega)).mpr c_3
    refine lv_aload_n hx hb dL_cell_6 rfl (lv_at hl 0 rfl) ?_
    refine lv_iload_n hx hb dL_cell_7 rfl (lv_at hl 1 rfl) ?_
    refine sld_n (j := k) hx hb hXs hbl hbA hS (by omega) (by omega) dL_cell_8 ?_
    refine lv_goto (tgt := 13) hx hb dL_cell_9 (by decide) ?_
    exact ro_iret hx hb hr (by rw [if_pos (by omega)]) dL_cell_13 hlocks
theorem gt_sub4 {L i : Nat} (hL : L ≤ 2053) (hi : i < 2 ^ 30) : nI L - 4 < nI i ↔ L < i + 4 := by
  have h := pk_sub_toInt (a := L) (b := 4) (by omega) (by omega)
  have h : (nI L - 4).toInt = (L : Int) - 4 := h
  rw [Int32.lt_iff_toInt_lt, h, nI_toInt (by omega)]
  omega
set_option maxHeartbeats 4000000 in
set_option maxRecDepth 100000 in
/-- THE LAW'S LOOP -/
theorem law_loop {p : Program} {l : Launch} {e : Env} {s : State} {m : MethodId} {below : List Frame} {meth : Method} {c : Code} {b L : Nat} {xs : Nat → Int32} {D : va_G} {cI cA cJ : ClassId} {x sq : Nat} {A0 A1 A2 : rgA} {Y : mA} (hL : L ≤ 2053) (C0 : lw_At p s m meth c b L xs) (hK : va_K D vwCl (tyL cI cA cJ) s) : ∀ (n i : Nat) (lt : Int32) (r0 r1 r2 : rgV) (g : Nat → Int32) (q : mv) (H : Heap) (locs : List Loc) (ls : Array Slot), i ≤ L + 5 → L + 5 ≤ i + n → 4 * m_P q + 5 ≤ i → va_P D vwCl (TOT cI cA cJ x sq lt A0 A1 A2 r0 r1 r2 g Y q) H → va_D (fun z : Nat => s.heap.size ≤ z) (TOT cI cA cJ x sq lt A0 A1 A2 r0 r1 r2 g Y q) → va_S (fun z : Nat => s.heap.size ≤ z) s.heap H locs → INV q lt r0 r1 r2 → lv_has ls 4 [(3, .int (nI i)), (0, .ref b), (1, .ref x), (2, .ref (b_o Y))] → W p l e room_1 s m #[Value.ref b] below meth c H locs 28 3058 (lw_Z below #[Value.ref b] s) (F0 m 68 ls []) := by
  obtain ⟨hx, hb, hr, hml, hown, hts0, hXs, hbl, hlocks, hgv⟩ := id C0
  have hbA : ¬ (fun z : Nat => s.heap.size ≤ z) b := Nat.not_le.mpr hbl
  have fin : ∀ (i : Nat) (H : Heap) (locs : List Loc) (ls : Array Slot), i ≤ L + 5 → L < i + 4 → va_S (fun z : Nat => s.heap.size ≤ z) s.heap H locs → lv_has ls 4 [(3, .int (nI i)), (0, .ref b), (1, .ref x), (2, .ref (b_o Y))] → W p l e room_1 s m #[Value.ref b] below meth c H locs 28 3058 (lw_Z below #[Value.ref b] s) (F0 m 68 ls []) := by
    intro i H locs ls hi hlt hS hl
    refine lv_iload_n hx hb dL_law_68 rfl (lv_at hl 0 rfl) ?_
    refine lv_aload_n hx hb dL_law_69 rfl (lv_at hl 1 rfl) ?_
    refine va_slen hx hb hXs hbl hbA hS dL_law_70 ?_
    refine lv_iconst (v := 4) hx hb dL_law_71 (by decide) ?_
    refine lv_isub hx hb dL_law_72 ?_
    refine lv_icmp_gt (tgt := 554) hx hb dL_law_73 (by decide) (fun c_73 => ?_) (fun c_73 => ?_)
    · refine lv_iconst (v := 1) hx hb dL_law_554 (by decide) ?_
      refine va_forget (fun z hz => hS.2.2 z hz) ?_
      refine W.widen (k := 600000) (n := 7302250) (Nat.le_of_ble_eq_true rfl) (Nat.le_of_ble_eq_true rfl) ?_
      exact lw_ret hx hb hr hlocks dL_law_555
    · exact absurd ((gt_sub4 hL (by omega)).mpr hlt) c_73
  intro n
  induction n with
  | zero =>
    intro i lt r0 r1 r2 g q H locs ls hi hin hq hP hD hS I hl
    exact fin i H locs ls hi (by omega) hS hl
  | succ n ih =>
    intro i lt r0 r1 r2 g q H locs ls hi hin hq hP hD hS I hl
    by_cases hc : L < i + 4
    · exact fin i H locs ls hi hc hS hl
    · have hi4 : i + 4 ≤ L := by omega
      have back : ∀ (lt : Int32) (r0 r1 r2 : rgV) (g : Nat → Int32) (q2 : mv) (H : Heap) (locs : List Loc), va_P D vwCl (TOT cI cA cJ x sq lt A0 A1 A2 r0 r1 r2 g Y q2) H → va_S (fun z : Nat => s.heap.size ≤ z) s.heap H locs → INV q2 lt r0 r1 r2 → m_P q2 ≤ m_P q + 1 → W p l e room_1 s m #[Value.ref b] below meth c H locs 28 3058 (lw_Z below #[Value.ref b] s) (F0 m 548 ls []) := by
        intro lt2 r02 r12 r22 g2 q2 H2 locs2 hP2 hS2 I2 hq2
        refine lv_iinc (v := nI (i + 4)) (lv' := [(3, .int (nI (i + 4))), (0, .ref b), (1, .ref x), (2, .ref (b_o Y))]) hx hb dL_law_548 hl (k := 0) rfl (nI_add _ 4) (by decide) rfl (fun ls hl => ?_)
        refine lv_goto (tgt := 68) hx hb dL_law_551 (by decide) ?_
        exact ih (i + 4) lt2 r02 r12 r22 g2 q2 H2 locs2 ls (by omega) (by omega) (by omega) hP2 (TOT_D hD) hS2 I2 hl
      have same := back lt r0 r1 r2 g q H locs hP hS I (by omega)
      refine lv_iload_n hx hb dL_law_68 rfl (lv_at hl 0 rfl) ?_
      refine lv_aload_n hx hb dL_law_69 rfl (lv_at hl 1 rfl) ?_
      refine va_slen hx hb hXs hbl hbA hS dL_law_70 ?_
      refine lv_iconst (v := 4) hx hb dL_law_71 (by decide) ?_
      refine lv_isub hx hb dL_law_72 ?_
      refine lv_icmp_gt (tgt := 554) hx hb dL_law_73 (by decide) (fun c_73 => ?_) (fun c_73 => ?_)
      · exact absurd ((gt_sub4 hL (by omega)).mp c_73) hc
      · refine lv_aload_n hx hb dL_law_76 rfl (lv_at hl 1 rfl) ?_
        refine lv_iload_n hx hb dL_law_77 rfl (lv_at hl 0 rfl) ?_
        refine sld_n (j := i) hx hb hXs hbl hbA hS (by omega) (by omega) dL_law_78 ?_
        refine lv_bipush (v := 15) hx hb dL_law_79 (by decide) ?_
        refine lv_iand hx hb dL_law_81 ?_
        obtain ⟨o, ho, eo⟩ := pk_andE (xs i) (m := 15) 4 (by decide)
        refine top_i eo ?_
        have ho : o < 16 := ho
        have to : (nI o).toInt = (o : Int) := nI_toInt (by omega)
        rcases (show o = 0 ∨ o = 1 ∨ o = 2 ∨ o = 3 ∨ o = 4 ∨ o = 5 ∨ o = 6 ∨ o = 7 ∨ o = 8 ∨ o = 9 ∨ o = 10 ∨ o = 11 ∨ 12 ≤ o by omega) with rfl | rfl | rfl | rfl | rfl | rfl | rfl | rfl | rfl | rfl | rfl | rfl | h12
        · refine lv_tableIn (off := 62) (tgt := 144) hx hb dL_law_82 (by decide) (by decide) (by decide) (by decide) ?_
          exact op_append hL C0 hK hP hD hS I hi4 hl (by omega) back
        · refine lv_tableIn (off := 95) (tgt := 177) hx hb dL_law_82 (by decide) (by decide) (by decide) (by decide) ?_
          exact op_count hL C0 hK hP hD hS I hi4 hl same
        · refine lv_tableIn (off := 118) (tgt := 200) hx hb dL_law_82 (by decide) (by decide) (by decide) (by decide) ?_
          exact op_start hL C0 hK hP hD hS I hi4 hl same
        · refine lv_tableIn (off := 151) (tgt := 233) hx hb dL_law_82 (by decide) (by decide) (by decide) (by decide) ?_
          exact op_figure hL C0 hK hP hD hS I hi4 hl same
        · refine lv_tableIn (off := 194) (tgt := 276) hx hb dL_law_82 (by decide) (by decide) (by decide) (by decide) ?_
          exact op_many hL C0 hK hP hD hS I hi4 hl same
        · refine lv_tableIn (off := 227) (tgt := 309) hx hb dL_law_82 (by decide) (by decide) (by decide) (by decide) ?_
          exact op_extreme hL C0 hK hP hD hS I hi4 hl same
        · refine lv_tableIn (off := 270) (tgt := 352) hx hb dL_law_82 (by decide) (by decide) (by decide) (by decide) ?_
          exact op_sum hL C0 hK hP hD hS I hi4 hl same
        · refine lv_tableIn (off := 304) (tgt := 386) hx hb dL_law_82 (by decide) (by decide) (by decide) (by decide) ?_
          exact op_at hL C0 hK hP hD hS I hi4 hl same
        · refine lv_tableIn (off := 353) (tgt := 435) hx hb dL_law_82 (by decide) (by decide) (by decide) (by decide) ?_
          exact op_steepest hL C0 hK hP hD hS I hi4 hl same
        · refine lv_tableIn (off := 386) (tgt := 468) hx hb dL_law_82 (by decide) (by decide) (by decide) (by decide) ?_
          exact op_median hL C0 hK hP hD hS I hi4 hl back
        · refine lv_tableIn (off := 419) (tgt := 501) hx hb dL_law_82 (by decide) (by decide) (by decide) (by decide) ?_
          exact op_reach hL C0 hK hP hD hS I hi4 hl same
        · refine lv_tableIn (off := 453) (tgt := 535) hx hb dL_law_82 (by decide) (by decide) (by decide) (by decide) ?_
          exact op_sound hL C0 hK hP hD hS I hi4 hl same
        · refine lv_tableOut (tgt := 548) hx hb dL_law_82 (Or.inr (by rw [to]; omega)) (by decide) ?_
          exact same
