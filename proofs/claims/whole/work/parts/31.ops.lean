section SLD
variable {p : Program} {l : Launch} {e : Env} {R : Room} {s : State} {m : MethodId} {args : Array Value} {below : List Frame} {meth : Method} {c : Code} {H : Heap} {locs : List Loc} {cells slots : Nat} {Q : State → Prop} {cc : ByteArray} {pc : Nat} {ls : Array Slot} {rest : List Value} {A : Nat → Prop} {H0 : Heap}
theorem sld_n {j b L : Nat} {xs : Nat → Int32} (hexec : p.tables.exec = Jvm.exec) (hb : c.code = cc) (hX : va_X b L xs s H0) (hbl : b < H0.size) (hbA : ¬ A b) (hS : va_S A H0 H locs) (hj : j < L) (hL : L < 2 ^ 31) (hdg : decode cc pc = .ok (.iaload, 1))
    (kk : W p l e R s m args below meth c H locs cells slots Q (F0 m (pc + 1) ls (.int (xs j) :: rest))) : W p l e R s m args below meth c H locs cells slots Q (F0 m pc ls (.int (nI j) :: .ref b :: rest)) :=
  va_sld hexec hb hX hbl hbA hS (vp_in_nI hj hL) hdg (by rw [nI_clamp (Nat.lt_trans hj hL)]; exact kk)
end SLD
theorem va_A_of {A : Nat → Prop} {w : va_W} {n : Nat} (hD : va_D A w) (h : ∀ z, n ≤ z → A z) : ∀ z, va_A w n z → A z := by
  intro z hz
  rcases hz with ⟨k, e, hz⟩ | hz
  · exact hD.2 k (z, e) hz
  · exact h z hz
theorem hne_of {q : mv} {lt : Int32} {r0 r1 r2 : rgV} (I : INV q lt r0 r1 r2) : ∀ j : Nat, j + 1 < m_P q → ¬ (nI (m_T q (j + 1)) - nI (m_T q j)).toInt64 = 0 := by
  intro j hj hz
  have h1 := I.2.1 j hj
  have h2 := I.1.2.1 (j + 1)
  rw [pk_sub (by omega), nI_l (by omega)] at hz
  have := (pk_lEQ (a := m_T q (j + 1) - m_T q j) (b := 0) (by omega) (by omega)).mp hz
  omega
theorem hps_of {q : mv} {lt : Int32} {r0 r1 r2 : rgV} (I : INV q lt r0 r1 r2) : ¬ m_P q = 0 → 1 ≤ kp q 0 ∧ 1 ≤ kp q 1 := by
  intro h0
  have hE := nE_ng I.2.2.1 I.2.1
  have key : ∀ k, k < 3 → 1 ≤ kp q k := fun k hk => by
    have := ng_pos q k (m_P q) (by omega)
    have h9 := I.1.2.2.1 k hk
    rcases kp_cases (hE k) with z | z <;> omega
  exact ⟨key 0 (by omega), key 1 (by omega)⟩
theorem kp_60 {q : mv} {lt : Int32} {r0 r1 r2 : rgV} (I : INV q lt r0 r1 r2) {k : Nat} (hk : k < 3) : kp q k ≤ 60 := by
  have h9 := I.1.2.2.1 k hk
  unfold kp
  split <;> omega
theorem tkV_N {r : rgV} {tm : Nat} {v : Int32} (hk : r_ok r) : v_N (tkV r tm v) = v_N r := by
  unfold tkV
  by_cases h : opn r tm
  · rw [if_pos h]
    exact (opV_ok hk).2.1
  · rw [if_neg h]
    rfl
/-- a time that both refuse, or that both take -/
theorem ap_cases {q : mv} {lt : Int32} {r0 r1 r2 : rgV} (I : INV q lt r0 r1 r2) (t : Int32) : (¬ lt < t ∧ (t < 0 ∨ (0 < m_P q ∧ ¬ nI (m_T q (m_P q - 1)) < t))) ∨ ∃ tm, tm < 2 ^ 31 ∧ t = nI tm ∧ lt < nI tm ∧ (0 < m_P q → m_T q (m_P q - 1) < tm) := by
  obtain ⟨hm, hu, hW, hw, i0, i1, i2, hl⟩ := I
  have hT := hm.2.1 (m_P q - 1)
  by_cases ht : t < 0
  · refine Or.inl ⟨fun z => ?_, Or.inl ht⟩
    rw [hl] at z
    by_cases h0 : m_P q = 0
    · rw [if_pos h0] at z
      rw [Int32.lt_iff_toInt_lt] at z ht
      have e1 : (-1 : Int32).toInt = -1 := by decide
      have e2 : (0 : Int32).toInt = 0 := by decide
      omega
    · rw [if_neg h0] at z
      rw [Int32.lt_iff_toInt_lt] at z ht
      rw [nI_toInt hT] at z
      have e2 : (0 : Int32).toInt = 0 := by decide
      omega
  · obtain ⟨tm, h1, h2⟩ := nI_of ht
    by_cases h0 : m_P q = 0
    · refine Or.inr ⟨tm, h1, h2, ?_, fun z => absurd z (by omega)⟩
      rw [hl, if_pos h0, Int32.lt_iff_toInt_lt, nI_toInt h1]
      have e1 : (-1 : Int32).toInt = -1 := by decide
      omega
    · rw [hl, if_neg h0]
      by_cases hc : m_T q (m_P q - 1) < tm
      · exact Or.inr ⟨tm, h1, h2, nI_lt hc h1, fun _ => hc⟩
      · refine Or.inl ⟨?_, Or.inr ⟨by omega, ?_⟩⟩
        · rw [h2]; exact nI_nlt (by omega) hT
        · rw [h2]; exact nI_nlt (by omega) hT
set_option maxHeartbeats 4000000 in
set_option maxRecDepth 100000 in
theorem op_many {p : Program} {l : Launch} {e : Env} {s : State} {m : MethodId} {below : List Frame} {meth : Method} {c : Code} {b L : Nat} {xs : Nat → Int32} {D : va_G} {cI cA cJ : ClassId} {x sq : Nat} {lt : Int32} {A0 A1 A2 : rgA} {r0 r1 r2 : rgV} {Y : mA} {q : mv} {g : Nat → Int32} {H : Heap} {locs : List Loc} {ls : Array Slot} {i : Nat} (hL : L ≤ 2053) (C0 : lw_At p s m meth c b L xs) (hK : va_K D vwCl (tyL cI cA cJ) s) (hP : va_P D vwCl (TOT cI cA cJ x sq lt A0 A1 A2 r0 r1 r2 g Y q) H) (hD : va_D (fun z : Nat => s.heap.size ≤ z) (TOT cI cA cJ x sq lt A0 A1 A2 r0 r1 r2 g Y q)) (hS : va_S (fun z : Nat => s.heap.size ≤ z) s.heap H locs) (I : INV q lt r0 r1 r2) (hi : i + 4 ≤ L) (hl : lv_has ls 4 [(3, .int (nI i)), (0, .ref b), (1, .ref x), (2, .ref (b_o Y))]) (kk : W p l e room_1 s m #[Value.ref b] below meth c H locs 28 3058 (lw_Z below #[Value.ref b] s) (F0 m 548 ls [])) : W p l e room_1 s m #[Value.ref b] below meth c H locs 28 3058 (lw_Z below #[Value.ref b] s) (F0 m 276 ls []) := by
  obtain ⟨hx, hb, hr, hml, hown, hts0, hXs, hbl, hlocks, hgv⟩ := id C0
  have hts : ∀ w ∈ wsL_law, w.before #[Value.ref b] s = true := fun w h => hts0 w (wsL_law_in w h)
  have hown : s.vm.findClass RL = some m.cls := hown
  have hbA : ¬ (fun z : Nat => s.heap.size ≤ z) b := Nat.not_le.mpr hbl
  have hP9 : va_P D vwCl (aW cI cA x sq lt A0 A1 A2 r0 r1 r2 ++ (sqW cI sq (v_N r0) g ++ mW cI cJ Y q)) H := hP
  have hA : va_P D vwCl (xW x sq lt A0 A1 A2 ++ (rgW cI cA A0 r0 ++ (rgW cI cA A1 r1 ++ rgW cI cA A2 r2))) H := va_P_l hP9
  have hX := va_P_l hA
  have h0 := va_P_l (va_P_r hA)
  have h1 := va_P_l (va_P_r (va_P_r hA))
  have h2 := va_P_r (va_P_r (va_P_r hA))
  have hQ := va_P_l (va_P_r hP9)
  have hM := va_P_r (va_P_r hP9)
  refine lv_aload_n hx hb dL_law_276 rfl (lv_at hl 2 rfl) ?_
  refine lv_aload_n hx hb dL_law_277 rfl (lv_at hl 1 rfl) ?_
  refine lv_iload_n hx hb dL_law_278 rfl (lv_at hl 0 rfl) ?_
  refine lv_iconst (v := 1) hx hb dL_law_279 (by decide) ?_
  refine lv_iadd hx hb dL_law_280 ?_
  refine top_i (nI_add _ 1) ?_
  refine sld_n (j := (i + 1)) hx hb hXs hbl hbA hS (by omega) (by omega) dL_law_281 ?_
  refine lv_aload_n hx hb dL_law_282 rfl (lv_at hl 1 rfl) ?_
  refine lv_iload_n hx hb dL_law_283 rfl (lv_at hl 0 rfl) ?_
  refine lv_iconst (v := 2) hx hb dL_law_284 (by decide) ?_
  refine lv_iadd hx hb dL_law_285 ?_
  refine top_i (nI_add _ 2) ?_
  refine sld_n (j := (i + 2)) hx hb hXs hbl hbA hS (by omega) (by omega) dL_law_286 ?_
  refine ro_call (va_runV (As := [.int (xs (i + 1)), .int (xs (i + 2))]) (rest := []) ⟨hx, hb, hml, hown, hts⟩ (k_many l I hX h0 h1 h2 (xs (i + 1)) (xs (i + 2))) (cwV 2 hts gL_law_X1_many rfl rfl rfl (by decide +kernel) ⟨Nat.le_of_ble_eq_true rfl, Nat.le_of_ble_eq_true rfl⟩) (ro_preV hK (va_recv hK hX (ci := 1) (q0 := 0) rfl rfl)) rfl rfl hl.1 rfl (lv_room (Nat.le_of_ble_eq_true rfl)) dL_law_287 ⟨Nat.le_of_ble_eq_true rfl, Nat.le_of_ble_eq_true rfl⟩) ?_
  refine lv_aload_n hx hb dL_law_290 rfl (lv_at hl 3 rfl) ?_
  refine lv_aload_n hx hb dL_law_291 rfl (lv_at hl 1 rfl) ?_
  refine lv_iload_n hx hb dL_law_292 rfl (lv_at hl 0 rfl) ?_
  refine lv_iconst (v := 1) hx hb dL_law_293 (by decide) ?_
  refine lv_iadd hx hb dL_law_294 ?_
  refine top_i (nI_add _ 1) ?_
  refine sld_n (j := (i + 1)) hx hb hXs hbl hbA hS (by omega) (by omega) dL_law_295 ?_
  refine lv_aload_n hx hb dL_law_296 rfl (lv_at hl 1 rfl) ?_
  refine lv_iload_n hx hb dL_law_297 rfl (lv_at hl 0 rfl) ?_
  refine lv_iconst (v := 2) hx hb dL_law_298 (by decide) ?_
  refine lv_iadd hx hb dL_law_299 ?_
  refine top_i (nI_add _ 2) ?_
  refine sld_n (j := (i + 2)) hx hb hXs hbl hbA hS (by omega) (by omega) dL_law_300 ?_
  refine ro_call (va_runV (As := [.int (xs (i + 1)), .int (xs (i + 2))]) (rest := [.int (nI (mnc q (xs (i + 1)) (xs (i + 2)) (m_P q)))]) ⟨hx, hb, hml, hown, hts⟩ (c_X2_many l Y q I.1 hM (xs (i + 1)) (xs (i + 2))) (cwV 2 hts gL_law_X2_many rfl rfl rfl (by decide +kernel) ⟨Nat.le_of_ble_eq_true rfl, Nat.le_of_ble_eq_true rfl⟩) (ro_preV hK (va_recv hK hM (ci := 2) (q0 := 0) rfl rfl)) rfl rfl hl.1 rfl (lv_room (Nat.le_of_ble_eq_true rfl)) dL_law_301 ⟨Nat.le_of_ble_eq_true rfl, Nat.le_of_ble_eq_true rfl⟩) ?_
  refine lv_icmp_eq (tgt := 548) hx hb dL_law_304 (by decide) (fun c_304 => ?_) (fun c_304 => ?_)
  · exact kk
  · exact absurd rfl c_304
set_option maxHeartbeats 4000000 in
set_option maxRecDepth 100000 in
theorem op_extreme {p : Program} {l : Launch} {e : Env} {s : State} {m : MethodId} {below : List Frame} {meth : Method} {c : Code} {b L : Nat} {xs : Nat → Int32} {D : va_G} {cI cA cJ : ClassId} {x sq : Nat} {lt : Int32} {A0 A1 A2 : rgA} {r0 r1 r2 : rgV} {Y : mA} {q : mv} {g : Nat → Int32} {H : Heap} {locs : List Loc} {ls : Array Slot} {i : Nat} (hL : L ≤ 2053) (C0 : lw_At p s m meth c b L xs) (hK : va_K D vwCl (tyL cI cA cJ) s) (hP : va_P D vwCl (TOT cI cA cJ x sq lt A0 A1 A2 r0 r1 r2 g Y q) H) (hD : va_D (fun z : Nat => s.heap.size ≤ z) (TOT cI cA cJ x sq lt A0 A1 A2 r0 r1 r2 g Y q)) (hS : va_S (fun z : Nat => s.heap.size ≤ z) s.heap H locs) (I : INV q lt r0 r1 r2) (hi : i + 4 ≤ L) (hl : lv_has ls 4 [(3, .int (nI i)), (0, .ref b), (1, .ref x), (2, .ref (b_o Y))]) (kk : W p l e room_1 s m #[Value.ref b] below meth c H locs 28 3058 (lw_Z below #[Value.ref b] s) (F0 m 548 ls [])) : W p l e room_1 s m #[Value.ref b] below meth c H locs 28 3058 (lw_Z below #[Value.ref b] s) (F0 m 309 ls []) := by
  obtain ⟨hx, hb, hr, hml, hown, hts0, hXs, hbl, hlocks, hgv⟩ := id C0
  have hts : ∀ w ∈ wsL_law, w.before #[Value.ref b] s = true := fun w h => hts0 w (wsL_law_in w h)
  have hown : s.vm.findClass RL = some m.cls := hown
  have hbA : ¬ (fun z : Nat => s.heap.size ≤ z) b := Nat.not_le.mpr hbl
  have hP9 : va_P D vwCl (aW cI cA x sq lt A0 A1 A2 r0 r1 r2 ++ (sqW cI sq (v_N r0) g ++ mW cI cJ Y q)) H := hP
  have hA : va_P D vwCl (xW x sq lt A0 A1 A2 ++ (rgW cI cA A0 r0 ++ (rgW cI cA A1 r1 ++ rgW cI cA A2 r2))) H := va_P_l hP9
  have hX := va_P_l hA
  have h0 := va_P_l (va_P_r hA)
  have h1 := va_P_l (va_P_r (va_P_r hA))
  have h2 := va_P_r (va_P_r (va_P_r hA))
  have hQ := va_P_l (va_P_r hP9)
  have hM := va_P_r (va_P_r hP9)
  refine lv_aload_n hx hb dL_law_309 rfl (lv_at hl 2 rfl) ?_
  refine lv_aload_n hx hb dL_law_310 rfl (lv_at hl 1 rfl) ?_
  refine lv_iload_n hx hb dL_law_311 rfl (lv_at hl 0 rfl) ?_
  refine lv_iconst (v := 1) hx hb dL_law_312 (by decide) ?_
  refine lv_iadd hx hb dL_law_313 ?_
  refine top_i (nI_add _ 1) ?_
  refine sld_n (j := (i + 1)) hx hb hXs hbl hbA hS (by omega) (by omega) dL_law_314 ?_
  refine lv_aload_n hx hb dL_law_315 rfl (lv_at hl 1 rfl) ?_
  refine lv_iload_n hx hb dL_law_316 rfl (lv_at hl 0 rfl) ?_
  refine lv_iconst (v := 2) hx hb dL_law_317 (by decide) ?_
  refine lv_iadd hx hb dL_law_318 ?_
  refine top_i (nI_add _ 2) ?_
  refine sld_n (j := (i + 2)) hx hb hXs hbl hbA hS (by omega) (by omega) dL_law_319 ?_
  refine lv_aload_n hx hb dL_law_320 rfl (lv_at hl 1 rfl) ?_
  refine lv_iload_n hx hb dL_law_321 rfl (lv_at hl 0 rfl) ?_
  refine lv_iconst (v := 3) hx hb dL_law_322 (by decide) ?_
  refine lv_iadd hx hb dL_law_323 ?_
  refine top_i (nI_add _ 3) ?_
  refine sld_n (j := (i + 3)) hx hb hXs hbl hbA hS (by omega) (by omega) dL_law_324 ?_
  refine ro_call (va_runV (As := [.int (xs (i + 1)), .int (xs (i + 2)), .int (xs (i + 3))]) (rest := []) ⟨hx, hb, hml, hown, hts⟩ (k_extreme l I hX h0 h1 h2 (xs (i + 1)) (xs (i + 2)) (xs (i + 3))) (cwV 3 hts gL_law_X1_extreme rfl rfl rfl (by decide +kernel) ⟨Nat.le_of_ble_eq_true rfl, Nat.le_of_ble_eq_true rfl⟩) (ro_preV hK (va_recv hK hX (ci := 1) (q0 := 0) rfl rfl)) rfl rfl hl.1 rfl (lv_room (Nat.le_of_ble_eq_true rfl)) dL_law_325 ⟨Nat.le_of_ble_eq_true rfl, Nat.le_of_ble_eq_true rfl⟩) ?_
  refine lv_aload_n hx hb dL_law_328 rfl (lv_at hl 3 rfl) ?_
  refine lv_aload_n hx hb dL_law_329 rfl (lv_at hl 1 rfl) ?_
  refine lv_iload_n hx hb dL_law_330 rfl (lv_at hl 0 rfl) ?_
  refine lv_iconst (v := 1) hx hb dL_law_331 (by decide) ?_
  refine lv_iadd hx hb dL_law_332 ?_
  refine top_i (nI_add _ 1) ?_
  refine sld_n (j := (i + 1)) hx hb hXs hbl hbA hS (by omega) (by omega) dL_law_333 ?_
  refine lv_aload_n hx hb dL_law_334 rfl (lv_at hl 1 rfl) ?_
  refine lv_iload_n hx hb dL_law_335 rfl (lv_at hl 0 rfl) ?_
  refine lv_iconst (v := 2) hx hb dL_law_336 (by decide) ?_
  refine lv_iadd hx hb dL_law_337 ?_
  refine top_i (nI_add _ 2) ?_
  refine sld_n (j := (i + 2)) hx hb hXs hbl hbA hS (by omega) (by omega) dL_law_338 ?_
  refine lv_aload_n hx hb dL_law_339 rfl (lv_at hl 1 rfl) ?_
  refine lv_iload_n hx hb dL_law_340 rfl (lv_at hl 0 rfl) ?_
  refine lv_iconst (v := 3) hx hb dL_law_341 (by decide) ?_
  refine lv_iadd hx hb dL_law_342 ?_
  refine top_i (nI_add _ 3) ?_
  refine sld_n (j := (i + 3)) hx hb hXs hbl hbA hS (by omega) (by omega) dL_law_343 ?_
  refine ro_call (va_runV (As := [.int (xs (i + 1)), .int (xs (i + 2)), .int (xs (i + 3))]) (rest := [.int (exM q (xs (i + 1)) (xs (i + 2)) (xs (i + 3)))]) ⟨hx, hb, hml, hown, hts⟩ (c_X2_extreme l Y q I.1 hM (xs (i + 1)) (xs (i + 2)) (xs (i + 3))) (cwV 3 hts gL_law_X2_extreme rfl rfl rfl (by decide +kernel) ⟨Nat.le_of_ble_eq_true rfl, Nat.le_of_ble_eq_true rfl⟩) (ro_preV hK (va_recv hK hM (ci := 2) (q0 := 0) rfl rfl)) rfl rfl hl.1 rfl (lv_room (Nat.le_of_ble_eq_true rfl)) dL_law_344 ⟨Nat.le_of_ble_eq_true rfl, Nat.le_of_ble_eq_true rfl⟩) ?_
  refine lv_icmp_eq (tgt := 548) hx hb dL_law_347 (by decide) (fun c_347 => ?_) (fun c_347 => ?_)
  · exact kk
  · exact absurd rfl c_347
set_option maxHeartbeats 4000000 in
set_option maxRecDepth 100000 in
theorem op_sum {p : Program} {l : Launch} {e : Env} {s : State} {m : MethodId} {below : List Frame} {meth : Method} {c : Code} {b L : Nat} {xs : Nat → Int32} {D : va_G} {cI cA cJ : ClassId} {x sq : Nat} {lt : Int32} {A0 A1 A2 : rgA} {r0 r1 r2 : rgV} {Y : mA} {q : mv} {g : Nat → Int32} {H : Heap} {locs : List Loc} {ls : Array Slot} {i : Nat} (hL : L ≤ 2053) (C0 : lw_At p s m meth c b L xs) (hK : va_K D vwCl (tyL cI cA cJ) s) (hP : va_P D vwCl (TOT cI cA cJ x sq lt A0 A1 A2 r0 r1 r2 g Y q) H) (hD : va_D (fun z : Nat => s.heap.size ≤ z) (TOT cI cA cJ x sq lt A0 A1 A2 r0 r1 r2 g Y q)) (hS : va_S (fun z : Nat => s.heap.size ≤ z) s.heap H locs) (I : INV q lt r0 r1 r2) (hi : i + 4 ≤ L) (hl : lv_has ls 4 [(3, .int (nI i)), (0, .ref b), (1, .ref x), (2, .ref (b_o Y))]) (kk : W p l e room_1 s m #[Value.ref b] below meth c H locs 28 3058 (lw_Z below #[Value.ref b] s) (F0 m 548 ls [])) : W p l e room_1 s m #[Value.ref b] below meth c H locs 28 3058 (lw_Z below #[Value.ref b] s) (F0 m 352 ls []) := by
  obtain ⟨hx, hb, hr, hml, hown, hts0, hXs, hbl, hlocks, hgv⟩ := id C0
  have hts : ∀ w ∈ wsL_law, w.before #[Value.ref b] s = true := fun w h => hts0 w (wsL_law_in w h)
  have hown : s.vm.findClass RL = some m.cls := hown
  have hbA : ¬ (fun z : Nat => s.heap.size ≤ z) b := Nat.not_le.mpr hbl
  have hP9 : va_P D vwCl (aW cI cA x sq lt A0 A1 A2 r0 r1 r2 ++ (sqW cI sq (v_N r0) g ++ mW cI cJ Y q)) H := hP
  have hA : va_P D vwCl (xW x sq lt A0 A1 A2 ++ (rgW cI cA A0 r0 ++ (rgW cI cA A1 r1 ++ rgW cI cA A2 r2))) H := va_P_l hP9
  have hX := va_P_l hA
  have h0 := va_P_l (va_P_r hA)
  have h1 := va_P_l (va_P_r (va_P_r hA))
  have h2 := va_P_r (va_P_r (va_P_r hA))
  have hQ := va_P_l (va_P_r hP9)
  have hM := va_P_r (va_P_r hP9)
  refine lv_aload_n hx hb dL_law_352 rfl (lv_at hl 2 rfl) ?_
  refine lv_aload_n hx hb dL_law_353 rfl (lv_at hl 1 rfl) ?_
  refine lv_iload_n hx hb dL_law_354 rfl (lv_at hl 0 rfl) ?_
  refine lv_iconst (v := 1) hx hb dL_law_355 (by decide) ?_
  refine lv_iadd hx hb dL_law_356 ?_
  refine top_i (nI_add _ 1) ?_
  refine sld_n (j := (i + 1)) hx hb hXs hbl hbA hS (by omega) (by omega) dL_law_357 ?_
  refine lv_aload_n hx hb dL_law_358 rfl (lv_at hl 1 rfl) ?_
  refine lv_iload_n hx hb dL_law_359 rfl (lv_at hl 0 rfl) ?_
  refine lv_iconst (v := 2) hx hb dL_law_360 (by decide) ?_
  refine lv_iadd hx hb dL_law_361 ?_
  refine top_i (nI_add _ 2) ?_
  refine sld_n (j := (i + 2)) hx hb hXs hbl hbA hS (by omega) (by omega) dL_law_362 ?_
  refine ro_call (va_runV (As := [.int (xs (i + 1)), .int (xs (i + 2))]) (rest := []) ⟨hx, hb, hml, hown, hts⟩ (k_sum l I hX h0 h1 h2 (xs (i + 1)) (xs (i + 2))) (cwV 2 hts gL_law_X1_sum rfl rfl rfl (by decide +kernel) ⟨Nat.le_of_ble_eq_true rfl, Nat.le_of_ble_eq_true rfl⟩) (ro_preV hK (va_recv hK hX (ci := 1) (q0 := 0) rfl rfl)) rfl rfl hl.1 rfl (lv_room (Nat.le_of_ble_eq_true rfl)) dL_law_363 ⟨Nat.le_of_ble_eq_true rfl, Nat.le_of_ble_eq_true rfl⟩) ?_
  refine lv_aload_n hx hb dL_law_366 rfl (lv_at hl 3 rfl) ?_
  refine lv_aload_n hx hb dL_law_367 rfl (lv_at hl 1 rfl) ?_
  refine lv_iload_n hx hb dL_law_368 rfl (lv_at hl 0 rfl) ?_
  refine lv_iconst (v := 1) hx hb dL_law_369 (by decide) ?_
  refine lv_iadd hx hb dL_law_370 ?_
  refine top_i (nI_add _ 1) ?_
  refine sld_n (j := (i + 1)) hx hb hXs hbl hbA hS (by omega) (by omega) dL_law_371 ?_
  refine lv_aload_n hx hb dL_law_372 rfl (lv_at hl 1 rfl) ?_
  refine lv_iload_n hx hb dL_law_373 rfl (lv_at hl 0 rfl) ?_
  refine lv_iconst (v := 2) hx hb dL_law_374 (by decide) ?_
  refine lv_iadd hx hb dL_law_375 ?_
  refine top_i (nI_add _ 2) ?_
  refine sld_n (j := (i + 2)) hx hb hXs hbl hbA hS (by omega) (by omega) dL_law_376 ?_
  refine ro_call (va_runV (As := [.int (xs (i + 1)), .int (xs (i + 2))]) (rest := [.long (smq q (xs (i + 1)) (xs (i + 2)) (m_P q))]) ⟨hx, hb, hml, hown, hts⟩ (c_X2_sum l Y q I.1 hM (xs (i + 1)) (xs (i + 2))) (cwV 2 hts gL_law_X2_sum rfl rfl rfl (by decide +kernel) ⟨Nat.le_of_ble_eq_true rfl, Nat.le_of_ble_eq_true rfl⟩) (ro_preV hK (va_recv hK hM (ci := 2) (q0 := 0) rfl rfl)) rfl rfl hl.1 rfl (lv_room (Nat.le_of_ble_eq_true rfl)) dL_law_377 ⟨Nat.le_of_ble_eq_true rfl, Nat.le_of_ble_eq_true rfl⟩) ?_
  refine W.lcmp hx hb dL_law_380 ?_
  refine lv_if_eq (tgt := 548) hx hb dL_law_381 (by decide) (fun c_381 => ?_) (fun c_381 => ?_)
  · have c_381 := (lg_cmp_eq _ _).mp c_381
    exact kk
  · have c_381 := mt (lg_cmp_eq _ _).mpr c_381
    exact absurd rfl c_381
set_option maxHeartbeats 4000000 in
set_option maxRecDepth 100000 in
theorem op_at {p : Program} {l : Launch} {e : Env} {s : State} {m : MethodId} {below : List Frame} {meth : Method} {c : Code} {b L : Nat} {xs : Nat → Int32} {D : va_G} {cI cA cJ : ClassId} {x sq : Nat} {lt : Int32} {A0 A1 A2 : rgA} {r0 r1 r2 : rgV} {Y : mA} {q : mv} {g : Nat → Int32} {H : Heap} {locs : List Loc} {ls : Array Slot} {i : Nat} (hL : L ≤ 2053) (C0 : lw_At p s m meth c b L xs) (hK : va_K D vwCl (tyL cI cA cJ) s) (hP : va_P D vwCl (TOT cI cA cJ x sq lt A0 A1 A2 r0 r1 r2 g Y q) H) (hD : va_D (fun z : Nat => s.heap.size ≤ z) (TOT cI cA cJ x sq lt A0 A1 A2 r0 r1 r2 g Y q)) (hS : va_S (fun z : Nat => s.heap.size ≤ z) s.heap H locs) (I : INV q lt r0 r1 r2) (hi : i + 4 ≤ L) (hl : lv_has ls 4 [(3, .int (nI i)), (0, .ref b), (1, .ref x), (2, .ref (b_o Y))]) (kk : W p l e room_1 s m #[Value.ref b] below meth c H locs 28 3058 (lw_Z below #[Value.ref b] s) (F0 m 548 ls [])) : W p l e room_1 s m #[Value.ref b] below meth c H locs 28 3058 (lw_Z below #[Value.ref b] s) (F0 m 386 ls []) := by
  obtain ⟨hx, hb, hr, hml, hown, hts0, hXs, hbl, hlocks, hgv⟩ := id C0
  have hts : ∀ w ∈ wsL_law, w.before #[Value.ref b] s = true := fun w h => hts0 w (wsL_law_in w h)
  have hown : s.vm.findClass RL = some m.cls := hown
  have hbA : ¬ (fun z : Nat => s.heap.size ≤ z) b := Nat.not_le.mpr hbl
  have hP9 : va_P D vwCl (aW cI cA x sq lt A0 A1 A2 r0 r1 r2 ++ (sqW cI sq (v_N r0) g ++ mW cI cJ Y q)) H := hP
  have hA : va_P D vwCl (xW x sq lt A0 A1 A2 ++ (rgW cI cA A0 r0 ++ (rgW cI cA A1 r1 ++ rgW cI cA A2 r2))) H := va_P_l hP9
  have hX := va_P_l hA
  have h0 := va_P_l (va_P_r hA)
  have h1 := va_P_l (va_P_r (va_P_r hA))
  have h2 := va_P_r (va_P_r (va_P_r hA))
  have hQ := va_P_l (va_P_r hP9)
  have hM := va_P_r (va_P_r hP9)
  refine lv_aload_n hx hb dL_law_386 rfl (lv_at hl 2 rfl) ?_
  refine lv_aload_n hx hb dL_law_387 rfl (lv_at hl 1 rfl) ?_
  refine lv_iload_n hx hb dL_law_388 rfl (lv_at hl 0 rfl) ?_
  refine lv_iconst (v := 1) hx hb dL_law_389 (by decide) ?_
  refine lv_iadd hx hb dL_law_390 ?_
  refine top_i (nI_add _ 1) ?_
  refine sld_n (j := (i + 1)) hx hb hXs hbl hbA hS (by omega) (by omega) dL_law_391 ?_
  refine lv_aload_n hx hb dL_law_392 rfl (lv_at hl 1 rfl) ?_
  refine lv_iload_n hx hb dL_law_393 rfl (lv_at hl 0 rfl) ?_
  refine lv_iconst (v := 2) hx hb dL_law_394 (by decide) ?_
  refine lv_iadd hx hb dL_law_395 ?_
  refine top_i (nI_add _ 2) ?_
  refine sld_n (j := (i + 2)) hx hb hXs hbl hbA hS (by omega) (by omega) dL_law_396 ?_
  refine lv_if_eq (tgt := 404) hx hb dL_law_397 (by decide) (fun c_397 => ?_) (fun c_397 => ?_)
  · refine lv_iconst (v := 0) hx hb dL_law_404 (by decide) ?_
    refine ro_call (va_runV (As := [.int (xs (i + 1)), .int 0]) (rest := []) ⟨hx, hb, hml, hown, hts⟩ (k_at l I hX h0 h1 h2 (xs (i + 1)) 0) (cwV 2 hts gL_law_X1_at rfl rfl rfl (by decide +kernel) ⟨Nat.le_of_ble_eq_true rfl, Nat.le_of_ble_eq_true rfl⟩) (ro_preV hK (va_recv hK hX (ci := 1) (q0 := 0) rfl rfl)) rfl rfl hl.1 rfl (lv_room (Nat.le_of_ble_eq_true rfl)) dL_law_405 ⟨Nat.le_of_ble_eq_true rfl, Nat.le_of_ble_eq_true rfl⟩) ?_
    refine lv_aload_n hx hb dL_law_408 rfl (lv_at hl 3 rfl) ?_
    refine lv_aload_n hx hb dL_law_409 rfl (lv_at hl 1 rfl) ?_
    refine lv_iload_n hx hb dL_law_410 rfl (lv_at hl 0 rfl) ?_
    refine lv_iconst (v := 1) hx hb dL_law_411 (by decide) ?_
    refine lv_iadd hx hb dL_law_412 ?_
    refine top_i (nI_add _ 1) ?_
    refine sld_n (j := (i + 1)) hx hb hXs hbl hbA hS (by omega) (by omega) dL_law_413 ?_
    refine lv_aload_n hx hb dL_law_414 rfl (lv_at hl 1 rfl) ?_
    refine lv_iload_n hx hb dL_law_415 rfl (lv_at hl 0 rfl) ?_
    refine lv_iconst (v := 2) hx hb dL_law_416 (by decide) ?_
    refine lv_iadd hx hb dL_law_417 ?_
    refine top_i (nI_add _ 2) ?_
    refine sld_n (j := (i + 2)) hx hb hXs hbl hbA hS (by omega) (by omega) dL_law_418 ?_
    refine lv_if_eq (tgt := 426) hx hb dL_law_419 (by decide) (fun c_419 => ?_) (fun c_419 => ?_)
    · refine lv_iconst (v := 0) hx hb dL_law_426 (by decide) ?_
      refine ro_call (va_runV (As := [.int (xs (i + 1)), .int 0]) (rest := [.int (atM q (xs (i + 1)) 0)]) ⟨hx, hb, hml, hown, hts⟩ (c_X2_at l Y q I.1 hM (hne_of I) (xs (i + 1)) 0) (cwV 2 hts gL_law_X2_at rfl rfl rfl (by decide +kernel) ⟨Nat.le_of_ble_eq_true rfl, Nat.le_of_ble_eq_true rfl⟩) (ro_preV hK (va_recv hK hM (ci := 2) (q0 := 0) rfl rfl)) rfl rfl hl.1 rfl (lv_room (Nat.le_of_ble_eq_true rfl)) dL_law_427 ⟨Nat.le_of_ble_eq_true rfl, Nat.le_of_ble_eq_true rfl⟩) ?_
      refine lv_icmp_eq (tgt := 548) hx hb dL_law_430 (by decide) (fun c_430 => ?_) (fun c_430 => ?_)
      · exact kk
      · exact absurd rfl c_430
    · exact absurd c_397 c_419
  · refine lv_iconst (v := 1) hx hb dL_law_400 (by decide) ?_
    refine lv_goto (tgt := 405) hx hb dL_law_401 (by decide) ?_
    refine ro_call (va_runV (As := [.int (xs (i + 1)), .int 1]) (rest := []) ⟨hx, hb, hml, hown, hts⟩ (k_at l I hX h0 h1 h2 (xs (i + 1)) 1) (cwV 2 hts gL_law_X1_at rfl rfl rfl (by decide +kernel) ⟨Nat.le_of_ble_eq_true rfl, Nat.le_of_ble_eq_true rfl⟩) (ro_preV hK (va_recv hK hX (ci := 1) (q0 := 0) rfl rfl)) rfl rfl hl.1 rfl (lv_room (Nat.le_of_ble_eq_true rfl)) dL_law_405 ⟨Nat.le_of_ble_eq_true rfl, Nat.le_of_ble_eq_true rfl⟩) ?_
    refine lv_aload_n hx hb dL_law_408 rfl (lv_at hl 3 rfl) ?_
    refine lv_aload_n hx hb dL_law_409 rfl (lv_at hl 1 rfl) ?_
    refine lv_iload_n hx hb dL_law_410 rfl (lv_at hl 0 rfl) ?_
    refine lv_iconst (v := 1) hx hb dL_law_411 (by decide) ?_
    refine lv_iadd hx hb dL_law_412 ?_
    refine top_i (nI_add _ 1) ?_
    refine sld_n (j := (i + 1)) hx hb hXs hbl hbA hS (by omega) (by omega) dL_law_413 ?_
    refine lv_aload_n hx hb dL_law_414 rfl (lv_at hl 1 rfl) ?_
    refine lv_iload_n hx hb dL_law_415 rfl (lv_at hl 0 rfl) ?_
    refine lv_iconst (v := 2) hx hb dL_law_416 (by decide) ?_
    refine lv_iadd hx hb dL_law_417 ?_
    refine top_i (nI_add _ 2) ?_
    refine sld_n (j := (i + 2)) hx hb hXs hbl hbA hS (by omega) (by omega) dL_law_418 ?_
    refine lv_if_eq (tgt := 426) hx hb dL_law_419 (by decide) (fun c_419 => ?_) (fun c_419 => ?_)
    · exact absurd c_419 c_397
    · refine lv_iconst (v := 1) hx hb dL_law_422 (by decide) ?_
      refine lv_goto (tgt := 427) hx hb dL_law_423 (by decide) ?_
      refine ro_call (va_runV (As := [.int (xs (i + 1)), .int 1]) (rest := [.int (atM q (xs (i + 1)) 1)]) ⟨hx, hb, hml, hown, hts⟩ (c_X2_at l Y q I.1 hM (hne_of I) (xs (i + 1)) 1) (cwV 2 hts gL_law_X2_at rfl rfl rfl (by decide +kernel) ⟨Nat.le_of_ble_eq_true rfl, Nat.le_of_ble_eq_true rfl⟩) (ro_preV hK (va_recv hK hM (ci := 2) (q0 := 0) rfl rfl)) rfl rfl hl.1 rfl (lv_room (Nat.le_of_ble_eq_true rfl)) dL_law_427 ⟨Nat.le_of_ble_eq_true rfl, Nat.le_of_ble_eq_true rfl⟩) ?_
      refine lv_icmp_eq (tgt := 548) hx hb dL_law_430 (by decide) (fun c_430 => ?_) (fun c_430 => ?_)
      · exact kk
      · exact absurd rfl c_430
set_option maxHeartbeats 4000000 in
set_option maxRecDepth 100000 in
theorem op_steepest {p : Program} {l : Launch} {e : Env} {s : State} {m : MethodId} {below : List Frame} {meth : Method} {c : Code} {b L : Nat} {xs : Nat → Int32} {D : va_G} {cI cA cJ : ClassId} {x sq : Nat} {lt : Int32} {A0 A1 A2 : rgA} {r0 r1 r2 : rgV} {Y : mA} {q : mv} {g : Nat → Int32} {H : Heap} {locs : List Loc} {ls : Array Slot} {i : Nat} (hL : L ≤ 2053) (C0 : lw_At p s m meth c b L xs) (hK : va_K D vwCl (tyL cI cA cJ) s) (hP : va_P D vwCl (TOT cI cA cJ x sq lt A0 A1 A2 r0 r1 r2 g Y q) H) (hD : va_D (fun z : Nat => s.heap.size ≤ z) (TOT cI cA cJ x sq lt A0 A1 A2 r0 r1 r2 g Y q)) (hS : va_S (fun z : Nat => s.heap.size ≤ z) s.heap H locs) (I : INV q lt r0 r1 r2) (hi : i + 4 ≤ L) (hl : lv_has ls 4 [(3, .int (nI i)), (0, .ref b), (1, .ref x), (2, .ref (b_o Y))]) (kk : W p l e room_1 s m #[Value.ref b] below meth c H locs 28 3058 (lw_Z below #[Value.ref b] s) (F0 m 548 ls [])) : W p l e room_1 s m #[Value.ref b] below meth c H locs 28 3058 (lw_Z below #[Value.ref b] s) (F0 m 435 ls []) := by
  obtain ⟨hx, hb, hr, hml, hown, hts0, hXs, hbl, hlocks, hgv⟩ := id C0
  have hts : ∀ w ∈ wsL_law, w.before #[Value.ref b] s = true := fun w h => hts0 w (wsL_law_in w h)
  have hown : s.vm.findClass RL = some m.cls := hown
  have hbA : ¬ (fun z : Nat => s.heap.size ≤ z) b := Nat.not_le.mpr hbl
  have hP9 : va_P D vwCl (aW cI cA x sq lt A0 A1 A2 r0 r1 r2 ++ (sqW cI sq (v_N r0) g ++ mW cI cJ Y q)) H := hP
  have hA : va_P D vwCl (xW x sq lt A0 A1 A2 ++ (rgW cI cA A0 r0 ++ (rgW cI cA A1 r1 ++ rgW cI cA A2 r2))) H := va_P_l hP9
  have hX := va_P_l hA
  have h0 := va_P_l (va_P_r hA)
  have h1 := va_P_l (va_P_r (va_P_r hA))
  have h2 := va_P_r (va_P_r (va_P_r hA))
  have hQ := va_P_l (va_P_r hP9)
  have hM := va_P_r (va_P_r hP9)
  refine lv_aload_n hx hb dL_law_435 rfl (lv_at hl 2 rfl) ?_
  refine lv_aload_n hx hb dL_law_436 rfl (lv_at hl 1 rfl) ?_
  refine lv_iload_n hx hb dL_law_437 rfl (lv_at hl 0 rfl) ?_
  refine lv_iconst (v := 1) hx hb dL_law_438 (by decide) ?_
  refine lv_iadd hx hb dL_law_439 ?_
  refine top_i (nI_add _ 1) ?_
  refine sld_n (j := (i + 1)) hx hb hXs hbl hbA hS (by omega) (by omega) dL_law_440 ?_
  refine lv_aload_n hx hb dL_law_441 rfl (lv_at hl 1 rfl) ?_
  refine lv_iload_n hx hb dL_law_442 rfl (lv_at hl 0 rfl) ?_
  refine lv_iconst (v := 2) hx hb dL_law_443 (by decide) ?_
  refine lv_iadd hx hb dL_law_444 ?_
  refine top_i (nI_add _ 2) ?_
  refine sld_n (j := (i + 2)) hx hb hXs hbl hbA hS (by omega) (by omega) dL_law_445 ?_
  refine ro_call (va_runV (As := [.int (xs (i + 1)), .int (xs (i + 2))]) (rest := []) ⟨hx, hb, hml, hown, hts⟩ (k_steepest l I hX h0 h1 h2 (xs (i + 1)) (xs (i + 2))) (cwV 2 hts gL_law_X1_steepest rfl rfl rfl (by decide +kernel) ⟨Nat.le_of_ble_eq_true rfl, Nat.le_of_ble_eq_true rfl⟩) (ro_preV hK (va_recv hK hX (ci := 1) (q0 := 0) rfl rfl)) rfl rfl hl.1 rfl (lv_room (Nat.le_of_ble_eq_true rfl)) dL_law_446 ⟨Nat.le_of_ble_eq_true rfl, Nat.le_of_ble_eq_true rfl⟩) ?_
  refine lv_aload_n hx hb dL_law_449 rfl (lv_at hl 3 rfl) ?_
  refine lv_aload_n hx hb dL_law_450 rfl (lv_at hl 1 rfl) ?_
  refine lv_iload_n hx hb dL_law_451 rfl (lv_at hl 0 rfl) ?_
  refine lv_iconst (v := 1) hx hb dL_law_452 (by decide) ?_
  refine lv_iadd hx hb dL_law_453 ?_
  refine top_i (nI_add _ 1) ?_
  refine sld_n (j := (i + 1)) hx hb hXs hbl hbA hS (by omega) (by omega) dL_law_454 ?_
  refine lv_aload_n hx hb dL_law_455 rfl (lv_at hl 1 rfl) ?_
  refine lv_iload_n hx hb dL_law_456 rfl (lv_at hl 0 rfl) ?_
  refine lv_iconst (v := 2) hx hb dL_law_457 (by decide) ?_
  refine lv_iadd hx hb dL_law_458 ?_
  refine top_i (nI_add _ 2) ?_
  refine sld_n (j := (i + 2)) hx hb hXs hbl hbA hS (by omega) (by omega) dL_law_459 ?_
  refine ro_call (va_runV (As := [.int (xs (i + 1)), .int (xs (i + 2))]) (rest := [.int (spM q (xs (i + 1)) (xs (i + 2)))]) ⟨hx, hb, hml, hown, hts⟩ (c_X2_steepest l Y q I.1 hM (xs (i + 1)) (xs (i + 2))) (cwV 2 hts gL_law_X2_steepest rfl rfl rfl (by decide +kernel) ⟨Nat.le_of_ble_eq_true rfl, Nat.le_of_ble_eq_true rfl⟩) (ro_preV hK (va_recv hK hM (ci := 2) (q0 := 0) rfl rfl)) rfl rfl hl.1 rfl (lv_room (Nat.le_of_ble_eq_true rfl)) dL_law_460 ⟨Nat.le_of_ble_eq_true rfl, Nat.le_of_ble_eq_true rfl⟩) ?_
  refine lv_icmp_eq (tgt := 548) hx hb dL_law_463 (by decide) (fun c_463 => ?_) (fun c_463 => ?_)
  · exact kk
  · exact absurd rfl c_463
set_option maxHeartbeats 4000000 in
set_option maxRecDepth 100000 in
theorem op_reach {p : Program} {l : Launch} {e : Env} {s : State} {m : MethodId} {below : List Frame} {meth : Method} {c : Code} {b L : Nat} {xs : Nat → Int32} {D : va_G} {cI cA cJ : ClassId} {x sq : Nat} {lt : Int32} {A0 A1 A2 : rgA} {r0 r1 r2 : rgV} {Y : mA} {q : mv} {g : Nat → Int32} {H : Heap} {locs : List Loc} {ls : Array Slot} {i : Nat} (hL : L ≤ 2053) (C0 : lw_At p s m meth c b L xs) (hK : va_K D vwCl (tyL cI cA cJ) s) (hP : va_P D vwCl (TOT cI cA cJ x sq lt A0 A1 A2 r0 r1 r2 g Y q) H) (hD : va_D (fun z : Nat => s.heap.size ≤ z) (TOT cI cA cJ x sq lt A0 A1 A2 r0 r1 r2 g Y q)) (hS : va_S (fun z : Nat => s.heap.size ≤ z) s.heap H locs) (I : INV q lt r0 r1 r2) (hi : i + 4 ≤ L) (hl : lv_has ls 4 [(3, .int (nI i)), (0, .ref b), (1, .ref x), (2, .ref (b_o Y))]) (kk : W p l e room_1 s m #[Value.ref b] below meth c H locs 28 3058 (lw_Z below #[Value.ref b] s) (F0 m 548 ls [])) : W p l e room_1 s m #[Value.ref b] below meth c H locs 28 3058 (lw_Z below #[Value.ref b] s) (F0 m 501 ls []) := by
  obtain ⟨hx, hb, hr, hml, hown, hts0, hXs, hbl, hlocks, hgv⟩ := id C0
  have hts : ∀ w ∈ wsL_law, w.before #[Value.ref b] s = true := fun w h => hts0 w (wsL_law_in w h)
  have hown : s.vm.findClass RL = some m.cls := hown
  have hbA : ¬ (fun z : Nat => s.heap.size ≤ z) b := Nat.not_le.mpr hbl
  have hP9 : va_P D vwCl (aW cI cA x sq lt A0 A1 A2 r0 r1 r2 ++ (sqW cI sq (v_N r0) g ++ mW cI cJ Y q)) H := hP
  have hA : va_P D vwCl (xW x sq lt A0 A1 A2 ++ (rgW cI cA A0 r0 ++ (rgW cI cA A1 r1 ++ rgW cI cA A2 r2))) H := va_P_l hP9
  have hX := va_P_l hA
  have h0 := va_P_l (va_P_r hA)
  have h1 := va_P_l (va_P_r (va_P_r hA))
  have h2 := va_P_r (va_P_r (va_P_r hA))
  have hQ := va_P_l (va_P_r hP9)
  have hM := va_P_r (va_P_r hP9)
  refine lv_aload_n hx hb dL_law_501 rfl (lv_at hl 2 rfl) ?_
  refine lv_aload_n hx hb dL_law_502 rfl (lv_at hl 1 rfl) ?_
  refine lv_iload_n hx hb dL_law_503 rfl (lv_at hl 0 rfl) ?_
  refine lv_iconst (v := 1) hx hb dL_law_504 (by decide) ?_
  refine lv_iadd hx hb dL_law_505 ?_
  refine top_i (nI_add _ 1) ?_
  refine sld_n (j := (i + 1)) hx hb hXs hbl hbA hS (by omega) (by omega) dL_law_506 ?_
  refine lv_aload_n hx hb dL_law_507 rfl (lv_at hl 1 rfl) ?_
  refine lv_iload_n hx hb dL_law_508 rfl (lv_at hl 0 rfl) ?_
  refine lv_iconst (v := 2) hx hb dL_law_509 (by decide) ?_
  refine lv_iadd hx hb dL_law_510 ?_
  refine top_i (nI_add _ 2) ?_
  refine sld_n (j := (i + 2)) hx hb hXs hbl hbA hS (by omega) (by omega) dL_law_511 ?_
  refine ro_call (va_runV (As := [.int (xs (i + 1)), .int (xs (i + 2))]) (rest := []) ⟨hx, hb, hml, hown, hts⟩ (k_reach l I hX h0 h1 h2 (xs (i + 1)) (xs (i + 2))) (cwV 2 hts gL_law_X1_reach rfl rfl rfl (by decide +kernel) ⟨Nat.le_of_ble_eq_true rfl, Nat.le_of_ble_eq_true rfl⟩) (ro_preV hK (va_recv hK hX (ci := 1) (q0 := 0) rfl rfl)) rfl rfl hl.1 rfl (lv_room (Nat.le_of_ble_eq_true rfl)) dL_law_512 ⟨Nat.le_of_ble_eq_true rfl, Nat.le_of_ble_eq_true rfl⟩) ?_
  refine lv_aload_n hx hb dL_law_515 rfl (lv_at hl 3 rfl) ?_
  refine lv_aload_n hx hb dL_law_516 rfl (lv_at hl 1 rfl) ?_
  refine lv_iload_n hx hb dL_law_517 rfl (lv_at hl 0 rfl) ?_
  refine lv_iconst (v := 1) hx hb dL_law_518 (by decide) ?_
  refine lv_iadd hx hb dL_law_519 ?_
  refine top_i (nI_add _ 1) ?_
  refine sld_n (j := (i + 1)) hx hb hXs hbl hbA hS (by omega) (by omega) dL_law_520 ?_
  refine lv_aload_n hx hb dL_law_521 rfl (lv_at hl 1 rfl) ?_
  refine lv_iload_n hx hb dL_law_522 rfl (lv_at hl 0 rfl) ?_
  refine lv_iconst (v := 2) hx hb dL_law_523 (by decide) ?_
  refine lv_iadd hx hb dL_law_524 ?_
  refine top_i (nI_add _ 2) ?_
  refine sld_n (j := (i + 2)) hx hb hXs hbl hbA hS (by omega) (by omega) dL_law_525 ?_
  refine ro_call (va_runV (As := [.int (xs (i + 1)), .int (xs (i + 2))]) (rest := [.long (rcM q (xs (i + 1)) (xs (i + 2)))]) ⟨hx, hb, hml, hown, hts⟩ (c_X2_reach l Y q I.1 hM (hps_of I) (xs (i + 1)) (xs (i + 2))) (cwV 2 hts gL_law_X2_reach rfl rfl rfl (by decide +kernel) ⟨Nat.le_of_ble_eq_true rfl, Nat.le_of_ble_eq_true rfl⟩) (ro_preV hK (va_recv hK hM (ci := 2) (q0 := 0) rfl rfl)) rfl rfl hl.1 rfl (lv_room (Nat.le_of_ble_eq_true rfl)) dL_law_526 ⟨Nat.le_of_ble_eq_true rfl, Nat.le_of_ble_eq_true rfl⟩) ?_
  refine W.lcmp hx hb dL_law_529 ?_
  refine lv_if_eq (tgt := 548) hx hb dL_law_530 (by decide) (fun c_530 => ?_) (fun c_530 => ?_)
  · have c_530 := (lg_cmp_eq _ _).mp c_530
    exact kk
  · have c_530 := mt (lg_cmp_eq _ _).mpr c_530
    exact absurd rfl c_530
set_option maxHeartbeats 4000000 in
set_option maxRecDepth 100000 in
theorem op_sound {p : Program} {l : Launch} {e : Env} {s : State} {m : MethodId} {below : List Frame} {meth : Method} {c : Code} {b L : Nat} {xs : Nat → Int32} {D : va_G} {cI cA cJ : ClassId} {x sq : Nat} {lt : Int32} {A0 A1 A2 : rgA} {r0 r1 r2 : rgV} {Y : mA} {q : mv} {g : Nat → Int32} {H : Heap} {locs : List Loc} {ls : Array Slot} {i : Nat} (hL : L ≤ 2053) (C0 : lw_At p s m meth c b L xs) (hK : va_K D vwCl (tyL cI cA cJ) s) (hP : va_P D vwCl (TOT cI cA cJ x sq lt A0 A1 A2 r0 r1 r2 g Y q) H) (hD : va_D (fun z : Nat => s.heap.size ≤ z) (TOT cI cA cJ x sq lt A0 A1 A2 r0 r1 r2 g Y q)) (hS : va_S (fun z : Nat => s.heap.size ≤ z) s.heap H locs) (I : INV q lt r0 r1 r2) (hi : i + 4 ≤ L) (hl : lv_has ls 4 [(3, .int (nI i)), (0, .ref b), (1, .ref x), (2, .ref (b_o Y))]) (kk : W p l e room_1 s m #[Value.ref b] below meth c H locs 28 3058 (lw_Z below #[Value.ref b] s) (F0 m 548 ls [])) : W p l e room_1 s m #[Value.ref b] below meth c H locs 28 3058 (lw_Z below #[Value.ref b] s) (F0 m 535 ls []) := by
  obtain ⟨hx, hb, hr, hml, hown, hts0, hXs, hbl, hlocks, hgv⟩ := id C0
  have hts : ∀ w ∈ wsL_law, w.before #[Value.ref b] s = true := fun w h => hts0 w (wsL_law_in w h)
  have hown : s.vm.findClass RL = some m.cls := hown
  have hbA : ¬ (fun z : Nat => s.heap.size ≤ z) b := Nat.not_le.mpr hbl
  have hP9 : va_P D vwCl (aW cI cA x sq lt A0 A1 A2 r0 r1 r2 ++ (sqW cI sq (v_N r0) g ++ mW cI cJ Y q)) H := hP
  have hA : va_P D vwCl (xW x sq lt A0 A1 A2 ++ (rgW cI cA A0 r0 ++ (rgW cI cA A1 r1 ++ rgW cI cA A2 r2))) H := va_P_l hP9
  have hX := va_P_l hA
  have h0 := va_P_l (va_P_r hA)
  have h1 := va_P_l (va_P_r (va_P_r hA))
  have h2 := va_P_r (va_P_r (va_P_r hA))
  have hQ := va_P_l (va_P_r hP9)
  have hM := va_P_r (va_P_r hP9)
  refine lv_aload_n hx hb dL_law_535 rfl (lv_at hl 2 rfl) ?_
  refine ro_call (va_runV (As := []) (rest := []) ⟨hx, hb, hml, hown, hts⟩ (k_sound l I hX h0 h1 h2) (cwV 0 hts gL_law_X1_sound rfl rfl rfl (by decide +kernel) ⟨Nat.le_of_ble_eq_true rfl, Nat.le_of_ble_eq_true rfl⟩) (ro_preV hK (va_recv hK hX (ci := 1) (q0 := 0) rfl rfl)) rfl rfl hl.1 rfl (lv_room (Nat.le_of_ble_eq_true rfl)) dL_law_536 ⟨Nat.le_of_ble_eq_true rfl, Nat.le_of_ble_eq_true rfl⟩) ?_
  refine lv_aload_n hx hb dL_law_539 rfl (lv_at hl 3 rfl) ?_
  refine ro_call (va_runV (As := []) (rest := [.int 1]) ⟨hx, hb, hml, hown, hts⟩ (c_X2_sound l Y q I.1 hM) (cwV 0 hts gL_law_X2_sound rfl rfl rfl (by decide +kernel) ⟨Nat.le_of_ble_eq_true rfl, Nat.le_of_ble_eq_true rfl⟩) (ro_preV hK (va_recv hK hM (ci := 2) (q0 := 0) rfl rfl)) rfl rfl hl.1 rfl (lv_room (Nat.le_of_ble_eq_true rfl)) dL_law_540 ⟨Nat.le_of_ble_eq_true rfl, Nat.le_of_ble_eq_true rfl⟩) ?_
  refine lv_icmp_eq (tgt := 548) hx hb dL_law_543 (by decide) (fun c_543 => ?_) (fun c_543 => ?_)
  · exact kk
  · exact absurd rfl c_543
set_option maxHeartbeats 4000000 in
set_option maxRecDepth 100000 in
theorem op_count {p : Program} {l : Launch} {e : Env} {s : State} {m : MethodId} {below : List Frame} {meth : Method} {c : Code} {b L : Nat} {xs : Nat → Int32} {D : va_G} {cI cA cJ : ClassId} {x sq : Nat} {lt : Int32} {A0 A1 A2 : rgA} {r0 r1 r2 : rgV} {Y : mA} {q : mv} {g : Nat → Int32} {H : Heap} {locs : List Loc} {ls : Array Slot} {i : Nat} (hL : L ≤ 2053) (C0 : lw_At p s m meth c b L xs) (hK : va_K D vwCl (tyL cI cA cJ) s) (hP : va_P D vwCl (TOT cI cA cJ x sq lt A0 A1 A2 r0 r1 r2 g Y q) H) (hD : va_D (fun z : Nat => s.heap.size ≤ z) (TOT cI cA cJ x sq lt A0 A1 A2 r0 r1 r2 g Y q)) (hS : va_S (fun z : Nat => s.heap.size ≤ z) s.heap H locs) (I : INV q lt r0 r1 r2) (hi : i + 4 ≤ L) (hl : lv_has ls 4 [(3, .int (nI i)), (0, .ref b), (1, .ref x), (2, .ref (b_o Y))]) (kk : W p l e room_1 s m #[Value.ref b] below meth c H locs 28 3058 (lw_Z below #[Value.ref b] s) (F0 m 548 ls [])) : W p l e room_1 s m #[Value.ref b] below meth c H locs 28 3058 (lw_Z below #[Value.ref b] s) (F0 m 177 ls []) := by
  obtain ⟨hx, hb, hr, hml, hown, hts0, hXs, hbl, hlocks, hgv⟩ := id C0
  have hts : ∀ w ∈ wsL_law, w.before #[Value.ref b] s = true := fun w h => hts0 w (wsL_law_in w h)
  have hown : s.vm.findClass RL = some m.cls := hown
  have hbA : ¬ (fun z : Nat => s.heap.size ≤ z) b := Nat.not_le.mpr hbl
  have hP9 : va_P D vwCl (aW cI cA x sq lt A0 A1 A2 r0 r1 r2 ++ (sqW cI sq (v_N r0) g ++ mW cI cJ Y q)) H := hP
  have hA : va_P D vwCl (xW x sq lt A0 A1 A2 ++ (rgW cI cA A0 r0 ++ (rgW cI cA A1 r1 ++ rgW cI cA A2 r2))) H := va_P_l hP9
  have hX := va_P_l hA
  have h0 := va_P_l (va_P_r hA)
  have h1 := va_P_l (va_P_r (va_P_r hA))
  have h2 := va_P_r (va_P_r (va_P_r hA))
  have hQ := va_P_l (va_P_r hP9)
  have hM := va_P_r (va_P_r hP9)
  rcases ix_cases 3 (by decide) (xs (i + 1)) with ⟨k, hk, ev⟩ | hn
  · refine lv_aload_n hx hb dL_law_177 rfl (lv_at hl 2 rfl) ?_
    refine lv_aload_n hx hb dL_law_178 rfl (lv_at hl 1 rfl) ?_
    refine lv_iload_n hx hb dL_law_179 rfl (lv_at hl 0 rfl) ?_
    refine lv_iconst (v := 1) hx hb dL_law_180 (by decide) ?_
    refine lv_iadd hx hb dL_law_181 ?_
    refine top_i (nI_add _ 1) ?_
    refine sld_n (j := (i + 1)) hx hb hXs hbl hbA hS (by omega) (by omega) dL_law_182 ?_
    refine top_i ev ?_
    refine ro_call (va_runV (As := [.int (nI k)]) (rest := []) ⟨hx, hb, hml, hown, hts⟩ (k_count l I hX h0 h1 h2 hk) (cwV 1 hts gL_law_X1_count rfl rfl rfl (by decide +kernel) ⟨Nat.le_of_ble_eq_true rfl, Nat.le_of_ble_eq_true rfl⟩) (ro_preV hK (va_recv hK hX (ci := 1) (q0 := 0) rfl rfl)) rfl rfl hl.1 rfl (lv_room (Nat.le_of_ble_eq_true rfl)) dL_law_183 ⟨Nat.le_of_ble_eq_true rfl, Nat.le_of_ble_eq_true rfl⟩) ?_
    refine lv_aload_n hx hb dL_law_186 rfl (lv_at hl 3 rfl) ?_
    refine lv_aload_n hx hb dL_law_187 rfl (lv_at hl 1 rfl) ?_
    refine lv_iload_n hx hb dL_law_188 rfl (lv_at hl 0 rfl) ?_
    refine lv_iconst (v := 1) hx hb dL_law_189 (by decide) ?_
    refine lv_iadd hx hb dL_law_190 ?_
    refine top_i (nI_add _ 1) ?_
    refine sld_n (j := (i + 1)) hx hb hXs hbl hbA hS (by omega) (by omega) dL_law_191 ?_
    refine top_i ev ?_
    refine ro_call (va_runV (As := [.int (nI k)]) (rest := [.int (nI (kp q k))]) ⟨hx, hb, hml, hown, hts⟩ (c_X2_count l Y q I.1 hM k hk) (cwV 1 hts gL_law_X2_count rfl rfl rfl (by decide +kernel) ⟨Nat.le_of_ble_eq_true rfl, Nat.le_of_ble_eq_true rfl⟩) (ro_preV hK (va_recv hK hM (ci := 2) (q0 := 0) rfl rfl)) rfl rfl hl.1 rfl (lv_room (Nat.le_of_ble_eq_true rfl)) dL_law_192 ⟨Nat.le_of_ble_eq_true rfl, Nat.le_of_ble_eq_true rfl⟩) ?_
    refine lv_icmp_eq (tgt := 548) hx hb dL_law_195 (by decide) (fun c_195 => ?_) (fun c_195 => ?_)
    · exact kk
    · exact absurd rfl c_195
  · refine lv_aload_n hx hb dL_law_177 rfl (lv_at hl 2 rfl) ?_
    refine lv_aload_n hx hb dL_law_178 rfl (lv_at hl 1 rfl) ?_
    refine lv_iload_n hx hb dL_law_179 rfl (lv_at hl 0 rfl) ?_
    refine lv_iconst (v := 1) hx hb dL_law_180 (by decide) ?_
    refine lv_iadd hx hb dL_law_181 ?_
    refine top_i (nI_add _ 1) ?_
    refine sld_n (j := (i + 1)) hx hb hXs hbl hbA hS (by omega) (by omega) dL_law_182 ?_
    refine ro_call (va_runV (As := [.int (xs (i + 1))]) (rest := []) ⟨hx, hb, hml, hown, hts⟩ (c_X1_count_3 l x sq lt A0 A1 A2 hX (xs (i + 1)) hn) (cwV 1 hts gL_law_X1_count rfl rfl rfl (by decide +kernel) ⟨Nat.le_of_ble_eq_true rfl, Nat.le_of_ble_eq_true rfl⟩) (ro_preV hK (va_recv hK hX (ci := 1) (q0 := 0) rfl rfl)) rfl rfl hl.1 rfl (lv_room (Nat.le_of_ble_eq_true rfl)) dL_law_183 ⟨Nat.le_of_ble_eq_true rfl, Nat.le_of_ble_eq_true rfl⟩) ?_
    refine lv_aload_n hx hb dL_law_186 rfl (lv_at hl 3 rfl) ?_
    refine lv_aload_n hx hb dL_law_187 rfl (lv_at hl 1 rfl) ?_
    refine lv_iload_n hx hb dL_law_188 rfl (lv_at hl 0 rfl) ?_
    refine lv_iconst (v := 1) hx hb dL_law_189 (by decide) ?_
    refine lv_iadd hx hb dL_law_190 ?_
    refine top_i (nI_add _ 1) ?_
    refine sld_n (j := (i + 1)) hx hb hXs hbl hbA hS (by omega) (by omega) dL_law_191 ?_
    refine ro_call (va_runV (As := [.int (xs (i + 1))]) (rest := [.int (-1)]) ⟨hx, hb, hml, hown, hts⟩ (c_X2_count_x l Y q I.1 hM (xs (i + 1)) hn) (cwV 1 hts gL_law_X2_count rfl rfl rfl (by decide +kernel) ⟨Nat.le_of_ble_eq_true rfl, Nat.le_of_ble_eq_true rfl⟩) (ro_preV hK (va_recv hK hM (ci := 2) (q0 := 0) rfl rfl)) rfl rfl hl.1 rfl (lv_room (Nat.le_of_ble_eq_true rfl)) dL_law_192 ⟨Nat.le_of_ble_eq_true rfl, Nat.le_of_ble_eq_true rfl⟩) ?_
    refine lv_icmp_eq (tgt := 548) hx hb dL_law_195 (by decide) (fun c_195 => ?_) (fun c_195 => ?_)
    · exact kk
    · exact absurd rfl c_195
set_option maxHeartbeats 4000000 in
set_option maxRecDepth 100000 in
theorem op_start {p : Program} {l : Launch} {e : Env} {s : State} {m : MethodId} {below : List Frame} {meth : Method} {c : Code} {b L : Nat} {xs : Nat → Int32} {D : va_G} {cI cA cJ : ClassId} {x sq : Nat} {lt : Int32} {A0 A1 A2 : rgA} {r0 r1 r2 : rgV} {Y : mA} {q : mv} {g : Nat → Int32} {H : Heap} {locs : List Loc} {ls : Array Slot} {i : Nat} (hL : L ≤ 2053) (C0 : lw_At p s m meth c b L xs) (hK : va_K D vwCl (tyL cI cA cJ) s) (hP : va_P D vwCl (TOT cI cA cJ x sq lt A0 A1 A2 r0 r1 r2 g Y q) H) (hD : va_D (fun z : Nat => s.heap.size ≤ z) (TOT cI cA cJ x sq lt A0 A1 A2 r0 r1 r2 g Y q)) (hS : va_S (fun z : Nat => s.heap.size ≤ z) s.heap H locs) (I : INV q lt r0 r1 r2) (hi : i + 4 ≤ L) (hl : lv_has ls 4 [(3, .int (nI i)), (0, .ref b), (1, .ref x), (2, .ref (b_o Y))]) (kk : W p l e room_1 s m #[Value.ref b] below meth c H locs 28 3058 (lw_Z below #[Value.ref b] s) (F0 m 548 ls [])) : W p l e room_1 s m #[Value.ref b] below meth c H locs 28 3058 (lw_Z below #[Value.ref b] s) (F0 m 200 ls []) := by
  obtain ⟨hx, hb, hr, hml, hown, hts0, hXs, hbl, hlocks, hgv⟩ := id C0
  have hts : ∀ w ∈ wsL_law, w.before #[Value.ref b] s = true := fun w h => hts0 w (wsL_law_in w h)
  have hown : s.vm.findClass RL = some m.cls := hown
  have hbA : ¬ (fun z : Nat => s.heap.size ≤ z) b := Nat.not_le.mpr hbl
  have hP9 : va_P D vwCl (aW cI cA x sq lt A0 A1 A2 r0 r1 r2 ++ (sqW cI sq (v_N r0) g ++ mW cI cJ Y q)) H := hP
  have hA : va_P D vwCl (xW x sq lt A0 A1 A2 ++ (rgW cI cA A0 r0 ++ (rgW cI cA A1 r1 ++ rgW cI cA A2 r2))) H := va_P_l hP9
  have hX := va_P_l hA
  have h0 := va_P_l (va_P_r hA)
  have h1 := va_P_l (va_P_r (va_P_r hA))
  have h2 := va_P_r (va_P_r (va_P_r hA))
  have hQ := va_P_l (va_P_r hP9)
  have hM := va_P_r (va_P_r hP9)
  rcases ix_cases 3 (by decide) (xs (i + 1)) with ⟨k, hk, ev⟩ | hn
  · rcases ix_cases (kp q k) (by have := kp_60 I hk; omega) (xs (i + 2)) with ⟨j, hj, ej⟩ | hj
    · refine lv_aload_n hx hb dL_law_200 rfl (lv_at hl 2 rfl) ?_
      refine lv_aload_n hx hb dL_law_201 rfl (lv_at hl 1 rfl) ?_
      refine lv_iload_n hx hb dL_law_202 rfl (lv_at hl 0 rfl) ?_
      refine lv_iconst (v := 1) hx hb dL_law_203 (by decide) ?_
      refine lv_iadd hx hb dL_law_204 ?_
      refine top_i (nI_add _ 1) ?_
      refine sld_n (j := (i + 1)) hx hb hXs hbl hbA hS (by omega) (by omega) dL_law_205 ?_
      refine top_i ev ?_
      refine lv_aload_n hx hb dL_law_206 rfl (lv_at hl 1 rfl) ?_
      refine lv_iload_n hx hb dL_law_207 rfl (lv_at hl 0 rfl) ?_
      refine lv_iconst (v := 2) hx hb dL_law_208 (by decide) ?_
      refine lv_iadd hx hb dL_law_209 ?_
      refine top_i (nI_add _ 2) ?_
      refine sld_n (j := (i + 2)) hx hb hXs hbl hbA hS (by omega) (by omega) dL_law_210 ?_
      refine top_i ej ?_
      refine ro_call (va_runV (As := [.int (nI k), .int (nI j)]) (rest := []) ⟨hx, hb, hml, hown, hts⟩ (k_start l I hX h0 h1 h2 hk hj) (cwV 2 hts gL_law_X1_start rfl rfl rfl (by decide +kernel) ⟨Nat.le_of_ble_eq_true rfl, Nat.le_of_ble_eq_true rfl⟩) (ro_preV hK (va_recv hK hX (ci := 1) (q0 := 0) rfl rfl)) rfl rfl hl.1 rfl (lv_room (Nat.le_of_ble_eq_true rfl)) dL_law_211 ⟨Nat.le_of_ble_eq_true rfl, Nat.le_of_ble_eq_true rfl⟩) ?_
      refine lv_aload_n hx hb dL_law_214 rfl (lv_at hl 3 rfl) ?_
      refine lv_aload_n hx hb dL_law_215 rfl (lv_at hl 1 rfl) ?_
      refine lv_iload_n hx hb dL_law_216 rfl (lv_at hl 0 rfl) ?_
      refine lv_iconst (v := 1) hx hb dL_law_217 (by decide) ?_
      refine lv_iadd hx hb dL_law_218 ?_
      refine top_i (nI_add _ 1) ?_
      refine sld_n (j := (i + 1)) hx hb hXs hbl hbA hS (by omega) (by omega) dL_law_219 ?_
      refine top_i ev ?_
      refine lv_aload_n hx hb dL_law_220 rfl (lv_at hl 1 rfl) ?_
      refine lv_iload_n hx hb dL_law_221 rfl (lv_at hl 0 rfl) ?_
      refine lv_iconst (v := 2) hx hb dL_law_222 (by decide) ?_
      refine lv_iadd hx hb dL_law_223 ?_
      refine top_i (nI_add _ 2) ?_
      refine sld_n (j := (i + 2)) hx hb hXs hbl hbA hS (by omega) (by omega) dL_law_224 ?_
      refine top_i ej ?_
      refine ro_call (va_runV (As := [.int (nI k), .int (nI j)]) (rest := [.int (nI (bg q k j))]) ⟨hx, hb, hml, hown, hts⟩ (c_X2_start l Y q I.1 hM k j hk hj) (cwV 2 hts gL_law_X2_start rfl rfl rfl (by decide +kernel) ⟨Nat.le_of_ble_eq_true rfl, Nat.le_of_ble_eq_true rfl⟩) (ro_preV hK (va_recv hK hM (ci := 2) (q0 := 0) rfl rfl)) rfl rfl hl.1 rfl (lv_room (Nat.le_of_ble_eq_true rfl)) dL_law_225 ⟨Nat.le_of_ble_eq_true rfl, Nat.le_of_ble_eq_true rfl⟩) ?_
      refine lv_icmp_eq (tgt := 548) hx hb dL_law_228 (by decide) (fun c_228 => ?_) (fun c_228 => ?_)
      · exact kk
      · exact absurd rfl c_228
    · refine lv_aload_n hx hb dL_law_200 rfl (lv_at hl 2 rfl) ?_
      refine lv_aload_n hx hb dL_law_201 rfl (lv_at hl 1 rfl) ?_
      refine lv_iload_n hx hb dL_law_202 rfl (lv_at hl 0 rfl) ?_
      refine lv_iconst (v := 1) hx hb dL_law_203 (by decide) ?_
      refine lv_iadd hx hb dL_law_204 ?_
      refine top_i (nI_add _ 1) ?_
      refine sld_n (j := (i + 1)) hx hb hXs hbl hbA hS (by omega) (by omega) dL_law_205 ?_
      refine top_i ev ?_
      refine lv_aload_n hx hb dL_law_206 rfl (lv_at hl 1 rfl) ?_
      refine lv_iload_n hx hb dL_law_207 rfl (lv_at hl 0 rfl) ?_
      refine lv_iconst (v := 2) hx hb dL_law_208 (by decide) ?_
      refine lv_iadd hx hb dL_law_209 ?_
      refine top_i (nI_add _ 2) ?_
      refine sld_n (j := (i + 2)) hx hb hXs hbl hbA hS (by omega) (by omega) dL_law_210 ?_
      refine ro_call (va_runV (As := [.int (nI k), .int (xs (i + 2))]) (rest := []) ⟨hx, hb, hml, hown, hts⟩ (k_start_n l I hX h0 h1 h2 hk hj) (cwV 2 hts gL_law_X1_start rfl rfl rfl (by decide +kernel) ⟨Nat.le_of_ble_eq_true rfl, Nat.le_of_ble_eq_true rfl⟩) (ro_preV hK (va_recv hK hX (ci := 1) (q0 := 0) rfl rfl)) rfl rfl hl.1 rfl (lv_room (Nat.le_of_ble_eq_true rfl)) dL_law_211 ⟨Nat.le_of_ble_eq_true rfl, Nat.le_of_ble_eq_true rfl⟩) ?_
      refine lv_aload_n hx hb dL_law_214 rfl (lv_at hl 3 rfl) ?_
      refine lv_aload_n hx hb dL_law_215 rfl (lv_at hl 1 rfl) ?_
      refine lv_iload_n hx hb dL_law_216 rfl (lv_at hl 0 rfl) ?_
      refine lv_iconst (v := 1) hx hb dL_law_217 (by decide) ?_
      refine lv_iadd hx hb dL_law_218 ?_
      refine top_i (nI_add _ 1) ?_
      refine sld_n (j := (i + 1)) hx hb hXs hbl hbA hS (by omega) (by omega) dL_law_219 ?_
      refine top_i ev ?_
      refine lv_aload_n hx hb dL_law_220 rfl (lv_at hl 1 rfl) ?_
      refine lv_iload_n hx hb dL_law_221 rfl (lv_at hl 0 rfl) ?_
      refine lv_iconst (v := 2) hx hb dL_law_222 (by decide) ?_
      refine lv_iadd hx hb dL_law_223 ?_
      refine top_i (nI_add _ 2) ?_
      refine sld_n (j := (i + 2)) hx hb hXs hbl hbA hS (by omega) (by omega) dL_law_224 ?_
      refine ro_call (va_runV (As := [.int (nI k), .int (xs (i + 2))]) (rest := [.int (-1)]) ⟨hx, hb, hml, hown, hts⟩ (c_X2_start_n l Y q I.1 hM k _ hk hj) (cwV 2 hts gL_law_X2_start rfl rfl rfl (by decide +kernel) ⟨Nat.le_of_ble_eq_true rfl, Nat.le_of_ble_eq_true rfl⟩) (ro_preV hK (va_recv hK hM (ci := 2) (q0 := 0) rfl rfl)) rfl rfl hl.1 rfl (lv_room (Nat.le_of_ble_eq_true rfl)) dL_law_225 ⟨Nat.le_of_ble_eq_true rfl, Nat.le_of_ble_eq_true rfl⟩) ?_
      refine lv_icmp_eq (tgt := 548) hx hb dL_law_228 (by decide) (fun c_228 => ?_) (fun c_228 => ?_)
      · exact kk
      · exact absurd rfl c_228
  · refine lv_aload_n hx hb dL_law_200 rfl (lv_at hl 2 rfl) ?_
    refine lv_aload_n hx hb dL_law_201 rfl (lv_at hl 1 rfl) ?_
    refine lv_iload_n hx hb dL_law_202 rfl (lv_at hl 0 rfl) ?_
    refine lv_iconst (v := 1) hx hb dL_law_203 (by decide) ?_
    refine lv_iadd hx hb dL_law_204 ?_
    refine top_i (nI_add _ 1) ?_
    refine sld_n (j := (i + 1)) hx hb hXs hbl hbA hS (by omega) (by omega) dL_law_205 ?_
    refine lv_aload_n hx hb dL_law_206 rfl (lv_at hl 1 rfl) ?_
    refine lv_iload_n hx hb dL_law_207 rfl (lv_at hl 0 rfl) ?_
    refine lv_iconst (v := 2) hx hb dL_law_208 (by decide) ?_
    refine lv_iadd hx hb dL_law_209 ?_
    refine top_i (nI_add _ 2) ?_
    refine sld_n (j := (i + 2)) hx hb hXs hbl hbA hS (by omega) (by omega) dL_law_210 ?_
    refine ro_call (va_runV (As := [.int (xs (i + 1)), .int (xs (i + 2))]) (rest := []) ⟨hx, hb, hml, hown, hts⟩ (c_X1_start_3 l x sq lt A0 A1 A2 hX (xs (i + 2)) (xs (i + 1)) hn) (cwV 2 hts gL_law_X1_start rfl rfl rfl (by decide +kernel) ⟨Nat.le_of_ble_eq_true rfl, Nat.le_of_ble_eq_true rfl⟩) (ro_preV hK (va_recv hK hX (ci := 1) (q0 := 0) rfl rfl)) rfl rfl hl.1 rfl (lv_room (Nat.le_of_ble_eq_true rfl)) dL_law_211 ⟨Nat.le_of_ble_eq_true rfl, Nat.le_of_ble_eq_true rfl⟩) ?_
    refine lv_aload_n hx hb dL_law_214 rfl (lv_at hl 3 rfl) ?_
    refine lv_aload_n hx hb dL_law_215 rfl (lv_at hl 1 rfl) ?_
    refine lv_iload_n hx hb dL_law_216 rfl (lv_at hl 0 rfl) ?_
    refine lv_iconst (v := 1) hx hb dL_law_217 (by decide) ?_
    refine lv_iadd hx hb dL_law_218 ?_
    refine top_i (nI_add _ 1) ?_
    refine sld_n (j := (i + 1)) hx hb hXs hbl hbA hS (by omega) (by omega) dL_law_219 ?_
    refine lv_aload_n hx hb dL_law_220 rfl (lv_at hl 1 rfl) ?_
    refine lv_iload_n hx hb dL_law_221 rfl (lv_at hl 0 rfl) ?_
    refine lv_iconst (v := 2) hx hb dL_law_222 (by decide) ?_
    refine lv_iadd hx hb dL_law_223 ?_
    refine top_i (nI_add _ 2) ?_
    refine sld_n (j := (i + 2)) hx hb hXs hbl hbA hS (by omega) (by omega) dL_law_224 ?_
    refine ro_call (va_runV (As := [.int (xs (i + 1)), .int (xs (i + 2))]) (rest := [.int (-1)]) ⟨hx, hb, hml, hown, hts⟩ (c_X2_start_x l Y q I.1 hM (xs (i + 1)) (xs (i + 2)) hn) (cwV 2 hts gL_law_X2_start rfl rfl rfl (by decide +kernel) ⟨Nat.le_of_ble_eq_true rfl, Nat.le_of_ble_eq_true rfl⟩) (ro_preV hK (va_recv hK hM (ci := 2) (q0 := 0) rfl rfl)) rfl rfl hl.1 rfl (lv_room (Nat.le_of_ble_eq_true rfl)) dL_law_225 ⟨Nat.le_of_ble_eq_true rfl, Nat.le_of_ble_eq_true rfl⟩) ?_
    refine lv_icmp_eq (tgt := 548) hx hb dL_law_228 (by decide) (fun c_228 => ?_) (fun c_228 => ?_)
    · exact kk
    · exact absurd rfl c_228
set_option maxHeartbeats 4000000 in
set_option maxRecDepth 100000 in
theorem op_figure {p : Program} {l : Launch} {e : Env} {s : State} {m : MethodId} {below : List Frame} {meth : Method} {c : Code} {b L : Nat} {xs : Nat → Int32} {D : va_G} {cI cA cJ : ClassId} {x sq : Nat} {lt : Int32} {A0 A1 A2 : rgA} {r0 r1 r2 : rgV} {Y : mA} {q : mv} {g : Nat → Int32} {H : Heap} {locs : List Loc} {ls : Array Slot} {i : Nat} (hL : L ≤ 2053) (C0 : lw_At p s m meth c b L xs) (hK : va_K D vwCl (tyL cI cA cJ) s) (hP : va_P D vwCl (TOT cI cA cJ x sq lt A0 A1 A2 r0 r1 r2 g Y q) H) (hD : va_D (fun z : Nat => s.heap.size ≤ z) (TOT cI cA cJ x sq lt A0 A1 A2 r0 r1 r2 g Y q)) (hS : va_S (fun z : Nat => s.heap.size ≤ z) s.heap H locs) (I : INV q lt r0 r1 r2) (hi : i + 4 ≤ L) (hl : lv_has ls 4 [(3, .int (nI i)), (0, .ref b), (1, .ref x), (2, .ref (b_o Y))]) (kk : W p l e room_1 s m #[Value.ref b] below meth c H locs 28 3058 (lw_Z below #[Value.ref b] s) (F0 m 548 ls [])) : W p l e room_1 s m #[Value.ref b] below meth c H locs 28 3058 (lw_Z below #[Value.ref b] s) (F0 m 233 ls []) := by
  obtain ⟨hx, hb, hr, hml, hown, hts0, hXs, hbl, hlocks, hgv⟩ := id C0
  have hts : ∀ w ∈ wsL_law, w.before #[Value.ref b] s = true := fun w h => hts0 w (wsL_law_in w h)
  have hown : s.vm.findClass RL = some m.cls := hown
  have hbA : ¬ (fun z : Nat => s.heap.size ≤ z) b := Nat.not_le.mpr hbl
  have hP9 : va_P D vwCl (aW cI cA x sq lt A0 A1 A2 r0 r1 r2 ++ (sqW cI sq (v_N r0) g ++ mW cI cJ Y q)) H := hP
  have hA : va_P D vwCl (xW x sq lt A0 A1 A2 ++ (rgW cI cA A0 r0 ++ (rgW cI cA A1 r1 ++ rgW cI cA A2 r2))) H := va_P_l hP9
  have hX := va_P_l hA
  have h0 := va_P_l (va_P_r hA)
  have h1 := va_P_l (va_P_r (va_P_r hA))
  have h2 := va_P_r (va_P_r (va_P_r hA))
  have hQ := va_P_l (va_P_r hP9)
  have hM := va_P_r (va_P_r hP9)
  rcases ix_cases 3 (by decide) (xs (i + 1)) with ⟨k, hk, ev⟩ | hn
  · rcases ix_cases (kp q k) (by have := kp_60 I hk; omega) (xs (i + 2)) with ⟨j, hj, ej⟩ | hj
    · rcases ix_cases 4 (by decide) (xs (i + 3)) with ⟨w, hw, ew⟩ | hw
      · refine lv_aload_n hx hb dL_law_233 rfl (lv_at hl 2 rfl) ?_
        refine lv_aload_n hx hb dL_law_234 rfl (lv_at hl 1 rfl) ?_
        refine lv_iload_n hx hb dL_law_235 rfl (lv_at hl 0 rfl) ?_
        refine lv_iconst (v := 1) hx hb dL_law_236 (by decide) ?_
        refine lv_iadd hx hb dL_law_237 ?_
        refine top_i (nI_add _ 1) ?_
        refine sld_n (j := (i + 1)) hx hb hXs hbl hbA hS (by omega) (by omega) dL_law_238 ?_
        refine top_i ev ?_
        refine lv_aload_n hx hb dL_law_239 rfl (lv_at hl 1 rfl) ?_
        refine lv_iload_n hx hb dL_law_240 rfl (lv_at hl 0 rfl) ?_
        refine lv_iconst (v := 2) hx hb dL_law_241 (by decide) ?_
        refine lv_iadd hx hb dL_law_242 ?_
        refine top_i (nI_add _ 2) ?_
        refine sld_n (j := (i + 2)) hx hb hXs hbl hbA hS (by omega) (by omega) dL_law_243 ?_
        refine top_i ej ?_
        refine lv_aload_n hx hb dL_law_244 rfl (lv_at hl 1 rfl) ?_
        refine lv_iload_n hx hb dL_law_245 rfl (lv_at hl 0 rfl) ?_
        refine lv_iconst (v := 3) hx hb dL_law_246 (by decide) ?_
        refine lv_iadd hx hb dL_law_247 ?_
        refine top_i (nI_add _ 3) ?_
        refine sld_n (j := (i + 3)) hx hb hXs hbl hbA hS (by omega) (by omega) dL_law_248 ?_
        refine top_i ew ?_
        refine ro_call (va_runV (As := [.int (nI k), .int (nI j), .int (nI w)]) (rest := []) ⟨hx, hb, hml, hown, hts⟩ (k_figure l I hX h0 h1 h2 hk hj hw) (cwV 3 hts gL_law_X1_figure rfl rfl rfl (by decide +kernel) ⟨Nat.le_of_ble_eq_true rfl, Nat.le_of_ble_eq_true rfl⟩) (ro_preV hK (va_recv hK hX (ci := 1) (q0 := 0) rfl rfl)) rfl rfl hl.1 rfl (lv_room (Nat.le_of_ble_eq_true rfl)) dL_law_249 ⟨Nat.le_of_ble_eq_true rfl, Nat.le_of_ble_eq_true rfl⟩) ?_
        refine lv_aload_n hx hb dL_law_252 rfl (lv_at hl 3 rfl) ?_
        refine lv_aload_n hx hb dL_law_253 rfl (lv_at hl 1 rfl) ?_
        refine lv_iload_n hx hb dL_law_254 rfl (lv_at hl 0 rfl) ?_
        refine lv_iconst (v := 1) hx hb dL_law_255 (by decide) ?_
        refine lv_iadd hx hb dL_law_256 ?_
        refine top_i (nI_add _ 1) ?_
        refine sld_n (j := (i + 1)) hx hb hXs hbl hbA hS (by omega) (by omega) dL_law_257 ?_
        refine top_i ev ?_
        refine lv_aload_n hx hb dL_law_258 rfl (lv_at hl 1 rfl) ?_
        refine lv_iload_n hx hb dL_law_259 rfl (lv_at hl 0 rfl) ?_
        refine lv_iconst (v := 2) hx hb dL_law_260 (by decide) ?_
        refine lv_iadd hx hb dL_law_261 ?_
        refine top_i (nI_add _ 2) ?_
        refine sld_n (j := (i + 2)) hx hb hXs hbl hbA hS (by omega) (by omega) dL_law_262 ?_
        refine top_i ej ?_
        refine lv_aload_n hx hb dL_law_263 rfl (lv_at hl 1 rfl) ?_
        refine lv_iload_n hx hb dL_law_264 rfl (lv_at hl 0 rfl) ?_
        refine lv_iconst (v := 3) hx hb dL_law_265 (by decide) ?_
        refine lv_iadd hx hb dL_law_266 ?_
        refine top_i (nI_add _ 3) ?_
        refine sld_n (j := (i + 3)) hx hb hXs hbl hbA hS (by omega) (by omega) dL_law_267 ?_
        refine top_i ew ?_
        refine ro_call (va_runV (As := [.int (nI k), .int (nI j), .int (nI w)]) (rest := [.int (fg q k j w)]) ⟨hx, hb, hml, hown, hts⟩ (c_X2_figure l Y q I.1 hM k j hk hj w hw) (cwV 3 hts gL_law_X2_figure rfl rfl rfl (by decide +kernel) ⟨Nat.le_of_ble_eq_true rfl, Nat.le_of_ble_eq_true rfl⟩) (ro_preV hK (va_recv hK hM (ci := 2) (q0 := 0) rfl rfl)) rfl rfl hl.1 rfl (lv_room (Nat.le_of_ble_eq_true rfl)) dL_law_268 ⟨Nat.le_of_ble_eq_true rfl, Nat.le_of_ble_eq_true rfl⟩) ?_
        refine lv_icmp_eq (tgt := 548) hx hb dL_law_271 (by decide) (fun c_271 => ?_) (fun c_271 => ?_)
        · exact kk
        · exact absurd rfl c_271
      · refine lv_aload_n hx hb dL_law_233 rfl (lv_at hl 2 rfl) ?_
        refine lv_aload_n hx hb dL_law_234 rfl (lv_at hl 1 rfl) ?_
        refine lv_iload_n hx hb dL_law_235 rfl (lv_at hl 0 rfl) ?_
        refine lv_iconst (v := 1) hx hb dL_law_236 (by decide) ?_
        refine lv_iadd hx hb dL_law_237 ?_
        refine top_i (nI_add _ 1) ?_
        refine sld_n (j := (i + 1)) hx hb hXs hbl hbA hS (by omega) (by omega) dL_law_238 ?_
        refine top_i ev ?_
        refine lv_aload_n hx hb dL_law_239 rfl (lv_at hl 1 rfl) ?_
        refine lv_iload_n hx hb dL_law_240 rfl (lv_at hl 0 rfl) ?_
        refine lv_iconst (v := 2) hx hb dL_law_241 (by decide) ?_
        refine lv_iadd hx hb dL_law_242 ?_
        refine top_i (nI_add _ 2) ?_
        refine sld_n (j := (i + 2)) hx hb hXs hbl hbA hS (by omega) (by omega) dL_law_243 ?_
        refine top_i ej ?_
        refine lv_aload_n hx hb dL_law_244 rfl (lv_at hl 1 rfl) ?_
        refine lv_iload_n hx hb dL_law_245 rfl (lv_at hl 0 rfl) ?_
        refine lv_iconst (v := 3) hx hb dL_law_246 (by decide) ?_
        refine lv_iadd hx hb dL_law_247 ?_
        refine top_i (nI_add _ 3) ?_
        refine sld_n (j := (i + 3)) hx hb hXs hbl hbA hS (by omega) (by omega) dL_law_248 ?_
        refine ro_call (va_runV (As := [.int (nI k), .int (nI j), .int (xs (i + 3))]) (rest := []) ⟨hx, hb, hml, hown, hts⟩ (k_figure_m l I hX h0 h1 h2 hk hj hw) (cwV 3 hts gL_law_X1_figure rfl rfl rfl (by decide +kernel) ⟨Nat.le_of_ble_eq_true rfl, Nat.le_of_ble_eq_true rfl⟩) (ro_preV hK (va_recv hK hX (ci := 1) (q0 := 0) rfl rfl)) rfl rfl hl.1 rfl (lv_room (Nat.le_of_ble_eq_true rfl)) dL_law_249 ⟨Nat.le_of_ble_eq_true rfl, Nat.le_of_ble_eq_true rfl⟩) ?_
        refine lv_aload_n hx hb dL_law_252 rfl (lv_at hl 3 rfl) ?_
        refine lv_aload_n hx hb dL_law_253 rfl (lv_at hl 1 rfl) ?_
        refine lv_iload_n hx hb dL_law_254 rfl (lv_at hl 0 rfl) ?_
        refine lv_iconst (v := 1) hx hb dL_law_255 (by decide) ?_
        refine lv_iadd hx hb dL_law_256 ?_
        refine top_i (nI_add _ 1) ?_
        refine sld_n (j := (i + 1)) hx hb hXs hbl hbA hS (by omega) (by omega) dL_law_257 ?_
        refine top_i ev ?_
        refine lv_aload_n hx hb dL_law_258 rfl (lv_at hl 1 rfl) ?_
        refine lv_iload_n hx hb dL_law_259 rfl (lv_at hl 0 rfl) ?_
        refine lv_iconst (v := 2) hx hb dL_law_260 (by decide) ?_
        refine lv_iadd hx hb dL_law_261 ?_
        refine top_i (nI_add _ 2) ?_
        refine sld_n (j := (i + 2)) hx hb hXs hbl hbA hS (by omega) (by omega) dL_law_262 ?_
        refine top_i ej ?_
        refine lv_aload_n hx hb dL_law_263 rfl (lv_at hl 1 rfl) ?_
        refine lv_iload_n hx hb dL_law_264 rfl (lv_at hl 0 rfl) ?_
        refine lv_iconst (v := 3) hx hb dL_law_265 (by decide) ?_
        refine lv_iadd hx hb dL_law_266 ?_
        refine top_i (nI_add _ 3) ?_
        refine sld_n (j := (i + 3)) hx hb hXs hbl hbA hS (by omega) (by omega) dL_law_267 ?_
        refine ro_call (va_runV (As := [.int (nI k), .int (nI j), .int (xs (i + 3))]) (rest := [.int 0]) ⟨hx, hb, hml, hown, hts⟩ (c_X2_figure_m l Y q I.1 hM k j hk hj _ hw) (cwV 3 hts gL_law_X2_figure rfl rfl rfl (by decide +kernel) ⟨Nat.le_of_ble_eq_true rfl, Nat.le_of_ble_eq_true rfl⟩) (ro_preV hK (va_recv hK hM (ci := 2) (q0 := 0) rfl rfl)) rfl rfl hl.1 rfl (lv_room (Nat.le_of_ble_eq_true rfl)) dL_law_268 ⟨Nat.le_of_ble_eq_true rfl, Nat.le_of_ble_eq_true rfl⟩) ?_
        refine lv_icmp_eq (tgt := 548) hx hb dL_law_271 (by decide) (fun c_271 => ?_) (fun c_271 => ?_)
        · exact kk
        · exact absurd rfl c_271
    · refine lv_aload_n hx hb dL_law_233 rfl (lv_at hl 2 rfl) ?_
      refine lv_aload_n hx hb dL_law_234 rfl (lv_at hl 1 rfl) ?_
      refine lv_iload_n hx hb dL_law_235 rfl (lv_at hl 0 rfl) ?_
      refine lv_iconst (v := 1) hx hb dL_law_236 (by decide) ?_
      refine lv_iadd hx hb dL_law_237 ?_
      refine top_i (nI_add _ 1) ?_
      refine sld_n (j := (i + 1)) hx hb hXs hbl hbA hS (by omega) (by omega) dL_law_238 ?_
      refine top_i ev ?_
      refine lv_aload_n hx hb dL_law_239 rfl (lv_at hl 1 rfl) ?_
      refine lv_iload_n hx hb dL_law_240 rfl (lv_at hl 0 rfl) ?_
      refine lv_iconst (v := 2) hx hb dL_law_241 (by decide) ?_
      refine lv_iadd hx hb dL_law_242 ?_
      refine top_i (nI_add _ 2) ?_
      refine sld_n (j := (i + 2)) hx hb hXs hbl hbA hS (by omega) (by omega) dL_law_243 ?_
      refine lv_aload_n hx hb dL_law_244 rfl (lv_at hl 1 rfl) ?_
      refine lv_iload_n hx hb dL_law_245 rfl (lv_at hl 0 rfl) ?_
      refine lv_iconst (v := 3) hx hb dL_law_246 (by decide) ?_
      refine lv_iadd hx hb dL_law_247 ?_
      refine top_i (nI_add _ 3) ?_
      refine sld_n (j := (i + 3)) hx hb hXs hbl hbA hS (by omega) (by omega) dL_law_248 ?_
      refine ro_call (va_runV (As := [.int (nI k), .int (xs (i + 2)), .int (xs (i + 3))]) (rest := []) ⟨hx, hb, hml, hown, hts⟩ (k_figure_n l I hX h0 h1 h2 hk hj) (cwV 3 hts gL_law_X1_figure rfl rfl rfl (by decide +kernel) ⟨Nat.le_of_ble_eq_true rfl, Nat.le_of_ble_eq_true rfl⟩) (ro_preV hK (va_recv hK hX (ci := 1) (q0 := 0) rfl rfl)) rfl rfl hl.1 rfl (lv_room (Nat.le_of_ble_eq_true rfl)) dL_law_249 ⟨Nat.le_of_ble_eq_true rfl, Nat.le_of_ble_eq_true rfl⟩) ?_
      refine lv_aload_n hx hb dL_law_252 rfl (lv_at hl 3 rfl) ?_
      refine lv_aload_n hx hb dL_law_253 rfl (lv_at hl 1 rfl) ?_
      refine lv_iload_n hx hb dL_law_254 rfl (lv_at hl 0 rfl) ?_
      refine lv_iconst (v := 1) hx hb dL_law_255 (by decide) ?_
      refine lv_iadd hx hb dL_law_256 ?_
      refine top_i (nI_add _ 1) ?_
      refine sld_n (j := (i + 1)) hx hb hXs hbl hbA hS (by omega) (by omega) dL_law_257 ?_
      refine top_i ev ?_
      refine lv_aload_n hx hb dL_law_258 rfl (lv_at hl 1 rfl) ?_
      refine lv_iload_n hx hb dL_law_259 rfl (lv_at hl 0 rfl) ?_
      refine lv_iconst (v := 2) hx hb dL_law_260 (by decide) ?_
      refine lv_iadd hx hb dL_law_261 ?_
      refine top_i (nI_add _ 2) ?_
      refine sld_n (j := (i + 2)) hx hb hXs hbl hbA hS (by omega) (by omega) dL_law_262 ?_
      refine lv_aload_n hx hb dL_law_263 rfl (lv_at hl 1 rfl) ?_
      refine lv_iload_n hx hb dL_law_264 rfl (lv_at hl 0 rfl) ?_
      refine lv_iconst (v := 3) hx hb dL_law_265 (by decide) ?_
      refine lv_iadd hx hb dL_law_266 ?_
      refine top_i (nI_add _ 3) ?_
      refine sld_n (j := (i + 3)) hx hb hXs hbl hbA hS (by omega) (by omega) dL_law_267 ?_
      refine ro_call (va_runV (As := [.int (nI k), .int (xs (i + 2)), .int (xs (i + 3))]) (rest := [.int 0]) ⟨hx, hb, hml, hown, hts⟩ (c_X2_figure_n l Y q I.1 hM k _ _ hk hj) (cwV 3 hts gL_law_X2_figure rfl rfl rfl (by decide +kernel) ⟨Nat.le_of_ble_eq_true rfl, Nat.le_of_ble_eq_true rfl⟩) (ro_preV hK (va_recv hK hM (ci := 2) (q0 := 0) rfl rfl)) rfl rfl hl.1 rfl (lv_room (Nat.le_of_ble_eq_true rfl)) dL_law_268 ⟨Nat.le_of_ble_eq_true rfl, Nat.le_of_ble_eq_true rfl⟩) ?_
      refine lv_icmp_eq (tgt := 548) hx hb dL_law_271 (by decide) (fun c_271 => ?_) (fun c_271 => ?_)
      · exact kk
      · exact absurd rfl c_271
  · refine lv_aload_n hx hb dL_law_233 rfl (lv_at hl 2 rfl) ?_
    refine lv_aload_n hx hb dL_law_234 rfl (lv_at hl 1 rfl) ?_
    refine lv_iload_n hx hb dL_law_235 rfl (lv_at hl 0 rfl) ?_
    refine lv_iconst (v := 1) hx hb dL_law_236 (by decide) ?_
    refine lv_iadd hx hb dL_law_237 ?_
    refine top_i (nI_add _ 1) ?_
    refine sld_n (j := (i + 1)) hx hb hXs hbl hbA hS (by omega) (by omega) dL_law_238 ?_
    refine lv_aload_n hx hb dL_law_239 rfl (lv_at hl 1 rfl) ?_
    refine lv_iload_n hx hb dL_law_240 rfl (lv_at hl 0 rfl) ?_
    refine lv_iconst (v := 2) hx hb dL_law_241 (by decide) ?_
    refine lv_iadd hx hb dL_law_242 ?_
    refine top_i (nI_add _ 2) ?_
    refine sld_n (j := (i + 2)) hx hb hXs hbl hbA hS (by omega) (by omega) dL_law_243 ?_
    refine lv_aload_n hx hb dL_law_244 rfl (lv_at hl 1 rfl) ?_
    refine lv_iload_n hx hb dL_law_245 rfl (lv_at hl 0 rfl) ?_
    refine lv_iconst (v := 3) hx hb dL_law_246 (by decide) ?_
    refine lv_iadd hx hb dL_law_247 ?_
    refine top_i (nI_add _ 3) ?_
    refine sld_n (j := (i + 3)) hx hb hXs hbl hbA hS (by omega) (by omega) dL_law_248 ?_
    refine ro_call (va_runV (As := [.int (xs (i + 1)), .int (xs (i + 2)), .int (xs (i + 3))]) (rest := []) ⟨hx, hb, hml, hown, hts⟩ (c_X1_figure_3 l x sq lt A0 A1 A2 hX (xs (i + 2)) (xs (i + 3)) (xs (i + 1)) hn) (cwV 3 hts gL_law_X1_figure rfl rfl rfl (by decide +kernel) ⟨Nat.le_of_ble_eq_true rfl, Nat.le_of_ble_eq_true rfl⟩) (ro_preV hK (va_recv hK hX (ci := 1) (q0 := 0) rfl rfl)) rfl rfl hl.1 rfl (lv_room (Nat.le_of_ble_eq_true rfl)) dL_law_249 ⟨Nat.le_of_ble_eq_true rfl, Nat.le_of_ble_eq_true rfl⟩) ?_
    refine lv_aload_n hx hb dL_law_252 rfl (lv_at hl 3 rfl) ?_
    refine lv_aload_n hx hb dL_law_253 rfl (lv_at hl 1 rfl) ?_
    refine lv_iload_n hx hb dL_law_254 rfl (lv_at hl 0 rfl) ?_
    refine lv_iconst (v := 1) hx hb dL_law_255 (by decide) ?_
    refine lv_iadd hx hb dL_law_256 ?_
    refine top_i (nI_add _ 1) ?_
    refine sld_n (j := (i + 1)) hx hb hXs hbl hbA hS (by omega) (by omega) dL_law_257 ?_
    refine lv_aload_n hx hb dL_law_258 rfl (lv_at hl 1 rfl) ?_
    refine lv_iload_n hx hb dL_law_259 rfl (lv_at hl 0 rfl) ?_
    refine lv_iconst (v := 2) hx hb dL_law_260 (by decide) ?_
    refine lv_iadd hx hb dL_law_261 ?_
    refine top_i (nI_add _ 2) ?_
    refine sld_n (j := (i + 2)) hx hb hXs hbl hbA hS (by omega) (by omega) dL_law_262 ?_
    refine lv_aload_n hx hb dL_law_263 rfl (lv_at hl 1 rfl) ?_
    refine lv_iload_n hx hb dL_law_264 rfl (lv_at hl 0 rfl) ?_
    refine lv_iconst (v := 3) hx hb dL_law_265 (by decide) ?_
    refine lv_iadd hx hb dL_law_266 ?_
    refine top_i (nI_add _ 3) ?_
    refine sld_n (j := (i + 3)) hx hb hXs hbl hbA hS (by omega) (by omega) dL_law_267 ?_
    refine ro_call (va_runV (As := [.int (xs (i + 1)), .int (xs (i + 2)), .int (xs (i + 3))]) (rest := [.int 0]) ⟨hx, hb, hml, hown, hts⟩ (c_X2_figure_x l Y q I.1 hM (xs (i + 1)) (xs (i + 2)) (xs (i + 3)) hn) (cwV 3 hts gL_law_X2_figure rfl rfl rfl (by decide +kernel) ⟨Nat.le_of_ble_eq_true rfl, Nat.le_of_ble_eq_true rfl⟩) (ro_preV hK (va_recv hK hM (ci := 2) (q0 := 0) rfl rfl)) rfl rfl hl.1 rfl (lv_room (Nat.le_of_ble_eq_true rfl)) dL_law_268 ⟨Nat.le_of_ble_eq_true rfl, Nat.le_of_ble_eq_true rfl⟩) ?_
    refine lv_icmp_eq (tgt := 548) hx hb dL_law_271 (by decide) (fun c_271 => ?_) (fun c_271 => ?_)
    · exact kk
    · exact absurd rfl c_271
set_option maxHeartbeats 4000000 in
set_option maxRecDepth 100000 in
theorem op_append {p : Program} {l : Launch} {e : Env} {s : State} {m : MethodId} {below : List Frame} {meth : Method} {c : Code} {b L : Nat} {xs : Nat → Int32} {D : va_G} {cI cA cJ : ClassId} {x sq : Nat} {lt : Int32} {A0 A1 A2 : rgA} {r0 r1 r2 : rgV} {Y : mA} {q : mv} {g : Nat → Int32} {H : Heap} {locs : List Loc} {ls : Array Slot} {i : Nat} (hL : L ≤ 2053) (C0 : lw_At p s m meth c b L xs) (hK : va_K D vwCl (tyL cI cA cJ) s) (hP : va_P D vwCl (TOT cI cA cJ x sq lt A0 A1 A2 r0 r1 r2 g Y q) H) (hD : va_D (fun z : Nat => s.heap.size ≤ z) (TOT cI cA cJ x sq lt A0 A1 A2 r0 r1 r2 g Y q)) (hS : va_S (fun z : Nat => s.heap.size ≤ z) s.heap H locs) (I : INV q lt r0 r1 r2) (hi : i + 4 ≤ L) (hl : lv_has ls 4 [(3, .int (nI i)), (0, .ref b), (1, .ref x), (2, .ref (b_o Y))]) (hp1 : m_P q < 512) (kk : ∀ (lt : Int32) (r0 r1 r2 : rgV) (g : Nat → Int32) (q2 : mv) (H : Heap) (locs : List Loc), va_P D vwCl (TOT cI cA cJ x sq lt A0 A1 A2 r0 r1 r2 g Y q2) H → va_S (fun z : Nat => s.heap.size ≤ z) s.heap H locs → INV q2 lt r0 r1 r2 → m_P q2 ≤ m_P q + 1 → W p l e room_1 s m #[Value.ref b] below meth c H locs 28 3058 (lw_Z below #[Value.ref b] s) (F0 m 548 ls [])) : W p l e room_1 s m #[Value.ref b] below meth c H locs 28 3058 (lw_Z below #[Value.ref b] s) (F0 m 144 ls []) := by
  obtain ⟨hx, hb, hr, hml, hown, hts0, hXs, hbl, hlocks, hgv⟩ := id C0
  have hts : ∀ w ∈ wsL_law, w.before #[Value.ref b] s = true := fun w h => hts0 w (wsL_law_in w h)
  have hown : s.vm.findClass RL = some m.cls := hown
  have hbA : ¬ (fun z : Nat => s.heap.size ≤ z) b := Nat.not_le.mpr hbl
  have hP9 : va_P D vwCl (aW cI cA x sq lt A0 A1 A2 r0 r1 r2 ++ (sqW cI sq (v_N r0) g ++ mW cI cJ Y q)) H := hP
  have hA : va_P D vwCl (xW x sq lt A0 A1 A2 ++ (rgW cI cA A0 r0 ++ (rgW cI cA A1 r1 ++ rgW cI cA A2 r2))) H := va_P_l hP9
  have hX := va_P_l hA
  have h0 := va_P_l (va_P_r hA)
  have h1 := va_P_l (va_P_r (va_P_r hA))
  have h2 := va_P_r (va_P_r (va_P_r hA))
  have hQ := va_P_l (va_P_r hP9)
  have hM := va_P_r (va_P_r hP9)
  have hD9 : va_D (fun z : Nat => s.heap.size ≤ z) ((xW x sq lt A0 A1 A2 ++ (rgW cI cA A0 r0 ++ (rgW cI cA A1 r1 ++ rgW cI cA A2 r2))) ++ (sqW cI sq (v_N r0) g ++ mW cI cJ Y q)) := hD
  have dA := va_D_l hD9
  have dQ := va_D_l (va_D_r hD9)
  have dM := va_D_r (va_D_r hD9)
  have aAQM := va_D_apt hD9
  rw [List.map_append (l₁ := sqW cI sq (v_N r0) g)] at aAQM
  have aAQ := apt_l aAQM
  have aAM := apt_r aAQM
  have aQM := va_D_apt (va_D_r hD9)
  have hle : ∀ z, H.size ≤ z → (fun z : Nat => s.heap.size ≤ z) z := fun z h => Nat.le_trans hS.1 h
  rcases ap_cases I (xs (i + 1)) with ⟨hs1, hs2⟩ | ⟨tm, htm, et, hs1, hs2⟩
  · refine lv_aload_n hx hb dL_law_144 rfl (lv_at hl 2 rfl) ?_
    refine lv_aload_n hx hb dL_law_145 rfl (lv_at hl 1 rfl) ?_
    refine lv_iload_n hx hb dL_law_146 rfl (lv_at hl 0 rfl) ?_
    refine lv_iconst (v := 1) hx hb dL_law_147 (by decide) ?_
    refine lv_iadd hx hb dL_law_148 ?_
    refine top_i (nI_add _ 1) ?_
    refine sld_n (j := (i + 1)) hx hb hXs hbl hbA hS (by omega) (by omega) dL_law_149 ?_
    refine lv_aload_n hx hb dL_law_150 rfl (lv_at hl 1 rfl) ?_
    refine lv_iload_n hx hb dL_law_151 rfl (lv_at hl 0 rfl) ?_
    refine lv_iconst (v := 2) hx hb dL_law_152 (by decide) ?_
    refine lv_iadd hx hb dL_law_153 ?_
    refine top_i (nI_add _ 2) ?_
    refine sld_n (j := (i + 2)) hx hb hXs hbl hbA hS (by omega) (by omega) dL_law_154 ?_
    refine wr_call (va_runV (As := [.int (xs (i + 1)), .int (xs (i + 2))]) (rest := []) ⟨hx, hb, hml, hown, hts⟩ (c_X1_append_s l x sq lt A0 A1 A2 r0 r1 r2 I.2.2.2.2.1.1 I.2.2.2.2.2.1.1 I.2.2.2.2.2.2.1.1 hA dA (xs (i + 1)) (xs (i + 2)) hs1) (cwV 2 hts gL_law_X1_append rfl rfl rfl (by decide +kernel) ⟨Nat.le_of_ble_eq_true rfl, Nat.le_of_ble_eq_true rfl⟩) (ro_preV hK (va_recv hK hX (ci := 1) (q0 := 0) rfl rfl)) rfl rfl hl.1 rfl (lv_room (Nat.le_of_ble_eq_true rfl)) dL_law_155 ⟨Nat.le_of_ble_eq_true rfl, Nat.le_of_ble_eq_true rfl⟩) hS (va_A_of dA hle) (fun H1 locs hA hz1 hk1 hS => ?_)
    refine W.eq (g2 := F0 m 158 ls [.int 1]) rfl ?_
    have hQ := keepP (w := sqW cI sq (v_N r0) g) (wc := xW x sq lt A0 A1 A2 ++ (rgW cI cA A0 r0 ++ (rgW cI cA A1 r1 ++ rgW cI cA A2 r2))) (apt_symm aAQ) hQ hk1
    have hM := keepP (w := mW cI cJ Y q) (wc := xW x sq lt A0 A1 A2 ++ (rgW cI cA A0 r0 ++ (rgW cI cA A1 r1 ++ rgW cI cA A2 r2))) (apt_symm aAM) hM hk1
    have hle : ∀ z, H1.size ≤ z → (fun z : Nat => s.heap.size ≤ z) z := fun z h => Nat.le_trans hS.1 h
    refine lv_aload_n hx hb dL_law_158 rfl (lv_at hl 3 rfl) ?_
    refine lv_aload_n hx hb dL_law_159 rfl (lv_at hl 1 rfl) ?_
    refine lv_iload_n hx hb dL_law_160 rfl (lv_at hl 0 rfl) ?_
    refine lv_iconst (v := 1) hx hb dL_law_161 (by decide) ?_
    refine lv_iadd hx hb dL_law_162 ?_
    refine top_i (nI_add _ 1) ?_
    refine sld_n (j := (i + 1)) hx hb hXs hbl hbA hS (by omega) (by omega) dL_law_163 ?_
    refine lv_aload_n hx hb dL_law_164 rfl (lv_at hl 1 rfl) ?_
    refine lv_iload_n hx hb dL_law_165 rfl (lv_at hl 0 rfl) ?_
    refine lv_iconst (v := 2) hx hb dL_law_166 (by decide) ?_
    refine lv_iadd hx hb dL_law_167 ?_
    refine top_i (nI_add _ 2) ?_
    refine sld_n (j := (i + 2)) hx hb hXs hbl hbA hS (by omega) (by omega) dL_law_168 ?_
    refine wr_call (va_runV (As := [.int (xs (i + 1)), .int (xs (i + 2))]) (rest := [.int 1]) ⟨hx, hb, hml, hown, hts⟩ (c_X2_append_s l Y q I.1 hM dM (xs (i + 1)) (xs (i + 2)) hs2) (cwV 2 hts gL_law_X2_append rfl rfl rfl (by decide +kernel) ⟨Nat.le_of_ble_eq_true rfl, Nat.le_of_ble_eq_true rfl⟩) (ro_preV hK (va_recv hK hM (ci := 2) (q0 := 0) rfl rfl)) rfl rfl hl.1 rfl (lv_room (Nat.le_of_ble_eq_true rfl)) dL_law_169 ⟨Nat.le_of_ble_eq_true rfl, Nat.le_of_ble_eq_true rfl⟩) hS (va_A_of dM hle) (fun H2 locs hM hz2 hk2 hS => ?_)
    refine W.eq (g2 := F0 m 172 ls [.int 1, .int 1]) rfl ?_
    have hA := keepP (w := xW x sq lt A0 A1 A2 ++ (rgW cI cA A0 r0 ++ (rgW cI cA A1 r1 ++ rgW cI cA A2 r2))) (wc := mW cI cJ Y q) aAM hA hk2
    have hQ := keepP (w := sqW cI sq (v_N r0) g) (wc := mW cI cJ Y q) aQM hQ hk2
    refine lv_icmp_eq (tgt := 548) hx hb dL_law_172 (by decide) (fun c_172 => ?_) (fun c_172 => ?_)
    · exact kk lt r0 r1 r2 g q H2 locs (hA.app (hQ.app hM)) hS I (by omega)
    · exact absurd rfl c_172
  · have hN0 : v_N (tkV r0 tm (xs (i + 2))) = v_N r0 := tkV_N I.2.2.2.2.1.1
    refine lv_aload_n hx hb dL_law_144 rfl (lv_at hl 2 rfl) ?_
    refine lv_aload_n hx hb dL_law_145 rfl (lv_at hl 1 rfl) ?_
    refine lv_iload_n hx hb dL_law_146 rfl (lv_at hl 0 rfl) ?_
    refine lv_iconst (v := 1) hx hb dL_law_147 (by decide) ?_
    refine lv_iadd hx hb dL_law_148 ?_
    refine top_i (nI_add _ 1) ?_
    refine sld_n (j := (i + 1)) hx hb hXs hbl hbA hS (by omega) (by omega) dL_law_149 ?_
    refine top_i et ?_
    refine lv_aload_n hx hb dL_law_150 rfl (lv_at hl 1 rfl) ?_
    refine lv_iload_n hx hb dL_law_151 rfl (lv_at hl 0 rfl) ?_
    refine lv_iconst (v := 2) hx hb dL_law_152 (by decide) ?_
    refine lv_iadd hx hb dL_law_153 ?_
    refine top_i (nI_add _ 2) ?_
    refine sld_n (j := (i + 2)) hx hb hXs hbl hbA hS (by omega) (by omega) dL_law_154 ?_
    refine wr_call (va_runV (As := [.int (nI tm), .int (xs (i + 2))]) (rest := []) ⟨hx, hb, hml, hown, hts⟩ (c_X1_append l x sq lt A0 A1 A2 r0 r1 r2 I.2.2.2.2.1.1 I.2.2.2.2.2.1.1 I.2.2.2.2.2.2.1.1 hA dA tm htm (xs (i + 2)) hs1) (cwV 2 hts gL_law_X1_append rfl rfl rfl (by decide +kernel) ⟨Nat.le_of_ble_eq_true rfl, Nat.le_of_ble_eq_true rfl⟩) (ro_preV hK (va_recv hK hX (ci := 1) (q0 := 0) rfl rfl)) rfl rfl hl.1 rfl (lv_room (Nat.le_of_ble_eq_true rfl)) dL_law_155 ⟨Nat.le_of_ble_eq_true rfl, Nat.le_of_ble_eq_true rfl⟩) hS (va_A_of dA hle) (fun H1 locs hA hz1 hk1 hS => ?_)
    refine W.eq (g2 := F0 m 158 ls [.int 0]) rfl ?_
    have hQ := keepP (w := sqW cI sq (v_N r0) g) (wc := xW x sq lt A0 A1 A2 ++ (rgW cI cA A0 r0 ++ (rgW cI cA A1 r1 ++ rgW cI cA A2 r2))) (apt_symm aAQ) hQ hk1
    have hM := keepP (w := mW cI cJ Y q) (wc := xW x sq lt A0 A1 A2 ++ (rgW cI cA A0 r0 ++ (rgW cI cA A1 r1 ++ rgW cI cA A2 r2))) (apt_symm aAM) hM hk1
    have hle : ∀ z, H1.size ≤ z → (fun z : Nat => s.heap.size ≤ z) z := fun z h => Nat.le_trans hS.1 h
    refine lv_aload_n hx hb dL_law_158 rfl (lv_at hl 3 rfl) ?_
    refine lv_aload_n hx hb dL_law_159 rfl (lv_at hl 1 rfl) ?_
    refine lv_iload_n hx hb dL_law_160 rfl (lv_at hl 0 rfl) ?_
    refine lv_iconst (v := 1) hx hb dL_law_161 (by decide) ?_
    refine lv_iadd hx hb dL_law_162 ?_
    refine top_i (nI_add _ 1) ?_
    refine sld_n (j := (i + 1)) hx hb hXs hbl hbA hS (by omega) (by omega) dL_law_163 ?_
    refine top_i et ?_
    refine lv_aload_n hx hb dL_law_164 rfl (lv_at hl 1 rfl) ?_
    refine lv_iload_n hx hb dL_law_165 rfl (lv_at hl 0 rfl) ?_
    refine lv_iconst (v := 2) hx hb dL_law_166 (by decide) ?_
    refine lv_iadd hx hb dL_law_167 ?_
    refine top_i (nI_add _ 2) ?_
    refine sld_n (j := (i + 2)) hx hb hXs hbl hbA hS (by omega) (by omega) dL_law_168 ?_
    refine wr_call (va_runV (As := [.int (nI tm), .int (xs (i + 2))]) (rest := [.int 0]) ⟨hx, hb, hml, hown, hts⟩ (c_X2_append l Y q I.1 hM dM hp1 tm htm (xs (i + 2)) hs2) (cwV 2 hts gL_law_X2_append rfl rfl rfl (by decide +kernel) ⟨Nat.le_of_ble_eq_true rfl, Nat.le_of_ble_eq_true rfl⟩) (ro_preV hK (va_recv hK hM (ci := 2) (q0 := 0) rfl rfl)) rfl rfl hl.1 rfl (lv_room (Nat.le_of_ble_eq_true rfl)) dL_law_169 ⟨Nat.le_of_ble_eq_true rfl, Nat.le_of_ble_eq_true rfl⟩) hS (va_A_of dM hle) (fun H2 locs hM hz2 hk2 hS => ?_)
    refine W.eq (g2 := F0 m 172 ls [.int 0, .int 0]) rfl ?_
    have hA := keepP (w := xW x sq (nI tm) A0 A1 A2 ++ (rgW cI cA A0 (tkV r0 tm (xs (i + 2))) ++ (rgW cI cA A1 (tkV r1 tm (xs (i + 2))) ++ rgW cI cA A2 (tkV r2 tm (xs (i + 2)))))) (wc := mW cI cJ Y q) aAM hA hk2
    have hQ := keepP (w := sqW cI sq (v_N r0) g) (wc := mW cI cJ Y q) aQM hQ hk2
    refine lv_icmp_eq (tgt := 548) hx hb dL_law_172 (by decide) (fun c_172 => ?_) (fun c_172 => ?_)
    · exact kk (nI tm) (tkV r0 tm (xs (i + 2))) (tkV r1 tm (xs (i + 2))) (tkV r2 tm (xs (i + 2))) g (apM q tm (xs (i + 2))) H2 locs (show va_P D vwCl (TOT cI cA cJ x sq (nI tm) A0 A1 A2 (tkV r0 tm (xs (i + 2))) (tkV r1 tm (xs (i + 2))) (tkV r2 tm (xs (i + 2))) g Y (apM q tm (xs (i + 2)))) H2 from by unfold TOT; rw [hN0]; exact hA.app (hQ.app hM)) hS (INV_ap I hp1 htm (xs (i + 2)) hs2) (by rw [apM_P]; omega)
    · exact absurd rfl c_172
set_option maxHeartbeats 4000000 in
set_option maxRecDepth 100000 in
theorem op_median {p : Program} {l : Launch} {e : Env} {s : State} {m : MethodId} {below : List Frame} {meth : Method} {c : Code} {b L : Nat} {xs : Nat → Int32} {D : va_G} {cI cA cJ : ClassId} {x sq : Nat} {lt : Int32} {A0 A1 A2 : rgA} {r0 r1 r2 : rgV} {Y : mA} {q : mv} {g : Nat → Int32} {H : Heap} {locs : List Loc} {ls : Array Slot} {i : Nat} (hL : L ≤ 2053) (C0 : lw_At p s m meth c b L xs) (hK : va_K D vwCl (tyL cI cA cJ) s) (hP : va_P D vwCl (TOT cI cA cJ x sq lt A0 A1 A2 r0 r1 r2 g Y q) H) (hD : va_D (fun z : Nat => s.heap.size ≤ z) (TOT cI cA cJ x sq lt A0 A1 A2 r0 r1 r2 g Y q)) (hS : va_S (fun z : Nat => s.heap.size ≤ z) s.heap H locs) (I : INV q lt r0 r1 r2) (hi : i + 4 ≤ L) (hl : lv_has ls 4 [(3, .int (nI i)), (0, .ref b), (1, .ref x), (2, .ref (b_o Y))]) (kk : ∀ (lt : Int32) (r0 r1 r2 : rgV) (g : Nat → Int32) (q2 : mv) (H : Heap) (locs : List Loc), va_P D vwCl (TOT cI cA cJ x sq lt A0 A1 A2 r0 r1 r2 g Y q2) H → va_S (fun z : Nat => s.heap.size ≤ z) s.heap H locs → INV q2 lt r0 r1 r2 → m_P q2 ≤ m_P q + 1 → W p l e room_1 s m #[Value.ref b] below meth c H locs 28 3058 (lw_Z below #[Value.ref b] s) (F0 m 548 ls [])) : W p l e room_1 s m #[Value.ref b] below meth c H locs 28 3058 (lw_Z below #[Value.ref b] s) (F0 m 468 ls []) := by
  obtain ⟨hx, hb, hr, hml, hown, hts0, hXs, hbl, hlocks, hgv⟩ := id C0
  have hts : ∀ w ∈ wsL_law, w.before #[Value.ref b] s = true := fun w h => hts0 w (wsL_law_in w h)
  have hown : s.vm.findClass RL = some m.cls := hown
  have hbA : ¬ (fun z : Nat => s.heap.size ≤ z) b := Nat.not_le.mpr hbl
  have hP9 : va_P D vwCl (aW cI cA x sq lt A0 A1 A2 r0 r1 r2 ++ (sqW cI sq (v_N r0) g ++ mW cI cJ Y q)) H := hP
  have hA : va_P D vwCl (xW x sq lt A0 A1 A2 ++ (rgW cI cA A0 r0 ++ (rgW cI cA A1 r1 ++ rgW cI cA A2 r2))) H := va_P_l hP9
  have hX := va_P_l hA
  have h0 := va_P_l (va_P_r hA)
  have h1 := va_P_l (va_P_r (va_P_r hA))
  have h2 := va_P_r (va_P_r (va_P_r hA))
  have hQ := va_P_l (va_P_r hP9)
  have hM := va_P_r (va_P_r hP9)
  have hD9 : va_D (fun z : Nat => s.heap.size ≤ z) ((xW x sq lt A0 A1 A2 ++ (rgW cI cA A0 r0 ++ (rgW cI cA A1 r1 ++ rgW cI cA A2 r2))) ++ (sqW cI sq (v_N r0) g ++ mW cI cJ Y q)) := hD
  have dA := va_D_l hD9
  have dQ := va_D_l (va_D_r hD9)
  have dM := va_D_r (va_D_r hD9)
  have aAQM := va_D_apt hD9
  rw [List.map_append (l₁ := sqW cI sq (v_N r0) g)] at aAQM
  have aAQ := apt_l aAQM
  have aAM := apt_r aAQM
  have aQM := va_D_apt (va_D_r hD9)
  have hle : ∀ z, H.size ≤ z → (fun z : Nat => s.heap.size ≤ z) z := fun z h => Nat.le_trans hS.1 h
  have dX := va_D_l dA
  have aXR := va_D_apt dA
  have aQX : apt ((sqW cI sq (v_N r0) g).map (·.1)) ((xW x sq lt A0 A1 A2).map (·.1)) := fun y hy z hz => (apt_symm aAQ) y hy z (by rw [List.map_append]; exact List.mem_append_left _ hz)
  have dXQ : va_D (fun z : Nat => s.heap.size ≤ z) (xW x sq lt A0 A1 A2 ++ sqW cI sq (v_N r0) g) := va_D_app dX dQ (apt_symm aQX)
  have a0S : apt ((rgW cI cA A0 r0).map (·.1)) ((xW x sq lt A0 A1 A2 ++ sqW cI sq (v_N r0) g).map (·.1)) := by
    rw [List.map_append]
    refine apt_a (apt_symm (fun y hy z hz => aXR y hy z (by rw [List.map_append]; exact List.mem_append_left _ hz))) (fun y hy z hz => aAQ y (by rw [List.map_append, List.map_append]; exact List.mem_append_right _ (List.mem_append_left _ hy)) z hz)
  have a1S : apt ((rgW cI cA A1 r1).map (·.1)) ((xW x sq lt A0 A1 A2 ++ sqW cI sq (v_N r0) g).map (·.1)) := by
    rw [List.map_append]
    refine apt_a (apt_symm (fun y hy z hz => aXR y hy z (by rw [List.map_append, List.map_append]; exact List.mem_append_right _ (List.mem_append_left _ hz)))) (fun y hy z hz => aAQ y (by rw [List.map_append, List.map_append, List.map_append]; exact List.mem_append_right _ (List.mem_append_right _ (List.mem_append_left _ hy))) z hz)
  have a2S : apt ((rgW cI cA A2 r2).map (·.1)) ((xW x sq lt A0 A1 A2 ++ sqW cI sq (v_N r0) g).map (·.1)) := by
    rw [List.map_append]
    refine apt_a (apt_symm (fun y hy z hz => aXR y hy z (by rw [List.map_append, List.map_append]; exact List.mem_append_right _ (List.mem_append_right _ hz)))) (fun y hy z hz => aAQ y (by rw [List.map_append, List.map_append, List.map_append]; exact List.mem_append_right _ (List.mem_append_right _ (List.mem_append_right _ hy))) z hz)
  have aMS : apt ((mW cI cJ Y q).map (·.1)) ((xW x sq lt A0 A1 A2 ++ sqW cI sq (v_N r0) g).map (·.1)) := by
    rw [List.map_append]
    exact apt_a (fun y hy z hz => (apt_symm aAM) y hy z (by rw [List.map_append]; exact List.mem_append_left _ hz)) (apt_symm aQM)
  refine lv_aload_n hx hb dL_law_468 rfl (lv_at hl 2 rfl) ?_
  refine lv_aload_n hx hb dL_law_469 rfl (lv_at hl 1 rfl) ?_
  refine lv_iload_n hx hb dL_law_470 rfl (lv_at hl 0 rfl) ?_
  refine lv_iconst (v := 1) hx hb dL_law_471 (by decide) ?_
  refine lv_iadd hx hb dL_law_472 ?_
  refine top_i (nI_add _ 1) ?_
  refine sld_n (j := (i + 1)) hx hb hXs hbl hbA hS (by omega) (by omega) dL_law_473 ?_
  refine lv_aload_n hx hb dL_law_474 rfl (lv_at hl 1 rfl) ?_
  refine lv_iload_n hx hb dL_law_475 rfl (lv_at hl 0 rfl) ?_
  refine lv_iconst (v := 2) hx hb dL_law_476 (by decide) ?_
  refine lv_iadd hx hb dL_law_477 ?_
  refine top_i (nI_add _ 2) ?_
  refine sld_n (j := (i + 2)) hx hb hXs hbl hbA hS (by omega) (by omega) dL_law_478 ?_
  refine wr_call (va_runV (As := [.int (xs (i + 1)), .int (xs (i + 2))]) (rest := []) ⟨hx, hb, hml, hown, hts⟩ (c_X1_median l x sq lt A0 A1 A2 r0 I.2.2.2.2.1.1 h0 g (hX.app hQ) dXQ a0S (xs (i + 1)) (xs (i + 2))) (cwV 2 hts gL_law_X1_median rfl rfl rfl (by decide +kernel) ⟨Nat.le_of_ble_eq_true rfl, Nat.le_of_ble_eq_true rfl⟩) (ro_preV hK (va_recv hK hX (ci := 1) (q0 := 0) rfl rfl)) rfl rfl hl.1 rfl (lv_room (Nat.le_of_ble_eq_true rfl)) dL_law_479 ⟨Nat.le_of_ble_eq_true rfl, Nat.le_of_ble_eq_true rfl⟩) hS (va_A_of dXQ hle) (fun H1 locs hXQ hz1 hk1 hS => ?_)
  refine W.eq (g2 := F0 m 482 ls [.int (mdV r0 g (xs (i + 1)) (xs (i + 2)))]) rfl ?_
  refine top_i (md_eq (INV_L0 I) g (xs (i + 1)) (xs (i + 2))).symm ?_
  have h0 := keepP (w := rgW cI cA A0 r0) (wc := xW x sq lt A0 A1 A2 ++ sqW cI sq (v_N r0) g) a0S h0 hk1
  have h1 := keepP (w := rgW cI cA A1 r1) (wc := xW x sq lt A0 A1 A2 ++ sqW cI sq (v_N r0) g) a1S h1 hk1
  have h2 := keepP (w := rgW cI cA A2 r2) (wc := xW x sq lt A0 A1 A2 ++ sqW cI sq (v_N r0) g) a2S h2 hk1
  have hM := keepP (w := mW cI cJ Y q) (wc := xW x sq lt A0 A1 A2 ++ sqW cI sq (v_N r0) g) aMS hM hk1
  refine lv_aload_n hx hb dL_law_482 rfl (lv_at hl 3 rfl) ?_
  refine lv_aload_n hx hb dL_law_483 rfl (lv_at hl 1 rfl) ?_
  refine lv_iload_n hx hb dL_law_484 rfl (lv_at hl 0 rfl) ?_
  refine lv_iconst (v := 1) hx hb dL_law_485 (by decide) ?_
  refine lv_iadd hx hb dL_law_486 ?_
  refine top_i (nI_add _ 1) ?_
  refine sld_n (j := (i + 1)) hx hb hXs hbl hbA hS (by omega) (by omega) dL_law_487 ?_
  refine lv_aload_n hx hb dL_law_488 rfl (lv_at hl 1 rfl) ?_
  refine lv_iload_n hx hb dL_law_489 rfl (lv_at hl 0 rfl) ?_
  refine lv_iconst (v := 2) hx hb dL_law_490 (by decide) ?_
  refine lv_iadd hx hb dL_law_491 ?_
  refine top_i (nI_add _ 2) ?_
  refine sld_n (j := (i + 2)) hx hb hXs hbl hbA hS (by omega) (by omega) dL_law_492 ?_
  refine ro_call (va_runV (As := [.int (xs (i + 1)), .int (xs (i + 2))]) (rest := [.int (mdM q (xs (i + 1)) (xs (i + 2)))]) ⟨hx, hb, hml, hown, hts⟩ (c_X2_median l Y q I.1 hM (xs (i + 1)) (xs (i + 2))) (cwV 2 hts gL_law_X2_median rfl rfl rfl (by decide +kernel) ⟨Nat.le_of_ble_eq_true rfl, Nat.le_of_ble_eq_true rfl⟩) (ro_preV hK (va_recv hK hM (ci := 2) (q0 := 0) rfl rfl)) rfl rfl hl.1 rfl (lv_room (Nat.le_of_ble_eq_true rfl)) dL_law_493 ⟨Nat.le_of_ble_eq_true rfl, Nat.le_of_ble_eq_true rfl⟩) ?_
  refine lv_icmp_eq (tgt := 548) hx hb dL_law_496 (by decide) (fun c_496 => ?_) (fun c_496 => ?_)
  · exact kk lt r0 r1 r2 _ q H1 locs (((va_P_l hXQ).app (h0.app (h1.app h2))).app ((va_P_r hXQ).app hM)) hS I (by omega)
  · exact absurd rfl c_496
