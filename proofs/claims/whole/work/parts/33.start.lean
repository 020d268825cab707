set_option maxHeartbeats 4000000 in
set_option maxRecDepth 100000 in
/-- THE LAW, from its entry -/
theorem whole_start {p : Program} {e : Env} {s : State} {m : MethodId} {below : List Frame} {meth : Method} {c : Code} (l : Launch) {b L : Nat} {xs : Nat → Int32} (hL : L ≤ 2053) (C0 : lw_At p s m meth c b L xs) : W p l e room_1 s m #[Value.ref b] below meth c s.heap [] 0 0 (lw_Z below #[Value.ref b] s) (entryFrame m ([Value.ref b] : List Value).toArray 4) := by
  obtain ⟨hx, hb, hr, hml, hown, hts0, hXs, hbl, hlocks, hgv⟩ := id C0
  have hts : ∀ w ∈ wsL_law, w.before #[Value.ref b] s = true := fun w h => hts0 w (wsL_law_in w h)
  have hown : s.vm.findClass RL = some m.cls := hown
  have hA : ∀ z : Nat, s.heap.size ≤ z → (fun z : Nat => s.heap.size ≤ z) z := fun _ h => h
  have hbA : ¬ (fun z : Nat => s.heap.size ≤ z) b := Nat.not_le.mpr hbl
  obtain ⟨c0, iS0, hKn0⟩ := u_known (C := RX0) (T := TX0) (N := 7) (n := 7) hts inlX0 (hts (.instantiable RX0 7) (by decide +kernel))
  obtain ⟨c1, iS1, hKn1⟩ := u_known (C := RX1) (T := TX1) (N := 5) (n := 5) hts inlX1 (hts (.instantiable RX1 5) (by decide +kernel))
  obtain ⟨c2, iS2, hKn2⟩ := u_known (C := RX2) (T := TX2) (N := 6) (n := 6) hts inlX2 (hts (.instantiable RX2 6) (by decide +kernel))
  obtain ⟨D, hKc⟩ : ∃ D : va_G, ∀ (k : Nat) (q : vw_C), vwCl[k]? = some q → u_Kn s q.1 q.2.1 q.2.2 (D.1 k) (D.2 k) := by
    refine ⟨(fun k => if k = 0 then c0 else if k = 1 then c1 else c2, fun k => if k = 0 then iS0 else if k = 1 then iS1 else iS2), ?_⟩
    intro k q hq
    match k, hq with
    | 0, hq => cases hq; exact hKn0
    | 1, hq => cases hq; exact hKn1
    | 2, hq => cases hq; exact hKn2
    | k + 3, hq => simp [vwCl] at hq
  obtain ⟨cI, cA, kA, f1, -, f3, f4, f5⟩ := arrayOverA_spec (hts0 (.arrayOver (.array .int)) (by decide +kernel))
  obtain ⟨cI2, kC, cx, g1, g2, g3⟩ := Cond.arrayClass_spec (hts0 (.arrayClass .int) (by decide +kernel))
  obtain ⟨cJ, kJ, cy, j1, j2, j3⟩ := Cond.arrayClass_spec (hts0 (.arrayClass .long) (by decide +kernel))
  have e2 : cI2 = cI := Option.some.inj (g1.symm.trans f1)
  subst e2
  have hG : gAO cI2 cA s := ⟨f1, f5, ⟨kA, f3, f4⟩, kC, cx, g2, g3⟩
  have hK : va_K D vwCl (tyL cI2 cA cJ) s := by
    refine ⟨hKc, fun k q hq => ?_⟩
    match k, hq with
    | 0, hq => cases hq; exact ⟨fun N z => ⟨(fun k h => by cases h), kC, g2, cx, g3⟩, f1⟩
    | 1, hq => cases hq; exact ⟨fun N z => ⟨(fun k h => by cases h), kA, f3, cI2, f4⟩, f5⟩
    | 2, hq => cases hq; exact ⟨fun N z => ⟨(fun k h => by cases h), kJ, j2, cy, j3⟩, j1⟩
    | k + 3, hq => simp [tyL] at hq
  have hS : va_S (fun z : Nat => s.heap.size ≤ z) s.heap s.heap [] := va_S.rf
  have hP : va_P D vwCl [] s.heap := fun k q h => by simp at h
  have hD : va_D (fun z : Nat => s.heap.size ≤ z) [] := ⟨fun i j p q h => by simp at h, fun k q h => by simp at h⟩
  have hl := lv_entry ([.ref b]) (n := 4) (Nat.le_of_ble_eq_true rfl)
  rw [lg_entry_eq]
  generalize (lg_sl ([.ref b]) ++ List.replicate (4 - (lg_sl ([.ref b])).length) Slot.unset).toArray = ls at hl ⊢
  have hl : lv_has ls 4 [(0, .ref b)] := hl
  refine va_new (ci := 1) (fs := [.null, .null, .null, .null, .int 0]) (C := RX1) (T := TX1) (N := 5) hx hb hts inlX1 tyX1 tyX1_ok hown (hts (.classLink RL 7 RX1) (by decide +kernel)) (hts (.instantiable RX1 5) (by decide +kernel)) (hts (.initialized RX1) (by decide +kernel)) hK hP hD hS hA rfl (fun j hj => by rcases (show j = 0 ∨ j = 1 ∨ j = 2 ∨ j = 3 ∨ j = 4 by omega) with rfl | rfl | rfl | rfl | rfl <;> rfl) (Nat.le_of_ble_eq_true rfl) (Nat.le_of_ble_eq_true rfl) dL_law_0 (fun x H hP hD hS => ?_)
  have hP : va_P D vwCl [(x, .inr (1, [.null, .null, .null, .null, .int 0]))] H := hP
  have hD : va_D (fun z : Nat => s.heap.size ≤ z) [(x, .inr (1, [.null, .null, .null, .null, .int 0]))] := hD
  refine W.widen (k := 1) (n := 5) (by omega) (by omega) ?_
  refine lv_dup hx hb dL_law_3 rfl ?_
  have hXH : va_X b L xs s H := hXs.kept (hS.2.1 b hbl hbA)
  refine lv_aload_n hx hb dL_law_4 rfl (lv_at hl 0 rfl) ?_
  refine lv_iconst (v := 0) hx hb dL_law_5 (by decide) ?_
  refine ro_call (va_runS (As := [.ref b, .int 0]) (rest := [.ref x, .ref x]) ⟨hx, hb, hml, hown, hts⟩ (c_L_cell l (b := b) (xs := xs) hL 0 (by omega)) (va_cwS 2 hts gL_law_L_cell rfl rfl rfl (by decide +kernel) ⟨Nat.le_of_ble_eq_true rfl, Nat.le_of_ble_eq_true rfl⟩) (sc_pre hXH) rfl rfl hl.1 rfl (lv_room (Nat.le_of_ble_eq_true rfl)) dL_law_6 ⟨Nat.le_of_ble_eq_true rfl, Nat.le_of_ble_eq_true rfl⟩) ?_
  refine lv_aload_n hx hb dL_law_9 rfl (lv_at hl 0 rfl) ?_
  refine lv_iconst (v := 1) hx hb dL_law_10 (by decide) ?_
  refine ro_call (va_runS (As := [.ref b, .int 1]) (rest := [.int (if 0 < L then xs 0 else 0), .ref x, .ref x]) ⟨hx, hb, hml, hown, hts⟩ (c_L_cell l (b := b) (xs := xs) hL 1 (by omega)) (va_cwS 2 hts gL_law_L_cell rfl rfl rfl (by decide +kernel) ⟨Nat.le_of_ble_eq_true rfl, Nat.le_of_ble_eq_true rfl⟩) (sc_pre hXH) rfl rfl hl.1 rfl (lv_room (Nat.le_of_ble_eq_true rfl)) dL_law_11 ⟨Nat.le_of_ble_eq_true rfl, Nat.le_of_ble_eq_true rfl⟩) ?_
  refine lv_aload_n hx hb dL_law_14 rfl (lv_at hl 0 rfl) ?_
  refine lv_iconst (v := 2) hx hb dL_law_15 (by decide) ?_
  refine ro_call (va_runS (As := [.ref b, .int 2]) (rest := [.int (if 1 < L then xs 1 else 0), .int (if 0 < L then xs 0 else 0), .ref x, .ref x]) ⟨hx, hb, hml, hown, hts⟩ (c_L_cell l (b := b) (xs := xs) hL 2 (by omega)) (va_cwS 2 hts gL_law_L_cell rfl rfl rfl (by decide +kernel) ⟨Nat.le_of_ble_eq_true rfl, Nat.le_of_ble_eq_true rfl⟩) (sc_pre hXH) rfl rfl hl.1 rfl (lv_room (Nat.le_of_ble_eq_true rfl)) dL_law_16 ⟨Nat.le_of_ble_eq_true rfl, Nat.le_of_ble_eq_true rfl⟩) ?_
  refine lv_aload_n hx hb dL_law_19 rfl (lv_at hl 0 rfl) ?_
  refine lv_iconst (v := 3) hx hb dL_law_20 (by decide) ?_
  refine ro_call (va_runS (As := [.ref b, .int 3]) (rest := [.int (if 2 < L then xs 2 else 0), .int (if 1 < L then xs 1 else 0), .int (if 0 < L then xs 0 else 0), .ref x, .ref x]) ⟨hx, hb, hml, hown, hts⟩ (c_L_cell l (b := b) (xs := xs) hL 3 (by omega)) (va_cwS 2 hts gL_law_L_cell rfl rfl rfl (by decide +kernel) ⟨Nat.le_of_ble_eq_true rfl, Nat.le_of_ble_eq_true rfl⟩) (sc_pre hXH) rfl rfl hl.1 rfl (lv_room (Nat.le_of_ble_eq_true rfl)) dL_law_21 ⟨Nat.le_of_ble_eq_true rfl, Nat.le_of_ble_eq_true rfl⟩) ?_
  refine lv_aload_n hx hb dL_law_24 rfl (lv_at hl 0 rfl) ?_
  refine lv_iconst (v := 4) hx hb dL_law_25 (by decide) ?_
  refine ro_call (va_runS (As := [.ref b, .int 4]) (rest := [.int (if 3 < L then xs 3 else 0), .int (if 2 < L then xs 2 else 0), .int (if 1 < L then xs 1 else 0), .int (if 0 < L then xs 0 else 0), .ref x, .ref x]) ⟨hx, hb, hml, hown, hts⟩ (c_L_cell l (b := b) (xs := xs) hL 4 (by omega)) (va_cwS 2 hts gL_law_L_cell rfl rfl rfl (by decide +kernel) ⟨Nat.le_of_ble_eq_true rfl, Nat.le_of_ble_eq_true rfl⟩) (sc_pre hXH) rfl rfl hl.1 rfl (lv_room (Nat.le_of_ble_eq_true rfl)) dL_law_26 ⟨Nat.le_of_ble_eq_true rfl, Nat.le_of_ble_eq_true rfl⟩) ?_
  refine cr_call (va_runI (As := [.int (if 0 < L then xs 0 else 0), .int (if 1 < L then xs 1 else 0), .int (if 2 < L then xs 2 else 0), .int (if 3 < L then xs 3 else 0), .int (if 4 < L then xs 4 else 0)]) (rest := [.ref x]) ⟨hx, hb, hml, hown, hts⟩ (c_X1_init l (cJ := cJ) x (if 0 < L then xs 0 else 0) (if 1 < L then xs 1 else 0) (if 2 < L then xs 2 else 0) (if 3 < L then xs 3 else 0) (if 4 < L then xs 4 else 0) hP hD) (cwI 5 hts gL_law_X1_init rfl rfl rfl (hts (.initialized RX1) (by decide +kernel)) (hts (.methodLink RL 15 yX1_init) (by decide +kernel)) (hts (.instanceMethod yX1_init) (by decide +kernel)) rfl (by decide +kernel) ⟨Nat.le_of_ble_eq_true rfl, Nat.le_of_ble_eq_true rfl⟩) (cr_preS hK hG) rfl rfl hl.1 rfl (lv_room (Nat.le_of_ble_eq_true rfl)) dL_law_29 ⟨Nat.le_of_ble_eq_true rfl, Nat.le_of_ble_eq_true rfl⟩) hS (va_A_of hD (fun z h => Nat.le_trans hS.1 h)) (fun u H1 locs _ hP1 hD1 hz1 hk1 hS1 => ?_)
  obtain ⟨sq, A0, A1, A2⟩ := u
  try dsimp only at hP1 hD1
  have hD1 := hD1.weaken (fun k y _ h => va_A_of hD (fun z h => Nat.le_trans hS.1 h) y.1 h)
  generalize hpn : clN (if 0 < L then xs 0 else 0) 1 60 = pn at hP1 hD1
  generalize hfn : clN (if 1 < L then xs 1 else 0) 1 60 = fn at hP1 hD1
  generalize hcn : clN (if 2 < L then xs 2 else 0) 1 60 = cn at hP1 hD1
  generalize hfw : clN (if 3 < L then xs 3 else 0) 1 1000000 = fw at hP1 hD1
  generalize hkk : clN (if 4 < L then xs 4 else 0) 2 1000 = kk at hP1 hD1
  have hP : va_P D vwCl (xW x sq (-1) A0 A1 A2 ++ rgW cI2 cA A0 (rg0 pn 1) ++ rgW cI2 cA A1 (rg0 fn fw) ++ rgW cI2 cA A2 (rg0 cn (fw * kk)) ++ sqW cI2 sq pn (fun _ => 0)) H1 := hP1
  have hD : va_D (fun z : Nat => s.heap.size ≤ z) (xW x sq (-1) A0 A1 A2 ++ rgW cI2 cA A0 (rg0 pn 1) ++ rgW cI2 cA A1 (rg0 fn fw) ++ rgW cI2 cA A2 (rg0 cn (fw * kk)) ++ sqW cI2 sq pn (fun _ => 0)) := hD1
  have hS := hS1
  refine W.widen (k := 23) (n := 998) (by omega) (by omega) ?_
  refine lv_astore_n (lv' := [(1, .ref x), (0, .ref b)]) hx hb dL_law_32 rfl hl (by decide) rfl (fun ls hl => ?_)
  refine va_new (ci := 2) (fs := [.int 0, .null, .null, .int 0, .null, .null]) (C := RX2) (T := TX2) (N := 6) hx hb hts inlX2 tyX2 tyX2_ok hown (hts (.classLink RL 18 RX2) (by decide +kernel)) (hts (.instantiable RX2 6) (by decide +kernel)) (hts (.initialized RX2) (by decide +kernel)) hK hP hD hS hA rfl (fun j hj => by rcases (show j = 0 ∨ j = 1 ∨ j = 2 ∨ j = 3 ∨ j = 4 ∨ j = 5 by omega) with rfl | rfl | rfl | rfl | rfl | rfl <;> rfl) (Nat.le_of_ble_eq_true rfl) (Nat.le_of_ble_eq_true rfl) dL_law_33 (fun y H2 hP hD hS => ?_)
  refine W.widen (k := 24) (n := 1004) (by omega) (by omega) ?_
  refine lv_dup hx hb dL_law_36 rfl ?_
  have hXH : va_X b L xs s H2 := hXs.kept (hS.2.1 b hbl hbA)
  refine lv_aload_n hx hb dL_law_37 rfl (lv_at hl 1 rfl) ?_
  refine lv_iconst (v := 0) hx hb dL_law_38 (by decide) ?_
  refine ro_call (va_runS (As := [.ref b, .int 0]) (rest := [.ref y, .ref y]) ⟨hx, hb, hml, hown, hts⟩ (c_L_cell l (b := b) (xs := xs) hL 0 (by omega)) (va_cwS 2 hts gL_law_L_cell rfl rfl rfl (by decide +kernel) ⟨Nat.le_of_ble_eq_true rfl, Nat.le_of_ble_eq_true rfl⟩) (sc_pre hXH) rfl rfl hl.1 rfl (lv_room (Nat.le_of_ble_eq_true rfl)) dL_law_39 ⟨Nat.le_of_ble_eq_true rfl, Nat.le_of_ble_eq_true rfl⟩) ?_
  refine lv_aload_n hx hb dL_law_42 rfl (lv_at hl 1 rfl) ?_
  refine lv_iconst (v := 1) hx hb dL_law_43 (by decide) ?_
  refine ro_call (va_runS (As := [.ref b, .int 1]) (rest := [.int (if 0 < L then xs 0 else 0), .ref y, .ref y]) ⟨hx, hb, hml, hown, hts⟩ (c_L_cell l (b := b) (xs := xs) hL 1 (by omega)) (va_cwS 2 hts gL_law_L_cell rfl rfl rfl (by decide +kernel) ⟨Nat.le_of_ble_eq_true rfl, Nat.le_of_ble_eq_true rfl⟩) (sc_pre hXH) rfl rfl hl.1 rfl (lv_room (Nat.le_of_ble_eq_true rfl)) dL_law_44 ⟨Nat.le_of_ble_eq_true rfl, Nat.le_of_ble_eq_true rfl⟩) ?_
  refine lv_aload_n hx hb dL_law_47 rfl (lv_at hl 1 rfl) ?_
  refine lv_iconst (v := 2) hx hb dL_law_48 (by decide) ?_
  refine ro_call (va_runS (As := [.ref b, .int 2]) (rest := [.int (if 1 < L then xs 1 else 0), .int (if 0 < L then xs 0 else 0), .ref y, .ref y]) ⟨hx, hb, hml, hown, hts⟩ (c_L_cell l (b := b) (xs := xs) hL 2 (by omega)) (va_cwS 2 hts gL_law_L_cell rfl rfl rfl (by decide +kernel) ⟨Nat.le_of_ble_eq_true rfl, Nat.le_of_ble_eq_true rfl⟩) (sc_pre hXH) rfl rfl hl.1 rfl (lv_room (Nat.le_of_ble_eq_true rfl)) dL_law_49 ⟨Nat.le_of_ble_eq_true rfl, Nat.le_of_ble_eq_true rfl⟩) ?_
  refine lv_aload_n hx hb dL_law_52 rfl (lv_at hl 1 rfl) ?_
  refine lv_iconst (v := 3) hx hb dL_law_53 (by decide) ?_
  refine ro_call (va_runS (As := [.ref b, .int 3]) (rest := [.int (if 2 < L then xs 2 else 0), .int (if 1 < L then xs 1 else 0), .int (if 0 < L then xs 0 else 0), .ref y, .ref y]) ⟨hx, hb, hml, hown, hts⟩ (c_L_cell l (b := b) (xs := xs) hL 3 (by omega)) (va_cwS 2 hts gL_law_L_cell rfl rfl rfl (by decide +kernel) ⟨Nat.le_of_ble_eq_true rfl, Nat.le_of_ble_eq_true rfl⟩) (sc_pre hXH) rfl rfl hl.1 rfl (lv_room (Nat.le_of_ble_eq_true rfl)) dL_law_54 ⟨Nat.le_of_ble_eq_true rfl, Nat.le_of_ble_eq_true rfl⟩) ?_
  refine lv_aload_n hx hb dL_law_57 rfl (lv_at hl 1 rfl) ?_
  refine lv_iconst (v := 4) hx hb dL_law_58 (by decide) ?_
  refine ro_call (va_runS (As := [.ref b, .int 4]) (rest := [.int (if 3 < L then xs 3 else 0), .int (if 2 < L then xs 2 else 0), .int (if 1 < L then xs 1 else 0), .int (if 0 < L then xs 0 else 0), .ref y, .ref y]) ⟨hx, hb, hml, hown, hts⟩ (c_L_cell l (b := b) (xs := xs) hL 4 (by omega)) (va_cwS 2 hts gL_law_L_cell rfl rfl rfl (by decide +kernel) ⟨Nat.le_of_ble_eq_true rfl, Nat.le_of_ble_eq_true rfl⟩) (sc_pre hXH) rfl rfl hl.1 rfl (lv_room (Nat.le_of_ble_eq_true rfl)) dL_law_59 ⟨Nat.le_of_ble_eq_true rfl, Nat.le_of_ble_eq_true rfl⟩) ?_
  refine cr_call (va_runI (As := [.int (if 0 < L then xs 0 else 0), .int (if 1 < L then xs 1 else 0), .int (if 2 < L then xs 2 else 0), .int (if 3 < L then xs 3 else 0), .int (if 4 < L then xs 4 else 0)]) (rest := [.ref y]) ⟨hx, hb, hml, hown, hts⟩ (c_X2_init l (cA := cA) y (if 0 < L then xs 0 else 0) (if 1 < L then xs 1 else 0) (if 2 < L then xs 2 else 0) (if 3 < L then xs 3 else 0) (if 4 < L then xs 4 else 0) (va_P_r hP) (va_D_r hD)) (cwI 5 hts gL_law_X2_init rfl rfl rfl (hts (.initialized RX2) (by decide +kernel)) (hts (.methodLink RL 20 yX2_init) (by decide +kernel)) (hts (.instanceMethod yX2_init) (by decide +kernel)) rfl (by decide +kernel) ⟨Nat.le_of_ble_eq_true rfl, Nat.le_of_ble_eq_true rfl⟩) (cr_preS hK hG) rfl rfl hl.1 rfl (lv_room (Nat.le_of_ble_eq_true rfl)) dL_law_62 ⟨Nat.le_of_ble_eq_true rfl, Nat.le_of_ble_eq_true rfl⟩) hS (va_A_of (va_D_r hD) (fun z h => Nat.le_trans hS.1 h)) (fun u H3 locs2 _ hP1 hD1 hz1 hk1 hS1 => ?_)
  try dsimp only at hP1 hD1
  rw [hpn, hfn, hcn, hfw, hkk] at hP1 hD1
  obtain ⟨hP, hD⟩ := join_last hP hD hk1 (va_A_of (va_D_r hD) (fun z h => Nat.le_trans hS.1 h)) hP1 hD1
  have eT : (xW x sq (-1) A0 A1 A2 ++ rgW cI2 cA A0 (rg0 pn 1) ++ rgW cI2 cA A1 (rg0 fn fw) ++ rgW cI2 cA A2 (rg0 cn (fw * kk)) ++ sqW cI2 sq pn (fun _ => 0)) ++ mW cI2 cJ (y, u) (md0 pn fn cn fw kk) = TOT cI2 cA cJ x sq (-1) A0 A1 A2 (rg0 pn 1) (rg0 fn fw) (rg0 cn (fw * kk)) (fun _ => 0) (y, u) (md0 pn fn cn fw kk) := by
    unfold TOT aW
    rw [List.append_assoc, List.append_assoc, List.append_assoc, List.append_assoc, List.append_assoc, List.append_assoc, List.append_assoc]
    rfl
  rw [eT] at hP hD
  refine W.widen (k := 28) (n := 3058) (by omega) (by omega) ?_
  refine lv_astore_n (lv' := [(2, .ref y), (1, .ref x), (0, .ref b)]) hx hb dL_law_65 rfl hl (by decide) rfl (fun ls hl => ?_)
  refine lv_iconst (v := 5) hx hb dL_law_66 (by decide) ?_
  refine lv_istore_n (lv' := [(3, .int 5), (2, .ref y), (1, .ref x), (0, .ref b)]) hx hb dL_law_67 rfl hl (by decide) rfl (fun ls hl => ?_)
  have i1 := clN_in (if 0 < L then xs 0 else 0) (lo := 1) (hi := 60) (by omega)
  have i2 := clN_in (if 1 < L then xs 1 else 0) (lo := 1) (hi := 60) (by omega)
  have i3 := clN_in (if 2 < L then xs 2 else 0) (lo := 1) (hi := 60) (by omega)
  have i4 := clN_in (if 3 < L then xs 3 else 0) (lo := 1) (hi := 1000000) (by omega)
  have i5 := clN_in (if 4 < L then xs 4 else 0) (lo := 2) (hi := 1000) (by omega)
  rw [hpn] at i1
  rw [hfn] at i2
  rw [hcn] at i3
  rw [hfw] at i4
  rw [hkk] at i5
  exact law_loop hL C0 hK (L + 5) 5 (-1) _ _ _ _ (md0 pn fn cn fw kk) H3 locs2 ls (by omega) (by omega) (show 4 * 0 + 5 ≤ 5 from Nat.le_refl 5) hP hD hS1 (INV_0 i1 i2 i3 i4 i5) (lv_sub hl [0, 3, 2, 1] rfl)
