/-- a number brought within -/
def clN (n : Int32) (lo hi : Nat) : Nat := if n.toInt < lo then lo else if hi < n.toInt then hi else n.toNatClampNeg
theorem clN_in (n : Int32) {lo hi : Nat} (h : lo ≤ hi) : lo ≤ clN n lo hi ∧ clN n lo hi ≤ hi := by
  unfold clN
  by_cases h1 : n.toInt < lo
  · rw [if_pos h1]; omega
  · rw [if_neg h1]
    by_cases h2 : (hi : Int) < n.toInt
    · rw [if_pos h2]; omega
    · rw [if_neg h2]
      have : (n.toNatClampNeg : Int) = n.toInt := by
        rw [Int32.toNatClampNeg]
        exact Int.toNat_of_nonneg (by omega)
      omega
theorem clN_val {n : Int32} {lo hi : Nat} (h1 : ¬ n.toInt < lo) (h2 : ¬ (hi : Int) < n.toInt) : clN n lo hi = n.toNatClampNeg := by
  unfold clN
  rw [if_neg h1, if_neg h2]
theorem n_of_clamp {n : Int32} (h : 0 ≤ n.toInt) : nI n.toNatClampNeg = n := by
  apply Int32.toInt_inj.mp
  have : (n.toNatClampNeg : Int) = n.toInt := by
    rw [Int32.toNatClampNeg]
    exact Int.toNat_of_nonneg h
  have h2 := Int32.toInt_lt n
  rw [nI_toInt (by omega)]
  exact this
theorem wi_n (n : Int32) {lo hi : Nat} (h : lo ≤ hi) (hh : hi < 2 ^ 31) : wiV n (nI lo) (nI hi) = nI (clN n lo hi) := by
  unfold wiV
  have e1 := nI_toInt (n := lo) (by omega)
  have e2 := nI_toInt hh
  by_cases h1 : n.toInt < lo
  · rw [show clN n lo hi = lo by unfold clN; rw [if_pos h1]]
    rw [if_pos (show n < nI hi by rw [Int32.lt_iff_toInt_lt]; omega), if_neg (show ¬ nI lo < n by rw [Int32.lt_iff_toInt_lt]; omega)]
  · by_cases h2 : (hi : Int) < n.toInt
    · rw [show clN n lo hi = hi by unfold clN; rw [if_neg h1, if_pos h2]]
      rw [if_neg (show ¬ n < nI hi by rw [Int32.lt_iff_toInt_lt]; omega)]
      by_cases h3 : lo = hi
      · subst h3
        rw [if_neg (show ¬ nI lo < nI lo by rw [Int32.lt_iff_toInt_lt]; omega)]
      · rw [if_pos (show nI lo < nI hi by rw [Int32.lt_iff_toInt_lt]; omega)]
    · rw [clN_val h1 h2, n_of_clamp (by omega)]
      by_cases h3 : n < nI hi
      · rw [if_pos h3]
        by_cases h4 : nI lo < n
        · rw [if_pos h4]
        · rw [if_neg h4]
          apply Int32.toInt_inj.mp
          rw [Int32.lt_iff_toInt_lt] at h4
          omega
      · rw [if_neg h3]
        rw [Int32.lt_iff_toInt_lt] at h3
        have e3 : n = nI hi := Int32.toInt_inj.mp (by omega)
        rw [e3]
        by_cases h4 : nI lo < nI hi
        · rw [if_pos h4]
        · rw [if_neg h4]
          apply Int32.toInt_inj.mp
          rw [Int32.lt_iff_toInt_lt] at h4
          omega
theorem wj_n (n : Int32) {lo hi : Nat} (h : lo ≤ hi) (hh : hi < 2 ^ 31) : wjV n (nI lo) (nI hi) = nI (clN n lo hi) := by
  unfold wjV
  have e1 := nI_toInt (n := lo) (by omega)
  have e2 := nI_toInt hh
  by_cases h1 : n.toInt < lo
  · rw [show clN n lo hi = lo by unfold clN; rw [if_pos h1], if_pos (show n < nI lo by rw [Int32.lt_iff_toInt_lt]; omega)]
  · rw [if_neg (show ¬ n < nI lo by rw [Int32.lt_iff_toInt_lt]; omega)]
    by_cases h2 : (hi : Int) < n.toInt
    · rw [show clN n lo hi = hi by unfold clN; rw [if_neg h1, if_pos h2], if_pos (show nI hi < n by rw [Int32.lt_iff_toInt_lt]; omega)]
    · rw [if_neg (show ¬ nI hi < n by rw [Int32.lt_iff_toInt_lt]; omega), clN_val h1 h2, n_of_clamp (by omega)]
theorem join_last {A0 : Nat → Prop} {D : va_G} {cl : List vw_C} {wr w1 : va_W} {q : Nat} {e : va_E} {H H1 : Heap} (hP : va_P D cl (wr ++ [(q, e)]) H) (hD : va_D A0 (wr ++ [(q, e)])) (hk : ∀ z : Nat, z < H.size → ¬ va_A [(q, e)] H.size z → H1[z]? = H[z]?) (hF : ∀ z, va_A [(q, e)] H.size z → A0 z) (hP1 : va_P D cl w1 H1) (hD1 : va_D (va_A [(q, e)] H.size) w1) : va_P D cl (wr ++ w1) H1 ∧ va_D A0 (wr ++ w1) := by
  refine ⟨(keepP (va_D_apt hD) (va_P_l hP) hk).app hP1, va_D.app (va_D_l hD) (hD1.weaken (fun k y _ h => hF y.1 h)) (fun i j x y hx hy hxy => ?_)⟩
  have hl := (va_P_l hP i x hx).lt
  have hy2 := hD1.2 j y hy
  rw [← hxy] at hy2
  rcases hy2 with ⟨k, e', h⟩ | h
  · refine va_D_apt hD x.1 (List.mem_map.mpr ⟨x, List.mem_of_getElem? hx, rfl⟩) x.1 ?_ rfl
    exact List.mem_map.mpr ⟨(x.1, e'), List.mem_of_getElem? h, rfl⟩
  · omega
def mR0 (a b c : Nat) : Nat → Nat := fun k => if k = 2 then c else if k = 1 then b else if k = 0 then a else 0
def md0 (a b c w kk : Nat) : mv := (0, fun _ => 0, fun _ => 0, mR0 a b c, mR0 1 w (w * kk))
theorem md0_W {cI cJ : ClassId} {Y : mA} {a b c w kk : Nat} : mW cI cJ Y (md0 a b c w kk) = [(b_o Y, .inr (2, [.int 0, .ref (b_r Y), .ref (b_w Y), .int 0, .ref (b_t Y), .ref (b_v Y)])), (b_r Y, .inl (cI, 3, .inl (upd (upd (upd (fun _ => 0) 0 (nI a)) 1 (nI b)) 2 (nI c)))), (b_w Y, .inl (cJ, 3, .inr (.inl (vp_updL (vp_updL (vp_updL (fun _ => 0) 0 1) 1 (lN w)) 2 (lN (w * kk)))))), (b_t Y, .inl (cI, 1024, .inl (fun _ => 0))), (b_v Y, .inl (cI, 1024, .inl (fun _ => 0)))] := by
  have h1 : (fun k => nI (m_R (md0 a b c w kk) k)) = upd (upd (upd (fun _ => 0) 0 (nI a)) 1 (nI b)) 2 (nI c) := by
    funext k
    show nI (mR0 a b c k) = _
    unfold mR0 upd
    split
    · rfl
    · split
      · rfl
      · split <;> rfl
  have h2 : (fun k => lN (m_W (md0 a b c w kk) k)) = vp_updL (vp_updL (vp_updL (fun _ => 0) 0 1) 1 (lN w)) 2 (lN (w * kk)) := by
    funext k
    show lN (mR0 1 w (w * kk) k) = _
    unfold mR0 vp_updL
    split
    · rfl
    · split
      · rfl
      · split <;> rfl
  unfold mW
  rw [h1, h2]
  rfl
set_option maxHeartbeats 4000000 in
set_option maxRecDepth 100000 in
/-- a new series -/
theorem c_X1_init (l : Launch) {D : va_G} {cI cA cJ : ClassId} {H : Heap} (x : Nat) (p1 p2 p3 p4 p5 : Int32) (hP : va_P D vwCl [(x, .inr (1, [.null, .null, .null, .null, .int 0]))] H) {X0 : Nat → Prop} (hD0 : va_D X0 [(x, .inr (1, [.null, .null, .null, .null, .int 0]))]) : Met l yX1_init wsX1_init ({ frames := 2, cells := 22, slots := 993, locals := 44 }) (cr_P D vwCl cI cA cJ H [.ref x, .int p1, .int p2, .int p3, .int p4, .int p5]) (cr_Q (S := Nat × rgA × rgA × rgA) D vwCl H ([(x, .inr (1, [.null, .null, .null, .null, .int 0]))]) (fun _ => True) (fun u => xW x u.1 (-1) u.2.1 u.2.2.1 u.2.2.2 ++ rgW cI cA u.2.1 (rg0 (clN p1 1 60) 1) ++ rgW cI cA u.2.2.1 (rg0 (clN p2 1 60) (clN p4 1 1000000)) ++ rgW cI cA u.2.2.2 (rg0 (clN p3 1 60) ((clN p4 1 1000000) * (clN p5 2 1000))) ++ sqW cI u.1 (clN p1 1 60) (fun _ => 0))) 22 993 (va_A ([(x, .inr (1, [.null, .null, .null, .null, .int 0]))]) H.size) := by
  refine Met.ofW (cc := cX1_init) (maxL := 9) (ret := none) (by decide) rfl ?_
  intro p e s m args below meth c s₁ B hml hv
  obtain ⟨rfl, hh, hK, hG⟩ := hv
  subst hh
  have hx := B.exec
  have hb := B.bytes
  have hr := B.returns
  have hlocks := B.notSynchronized
  have hts := atoms_spec (ws := wsX1_init) B.pre
  have hown : s.vm.findClass RX1 = some m.cls := findClass_of_methodNamed B.named
  have hi1 : ∀ w ∈ wsX10, w ∈ wsX1_init := fun w h => List.mem_cons_of_mem _ (List.mem_append_left _ (List.mem_append_right _ h))
  have hi0 : ∀ w ∈ wsX00, w ∈ wsX1_init := fun w h => List.mem_cons_of_mem _ (List.mem_append_right _ h)
  have hl := lv_entry ([.ref x, .int p1, .int p2, .int p3, .int p4, .int p5]) (n := 9) (Nat.le_of_ble_eq_true rfl)
  rw [lg_entry_eq]
  generalize (lg_sl ([.ref x, .int p1, .int p2, .int p3, .int p4, .int p5]) ++ List.replicate (9 - (lg_sl ([.ref x, .int p1, .int p2, .int p3, .int p4, .int p5])).length) Slot.unset).toArray = ls at hl ⊢
  have hl : lv_has ls 9 [(0, .ref x), (1, .int p1), (2, .int p2), (3, .int p3), (4, .int p4), (5, .int p5)] := hl
  have hin : meth.name = "<init>" := (name_of_methodNamed B.named B.method).1
  have hD := hD0.self (sz := s.heap.size)
  have hA : ∀ z : Nat, s.heap.size ≤ z → va_A ([(x, .inr (1, [.null, .null, .null, .null, .int 0]))]) s.heap.size z := fun z h => Or.inr h
  have hS : va_S (va_A ([(x, .inr (1, [.null, .null, .null, .null, .int 0]))]) s.heap.size) s.heap s.heap [] := va_S.rf
  obtain ⟨b1, b2⟩ := clN_in p1 (lo := 1) (hi := 60) (by omega)
  obtain ⟨b3, b4⟩ := clN_in p2 (lo := 1) (hi := 60) (by omega)
  obtain ⟨b5, b6⟩ := clN_in p3 (lo := 1) (hi := 60) (by omega)
  refine lv_aload_n hx hb dX1_init_0 rfl (lv_at hl 0 rfl) ?_
  refine W.objInit hx hb hown (hts (.methodLink RX1 1 objectInit) (by decide +kernel)) (hts (.instanceMethod objectInit) (by decide +kernel)) (hts (.code objectInit ⟨#[0xb1]⟩ 1 none) (by decide +kernel)) rfl (by rw [hml]; exact hl.1) rfl dX1_init_1 (Nat.le_of_ble_eq_true rfl) (Nat.le_of_ble_eq_true rfl) ?_
  refine W.eq (g2 := F0 m 4 ls []) rfl ?_
  refine lv_aload_n hx hb dX1_init_4 rfl (lv_at hl 0 rfl) ?_
  refine lv_iconst (v := (-1)) hx hb dX1_init_5 (by decide) ?_
  refine va_put (D := D) (ci := 1) (v := .int (-1)) (ty := .int) (C := RX1) (T := TX1) (N := 5) hx hb hts hi1 tyX1 tyX1_ok nmX1 hown hK hP hD hS 0 rfl rfl 4 (by decide) (hts (.fieldLink RX1 7 "RingSeries" "lastTime" "I") (by decide +kernel)) (fun _ h9 => h9) rfl (by decide +kernel) rfl rfl (Nat.le_of_ble_eq_true rfl) dX1_init_6 (fun H locs hP hD hS => ?_)
  have hP : va_P D vwCl [(x, .inr (1, [.null, .null, .null, .null, .int (-1)]))] H := hP
  have hD : va_D (va_A [(x, .inr (1, [.null, .null, .null, .null, .int 0]))] s.heap.size) [(x, .inr (1, [.null, .null, .null, .null, .int (-1)]))] := hD
  refine lv_iload hx hb dX1_init_9 (lv_at hl 4 rfl) ?_
  refine lv_iconst (v := 1) hx hb dX1_init_11 (by decide) ?_
  refine lv_ldc (v := 1000000) hx hb hown (hts (.constant RX1 13 1000000) (by decide +kernel)) dX1_init_12 ?_
  refine ro_call (va_runS (As := [.int p4, .int 1, .int 1000000]) (rest := []) ⟨hx, hb, hml, hown, hts⟩ (c_X1_within l (D := D) (cI := cI) (cA := cA) (cJ := cJ) p4 1 1000000) (va_cwS 3 hts gX1_init_X1_within rfl rfl rfl (by decide +kernel) ⟨Nat.le_of_ble_eq_true rfl, Nat.le_of_ble_eq_true rfl⟩) (ro_preS hK) rfl rfl hl.1 rfl (lv_room (Nat.le_of_ble_eq_true rfl)) dX1_init_14 ⟨by show 0 + 0 ≤ 22; omega, by show 0 + 0 ≤ 993; omega⟩) ?_
  refine top_i (wi_n p4 (lo := 1) (hi := 1000000) (by omega) (by omega)) ?_
  refine lv_istore (lv' := [(6, .int (nI (clN p4 1 1000000))), (0, .ref x), (1, .int p1), (2, .int p2), (3, .int p3), (4, .int p4), (5, .int p5)]) hx hb dX1_init_17 hl (by decide) rfl (fun ls hl => ?_)
  refine lv_iload hx hb dX1_init_19 (lv_at hl 0 rfl) ?_
  refine lv_iload hx hb dX1_init_21 (lv_at hl 6 rfl) ?_
  refine lv_iconst (v := 2) hx hb dX1_init_23 (by decide) ?_
  refine lv_sipush (v := 1000) hx hb dX1_init_24 (by decide) ?_
  refine ro_call (va_runS (As := [.int p5, .int 2, .int 1000]) (rest := [.int (nI (clN p4 1 1000000))]) ⟨hx, hb, hml, hown, hts⟩ (c_X1_within l (D := D) (cI := cI) (cA := cA) (cJ := cJ) p5 2 1000) (va_cwS 3 hts gX1_init_X1_within rfl rfl rfl (by decide +kernel) ⟨Nat.le_of_ble_eq_true rfl, Nat.le_of_ble_eq_true rfl⟩) (ro_preS hK) rfl rfl hl.1 rfl (lv_room (Nat.le_of_ble_eq_true rfl)) dX1_init_27 ⟨by show 0 + 0 ≤ 22; omega, by show 0 + 0 ≤ 993; omega⟩) ?_
  refine top_i (wi_n p5 (lo := 2) (hi := 1000) (by omega) (by omega)) ?_
  refine lv_imul hx hb dX1_init_30 ?_
  refine top_i (pk_mul _ _) ?_
  refine lv_istore (lv' := [(7, .int (nI ((clN p4 1 1000000) * (clN p5 2 1000)))), (6, .int (nI (clN p4 1 1000000))), (0, .ref x), (1, .int p1), (2, .int p2), (3, .int p3), (4, .int p4), (5, .int p5)]) hx hb dX1_init_31 hl (by decide) rfl (fun ls hl => ?_)
  refine lv_iload_n hx hb dX1_init_33 rfl (lv_at hl 3 rfl) ?_
  refine lv_iconst (v := 1) hx hb dX1_init_34 (by decide) ?_
  refine lv_bipush (v := 60) hx hb dX1_init_35 (by decide) ?_
  refine ro_call (va_runS (As := [.int p1, .int 1, .int 60]) (rest := []) ⟨hx, hb, hml, hown, hts⟩ (c_X1_within l (D := D) (cI := cI) (cA := cA) (cJ := cJ) p1 1 60) (va_cwS 3 hts gX1_init_X1_within rfl rfl rfl (by decide +kernel) ⟨Nat.le_of_ble_eq_true rfl, Nat.le_of_ble_eq_true rfl⟩) (ro_preS hK) rfl rfl hl.1 rfl (lv_room (Nat.le_of_ble_eq_true rfl)) dX1_init_37 ⟨by show 0 + 0 ≤ 22; omega, by show 0 + 0 ≤ 993; omega⟩) ?_
  refine top_i (wi_n p1 (lo := 1) (hi := 60) (by omega) (by omega)) ?_
  refine lv_istore (lv' := [(8, .int (nI (clN p1 1 60))), (7, .int (nI ((clN p4 1 1000000) * (clN p5 2 1000)))), (6, .int (nI (clN p4 1 1000000))), (0, .ref x), (1, .int p1), (2, .int p2), (3, .int p3), (4, .int p4), (5, .int p5)]) hx hb dX1_init_40 hl (by decide) rfl (fun ls hl => ?_)
  refine lv_aload_n hx hb dX1_init_42 rfl (lv_at hl 3 rfl) ?_
  refine va_new (ci := 0) (fs := [.int 0, .int 0, .null, .null, .int 0, .int 0, .int 0]) (C := RX0) (T := TX0) (N := 7) hx hb hts hi0 tyX0 tyX0_ok hown (hts (.classLink RX1 18 RX0) (by decide +kernel)) (hts (.instantiable RX0 7) (by decide +kernel)) (hts (.initialized RX0) (by decide +kernel)) hK hP hD hS hA rfl (fun j hj => by rcases (show j = 0 ∨ j = 1 ∨ j = 2 ∨ j = 3 ∨ j = 4 ∨ j = 5 ∨ j = 6 by omega) with rfl | rfl | rfl | rfl | rfl | rfl | rfl <;> rfl) (by show 0 + 1 ≤ 22; omega) (by show 0 + 7 ≤ 993; omega) dX1_init_43 (fun q0 H hP hD hS => ?_)
  have hP : va_P D vwCl ([(x, .inr (1, [.null, .null, .null, .null, .int (-1)]))] ++ [(q0, .inr (0, [.int 0, .int 0, .null, .null, .int 0, .int 0, .int 0]))]) H := hP
  have hD : va_D (va_A [(x, .inr (1, [.null, .null, .null, .null, .int 0]))] s.heap.size) ([(x, .inr (1, [.null, .null, .null, .null, .int (-1)]))] ++ [(q0, .inr (0, [.int 0, .int 0, .null, .null, .int 0, .int 0, .int 0]))]) := hD
  refine W.widen (k := 1) (n := 7) (by omega) (by omega) ?_
  refine lv_dup hx hb dX1_init_46 rfl ?_
  refine lv_iload hx hb dX1_init_47 (lv_at hl 0 rfl) ?_
  refine lv_iconst (v := 1) hx hb dX1_init_49 (by decide) ?_
  have hS00 := hS
  refine cr_call (va_runI (As := [.int (nI (clN p1 1 60)), .int 1]) (rest := [.ref q0, .ref x]) ⟨hx, hb, hml, hown, hts⟩ (c_X0_init l (cJ := cJ) q0 (clN p1 1 60) 1 (by omega) (va_P_r hP) (va_D_r hD)) (cwI 2 hts gX1_init_X0_init rfl rfl rfl (hts (.initialized RX0) (by decide +kernel)) (hts (.methodLink RX1 20 yX0_init) (by decide +kernel)) (hts (.instanceMethod yX0_init) (by decide +kernel)) rfl (by decide +kernel) ⟨Nat.le_of_ble_eq_true rfl, Nat.le_of_ble_eq_true rfl⟩) (cr_preS hK hG) rfl rfl hl.1 rfl (lv_room (Nat.le_of_ble_eq_true rfl)) dX1_init_50 ⟨by show 1 + 6 ≤ 22; omega, by show 7 + 304 ≤ 993; omega⟩) hS (va_free (wc := [(q0, .inr (0, [.int 0, .int 0, .null, .null, .int 0, .int 0, .int 0]))]) hD hS hA [1] rfl) (fun A0 H1 locs eu hP1 hD1 hz1 hk1 hS => ?_)
  subst eu
  obtain ⟨hP, hD⟩ := join_last hP hD hk1 (va_free (wc := [(a_o A0, .inr (0, [.int 0, .int 0, .null, .null, .int 0, .int 0, .int 0]))]) hD hS00 hA [1] rfl) hP1 hD1
  generalize H1 = H at hP hS ⊢
  have hP : va_P D vwCl ([(x, .inr (1, [.null, .null, .null, .null, .int (-1)]))] ++ rgW cI cA A0 (rg0 (clN p1 1 60) 1)) H := hP
  have hD : va_D (va_A [(x, .inr (1, [.null, .null, .null, .null, .int 0]))] s.heap.size) ([(x, .inr (1, [.null, .null, .null, .null, .int (-1)]))] ++ rgW cI cA A0 (rg0 (clN p1 1 60) 1)) := hD
  refine W.widen (k := 7) (n := 311) (by omega) (by omega) ?_
  refine va_putF (D := D) (ci := 1) (v := .ref (a_o A0)) (ty := .object "RingSeries$Ring") (C := RX1) (T := TX1) (N := 5) hx hb hts hi1 tyX1 tyX1_ok nmX1 hown hK hP hD hS 0 rfl rfl 0 (by decide) (hts (.fieldLink RX1 23 "RingSeries" "points" "LRingSeries$Ring;") (by decide +kernel)) (fun _ h9 => h9) rfl hin rfl (by decide +kernel) rfl rfl (Nat.le_of_ble_eq_true rfl) dX1_init_53 (fun H locs hP hD hS => ?_)
  have hP : va_P D vwCl ([(x, .inr (1, [.ref (a_o A0), .null, .null, .null, .int (-1)]))] ++ rgW cI cA A0 (rg0 (clN p1 1 60) 1)) H := hP
  have hD : va_D (va_A [(x, .inr (1, [.null, .null, .null, .null, .int 0]))] s.heap.size) ([(x, .inr (1, [.ref (a_o A0), .null, .null, .null, .int (-1)]))] ++ rgW cI cA A0 (rg0 (clN p1 1 60) 1)) := hD
  refine lv_aload_n hx hb dX1_init_56 rfl (lv_at hl 3 rfl) ?_
  refine va_new (ci := 0) (fs := [.int 0, .int 0, .null, .null, .int 0, .int 0, .int 0]) (C := RX0) (T := TX0) (N := 7) hx hb hts hi0 tyX0 tyX0_ok hown (hts (.classLink RX1 18 RX0) (by decide +kernel)) (hts (.instantiable RX0 7) (by decide +kernel)) (hts (.initialized RX0) (by decide +kernel)) hK hP hD hS hA rfl (fun j hj => by rcases (show j = 0 ∨ j = 1 ∨ j = 2 ∨ j = 3 ∨ j = 4 ∨ j = 5 ∨ j = 6 by omega) with rfl | rfl | rfl | rfl | rfl | rfl | rfl <;> rfl) (by show 7 + 1 ≤ 22; omega) (by show 311 + 7 ≤ 993; omega) dX1_init_57 (fun q1 H hP hD hS => ?_)
  have hP : va_P D vwCl (([(x, .inr (1, [.ref (a_o A0), .null, .null, .null, .int (-1)]))] ++ rgW cI cA A0 (rg0 (clN p1 1 60) 1)) ++ [(q1, .inr (0, [.int 0, .int 0, .null, .null, .int 0, .int 0, .int 0]))]) H := hP
  have hD : va_D (va_A [(x, .inr (1, [.null, .null, .null, .null, .int 0]))] s.heap.size) (([(x, .inr (1, [.ref (a_o A0), .null, .null, .null, .int (-1)]))] ++ rgW cI cA A0 (rg0 (clN p1 1 60) 1)) ++ [(q1, .inr (0, [.int 0, .int 0, .null, .null, .int 0, .int 0, .int 0]))]) := hD
  refine W.widen (k := 8) (n := 318) (by omega) (by omega) ?_
  refine lv_dup hx hb dX1_init_60 rfl ?_
  refine lv_iload_n hx hb dX1_init_61 rfl (lv_at hl 5 rfl) ?_
  refine lv_iconst (v := 1) hx hb dX1_init_62 (by decide) ?_
  refine lv_bipush (v := 60) hx hb dX1_init_63 (by decide) ?_
  refine ro_call (va_runS (As := [.int p2, .int 1, .int 60]) (rest := [.ref q1, .ref q1, .ref x]) ⟨hx, hb, hml, hown, hts⟩ (c_X1_within l (D := D) (cI := cI) (cA := cA) (cJ := cJ) p2 1 60) (va_cwS 3 hts gX1_init_X1_within rfl rfl rfl (by decide +kernel) ⟨Nat.le_of_ble_eq_true rfl, Nat.le_of_ble_eq_true rfl⟩) (ro_preS hK) rfl rfl hl.1 rfl (lv_room (Nat.le_of_ble_eq_true rfl)) dX1_init_65 ⟨by show 8 + 0 ≤ 22; omega, by show 318 + 0 ≤ 993; omega⟩) ?_
  refine top_i (wi_n p2 (lo := 1) (hi := 60) (by omega) (by omega)) ?_
  refine lv_iload hx hb dX1_init_68 (lv_at hl 2 rfl) ?_
  have hS01 := hS
  refine cr_call (va_runI (As := [.int (nI (clN p2 1 60)), .int (nI (clN p4 1 1000000))]) (rest := [.ref q1, .ref x]) ⟨hx, hb, hml, hown, hts⟩ (c_X0_init l (cJ := cJ) q1 (clN p2 1 60) (clN p4 1 1000000) (by omega) (va_P_r hP) (va_D_r hD)) (cwI 2 hts gX1_init_X0_init rfl rfl rfl (hts (.initialized RX0) (by decide +kernel)) (hts (.methodLink RX1 20 yX0_init) (by decide +kernel)) (hts (.instanceMethod yX0_init) (by decide +kernel)) rfl (by decide +kernel) ⟨Nat.le_of_ble_eq_true rfl, Nat.le_of_ble_eq_true rfl⟩) (cr_preS hK hG) rfl rfl hl.1 rfl (lv_room (Nat.le_of_ble_eq_true rfl)) dX1_init_70 ⟨by show 8 + 6 ≤ 22; omega, by show 318 + 304 ≤ 993; omega⟩) hS (va_free (wc := [(q1, .inr (0, [.int 0, .int 0, .null, .null, .int 0, .int 0, .int 0]))]) hD hS hA [8] rfl) (fun A1 H1 locs eu hP1 hD1 hz1 hk1 hS => ?_)
  subst eu
  obtain ⟨hP, hD⟩ := join_last hP hD hk1 (va_free (wc := [(a_o A1, .inr (0, [.int 0, .int 0, .null, .null, .int 0, .int 0, .int 0]))]) hD hS01 hA [8] rfl) hP1 hD1
  generalize H1 = H at hP hS ⊢
  have hP : va_P D vwCl (([(x, .inr (1, [.ref (a_o A0), .null, .null, .null, .int (-1)]))] ++ rgW cI cA A0 (rg0 (clN p1 1 60) 1)) ++ rgW cI cA A1 (rg0 (clN p2 1 60) (clN p4 1 1000000))) H := hP
  have hD : va_D (va_A [(x, .inr (1, [.null, .null, .null, .null, .int 0]))] s.heap.size) (([(x, .inr (1, [.ref (a_o A0), .null, .null, .null, .int (-1)]))] ++ rgW cI cA A0 (rg0 (clN p1 1 60) 1)) ++ rgW cI cA A1 (rg0 (clN p2 1 60) (clN p4 1 1000000))) := hD
  refine W.widen (k := 14) (n := 622) (by omega) (by omega) ?_
  refine va_putF (D := D) (ci := 1) (v := .ref (a_o A1)) (ty := .object "RingSeries$Ring") (C := RX1) (T := TX1) (N := 5) hx hb hts hi1 tyX1 tyX1_ok nmX1 hown hK hP hD hS 0 rfl rfl 1 (by decide) (hts (.fieldLink RX1 27 "RingSeries" "fine" "LRingSeries$Ring;") (by decide +kernel)) (fun _ h9 => h9) rfl hin rfl (by decide +kernel) rfl rfl (Nat.le_of_ble_eq_true rfl) dX1_init_73 (fun H locs hP hD hS => ?_)
  have hP : va_P D vwCl (([(x, .inr (1, [.ref (a_o A0), .ref (a_o A1), .null, .null, .int (-1)]))] ++ rgW cI cA A0 (rg0 (clN p1 1 60) 1)) ++ rgW cI cA A1 (rg0 (clN p2 1 60) (clN p4 1 1000000))) H := hP
  have hD : va_D (va_A [(x, .inr (1, [.null, .null, .null, .null, .int 0]))] s.heap.size) (([(x, .inr (1, [.ref (a_o A0), .ref (a_o A1), .null, .null, .int (-1)]))] ++ rgW cI cA A0 (rg0 (clN p1 1 60) 1)) ++ rgW cI cA A1 (rg0 (clN p2 1 60) (clN p4 1 1000000))) := hD
  refine lv_aload_n hx hb dX1_init_76 rfl (lv_at hl 3 rfl) ?_
  refine va_new (ci := 0) (fs := [.int 0, .int 0, .null, .null, .int 0, .int 0, .int 0]) (C := RX0) (T := TX0) (N := 7) hx hb hts hi0 tyX0 tyX0_ok hown (hts (.classLink RX1 18 RX0) (by decide +kernel)) (hts (.instantiable RX0 7) (by decide +kernel)) (hts (.initialized RX0) (by decide +kernel)) hK hP hD hS hA rfl (fun j hj => by rcases (show j = 0 ∨ j = 1 ∨ j = 2 ∨ j = 3 ∨ j = 4 ∨ j = 5 ∨ j = 6 by omega) with rfl | rfl | rfl | rfl | rfl | rfl | rfl <;> rfl) (by show 14 + 1 ≤ 22; omega) (by show 622 + 7 ≤ 993; omega) dX1_init_77 (fun q2 H hP hD hS => ?_)
  have hP : va_P D vwCl ((([(x, .inr (1, [.ref (a_o A0), .ref (a_o A1), .null, .null, .int (-1)]))] ++ rgW cI cA A0 (rg0 (clN p1 1 60) 1)) ++ rgW cI cA A1 (rg0 (clN p2 1 60) (clN p4 1 1000000))) ++ [(q2, .inr (0, [.int 0, .int 0, .null, .null, .int 0, .int 0, .int 0]))]) H := hP
  have hD : va_D (va_A [(x, .inr (1, [.null, .null, .null, .null, .int 0]))] s.heap.size) ((([(x, .inr (1, [.ref (a_o A0), .ref (a_o A1), .null, .null, .int (-1)]))] ++ rgW cI cA A0 (rg0 (clN p1 1 60) 1)) ++ rgW cI cA A1 (rg0 (clN p2 1 60) (clN p4 1 1000000))) ++ [(q2, .inr (0, [.int 0, .int 0, .null, .null, .int 0, .int 0, .int 0]))]) := hD
  refine W.widen (k := 15) (n := 629) (by omega) (by omega) ?_
  refine lv_dup hx hb dX1_init_80 rfl ?_
  refine lv_iload_n hx hb dX1_init_81 rfl (lv_at hl 6 rfl) ?_
  refine lv_iconst (v := 1) hx hb dX1_init_82 (by decide) ?_
  refine lv_bipush (v := 60) hx hb dX1_init_83 (by decide) ?_
  refine ro_call (va_runS (As := [.int p3, .int 1, .int 60]) (rest := [.ref q2, .ref q2, .ref x]) ⟨hx, hb, hml, hown, hts⟩ (c_X1_within l (D := D) (cI := cI) (cA := cA) (cJ := cJ) p3 1 60) (va_cwS 3 hts gX1_init_X1_within rfl rfl rfl (by decide +kernel) ⟨Nat.le_of_ble_eq_true rfl, Nat.le_of_ble_eq_true rfl⟩) (ro_preS hK) rfl rfl hl.1 rfl (lv_room (Nat.le_of_ble_eq_true rfl)) dX1_init_85 ⟨by show 15 + 0 ≤ 22; omega, by show 629 + 0 ≤ 993; omega⟩) ?_
  refine top_i (wi_n p3 (lo := 1) (hi := 60) (by omega) (by omega)) ?_
  refine lv_iload hx hb dX1_init_88 (lv_at hl 1 rfl) ?_
  have hS02 := hS
  refine cr_call (va_runI (As := [.int (nI (clN p3 1 60)), .int (nI ((clN p4 1 1000000) * (clN p5 2 1000)))]) (rest := [.ref q2, .ref x]) ⟨hx, hb, hml, hown, hts⟩ (c_X0_init l (cJ := cJ) q2 (clN p3 1 60) ((clN p4 1 1000000) * (clN p5 2 1000)) (by omega) (va_P_r hP) (va_D_r hD)) (cwI 2 hts gX1_init_X0_init rfl rfl rfl (hts (.initialized RX0) (by decide +kernel)) (hts (.methodLink RX1 20 yX0_init) (by decide +kernel)) (hts (.instanceMethod yX0_init) (by decide +kernel)) rfl (by decide +kernel) ⟨Nat.le_of_ble_eq_true rfl, Nat.le_of_ble_eq_true rfl⟩) (cr_preS hK hG) rfl rfl hl.1 rfl (lv_room (Nat.le_of_ble_eq_true rfl)) dX1_init_90 ⟨by show 15 + 6 ≤ 22; omega, by show 629 + 304 ≤ 993; omega⟩) hS (va_free (wc := [(q2, .inr (0, [.int 0, .int 0, .null, .null, .int 0, .int 0, .int 0]))]) hD hS hA [15] rfl) (fun A2 H1 locs eu hP1 hD1 hz1 hk1 hS => ?_)
  subst eu
  obtain ⟨hP, hD⟩ := join_last hP hD hk1 (va_free (wc := [(a_o A2, .inr (0, [.int 0, .int 0, .null, .null, .int 0, .int 0, .int 0]))]) hD hS02 hA [15] rfl) hP1 hD1
  generalize H1 = H at hP hS ⊢
  have hP : va_P D vwCl ((([(x, .inr (1, [.ref (a_o A0), .ref (a_o A1), .null, .null, .int (-1)]))] ++ rgW cI cA A0 (rg0 (clN p1 1 60) 1)) ++ rgW cI cA A1 (rg0 (clN p2 1 60) (clN p4 1 1000000))) ++ rgW cI cA A2 (rg0 (clN p3 1 60) ((clN p4 1 1000000) * (clN p5 2 1000)))) H := hP
  have hD : va_D (va_A [(x, .inr (1, [.null, .null, .null, .null, .int 0]))] s.heap.size) ((([(x, .inr (1, [.ref (a_o A0), .ref (a_o A1), .null, .null, .int (-1)]))] ++ rgW cI cA A0 (rg0 (clN p1 1 60) 1)) ++ rgW cI cA A1 (rg0 (clN p2 1 60) (clN p4 1 1000000))) ++ rgW cI cA A2 (rg0 (clN p3 1 60) ((clN p4 1 1000000) * (clN p5 2 1000)))) := hD
  refine W.widen (k := 21) (n := 933) (by omega) (by omega) ?_
  refine va_putF (D := D) (ci := 1) (v := .ref (a_o A2)) (ty := .object "RingSeries$Ring") (C := RX1) (T := TX1) (N := 5) hx hb hts hi1 tyX1 tyX1_ok nmX1 hown hK hP hD hS 0 rfl rfl 2 (by decide) (hts (.fieldLink RX1 30 "RingSeries" "coarse" "LRingSeries$Ring;") (by decide +kernel)) (fun _ h9 => h9) rfl hin rfl (by decide +kernel) rfl rfl (Nat.le_of_ble_eq_true rfl) dX1_init_93 (fun H locs hP hD hS => ?_)
  have hP : va_P D vwCl ((([(x, .inr (1, [.ref (a_o A0), .ref (a_o A1), .ref (a_o A2), .null, .int (-1)]))] ++ rgW cI cA A0 (rg0 (clN p1 1 60) 1)) ++ rgW cI cA A1 (rg0 (clN p2 1 60) (clN p4 1 1000000))) ++ rgW cI cA A2 (rg0 (clN p3 1 60) ((clN p4 1 1000000) * (clN p5 2 1000)))) H := hP
  have hD : va_D (va_A [(x, .inr (1, [.null, .null, .null, .null, .int 0]))] s.heap.size) ((([(x, .inr (1, [.ref (a_o A0), .ref (a_o A1), .ref (a_o A2), .null, .int (-1)]))] ++ rgW cI cA A0 (rg0 (clN p1 1 60) 1)) ++ rgW cI cA A1 (rg0 (clN p2 1 60) (clN p4 1 1000000))) ++ rgW cI cA A2 (rg0 (clN p3 1 60) ((clN p4 1 1000000) * (clN p5 2 1000)))) := hD
  refine lv_aload_n hx hb dX1_init_96 rfl (lv_at hl 3 rfl) ?_
  refine lv_iload hx hb dX1_init_97 (lv_at hl 0 rfl) ?_
  refine va_newa (atype := .int) (a0 := (clN p1 1 60, .inl (fun _ => 0))) hx hb (hts (.arrayClass .int) (by decide +kernel)) (ty := .int) rfl hK hP hD hS hA (N' := clN p1 1 60) (fun _ => rfl) (nI_pos (by omega)) (nI_clamp (by omega)) (by show clN p1 1 60 * 4 ≤ _; omega) (by show 21 + 1 ≤ 22; omega) (by show 933 + clN p1 1 60 ≤ 993; omega) dX1_init_99 (fun sq cX H hK2 hP hD hS => ?_)
  have eX := tyI hK hK2
  rw [eX] at hP hD
  have hP : va_P D vwCl (((([(x, .inr (1, [.ref (a_o A0), .ref (a_o A1), .ref (a_o A2), .null, .int (-1)]))] ++ rgW cI cA A0 (rg0 (clN p1 1 60) 1)) ++ rgW cI cA A1 (rg0 (clN p2 1 60) (clN p4 1 1000000))) ++ rgW cI cA A2 (rg0 (clN p3 1 60) ((clN p4 1 1000000) * (clN p5 2 1000)))) ++ sqW cI sq (clN p1 1 60) (fun _ => 0)) H := hP
  have hD : va_D (va_A [(x, .inr (1, [.null, .null, .null, .null, .int 0]))] s.heap.size) (((([(x, .inr (1, [.ref (a_o A0), .ref (a_o A1), .ref (a_o A2), .null, .int (-1)]))] ++ rgW cI cA A0 (rg0 (clN p1 1 60) 1)) ++ rgW cI cA A1 (rg0 (clN p2 1 60) (clN p4 1 1000000))) ++ rgW cI cA A2 (rg0 (clN p3 1 60) ((clN p4 1 1000000) * (clN p5 2 1000)))) ++ sqW cI sq (clN p1 1 60) (fun _ => 0)) := hD
  refine W.widen (k := 22) (n := 993) (by omega) (by omega) ?_
  refine va_putF (D := D) (ci := 1) (v := .ref sq) (ty := .array .int) (C := RX1) (T := TX1) (N := 5) hx hb hts hi1 tyX1 tyX1_ok nmX1 hown hK hP hD hS 0 rfl rfl 3 (by decide) (hts (.fieldLink RX1 33 "RingSeries" "sorted" "[I") (by decide +kernel)) (fun _ h9 => h9) rfl hin rfl (by decide +kernel) rfl rfl (Nat.le_of_ble_eq_true rfl) dX1_init_101 (fun H locs hP hD hS => ?_)
  have hP : va_P D vwCl (((([(x, .inr (1, [.ref (a_o A0), .ref (a_o A1), .ref (a_o A2), .ref sq, .int (-1)]))] ++ rgW cI cA A0 (rg0 (clN p1 1 60) 1)) ++ rgW cI cA A1 (rg0 (clN p2 1 60) (clN p4 1 1000000))) ++ rgW cI cA A2 (rg0 (clN p3 1 60) ((clN p4 1 1000000) * (clN p5 2 1000)))) ++ sqW cI sq (clN p1 1 60) (fun _ => 0)) H := hP
  have hD : va_D (va_A [(x, .inr (1, [.null, .null, .null, .null, .int 0]))] s.heap.size) (((([(x, .inr (1, [.ref (a_o A0), .ref (a_o A1), .ref (a_o A2), .ref sq, .int (-1)]))] ++ rgW cI cA A0 (rg0 (clN p1 1 60) 1)) ++ rgW cI cA A1 (rg0 (clN p2 1 60) (clN p4 1 1000000))) ++ rgW cI cA A2 (rg0 (clN p3 1 60) ((clN p4 1 1000000) * (clN p5 2 1000)))) ++ sqW cI sq (clN p1 1 60) (fun _ => 0)) := hD
  exact cr_vret hx hb hr (sq, A0, A1, A2) trivial hP hD hS dX1_init_104 hlocks
set_option maxHeartbeats 4000000 in
set_option maxRecDepth 100000 in
/-- a new reference -/
theorem c_X2_init (l : Launch) {D : va_G} {cI cA cJ : ClassId} {H : Heap} (y : Nat) (p1 p2 p3 p4 p5 : Int32) (hP : va_P D vwCl [(y, .inr (2, [.int 0, .null, .null, .int 0, .null, .null]))] H) {X0 : Nat → Prop} (hD0 : va_D X0 [(y, .inr (2, [.int 0, .null, .null, .int 0, .null, .null]))]) : Met l yX2_init wsX2_init ({ frames := 1, cells := 4, slots := 2054, locals := 22 }) (cr_P D vwCl cI cA cJ H [.ref y, .int p1, .int p2, .int p3, .int p4, .int p5]) (cr_Q (S := Nat × Nat × Nat × Nat) D vwCl H ([(y, .inr (2, [.int 0, .null, .null, .int 0, .null, .null]))]) (fun _ => True) (fun u => mW cI cJ (y, u) (md0 (clN p1 1 60) (clN p2 1 60) (clN p3 1 60) (clN p4 1 1000000) (clN p5 2 1000)))) 4 2054 (va_A ([(y, .inr (2, [.int 0, .null, .null, .int 0, .null, .null]))]) H.size) := by
  refine Met.ofW (cc := cX2_init) (maxL := 6) (ret := none) (by decide) rfl ?_
  intro p e s m args below meth c s₁ B hml hv
  obtain ⟨rfl, hh, hK, hG⟩ := hv
  subst hh
  have hx := B.exec
  have hb := B.bytes
  have hr := B.returns
  have hlocks := B.notSynchronized
  have hts := atoms_spec (ws := wsX2_init) B.pre
  have hown : s.vm.findClass RX2 = some m.cls := findClass_of_methodNamed B.named
  have hi2 : ∀ w ∈ wsX20, w ∈ wsX2_init := fun w h => List.mem_cons_of_mem _ (List.mem_append_right _ h)
  have hl := lv_entry ([.ref y, .int p1, .int p2, .int p3, .int p4, .int p5]) (n := 6) (Nat.le_of_ble_eq_true rfl)
  rw [lg_entry_eq]
  generalize (lg_sl ([.ref y, .int p1, .int p2, .int p3, .int p4, .int p5]) ++ List.replicate (6 - (lg_sl ([.ref y, .int p1, .int p2, .int p3, .int p4, .int p5])).length) Slot.unset).toArray = ls at hl ⊢
  have hl : lv_has ls 6 [(0, .ref y), (1, .int p1), (2, .int p2), (3, .int p3), (4, .int p4), (5, .int p5)] := hl
  have hin : meth.name = "<init>" := (name_of_methodNamed B.named B.method).1
  have hD := hD0.self (sz := s.heap.size)
  have hA : ∀ z : Nat, s.heap.size ≤ z → va_A ([(y, .inr (2, [.int 0, .null, .null, .int 0, .null, .null]))]) s.heap.size z := fun z h => Or.inr h
  have hS : va_S (va_A ([(y, .inr (2, [.int 0, .null, .null, .int 0, .null, .null]))]) s.heap.size) s.heap s.heap [] := va_S.rf
  obtain ⟨b1, b2⟩ := clN_in p4 (lo := 1) (hi := 1000000) (by omega)
  obtain ⟨b3, b4⟩ := clN_in p5 (lo := 2) (hi := 1000) (by omega)
  refine lv_aload_n hx hb dX2_init_0 rfl (lv_at hl 0 rfl) ?_
  refine W.objInit hx hb hown (hts (.methodLink RX2 1 objectInit) (by decide +kernel)) (hts (.instanceMethod objectInit) (by decide +kernel)) (hts (.code objectInit ⟨#[0xb1]⟩ 1 none) (by decide +kernel)) rfl (by rw [hml]; exact hl.1) rfl dX2_init_1 (Nat.le_of_ble_eq_true rfl) (Nat.le_of_ble_eq_true rfl) ?_
  refine W.eq (g2 := F0 m 4 ls []) rfl ?_
  refine lv_aload_n hx hb dX2_init_4 rfl (lv_at hl 0 rfl) ?_
  refine lv_iconst (v := 3) hx hb dX2_init_5 (by decide) ?_
  refine va_newa (atype := .int) (a0 := (3, .inl (fun _ => 0))) hx hb (hts (.arrayClass .int) (by decide +kernel)) (ty := .int) rfl hK hP hD hS hA (N' := 3) (fun _ => rfl) (by decide) (by decide) (by decide) (by show 0 + 1 ≤ 4; omega) (by show 0 + 3 ≤ 2054; omega) dX2_init_6 (fun q0 cX H hK2 hP hD hS => ?_)
  have eX := tyI hK hK2
  rw [eX] at hP hD
  have hP : va_P D vwCl [(y, .inr (2, [.int 0, .null, .null, .int 0, .null, .null])), (q0, .inl (cI, 3, .inl (fun _ => 0)))] H := hP
  have hD : va_D (va_A [(y, .inr (2, [.int 0, .null, .null, .int 0, .null, .null]))] s.heap.size) [(y, .inr (2, [.int 0, .null, .null, .int 0, .null, .null])), (q0, .inl (cI, 3, .inl (fun _ => 0)))] := hD
  refine W.widen (k := 1) (n := 3) (by omega) (by omega) ?_
  refine va_putF (D := D) (ci := 2) (v := .ref q0) (ty := .array .int) (C := RX2) (T := TX2) (N := 6) hx hb hts hi2 tyX2 tyX2_ok nmX2 hown hK hP hD hS 0 rfl rfl 1 (by decide) (hts (.fieldLink RX2 7 "RingSeriesModel" "room" "[I") (by decide +kernel)) (fun _ h9 => h9) rfl hin rfl (by decide +kernel) rfl rfl (Nat.le_of_ble_eq_true rfl) dX2_init_8 (fun H locs hP hD hS => ?_)
  have hP : va_P D vwCl [(y, .inr (2, [.int 0, .ref q0, .null, .int 0, .null, .null])), (q0, .inl (cI, 3, .inl (fun _ => 0)))] H := hP
  have hD : va_D (va_A [(y, .inr (2, [.int 0, .null, .null, .int 0, .null, .null]))] s.heap.size) [(y, .inr (2, [.int 0, .ref q0, .null, .int 0, .null, .null])), (q0, .inl (cI, 3, .inl (fun _ => 0)))] := hD
  refine lv_aload_n hx hb dX2_init_11 rfl (lv_at hl 0 rfl) ?_
  refine lv_iconst (v := 3) hx hb dX2_init_12 (by decide) ?_
  refine va_newa (atype := .long) (a0 := (3, .inr (.inl (fun _ => 0)))) hx hb (hts (.arrayClass .long) (by decide +kernel)) (ty := .long) rfl hK hP hD hS hA (N' := 3) (fun _ => rfl) (by decide) (by decide) (by decide) (by show 1 + 1 ≤ 4; omega) (by show 3 + 3 ≤ 2054; omega) dX2_init_13 (fun q1 cX H hK2 hP hD hS => ?_)
  have eX := tyJ hK hK2
  rw [eX] at hP hD
  have hP : va_P D vwCl [(y, .inr (2, [.int 0, .ref q0, .null, .int 0, .null, .null])), (q0, .inl (cI, 3, .inl (fun _ => 0))), (q1, .inl (cJ, 3, .inr (.inl (fun _ => 0))))] H := hP
  have hD : va_D (va_A [(y, .inr (2, [.int 0, .null, .null, .int 0, .null, .null]))] s.heap.size) [(y, .inr (2, [.int 0, .ref q0, .null, .int 0, .null, .null])), (q0, .inl (cI, 3, .inl (fun _ => 0))), (q1, .inl (cJ, 3, .inr (.inl (fun _ => 0))))] := hD
  refine W.widen (k := 2) (n := 6) (by omega) (by omega) ?_
  refine va_putF (D := D) (ci := 2) (v := .ref q1) (ty := .array .long) (C := RX2) (T := TX2) (N := 6) hx hb hts hi2 tyX2 tyX2_ok nmX2 hown hK hP hD hS 0 rfl rfl 2 (by decide) (hts (.fieldLink RX2 13 "RingSeriesModel" "widths" "[J") (by decide +kernel)) (fun _ h9 => h9) rfl hin rfl (by decide +kernel) rfl rfl (Nat.le_of_ble_eq_true rfl) dX2_init_15 (fun H locs hP hD hS => ?_)
  have hP : va_P D vwCl [(y, .inr (2, [.int 0, .ref q0, .ref q1, .int 0, .null, .null])), (q0, .inl (cI, 3, .inl (fun _ => 0))), (q1, .inl (cJ, 3, .inr (.inl (fun _ => 0))))] H := hP
  have hD : va_D (va_A [(y, .inr (2, [.int 0, .null, .null, .int 0, .null, .null]))] s.heap.size) [(y, .inr (2, [.int 0, .ref q0, .ref q1, .int 0, .null, .null])), (q0, .inl (cI, 3, .inl (fun _ => 0))), (q1, .inl (cJ, 3, .inr (.inl (fun _ => 0))))] := hD
  refine lv_aload_n hx hb dX2_init_18 rfl (lv_at hl 0 rfl) ?_
  refine lv_sipush (v := 1024) hx hb dX2_init_19 (by decide) ?_
  refine va_newa (atype := .int) (a0 := (1024, .inl (fun _ => 0))) hx hb (hts (.arrayClass .int) (by decide +kernel)) (ty := .int) rfl hK hP hD hS hA (N' := 1024) (fun _ => rfl) (by decide) (by decide) (by decide) (by show 2 + 1 ≤ 4; omega) (by show 6 + 1024 ≤ 2054; omega) dX2_init_22 (fun q2 cX H hK2 hP hD hS => ?_)
  have eX := tyI hK hK2
  rw [eX] at hP hD
  have hP : va_P D vwCl [(y, .inr (2, [.int 0, .ref q0, .ref q1, .int 0, .null, .null])), (q0, .inl (cI, 3, .inl (fun _ => 0))), (q1, .inl (cJ, 3, .inr (.inl (fun _ => 0)))), (q2, .inl (cI, 1024, .inl (fun _ => 0)))] H := hP
  have hD : va_D (va_A [(y, .inr (2, [.int 0, .null, .null, .int 0, .null, .null]))] s.heap.size) [(y, .inr (2, [.int 0, .ref q0, .ref q1, .int 0, .null, .null])), (q0, .inl (cI, 3, .inl (fun _ => 0))), (q1, .inl (cJ, 3, .inr (.inl (fun _ => 0)))), (q2, .inl (cI, 1024, .inl (fun _ => 0)))] := hD
  refine W.widen (k := 3) (n := 1030) (by omega) (by omega) ?_
  refine va_putF (D := D) (ci := 2) (v := .ref q2) (ty := .array .int) (C := RX2) (T := TX2) (N := 6) hx hb hts hi2 tyX2 tyX2_ok nmX2 hown hK hP hD hS 0 rfl rfl 4 (by decide) (hts (.fieldLink RX2 17 "RingSeriesModel" "times" "[I") (by decide +kernel)) (fun _ h9 => h9) rfl hin rfl (by decide +kernel) rfl rfl (Nat.le_of_ble_eq_true rfl) dX2_init_24 (fun H locs hP hD hS => ?_)
  have hP : va_P D vwCl [(y, .inr (2, [.int 0, .ref q0, .ref q1, .int 0, .ref q2, .null])), (q0, .inl (cI, 3, .inl (fun _ => 0))), (q1, .inl (cJ, 3, .inr (.inl (fun _ => 0)))), (q2, .inl (cI, 1024, .inl (fun _ => 0)))] H := hP
  have hD : va_D (va_A [(y, .inr (2, [.int 0, .null, .null, .int 0, .null, .null]))] s.heap.size) [(y, .inr (2, [.int 0, .ref q0, .ref q1, .int 0, .ref q2, .null])), (q0, .inl (cI, 3, .inl (fun _ => 0))), (q1, .inl (cJ, 3, .inr (.inl (fun _ => 0)))), (q2, .inl (cI, 1024, .inl (fun _ => 0)))] := hD
  refine lv_aload_n hx hb dX2_init_27 rfl (lv_at hl 0 rfl) ?_
  refine lv_sipush (v := 1024) hx hb dX2_init_28 (by decide) ?_
  refine va_newa (atype := .int) (a0 := (1024, .inl (fun _ => 0))) hx hb (hts (.arrayClass .int) (by decide +kernel)) (ty := .int) rfl hK hP hD hS hA (N' := 1024) (fun _ => rfl) (by decide) (by decide) (by decide) (by show 3 + 1 ≤ 4; omega) (by show 1030 + 1024 ≤ 2054; omega) dX2_init_31 (fun q3 cX H hK2 hP hD hS => ?_)
  have eX := tyI hK hK2
  rw [eX] at hP hD
  have hP : va_P D vwCl [(y, .inr (2, [.int 0, .ref q0, .ref q1, .int 0, .ref q2, .null])), (q0, .inl (cI, 3, .inl (fun _ => 0))), (q1, .inl (cJ, 3, .inr (.inl (fun _ => 0)))), (q2, .inl (cI, 1024, .inl (fun _ => 0))), (q3, .inl (cI, 1024, .inl (fun _ => 0)))] H := hP
  have hD : va_D (va_A [(y, .inr (2, [.int 0, .null, .null, .int 0, .null, .null]))] s.heap.size) [(y, .inr (2, [.int 0, .ref q0, .ref q1, .int 0, .ref q2, .null])), (q0, .inl (cI, 3, .inl (fun _ => 0))), (q1, .inl (cJ, 3, .inr (.inl (fun _ => 0)))), (q2, .inl (cI, 1024, .inl (fun _ => 0))), (q3, .inl (cI, 1024, .inl (fun _ => 0)))] := hD
  refine W.widen (k := 4) (n := 2054) (by omega) (by omega) ?_
  refine va_putF (D := D) (ci := 2) (v := .ref q3) (ty := .array .int) (C := RX2) (T := TX2) (N := 6) hx hb hts hi2 tyX2 tyX2_ok nmX2 hown hK hP hD hS 0 rfl rfl 5 (by decide) (hts (.fieldLink RX2 20 "RingSeriesModel" "values" "[I") (by decide +kernel)) (fun _ h9 => h9) rfl hin rfl (by decide +kernel) rfl rfl (Nat.le_of_ble_eq_true rfl) dX2_init_33 (fun H locs hP hD hS => ?_)
  have hP : va_P D vwCl [(y, .inr (2, [.int 0, .ref q0, .ref q1, .int 0, .ref q2, .ref q3])), (q0, .inl (cI, 3, .inl (fun _ => 0))), (q1, .inl (cJ, 3, .inr (.inl (fun _ => 0)))), (q2, .inl (cI, 1024, .inl (fun _ => 0))), (q3, .inl (cI, 1024, .inl (fun _ => 0)))] H := hP
  have hD : va_D (va_A [(y, .inr (2, [.int 0, .null, .null, .int 0, .null, .null]))] s.heap.size) [(y, .inr (2, [.int 0, .ref q0, .ref q1, .int 0, .ref q2, .ref q3])), (q0, .inl (cI, 3, .inl (fun _ => 0))), (q1, .inl (cJ, 3, .inr (.inl (fun _ => 0)))), (q2, .inl (cI, 1024, .inl (fun _ => 0))), (q3, .inl (cI, 1024, .inl (fun _ => 0)))] := hD
  refine lv_aload_n hx hb dX2_init_36 rfl (lv_at hl 0 rfl) ?_
  refine va_get (D := D) (ci := 2) (v := .ref q0) (C := RX2) (T := TX2) (N := 6) hx hb hts hi2 hown hK hP 0 rfl rfl 1 (by decide) (hts (.fieldLink RX2 7 "RingSeriesModel" "room" "[I") (by decide +kernel)) (fun _ h9 => h9) rfl dX2_init_37 ?_
  refine lv_iconst (v := 0) hx hb dX2_init_40 (by decide) ?_
  refine lv_iload_n hx hb dX2_init_41 rfl (lv_at hl 1 rfl) ?_
  refine lv_iconst (v := 1) hx hb dX2_init_42 (by decide) ?_
  refine lv_bipush (v := 60) hx hb dX2_init_43 (by decide) ?_
  refine ro_call (va_runS (As := [.int p1, .int 1, .int 60]) (rest := [.int 0, .ref q0]) ⟨hx, hb, hml, hown, hts⟩ (c_X2_within l (D := D) (cI := cI) (cA := cA) (cJ := cJ) p1 1 60) (va_cwS 3 hts gX2_init_X2_within rfl rfl rfl (by decide +kernel) ⟨Nat.le_of_ble_eq_true rfl, Nat.le_of_ble_eq_true rfl⟩) (ro_preS hK) rfl rfl hl.1 rfl (lv_room (Nat.le_of_ble_eq_true rfl)) dX2_init_45 ⟨by show 4 + 0 ≤ 4; omega, by show 2054 + 0 ≤ 2054; omega⟩) ?_
  refine top_i (wj_n p1 (lo := 1) (hi := 60) (by omega) (by omega)) ?_
  refine ast_i (j := 0) hx hb hK hP hD hS 1 0 rfl rfl (by omega) (by omega) dX2_init_48 (fun H locs hP hD hS => ?_)
  have hP : va_P D vwCl [(y, .inr (2, [.int 0, .ref q0, .ref q1, .int 0, .ref q2, .ref q3])), (q0, .inl (cI, 3, .inl (upd (fun _ => 0) 0 (nI (clN p1 1 60))))), (q1, .inl (cJ, 3, .inr (.inl (fun _ => 0)))), (q2, .inl (cI, 1024, .inl (fun _ => 0))), (q3, .inl (cI, 1024, .inl (fun _ => 0)))] H := hP
  have hD : va_D (va_A [(y, .inr (2, [.int 0, .null, .null, .int 0, .null, .null]))] s.heap.size) [(y, .inr (2, [.int 0, .ref q0, .ref q1, .int 0, .ref q2, .ref q3])), (q0, .inl (cI, 3, .inl (upd (fun _ => 0) 0 (nI (clN p1 1 60))))), (q1, .inl (cJ, 3, .inr (.inl (fun _ => 0)))), (q2, .inl (cI, 1024, .inl (fun _ => 0))), (q3, .inl (cI, 1024, .inl (fun _ => 0)))] := hD
  refine lv_aload_n hx hb dX2_init_49 rfl (lv_at hl 0 rfl) ?_
  refine va_get (D := D) (ci := 2) (v := .ref q0) (C := RX2) (T := TX2) (N := 6) hx hb hts hi2 hown hK hP 0 rfl rfl 1 (by decide) (hts (.fieldLink RX2 7 "RingSeriesModel" "room" "[I") (by decide +kernel)) (fun _ h9 => h9) rfl dX2_init_50 ?_
  refine lv_iconst (v := 1) hx hb dX2_init_53 (by decide) ?_
  refine lv_iload_n hx hb dX2_init_54 rfl (lv_at hl 2 rfl) ?_
  refine lv_iconst (v := 1) hx hb dX2_init_55 (by decide) ?_
  refine lv_bipush (v := 60) hx hb dX2_init_56 (by decide) ?_
  refine ro_call (va_runS (As := [.int p2, .int 1, .int 60]) (rest := [.int 1, .ref q0]) ⟨hx, hb, hml, hown, hts⟩ (c_X2_within l (D := D) (cI := cI) (cA := cA) (cJ := cJ) p2 1 60) (va_cwS 3 hts gX2_init_X2_within rfl rfl rfl (by decide +kernel) ⟨Nat.le_of_ble_eq_true rfl, Nat.le_of_ble_eq_true rfl⟩) (ro_preS hK) rfl rfl hl.1 rfl (lv_room (Nat.le_of_ble_eq_true rfl)) dX2_init_58 ⟨by show 4 + 0 ≤ 4; omega, by show 2054 + 0 ≤ 2054; omega⟩) ?_
  refine top_i (wj_n p2 (lo := 1) (hi := 60) (by omega) (by omega)) ?_
  refine ast_i (j := 1) hx hb hK hP hD hS 1 0 rfl rfl (by omega) (by omega) dX2_init_61 (fun H locs hP hD hS => ?_)
  have hP : va_P D vwCl [(y, .inr (2, [.int 0, .ref q0, .ref q1, .int 0, .ref q2, .ref q3])), (q0, .inl (cI, 3, .inl (upd (upd (fun _ => 0) 0 (nI (clN p1 1 60))) 1 (nI (clN p2 1 60))))), (q1, .inl (cJ, 3, .inr (.inl (fun _ => 0)))), (q2, .inl (cI, 1024, .inl (fun _ => 0))), (q3, .inl (cI, 1024, .inl (fun _ => 0)))] H := hP
  have hD : va_D (va_A [(y, .inr (2, [.int 0, .null, .null, .int 0, .null, .null]))] s.heap.size) [(y, .inr (2, [.int 0, .ref q0, .ref q1, .int 0, .ref q2, .ref q3])), (q0, .inl (cI, 3, .inl (upd (upd (fun _ => 0) 0 (nI (clN p1 1 60))) 1 (nI (clN p2 1 60))))), (q1, .inl (cJ, 3, .inr (.inl (fun _ => 0)))), (q2, .inl (cI, 1024, .inl (fun _ => 0))), (q3, .inl (cI, 1024, .inl (fun _ => 0)))] := hD
  refine lv_aload_n hx hb dX2_init_62 rfl (lv_at hl 0 rfl) ?_
  refine va_get (D := D) (ci := 2) (v := .ref q0) (C := RX2) (T := TX2) (N := 6) hx hb hts hi2 hown hK hP 0 rfl rfl 1 (by decide) (hts (.fieldLink RX2 7 "RingSeriesModel" "room" "[I") (by decide +kernel)) (fun _ h9 => h9) rfl dX2_init_63 ?_
  refine lv_iconst (v := 2) hx hb dX2_init_66 (by decide) ?_
  refine lv_iload_n hx hb dX2_init_67 rfl (lv_at hl 3 rfl) ?_
  refine lv_iconst (v := 1) hx hb dX2_init_68 (by decide) ?_
  refine lv_bipush (v := 60) hx hb dX2_init_69 (by decide) ?_
  refine ro_call (va_runS (As := [.int p3, .int 1, .int 60]) (rest := [.int 2, .ref q0]) ⟨hx, hb, hml, hown, hts⟩ (c_X2_within l (D := D) (cI := cI) (cA := cA) (cJ := cJ) p3 1 60) (va_cwS 3 hts gX2_init_X2_within rfl rfl rfl (by decide +kernel) ⟨Nat.le_of_ble_eq_true rfl, Nat.le_of_ble_eq_true rfl⟩) (ro_preS hK) rfl rfl hl.1 rfl (lv_room (Nat.le_of_ble_eq_true rfl)) dX2_init_71 ⟨by show 4 + 0 ≤ 4; omega, by show 2054 + 0 ≤ 2054; omega⟩) ?_
  refine top_i (wj_n p3 (lo := 1) (hi := 60) (by omega) (by omega)) ?_
  refine ast_i (j := 2) hx hb hK hP hD hS 1 0 rfl rfl (by omega) (by omega) dX2_init_74 (fun H locs hP hD hS => ?_)
  have hP : va_P D vwCl [(y, .inr (2, [.int 0, .ref q0, .ref q1, .int 0, .ref q2, .ref q3])), (q0, .inl (cI, 3, .inl (upd (upd (upd (fun _ => 0) 0 (nI (clN p1 1 60))) 1 (nI (clN p2 1 60))) 2 (nI (clN p3 1 60))))), (q1, .inl (cJ, 3, .inr (.inl (fun _ => 0)))), (q2, .inl (cI, 1024, .inl (fun _ => 0))), (q3, .inl (cI, 1024, .inl (fun _ => 0)))] H := hP
  have hD : va_D (va_A [(y, .inr (2, [.int 0, .null, .null, .int 0, .null, .null]))] s.heap.size) [(y, .inr (2, [.int 0, .ref q0, .ref q1, .int 0, .ref q2, .ref q3])), (q0, .inl (cI, 3, .inl (upd (upd (upd (fun _ => 0) 0 (nI (clN p1 1 60))) 1 (nI (clN p2 1 60))) 2 (nI (clN p3 1 60))))), (q1, .inl (cJ, 3, .inr (.inl (fun _ => 0)))), (q2, .inl (cI, 1024, .inl (fun _ => 0))), (q3, .inl (cI, 1024, .inl (fun _ => 0)))] := hD
  refine lv_aload_n hx hb dX2_init_75 rfl (lv_at hl 0 rfl) ?_
  refine va_get (D := D) (ci := 2) (v := .ref q1) (C := RX2) (T := TX2) (N := 6) hx hb hts hi2 hown hK hP 0 rfl rfl 2 (by decide) (hts (.fieldLink RX2 13 "RingSeriesModel" "widths" "[J") (by decide +kernel)) (fun _ h9 => h9) rfl dX2_init_76 ?_
  refine lv_iconst (v := 0) hx hb dX2_init_79 (by decide) ?_
  refine lv_lconst (v := 1) hx hb dX2_init_80 (by decide) ?_
  refine ast_l (j := 0) hx hb hK hP hD hS 2 2 rfl rfl (by omega) (by omega) dX2_init_81 (fun H locs hP hD hS => ?_)
  have hP : va_P D vwCl [(y, .inr (2, [.int 0, .ref q0, .ref q1, .int 0, .ref q2, .ref q3])), (q0, .inl (cI, 3, .inl (upd (upd (upd (fun _ => 0) 0 (nI (clN p1 1 60))) 1 (nI (clN p2 1 60))) 2 (nI (clN p3 1 60))))), (q1, .inl (cJ, 3, .inr (.inl (vp_updL (fun _ => 0) 0 1)))), (q2, .inl (cI, 1024, .inl (fun _ => 0))), (q3, .inl (cI, 1024, .inl (fun _ => 0)))] H := hP
  have hD : va_D (va_A [(y, .inr (2, [.int 0, .null, .null, .int 0, .null, .null]))] s.heap.size) [(y, .inr (2, [.int 0, .ref q0, .ref q1, .int 0, .ref q2, .ref q3])), (q0, .inl (cI, 3, .inl (upd (upd (upd (fun _ => 0) 0 (nI (clN p1 1 60))) 1 (nI (clN p2 1 60))) 2 (nI (clN p3 1 60))))), (q1, .inl (cJ, 3, .inr (.inl (vp_updL (fun _ => 0) 0 1)))), (q2, .inl (cI, 1024, .inl (fun _ => 0))), (q3, .inl (cI, 1024, .inl (fun _ => 0)))] := hD
  refine lv_aload_n hx hb dX2_init_82 rfl (lv_at hl 0 rfl) ?_
  refine va_get (D := D) (ci := 2) (v := .ref q1) (C := RX2) (T := TX2) (N := 6) hx hb hts hi2 hown hK hP 0 rfl rfl 2 (by decide) (hts (.fieldLink RX2 13 "RingSeriesModel" "widths" "[J") (by decide +kernel)) (fun _ h9 => h9) rfl dX2_init_83 ?_
  refine lv_iconst (v := 1) hx hb dX2_init_86 (by decide) ?_
  refine lv_iload hx hb dX2_init_87 (lv_at hl 4 rfl) ?_
  refine lv_iconst (v := 1) hx hb dX2_init_89 (by decide) ?_
  refine lv_ldc (v := 1000000) hx hb hown (hts (.constant RX2 27 1000000) (by decide +kernel)) dX2_init_90 ?_
  refine ro_call (va_runS (As := [.int p4, .int 1, .int 1000000]) (rest := [.int 1, .ref q1]) ⟨hx, hb, hml, hown, hts⟩ (c_X2_within l (D := D) (cI := cI) (cA := cA) (cJ := cJ) p4 1 1000000) (va_cwS 3 hts gX2_init_X2_within rfl rfl rfl (by decide +kernel) ⟨Nat.le_of_ble_eq_true rfl, Nat.le_of_ble_eq_true rfl⟩) (ro_preS hK) rfl rfl hl.1 rfl (lv_room (Nat.le_of_ble_eq_true rfl)) dX2_init_92 ⟨by show 4 + 0 ≤ 4; omega, by show 2054 + 0 ≤ 2054; omega⟩) ?_
  refine top_i (wj_n p4 (lo := 1) (hi := 1000000) (by omega) (by omega)) ?_
  refine lv_i2l hx hb dX2_init_95 rfl ?_
  refine top_l (nI_l (by omega)) ?_
  refine ast_l (j := 1) hx hb hK hP hD hS 2 2 rfl rfl (by omega) (by omega) dX2_init_96 (fun H locs hP hD hS => ?_)
  have hP : va_P D vwCl [(y, .inr (2, [.int 0, .ref q0, .ref q1, .int 0, .ref q2, .ref q3])), (q0, .inl (cI, 3, .inl (upd (upd (upd (fun _ => 0) 0 (nI (clN p1 1 60))) 1 (nI (clN p2 1 60))) 2 (nI (clN p3 1 60))))), (q1, .inl (cJ, 3, .inr (.inl (vp_updL (vp_updL (fun _ => 0) 0 1) 1 (lN (clN p4 1 1000000)))))), (q2, .inl (cI, 1024, .inl (fun _ => 0))), (q3, .inl (cI, 1024, .inl (fun _ => 0)))] H := hP
  have hD : va_D (va_A [(y, .inr (2, [.int 0, .null, .null, .int 0, .null, .null]))] s.heap.size) [(y, .inr (2, [.int 0, .ref q0, .ref q1, .int 0, .ref q2, .ref q3])), (q0, .inl (cI, 3, .inl (upd (upd (upd (fun _ => 0) 0 (nI (clN p1 1 60))) 1 (nI (clN p2 1 60))) 2 (nI (clN p3 1 60))))), (q1, .inl (cJ, 3, .inr (.inl (vp_updL (vp_updL (fun _ => 0) 0 1) 1 (lN (clN p4 1 1000000)))))), (q2, .inl (cI, 1024, .inl (fun _ => 0))), (q3, .inl (cI, 1024, .inl (fun _ => 0)))] := hD
  refine lv_aload_n hx hb dX2_init_97 rfl (lv_at hl 0 rfl) ?_
  refine va_get (D := D) (ci := 2) (v := .ref q1) (C := RX2) (T := TX2) (N := 6) hx hb hts hi2 hown hK hP 0 rfl rfl 2 (by decide) (hts (.fieldLink RX2 13 "RingSeriesModel" "widths" "[J") (by decide +kernel)) (fun _ h9 => h9) rfl dX2_init_98 ?_
  refine lv_iconst (v := 2) hx hb dX2_init_101 (by decide) ?_
  refine lv_aload_n hx hb dX2_init_102 rfl (lv_at hl 0 rfl) ?_
  refine va_get (D := D) (ci := 2) (v := .ref q1) (C := RX2) (T := TX2) (N := 6) hx hb hts hi2 hown hK hP 0 rfl rfl 2 (by decide) (hts (.fieldLink RX2 13 "RingSeriesModel" "widths" "[J") (by decide +kernel)) (fun _ h9 => h9) rfl dX2_init_103 ?_
  refine lv_iconst (v := 1) hx hb dX2_init_106 (by decide) ?_
  refine ald_l (j := 1) hx hb hK hP 2 2 rfl rfl (by omega) (by omega) dX2_init_107 ?_
  refine lv_iload hx hb dX2_init_108 (lv_at hl 5 rfl) ?_
  refine lv_iconst (v := 2) hx hb dX2_init_110 (by decide) ?_
  refine lv_sipush (v := 1000) hx hb dX2_init_111 (by decide) ?_
  refine ro_call (va_runS (As := [.int p5, .int 2, .int 1000]) (rest := [.long (lN (clN p4 1 1000000)), .int 2, .ref q1]) ⟨hx, hb, hml, hown, hts⟩ (c_X2_within l (D := D) (cI := cI) (cA := cA) (cJ := cJ) p5 2 1000) (va_cwS 3 hts gX2_init_X2_within rfl rfl rfl (by decide +kernel) ⟨Nat.le_of_ble_eq_true rfl, Nat.le_of_ble_eq_true rfl⟩) (ro_preS hK) rfl rfl hl.1 rfl (lv_room (Nat.le_of_ble_eq_true rfl)) dX2_init_114 ⟨by show 4 + 0 ≤ 4; omega, by show 2054 + 0 ≤ 2054; omega⟩) ?_
  refine top_i (wj_n p5 (lo := 2) (hi := 1000) (by omega) (by omega)) ?_
  refine lv_i2l hx hb dX2_init_117 rfl ?_
  refine top_l (nI_l (by omega)) ?_
  refine lv_lmul hx hb dX2_init_118 ?_
  refine top_l (lN_mul _ _) ?_
  refine ast_l (j := 2) hx hb hK hP hD hS 2 2 rfl rfl (by omega) (by omega) dX2_init_119 (fun H locs hP hD hS => ?_)
  have hP : va_P D vwCl [(y, .inr (2, [.int 0, .ref q0, .ref q1, .int 0, .ref q2, .ref q3])), (q0, .inl (cI, 3, .inl (upd (upd (upd (fun _ => 0) 0 (nI (clN p1 1 60))) 1 (nI (clN p2 1 60))) 2 (nI (clN p3 1 60))))), (q1, .inl (cJ, 3, .inr (.inl (vp_updL (vp_updL (vp_updL (fun _ => 0) 0 1) 1 (lN (clN p4 1 1000000))) 2 (lN ((clN p4 1 1000000) * (clN p5 2 1000))))))), (q2, .inl (cI, 1024, .inl (fun _ => 0))), (q3, .inl (cI, 1024, .inl (fun _ => 0)))] H := hP
  have hD : va_D (va_A [(y, .inr (2, [.int 0, .null, .null, .int 0, .null, .null]))] s.heap.size) [(y, .inr (2, [.int 0, .ref q0, .ref q1, .int 0, .ref q2, .ref q3])), (q0, .inl (cI, 3, .inl (upd (upd (upd (fun _ => 0) 0 (nI (clN p1 1 60))) 1 (nI (clN p2 1 60))) 2 (nI (clN p3 1 60))))), (q1, .inl (cJ, 3, .inr (.inl (vp_updL (vp_updL (vp_updL (fun _ => 0) 0 1) 1 (lN (clN p4 1 1000000))) 2 (lN ((clN p4 1 1000000) * (clN p5 2 1000))))))), (q2, .inl (cI, 1024, .inl (fun _ => 0))), (q3, .inl (cI, 1024, .inl (fun _ => 0)))] := hD
  exact cr_vret hx hb hr (q0, q1, q2, q3) trivial (by rw [md0_W]; exact hP) (by rw [md0_W]; exact hD) hS dX2_init_120 hlocks
