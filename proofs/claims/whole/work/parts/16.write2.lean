/-! Worlds beside each other. -/
def apt (l1 l2 : List Nat) : Prop := ∀ x ∈ l1, ∀ y ∈ l2, x ≠ y
theorem apt_symm {l1 l2 : List Nat} (h : apt l1 l2) : apt l2 l1 := fun x hx y hy e => h y hy x hx e.symm
theorem keepP {D : va_G} {cl : List vw_C} {w wc : va_W} {H H1 : Heap} (ap : apt (w.map (·.1)) (wc.map (·.1))) (hP : va_P D cl w H) (hk : ∀ q : Nat, q < H.size → ¬ va_A wc H.size q → H1[q]? = H[q]?) : va_P D cl w H1 := by
  intro k q hq
  have hl := (hP k q hq).lt
  refine (hP k q hq).kept (hk q.1 hl (fun z => ?_))
  rcases z with ⟨i, e, z⟩ | z
  · exact ap q.1 (List.mem_map.mpr ⟨q, List.mem_of_getElem? hq, rfl⟩) q.1 (List.mem_map.mpr ⟨(q.1, e), List.mem_of_getElem? z, rfl⟩) rfl
  · omega
theorem va_P_l {D : va_G} {cl : List vw_C} {w1 w2 : va_W} {H : Heap} (h : va_P D cl (w1 ++ w2) H) : va_P D cl w1 H := fun k q hq => h k q (by rw [List.getElem?_append_left (List.getElem?_eq_some_iff.mp hq).1]; exact hq)
theorem va_P_r {D : va_G} {cl : List vw_C} {w1 w2 : va_W} {H : Heap} (h : va_P D cl (w1 ++ w2) H) : va_P D cl w2 H := fun k q hq => h (w1.length + k) q (by rw [List.getElem?_append_right (Nat.le_add_right _ _), Nat.add_sub_cancel_left]; exact hq)
theorem va_D_l {A : Nat → Prop} {w1 w2 : va_W} (h : va_D A (w1 ++ w2)) : va_D A w1 := ⟨fun i j p q hi hj e => h.1 i j p q (by rw [List.getElem?_append_left (List.getElem?_eq_some_iff.mp hi).1]; exact hi) (by rw [List.getElem?_append_left (List.getElem?_eq_some_iff.mp hj).1]; exact hj) e, fun k q hq => h.2 k q (by rw [List.getElem?_append_left (List.getElem?_eq_some_iff.mp hq).1]; exact hq)⟩
theorem va_D_r {A : Nat → Prop} {w1 w2 : va_W} (h : va_D A (w1 ++ w2)) : va_D A w2 := ⟨fun i j p q hi hj e => by
    have := h.1 (w1.length + i) (w1.length + j) p q (by rw [List.getElem?_append_right (Nat.le_add_right _ _), Nat.add_sub_cancel_left]; exact hi) (by rw [List.getElem?_append_right (Nat.le_add_right _ _), Nat.add_sub_cancel_left]; exact hj) e
    omega, fun k q hq => h.2 (w1.length + k) q (by rw [List.getElem?_append_right (Nat.le_add_right _ _), Nat.add_sub_cancel_left]; exact hq)⟩
theorem va_D_apt {A : Nat → Prop} {w1 w2 : va_W} (h : va_D A (w1 ++ w2)) : apt (w1.map (·.1)) (w2.map (·.1)) := by
  intro x hx y hy e
  obtain ⟨p, hp, rfl⟩ := List.mem_map.mp hx
  obtain ⟨q, hq, rfl⟩ := List.mem_map.mp hy
  obtain ⟨i, hi⟩ := List.getElem?_of_mem hp
  obtain ⟨j, hj⟩ := List.getElem?_of_mem hq
  have hl := (List.getElem?_eq_some_iff.mp hi).1
  have := h.1 i (w1.length + j) p q (by rw [List.getElem?_append_left hl]; exact hi) (by rw [List.getElem?_append_right (Nat.le_add_right _ _), Nat.add_sub_cancel_left]; exact hj) e
  omega
/-- a sub-world's cells are among the whole's -/
theorem va_A_sub {w wc : va_W} {n n' : Nat} (hm : ∀ x ∈ wc.map (·.1), x ∈ w.map (·.1)) (hn : n ≤ n') : ∀ q, va_A wc n' q → va_A w n q := by
  intro q h
  rcases h with ⟨k, e, h⟩ | h
  · obtain ⟨p, hp, hpq⟩ := List.mem_map.mp (hm q (List.mem_map.mpr ⟨(q, e), List.mem_of_getElem? h, rfl⟩))
    obtain ⟨i, hi⟩ := List.getElem?_of_mem hp
    exact Or.inl ⟨i, p.2, by rw [hi, ← hpq]⟩
  · exact Or.inr (Nat.le_trans hn h)
/-- one value put in its place among the n first, which stay in order -/
def insr (v : Int32) : Nat → (Nat → Int32) → Nat → Int32
  | 0, g => upd g 0 v
  | p + 1, g => if v < g p then insr v p (upd g (p + 1) (g p)) else upd g (p + 1) v
def msr (r : rgV) : Nat → Nat → Nat → (Nat → Int32) → Nat → Int32
  | 0, _, _, g => g
  | n + 1, i, len, g => msr r n (i + 1) (len + 1) (insr (v_G r 2 i) len g)
def sqW (cI : ClassId) (sq SN : Nat) (g : Nat → Int32) : va_W := [(sq, .inl (cI, SN, .inl g))]
def mdV (r : rgV) (g : Nat → Int32) (f t : Int32) : Int32 := if sA r f = sB r f t then 0 else msr r (sB r f t - sA r f) (sA r f) 0 g ((sB r f t - sA r f - 1) / 2)
def mdG (r : rgV) (g : Nat → Int32) (f t : Int32) : Nat → Int32 := if sA r f = sB r f t then g else msr r (sB r f t - sA r f) (sA r f) 0 g
def apM (q : mv) (tm : Nat) (v : Int32) : mv := (m_P q + 1, fun p => if p = m_P q then tm else m_T q p, upd (m_V q) (m_P q) v, m_R q, m_W q)
theorem apM_W {cI cJ : ClassId} {Y : mA} {q : mv} {tm : Nat} {v : Int32} : mW cI cJ Y (apM q tm v) = [(b_o Y, .inr (2, [.int 0, .ref (b_r Y), .ref (b_w Y), .int (nI (m_P q + 1)), .ref (b_t Y), .ref (b_v Y)])), (b_r Y, .inl (cI, 3, .inl (fun k => nI (m_R q k)))), (b_w Y, .inl (cJ, 3, .inr (.inl (fun k => lN (m_W q k))))), (b_t Y, .inl (cI, 1024, .inl (upd (fun p => nI (m_T q p)) (m_P q) (nI tm)))), (b_v Y, .inl (cI, 1024, .inl (upd (m_V q) (m_P q) v)))] := by
  have h : (fun p => nI (m_T (apM q tm v) p)) = upd (fun p => nI (m_T q p)) (m_P q) (nI tm) := by
    funext p
    show nI (if p = m_P q then tm else m_T q p) = _
    unfold upd
    split <;> rfl
  unfold mW
  rw [h]
  rfl
set_option maxHeartbeats 4000000 in
set_option maxRecDepth 100000 in
/-- insertSorted(length, value) -/
theorem c_X1_insertSorted (l : Launch) {D : va_G} {cI cA cJ : ClassId} {H : Heap} (x sq : Nat) (lt : Int32) (A0 A1 A2 : rgA) (SN : Nat) (hSN : SN ≤ 60) (g : Nat → Int32) (hP : va_P D vwCl (xW x sq lt A0 A1 A2 ++ sqW cI sq SN g) H) {X0 : Nat → Prop} (hD0 : va_D X0 (xW x sq lt A0 A1 A2 ++ sqW cI sq SN g)) (ln : Nat) (hln : ln < SN) (v : Int32) : Met l yX1_insertSorted wsX1_insertSorted ({ frames := 0, cells := 0, slots := 0, locals := 0 }) (ro_P D vwCl (tyL cI cA cJ) H [.ref x, .int (nI ln), .int v]) (wr_Q (none) D vwCl H (xW x sq lt A0 A1 A2 ++ sqW cI sq SN g) (xW x sq lt A0 A1 A2 ++ sqW cI sq SN (insr v ln g))) 0 0 (va_A (xW x sq lt A0 A1 A2 ++ sqW cI sq SN g) H.size) := by
  refine Met.ofW (cc := cX1_insertSorted) (maxL := 4) (ret := none) (by decide) rfl ?_
  intro p e s m args below meth c s₁ B hml hv
  obtain ⟨rfl, hh, hK⟩ := hv
  subst hh
  have hx := B.exec
  have hb := B.bytes
  have hr := B.returns
  have hlocks := B.notSynchronized
  have hts := atoms_spec (ws := wsX1_insertSorted) B.pre
  have hown : s.vm.findClass RX1 = some m.cls := findClass_of_methodNamed B.named
  have hi1 : ∀ w ∈ wsX10, w ∈ wsX1_insertSorted := fun w h => List.mem_cons_of_mem _ (List.mem_append_right _ h)
  have hl := lv_entry ([.ref x, .int (nI ln), .int v]) (n := 4) (Nat.le_of_ble_eq_true rfl)
  rw [lg_entry_eq]
  generalize (lg_sl ([.ref x, .int (nI ln), .int v]) ++ List.replicate (4 - (lg_sl ([.ref x, .int (nI ln), .int v])).length) Slot.unset).toArray = ls at hl ⊢
  have hl : lv_has ls 4 [(0, .ref x), (1, .int (nI ln)), (2, .int v)] := hl
  have hD := hD0.self (sz := s.heap.size)
  have hA : ∀ z : Nat, s.heap.size ≤ z → va_A (xW x sq lt A0 A1 A2 ++ sqW cI sq SN g) s.heap.size z := fun z h => Or.inr h
  have hS : va_S (va_A (xW x sq lt A0 A1 A2 ++ sqW cI sq SN g) s.heap.size) s.heap s.heap [] := va_S.rf
  have loop : ∀ (n : Nat) (g1 : Nat → Int32) (H : Heap) (locs : List Loc) (ls : Array Slot), n < SN → insr v n g1 = insr v ln g → va_P D vwCl (xW x sq lt A0 A1 A2 ++ sqW cI sq SN g1) H → va_D (va_A (xW x sq lt A0 A1 A2 ++ sqW cI sq SN g) s.heap.size) (xW x sq lt A0 A1 A2 ++ sqW cI sq SN g1) → va_S (va_A (xW x sq lt A0 A1 A2 ++ sqW cI sq SN g) s.heap.size) s.heap H locs → lv_has ls 4 [(3, .int (nI n)), (0, .ref x), (1, .int (nI ln)), (2, .int v)] → W p l e (headSpec wsX1_insertSorted ({ frames := 0, cells := 0, slots := 0, locals := 0 })).room s m ([.ref x, .int (nI ln), .int v] : List Value).toArray below meth c H locs 0 0 (MQ below (wr_Q none D vwCl s.heap (xW x sq lt A0 A1 A2 ++ sqW cI sq SN g) (xW x sq lt A0 A1 A2 ++ sqW cI sq SN (insr v ln g))) ([.ref x, .int (nI ln), .int v] : List Value).toArray s 0 0 (va_A (xW x sq lt A0 A1 A2 ++ sqW cI sq SN g) s.heap.size)) (F0 m 2 ls []) := by
    intro n
    induction n with
    | zero =>
      intro g1 H locs ls hn hf hP hD hS hl
      refine lv_iload_n hx hb dX1_insertSorted_2 rfl (lv_at hl 0 rfl) ?_
      refine lv_if_le (tgt := 38) hx hb dX1_insertSorted_3 (by decide) (fun c_3 => ?_) (fun c_3 => ?_)
      · refine lv_aload_n hx hb dX1_insertSorted_38 rfl (lv_at hl 1 rfl) ?_
        refine va_get (D := D) (ci := 1) (v := .ref sq) (C := RX1) (T := TX1) (N := 5) hx hb hts hi1 hown hK hP 0 rfl rfl 3 (by decide) (hts (.fieldLink RX1 33 "RingSeries" "sorted" "[I") (by decide +kernel)) (fun _ h9 => h9) rfl dX1_insertSorted_39 ?_
        refine lv_iload_n hx hb dX1_insertSorted_42 rfl (lv_at hl 0 rfl) ?_
        refine lv_iload_n hx hb dX1_insertSorted_43 rfl (lv_at hl 3 rfl) ?_
        refine ast_i (j := 0) hx hb hK hP hD hS 1 0 rfl rfl (by omega) (by omega) dX1_insertSorted_44 (fun H locs hP hD hS => ?_)
        have hP : va_P D vwCl (xW x sq lt A0 A1 A2 ++ sqW cI sq SN (upd g1 0 v)) H := hP
        have hD : va_D (va_A (xW x sq lt A0 A1 A2 ++ sqW cI sq SN g) s.heap.size) (xW x sq lt A0 A1 A2 ++ sqW cI sq SN (upd g1 0 v)) := hD
        exact wr_vret hx hb hr (by rw [← hf]; exact hP) hS dX1_insertSorted_45 hlocks
      · exact absurd (by decide) c_3
    | succ n ih =>
      intro g1 H locs ls hn hf hP hD hS hl
      refine lv_iload_n hx hb dX1_insertSorted_2 rfl (lv_at hl 0 rfl) ?_
      refine lv_if_le (tgt := 38) hx hb dX1_insertSorted_3 (by decide) (fun c_3 => ?_) (fun c_3 => ?_)
      · exact absurd c_3 (nI_nle (by omega) (by omega))
      · refine lv_aload_n hx hb dX1_insertSorted_6 rfl (lv_at hl 1 rfl) ?_
        refine va_get (D := D) (ci := 1) (v := .ref sq) (C := RX1) (T := TX1) (N := 5) hx hb hts hi1 hown hK hP 0 rfl rfl 3 (by decide) (hts (.fieldLink RX1 33 "RingSeries" "sorted" "[I") (by decide +kernel)) (fun _ h9 => h9) rfl dX1_insertSorted_7 ?_
        refine lv_iload_n hx hb dX1_insertSorted_10 rfl (lv_at hl 0 rfl) ?_
        refine lv_iconst (v := 1) hx hb dX1_insertSorted_11 (by decide) ?_
        refine lv_isub hx hb dX1_insertSorted_12 ?_
        refine top_i (pk_sub (a := n + 1) (b := 1) (by omega)) ?_
        refine ald_i (j := ((n + 1) - 1)) hx hb hK hP 1 0 rfl rfl (by omega) (by omega) dX1_insertSorted_13 ?_
        refine lv_iload_n hx hb dX1_insertSorted_14 rfl (lv_at hl 3 rfl) ?_
        refine lv_icmp_le (tgt := 38) hx hb dX1_insertSorted_15 (by decide) (fun c_15 => ?_) (fun c_15 => ?_)
        · refine lv_aload_n hx hb dX1_insertSorted_38 rfl (lv_at hl 1 rfl) ?_
          refine va_get (D := D) (ci := 1) (v := .ref sq) (C := RX1) (T := TX1) (N := 5) hx hb hts hi1 hown hK hP 0 rfl rfl 3 (by decide) (hts (.fieldLink RX1 33 "RingSeries" "sorted" "[I") (by decide +kernel)) (fun _ h9 => h9) rfl dX1_insertSorted_39 ?_
          refine lv_iload_n hx hb dX1_insertSorted_42 rfl (lv_at hl 0 rfl) ?_
          refine lv_iload_n hx hb dX1_insertSorted_43 rfl (lv_at hl 3 rfl) ?_
          refine ast_i (j := (n + 1)) hx hb hK hP hD hS 1 0 rfl rfl (by omega) (by omega) dX1_insertSorted_44 (fun H locs hP hD hS => ?_)
          have hP : va_P D vwCl (xW x sq lt A0 A1 A2 ++ sqW cI sq SN (upd g1 (n + 1) v)) H := hP
          have hD : va_D (va_A (xW x sq lt A0 A1 A2 ++ sqW cI sq SN g) s.heap.size) (xW x sq lt A0 A1 A2 ++ sqW cI sq SN (upd g1 (n + 1) v)) := hD
          exact wr_vret hx hb hr (by rw [← hf]; exact (by rw [insr, if_neg (c := v < g1 n) (Int32.not_lt.mpr c_15)]; exact hP)) hS dX1_insertSorted_45 hlocks
        · refine lv_aload_n hx hb dX1_insertSorted_18 rfl (lv_at hl 1 rfl) ?_
          refine va_get (D := D) (ci := 1) (v := .ref sq) (C := RX1) (T := TX1) (N := 5) hx hb hts hi1 hown hK hP 0 rfl rfl 3 (by decide) (hts (.fieldLink RX1 33 "RingSeries" "sorted" "[I") (by decide +kernel)) (fun _ h9 => h9) rfl dX1_insertSorted_19 ?_
          refine lv_iload_n hx hb dX1_insertSorted_22 rfl (lv_at hl 0 rfl) ?_
          refine lv_aload_n hx hb dX1_insertSorted_23 rfl (lv_at hl 1 rfl) ?_
          refine va_get (D := D) (ci := 1) (v := .ref sq) (C := RX1) (T := TX1) (N := 5) hx hb hts hi1 hown hK hP 0 rfl rfl 3 (by decide) (hts (.fieldLink RX1 33 "RingSeries" "sorted" "[I") (by decide +kernel)) (fun _ h9 => h9) rfl dX1_insertSorted_24 ?_
          refine lv_iload_n hx hb dX1_insertSorted_27 rfl (lv_at hl 0 rfl) ?_
          refine lv_iconst (v := 1) hx hb dX1_insertSorted_28 (by decide) ?_
          refine lv_isub hx hb dX1_insertSorted_29 ?_
          refine top_i (pk_sub (a := n + 1) (b := 1) (by omega)) ?_
          refine ald_i (j := ((n + 1) - 1)) hx hb hK hP 1 0 rfl rfl (by omega) (by omega) dX1_insertSorted_30 ?_
          refine ast_i (j := (n + 1)) hx hb hK hP hD hS 1 0 rfl rfl (by omega) (by omega) dX1_insertSorted_31 (fun H locs hP hD hS => ?_)
          have hP : va_P D vwCl (xW x sq lt A0 A1 A2 ++ sqW cI sq SN (upd g1 (n + 1) (g1 ((n + 1) - 1)))) H := hP
          have hD : va_D (va_A (xW x sq lt A0 A1 A2 ++ sqW cI sq SN g) s.heap.size) (xW x sq lt A0 A1 A2 ++ sqW cI sq SN (upd g1 (n + 1) (g1 ((n + 1) - 1)))) := hD
          refine lv_iinc (v := nI n) (lv' := [(3, .int (nI n)), (0, .ref x), (1, .int (nI ln)), (2, .int v)]) hx hb dX1_insertSorted_32 hl (k := 0) rfl (dec1 _) (by decide) rfl (fun ls hl => ?_)
          refine lv_goto (tgt := 2) hx hb dX1_insertSorted_35 (by decide) ?_
          exact ih _ H locs ls (by omega) (by rw [← hf, insr, if_pos (c := v < g1 n) (Int32.not_le.mp c_15)]; rfl) hP hD hS (lv_sub hl [0, 1, 2, 3] rfl)
  refine lv_iload_n hx hb dX1_insertSorted_0 rfl (lv_at hl 1 rfl) ?_
  refine lv_istore_n (lv' := [(3, .int (nI ln)), (0, .ref x), (1, .int (nI ln)), (2, .int v)]) hx hb dX1_insertSorted_1 rfl hl (by decide) rfl (fun ls hl => ?_)
  exact loop ln g s.heap [] ls hln rfl hP hD hS (lv_sub hl [0, 1, 2, 3] rfl)
set_option maxHeartbeats 4000000 in
set_option maxRecDepth 100000 in
/-- median(from, to) -/
theorem c_X1_median (l : Launch) {D : va_G} {cI cA cJ : ClassId} {H : Heap} (x sq : Nat) (lt : Int32) (A0 A1 A2 : rgA) (r0 : rgV) (hk0 : r_ok r0) (hR0 : va_P D vwCl (rgW cI cA A0 r0) H) (g : Nat → Int32) (hP : va_P D vwCl (xW x sq lt A0 A1 A2 ++ sqW cI sq (v_N r0) g) H) {X0 : Nat → Prop} (hD0 : va_D X0 (xW x sq lt A0 A1 A2 ++ sqW cI sq (v_N r0) g)) (ap : apt ((rgW cI cA A0 r0).map (·.1)) ((xW x sq lt A0 A1 A2 ++ sqW cI sq (v_N r0) g).map (·.1))) (f t : Int32) : Met l yX1_median wsX1_median ({ frames := 4, cells := 0, slots := 0, locals := 89 }) (ro_P D vwCl (tyL cI cA cJ) H [.ref x, .int f, .int t]) (wr_Q (some (.int (mdV r0 g f t))) D vwCl H (xW x sq lt A0 A1 A2 ++ sqW cI sq (v_N r0) g) (xW x sq lt A0 A1 A2 ++ sqW cI sq (v_N r0) (mdG r0 g f t))) 0 0 (va_A (xW x sq lt A0 A1 A2 ++ sqW cI sq (v_N r0) g) H.size) := by
  refine Met.ofW (cc := cX1_median) (maxL := 6) (ret := (some .int)) (by decide) rfl ?_
  intro p e s m args below meth c s₁ B hml hv
  obtain ⟨rfl, hh, hK⟩ := hv
  subst hh
  have hx := B.exec
  have hb := B.bytes
  have hr := B.returns
  have hlocks := B.notSynchronized
  have hts := atoms_spec (ws := wsX1_median) B.pre
  have hown : s.vm.findClass RX1 = some m.cls := findClass_of_methodNamed B.named
  have hi1 : ∀ w ∈ wsX10, w ∈ wsX1_median := fun w h => List.mem_cons_of_mem _ (List.mem_append_left _ (List.mem_append_right _ h))
  have hi0 : ∀ w ∈ wsX00, w ∈ wsX1_median := fun w h => List.mem_cons_of_mem _ (List.mem_append_right _ h)
  have hl := lv_entry ([.ref x, .int f, .int t]) (n := 6) (Nat.le_of_ble_eq_true rfl)
  rw [lg_entry_eq]
  generalize (lg_sl ([.ref x, .int f, .int t]) ++ List.replicate (6 - (lg_sl ([.ref x, .int f, .int t])).length) Slot.unset).toArray = ls at hl ⊢
  have hl : lv_has ls 6 [(0, .ref x), (1, .int f), (2, .int t)] := hl
  have hD := hD0.self (sz := s.heap.size)
  have hA : ∀ z : Nat, s.heap.size ≤ z → va_A (xW x sq lt A0 A1 A2 ++ sqW cI sq (v_N r0) g) s.heap.size z := fun z h => Or.inr h
  have hS : va_S (va_A (xW x sq lt A0 A1 A2 ++ sqW cI sq (v_N r0) g) s.heap.size) s.heap s.heap [] := va_S.rf
  obtain ⟨k10, k20, k30, k40, k50, k60⟩ := id hk0
  have b1 := sA_le r0 f
  have b2 := sB_le r0 f t
  have b3 := sB_ge r0 f t
  have loop : ¬ sA r0 f = sB r0 f t → ∀ (n i : Nat) (g1 : Nat → Int32) (H : Heap) (locs : List Loc) (ls : Array Slot), i + n = sB r0 f t ∧ sA r0 f ≤ i → msr r0 n i (i - sA r0 f) g1 = msr r0 (sB r0 f t - sA r0 f) (sA r0 f) 0 g → va_P D vwCl (rgW cI cA A0 r0) H → va_P D vwCl (xW x sq lt A0 A1 A2 ++ sqW cI sq (v_N r0) g1) H → va_D (va_A (xW x sq lt A0 A1 A2 ++ sqW cI sq (v_N r0) g) s.heap.size) (xW x sq lt A0 A1 A2 ++ sqW cI sq (v_N r0) g1) → va_S (va_A (xW x sq lt A0 A1 A2 ++ sqW cI sq (v_N r0) g) s.heap.size) s.heap H locs → lv_has ls 6 [(5, .int (nI i)), (0, .ref x), (1, .int f), (2, .int t), (3, .int (nI (sA r0 f))), (4, .int (nI (sB r0 f t)))] → W p l e (headSpec wsX1_median ({ frames := 4, cells := 0, slots := 0, locals := 89 })).room s m ([.ref x, .int f, .int t] : List Value).toArray below meth c H locs 0 0 (MQ below (wr_Q (some (.int (mdV r0 g f t))) D vwCl s.heap (xW x sq lt A0 A1 A2 ++ sqW cI sq (v_N r0) g) (xW x sq lt A0 A1 A2 ++ sqW cI sq (v_N r0) (mdG r0 g f t))) ([.ref x, .int f, .int t] : List Value).toArray s 0 0 (va_A (xW x sq lt A0 A1 A2 ++ sqW cI sq (v_N r0) g) s.heap.size)) (F0 m 25 ls []) := by
    intro hne n
    induction n with
    | zero =>
      intro i g1 H locs ls hi hf hR0 hP hD hS hl
      have hX : va_P D vwCl (xW x sq lt A0 A1 A2) _ := va_P_l hP
      refine lv_iload hx hb dX1_median_25 (lv_at hl 0 rfl) ?_
      refine lv_iload hx hb dX1_median_27 (lv_at hl 5 rfl) ?_
      refine lv_icmp_ge (tgt := 52) hx hb dX1_median_29 (by decide) (fun c_29 => ?_) (fun c_29 => ?_)
      · have c_29 := (nI_leI (a := sB r0 f t) (b := i) (by omega) (by omega)).mp c_29
        refine lv_aload_n hx hb dX1_median_52 rfl (lv_at hl 1 rfl) ?_
        refine va_get (D := D) (ci := 1) (v := .ref sq) (C := RX1) (T := TX1) (N := 5) hx hb hts hi1 hown hK hX 0 rfl rfl 3 (by decide) (hts (.fieldLink RX1 33 "RingSeries" "sorted" "[I") (by decide +kernel)) (fun _ h9 => h9) rfl dX1_median_53 ?_
        refine lv_iload hx hb dX1_median_56 (lv_at hl 5 rfl) ?_
        refine lv_iload_n hx hb dX1_median_58 rfl (lv_at hl 4 rfl) ?_
        refine lv_isub hx hb dX1_median_59 ?_
        refine top_i (pk_sub (a := sB r0 f t) (b := sA r0 f) (by omega)) ?_
        refine lv_iconst (v := 1) hx hb dX1_median_60 (by decide) ?_
        refine lv_isub hx hb dX1_median_61 ?_
        refine top_i (pk_sub (a := (sB r0 f t) - (sA r0 f)) (b := 1) (by omega)) ?_
        refine lv_iconst (v := 2) hx hb dX1_median_62 (by decide) ?_
        refine lv_idiv hx hb dX1_median_63 (by decide) ?_
        refine top_i (pk_div (a := sB r0 f t - sA r0 f - 1) (d := 2) (by omega) (by omega) (by omega)) ?_
        refine ald_i (j := ((sB r0 f t - sA r0 f - 1) / 2)) hx hb hK hP 1 0 rfl rfl (by omega) (by omega) dX1_median_64 ?_
        exact wr_iret hx hb hr (by unfold mdV; rw [if_neg hne, ← hf]; rfl) (by unfold mdG; rw [if_neg hne, ← hf]; exact hP) hS dX1_median_65 hlocks
      · have c_29 := mt (nI_leI (a := sB r0 f t) (b := i) (by omega) (by omega)).mpr c_29
        exact absurd c_29 (by omega)
    | succ n ih =>
      intro i g1 H locs ls hi hf hR0 hP hD hS hl
      have hX : va_P D vwCl (xW x sq lt A0 A1 A2) _ := va_P_l hP
      refine lv_iload hx hb dX1_median_25 (lv_at hl 0 rfl) ?_
      refine lv_iload hx hb dX1_median_27 (lv_at hl 5 rfl) ?_
      refine lv_icmp_ge (tgt := 52) hx hb dX1_median_29 (by decide) (fun c_29 => ?_) (fun c_29 => ?_)
      · have c_29 := (nI_leI (a := sB r0 f t) (b := i) (by omega) (by omega)).mp c_29
        exact absurd c_29 (by omega)
      · have c_29 := mt (nI_leI (a := sB r0 f t) (b := i) (by omega) (by omega)).mpr c_29
        refine lv_aload_n hx hb dX1_median_32 rfl (lv_at hl 1 rfl) ?_
        refine lv_iload hx hb dX1_median_33 (lv_at hl 0 rfl) ?_
        refine lv_iload_n hx hb dX1_median_35 rfl (lv_at hl 4 rfl) ?_
        refine lv_isub hx hb dX1_median_36 ?_
        refine top_i (pk_sub (a := i) (b := sA r0 f) (by omega)) ?_
        refine lv_aload_n hx hb dX1_median_37 rfl (lv_at hl 1 rfl) ?_
        refine lv_iload hx hb dX1_median_38 (lv_at hl 0 rfl) ?_
        refine ro_call (va_runV (As := [.int (nI i)]) (rest := [.int (nI (i - (sA r0 f))), .ref x]) ⟨hx, hb, hml, hown, hts⟩ (c_X1_valueOf l x sq lt A0 A1 A2 hX r0 hk0 hR0 i (by omega)) (cwV 1 hts gX1_median_X1_valueOf rfl rfl rfl (by decide +kernel) ⟨Nat.le_of_ble_eq_true rfl, Nat.le_of_ble_eq_true rfl⟩) (ro_preV hK (va_recv hK hX (ci := 1) (q0 := 0) rfl rfl)) rfl rfl hl.1 rfl (lv_room (Nat.le_of_ble_eq_true rfl)) dX1_median_40 ⟨Nat.zero_le _, Nat.zero_le _⟩) ?_
        refine wr_call (va_runV (As := [.int (nI (i - (sA r0 f))), .int (v_G r0 2 i)]) (rest := []) ⟨hx, hb, hml, hown, hts⟩ (c_X1_insertSorted l x sq lt A0 A1 A2 (v_N r0) (by omega) g1 hP hD (i - (sA r0 f)) (by omega) (v_G r0 2 i)) (cwV 2 hts gX1_median_X1_insertSorted rfl rfl rfl (by decide +kernel) ⟨Nat.le_of_ble_eq_true rfl, Nat.le_of_ble_eq_true rfl⟩) (ro_preV hK (va_recv hK hP (ci := 1) (q0 := 0) rfl rfl)) rfl rfl hl.1 rfl (lv_room (Nat.le_of_ble_eq_true rfl)) dX1_median_43 ⟨Nat.zero_le _, Nat.zero_le _⟩) hS (va_A_sub (by intro z hz; exact hz) hS.1) (fun H2 locs hP hz2 hk2 hS => ?_)
        have hD : va_D (va_A (xW x sq lt A0 A1 A2 ++ sqW cI sq (v_N r0) g) s.heap.size) (xW x sq lt A0 A1 A2 ++ sqW cI sq (v_N r0) (insr (v_G r0 2 i) (i - (sA r0 f)) g1)) := va_D_of (ws := xW x sq lt A0 A1 A2 ++ sqW cI sq (v_N r0) g1) (by rfl) hD
        have hR0 := keepP (wc := xW x sq lt A0 A1 A2 ++ sqW cI sq (v_N r0) g1) ap hR0 hk2
        refine lv_iinc (v := nI (i + 1)) (lv' := [(5, .int (nI (i + 1))), (0, .ref x), (1, .int f), (2, .int t), (3, .int (nI (sA r0 f))), (4, .int (nI (sB r0 f t)))]) hx hb dX1_median_46 hl (k := 0) rfl (inc1 _) (by decide) rfl (fun ls hl => ?_)
        refine lv_goto (tgt := 25) hx hb dX1_median_49 (by decide) ?_
        exact ih (i + 1) _ H2 locs ls (by omega) (by rw [← hf, msr, show i + 1 - sA r0 f = i - sA r0 f + 1 by omega]) hR0 hP hD hS (lv_sub hl [0, 1, 2, 3, 4, 5] rfl)
  have hX : va_P D vwCl (xW x sq lt A0 A1 A2) _ := va_P_l hP
  refine lv_aload_n hx hb dX1_median_0 rfl (lv_at hl 0 rfl) ?_
  refine lv_iload_n hx hb dX1_median_1 rfl (lv_at hl 1 rfl) ?_
  refine ro_call (va_runV (As := [.int f]) (rest := []) ⟨hx, hb, hml, hown, hts⟩ (c_X1_firstIn l x sq lt A0 A1 A2 hX r0 hk0 hR0 f) (cwV 1 hts gX1_median_X1_firstIn rfl rfl rfl (by decide +kernel) ⟨Nat.le_of_ble_eq_true rfl, Nat.le_of_ble_eq_true rfl⟩) (ro_preV hK (va_recv hK hX (ci := 1) (q0 := 0) rfl rfl)) rfl rfl hl.1 rfl (lv_room (Nat.le_of_ble_eq_true rfl)) dX1_median_2 ⟨Nat.zero_le _, Nat.zero_le _⟩) ?_
  refine lv_istore_n (lv' := [(3, .int (nI (sA r0 f))), (0, .ref x), (1, .int f), (2, .int t)]) hx hb dX1_median_5 rfl hl (by decide) rfl (fun ls hl => ?_)
  refine lv_aload_n hx hb dX1_median_6 rfl (lv_at hl 1 rfl) ?_
  refine lv_iload_n hx hb dX1_median_7 rfl (lv_at hl 0 rfl) ?_
  refine lv_iload_n hx hb dX1_median_8 rfl (lv_at hl 3 rfl) ?_
  refine ro_call (va_runV (As := [.int (nI (sA r0 f)), .int t]) (rest := []) ⟨hx, hb, hml, hown, hts⟩ (c_X1_endOf l x sq lt A0 A1 A2 hX r0 hk0 hR0 (sA r0 f) (sA_le _ _) t) (cwV 2 hts gX1_median_X1_endOf rfl rfl rfl (by decide +kernel) ⟨Nat.le_of_ble_eq_true rfl, Nat.le_of_ble_eq_true rfl⟩) (ro_preV hK (va_recv hK hX (ci := 1) (q0 := 0) rfl rfl)) rfl rfl hl.1 rfl (lv_room (Nat.le_of_ble_eq_true rfl)) dX1_median_9 ⟨Nat.zero_le _, Nat.zero_le _⟩) ?_
  refine lv_istore (lv' := [(4, .int (nI (sB r0 f t))), (3, .int (nI (sA r0 f))), (0, .ref x), (1, .int f), (2, .int t)]) hx hb dX1_median_12 hl (by decide) rfl (fun ls hl => ?_)
  refine lv_iload_n hx hb dX1_median_14 rfl (lv_at hl 1 rfl) ?_
  refine lv_iload hx hb dX1_median_15 (lv_at hl 0 rfl) ?_
  refine lv_icmp_ne (tgt := 22) hx hb dX1_median_17 (by decide) (fun c_17 => ?_) (fun c_17 => ?_)
  · have c_17 := mt (nI_eq (a := sA r0 f) (b := sB r0 f t) (by omega) (by omega)).mpr c_17
    refine lv_iload_n hx hb dX1_median_22 rfl (lv_at hl 1 rfl) ?_
    refine lv_istore (lv' := [(5, .int (nI (sA r0 f))), (4, .int (nI (sB r0 f t))), (3, .int (nI (sA r0 f))), (0, .ref x), (1, .int f), (2, .int t)]) hx hb dX1_median_23 hl (by decide) rfl (fun ls hl => ?_)
    exact loop c_17 (sB r0 f t - sA r0 f) (sA r0 f) g s.heap [] ls (by omega) (by rw [Nat.sub_self]) hR0 hP hD hS (lv_sub hl [0, 3, 4, 5, 2, 1] rfl)
  · have c_17 := (nI_eq (a := sA r0 f) (b := sB r0 f t) (by omega) (by omega)).mp c_17
    refine lv_iconst (v := 0) hx hb dX1_median_20 (by decide) ?_
    exact wr_iret hx hb hr (by unfold mdV; rw [if_pos c_17]) (by unfold mdG; rw [if_pos c_17]; exact hP) hS dX1_median_21 hlocks
set_option maxHeartbeats 4000000 in
set_option maxRecDepth 100000 in
/-- append, stale -/
theorem c_X1_append_s (l : Launch) {D : va_G} {cI cA cJ : ClassId} {H : Heap} (x sq : Nat) (lt : Int32) (A0 A1 A2 : rgA) (r0 r1 r2 : rgV) (hk0 : r_ok r0) (hk1 : r_ok r1) (hk2 : r_ok r2) (hP : va_P D vwCl (xW x sq lt A0 A1 A2 ++ (rgW cI cA A0 r0 ++ (rgW cI cA A1 r1 ++ rgW cI cA A2 r2))) H) {X0 : Nat → Prop} (hD0 : va_D X0 (xW x sq lt A0 A1 A2 ++ (rgW cI cA A0 r0 ++ (rgW cI cA A1 r1 ++ rgW cI cA A2 r2)))) (t v : Int32) (hst : ¬ lt < t) : Met l yX1_append wsX1_append ({ frames := 3, cells := 0, slots := 0, locals := 71 }) (ro_P D vwCl (tyL cI cA cJ) H [.ref x, .int t, .int v]) (wr_Q (some (.int 1)) D vwCl H (xW x sq lt A0 A1 A2 ++ (rgW cI cA A0 r0 ++ (rgW cI cA A1 r1 ++ rgW cI cA A2 r2))) (xW x sq lt A0 A1 A2 ++ (rgW cI cA A0 r0 ++ (rgW cI cA A1 r1 ++ rgW cI cA A2 r2)))) 0 0 (va_A (xW x sq lt A0 A1 A2 ++ (rgW cI cA A0 r0 ++ (rgW cI cA A1 r1 ++ rgW cI cA A2 r2))) H.size) := by
  refine Met.ofW (cc := cX1_append) (maxL := 3) (ret := (some .int)) (by decide) rfl ?_
  intro p e s m args below meth c s₁ B hml hv
  obtain ⟨rfl, hh, hK⟩ := hv
  subst hh
  have hx := B.exec
  have hb := B.bytes
  have hr := B.returns
  have hlocks := B.notSynchronized
  have hts := atoms_spec (ws := wsX1_append) B.pre
  have hown : s.vm.findClass RX1 = some m.cls := findClass_of_methodNamed B.named
  have hi1 : ∀ w ∈ wsX10, w ∈ wsX1_append := fun w h => List.mem_cons_of_mem _ (List.mem_append_left _ (List.mem_append_right _ h))
  have hi0 : ∀ w ∈ wsX00, w ∈ wsX1_append := fun w h => List.mem_cons_of_mem _ (List.mem_append_right _ h)
  have hl := lv_entry ([.ref x, .int t, .int v]) (n := 3) (Nat.le_of_ble_eq_true rfl)
  rw [lg_entry_eq]
  generalize (lg_sl ([.ref x, .int t, .int v]) ++ List.replicate (3 - (lg_sl ([.ref x, .int t, .int v])).length) Slot.unset).toArray = ls at hl ⊢
  have hl : lv_has ls 3 [(0, .ref x), (1, .int t), (2, .int v)] := hl
  have hD := hD0.self (sz := s.heap.size)
  have hA : ∀ z : Nat, s.heap.size ≤ z → va_A (xW x sq lt A0 A1 A2 ++ (rgW cI cA A0 r0 ++ (rgW cI cA A1 r1 ++ rgW cI cA A2 r2))) s.heap.size z := fun z h => Or.inr h
  have hS : va_S (va_A (xW x sq lt A0 A1 A2 ++ (rgW cI cA A0 r0 ++ (rgW cI cA A1 r1 ++ rgW cI cA A2 r2))) s.heap.size) s.heap s.heap [] := va_S.rf
  refine lv_iload_n hx hb dX1_append_0 rfl (lv_at hl 1 rfl) ?_
  refine lv_aload_n hx hb dX1_append_1 rfl (lv_at hl 0 rfl) ?_
  refine va_get (D := D) (ci := 1) (v := .int lt) (C := RX1) (T := TX1) (N := 5) hx hb hts hi1 hown hK hP 0 rfl rfl 4 (by decide) (hts (.fieldLink RX1 7 "RingSeries" "lastTime" "I") (by decide +kernel)) (fun _ h9 => h9) rfl dX1_append_2 ?_
  refine lv_icmp_gt (tgt := 10) hx hb dX1_append_5 (by decide) (fun c_5 => ?_) (fun c_5 => ?_)
  · exact absurd c_5 hst
  · refine lv_iconst (v := 1) hx hb dX1_append_8 (by decide) ?_
    exact wr_iret hx hb hr rfl hP hS dX1_append_9 hlocks
set_option maxHeartbeats 4000000 in
set_option maxRecDepth 100000 in
/-- append, a point comes -/
theorem c_X1_append (l : Launch) {D : va_G} {cI cA cJ : ClassId} {H : Heap} (x sq : Nat) (lt : Int32) (A0 A1 A2 : rgA) (r0 r1 r2 : rgV) (hk0 : r_ok r0) (hk1 : r_ok r1) (hk2 : r_ok r2) (hP : va_P D vwCl (xW x sq lt A0 A1 A2 ++ (rgW cI cA A0 r0 ++ (rgW cI cA A1 r1 ++ rgW cI cA A2 r2))) H) {X0 : Nat → Prop} (hD0 : va_D X0 (xW x sq lt A0 A1 A2 ++ (rgW cI cA A0 r0 ++ (rgW cI cA A1 r1 ++ rgW cI cA A2 r2)))) (tm : Nat) (ht : tm < 2 ^ 31) (v : Int32) (hst : lt < nI tm) : Met l yX1_append wsX1_append ({ frames := 3, cells := 0, slots := 0, locals := 71 }) (ro_P D vwCl (tyL cI cA cJ) H [.ref x, .int (nI tm), .int v]) (wr_Q (some (.int 0)) D vwCl H (xW x sq lt A0 A1 A2 ++ (rgW cI cA A0 r0 ++ (rgW cI cA A1 r1 ++ rgW cI cA A2 r2))) (xW x sq (nI tm) A0 A1 A2 ++ (rgW cI cA A0 (tkV r0 tm v) ++ (rgW cI cA A1 (tkV r1 tm v) ++ rgW cI cA A2 (tkV r2 tm v))))) 0 0 (va_A (xW x sq lt A0 A1 A2 ++ (rgW cI cA A0 r0 ++ (rgW cI cA A1 r1 ++ rgW cI cA A2 r2))) H.size) := by
  refine Met.ofW (cc := cX1_append) (maxL := 3) (ret := (some .int)) (by decide) rfl ?_
  intro p e s m args below meth c s₁ B hml hv
  obtain ⟨rfl, hh, hK⟩ := hv
  subst hh
  have hx := B.exec
  have hb := B.bytes
  have hr := B.returns
  have hlocks := B.notSynchronized
  have hts := atoms_spec (ws := wsX1_append) B.pre
  have hown : s.vm.findClass RX1 = some m.cls := findClass_of_methodNamed B.named
  have hi1 : ∀ w ∈ wsX10, w ∈ wsX1_append := fun w h => List.mem_cons_of_mem _ (List.mem_append_left _ (List.mem_append_right _ h))
  have hi0 : ∀ w ∈ wsX00, w ∈ wsX1_append := fun w h => List.mem_cons_of_mem _ (List.mem_append_right _ h)
  have hl := lv_entry ([.ref x, .int (nI tm), .int v]) (n := 3) (Nat.le_of_ble_eq_true rfl)
  rw [lg_entry_eq]
  generalize (lg_sl ([.ref x, .int (nI tm), .int v]) ++ List.replicate (3 - (lg_sl ([.ref x, .int (nI tm), .int v])).length) Slot.unset).toArray = ls at hl ⊢
  have hl : lv_has ls 3 [(0, .ref x), (1, .int (nI tm)), (2, .int v)] := hl
  have hD := hD0.self (sz := s.heap.size)
  have hA : ∀ z : Nat, s.heap.size ≤ z → va_A (xW x sq lt A0 A1 A2 ++ (rgW cI cA A0 r0 ++ (rgW cI cA A1 r1 ++ rgW cI cA A2 r2))) s.heap.size z := fun z h => Or.inr h
  have hS : va_S (va_A (xW x sq lt A0 A1 A2 ++ (rgW cI cA A0 r0 ++ (rgW cI cA A1 r1 ++ rgW cI cA A2 r2))) s.heap.size) s.heap s.heap [] := va_S.rf
  refine lv_iload_n hx hb dX1_append_0 rfl (lv_at hl 1 rfl) ?_
  refine lv_aload_n hx hb dX1_append_1 rfl (lv_at hl 0 rfl) ?_
  refine va_get (D := D) (ci := 1) (v := .int lt) (C := RX1) (T := TX1) (N := 5) hx hb hts hi1 hown hK hP 0 rfl rfl 4 (by decide) (hts (.fieldLink RX1 7 "RingSeries" "lastTime" "I") (by decide +kernel)) (fun _ h9 => h9) rfl dX1_append_2 ?_
  refine lv_icmp_gt (tgt := 10) hx hb dX1_append_5 (by decide) (fun c_5 => ?_) (fun c_5 => ?_)
  · refine lv_aload_n hx hb dX1_append_10 rfl (lv_at hl 0 rfl) ?_
    refine lv_iload_n hx hb dX1_append_11 rfl (lv_at hl 1 rfl) ?_
    refine va_put (D := D) (ci := 1) (v := .int (nI tm)) (ty := .int) (C := RX1) (T := TX1) (N := 5) hx hb hts hi1 tyX1 tyX1_ok nmX1 hown hK hP hD hS 0 rfl rfl 4 (by decide) (hts (.fieldLink RX1 7 "RingSeries" "lastTime" "I") (by decide +kernel)) (fun _ h9 => h9) rfl (by decide +kernel) rfl rfl (Nat.le_of_ble_eq_true rfl) dX1_append_12 (fun H locs hP hD hS => ?_)
    have hP : va_P D vwCl (xW x sq (nI tm) A0 A1 A2 ++ (rgW cI cA A0 r0 ++ (rgW cI cA A1 r1 ++ rgW cI cA A2 r2))) H := hP
    have hD : va_D (va_A (xW x sq lt A0 A1 A2 ++ (rgW cI cA A0 r0 ++ (rgW cI cA A1 r1 ++ rgW cI cA A2 r2))) s.heap.size) (xW x sq (nI tm) A0 A1 A2 ++ (rgW cI cA A0 r0 ++ (rgW cI cA A1 r1 ++ rgW cI cA A2 r2))) := hD
    refine lv_aload_n hx hb dX1_append_15 rfl (lv_at hl 0 rfl) ?_
    refine va_get (D := D) (ci := 1) (v := .ref (a_o A0)) (C := RX1) (T := TX1) (N := 5) hx hb hts hi1 hown hK hP 0 rfl rfl 0 (by decide) (hts (.fieldLink RX1 23 "RingSeries" "points" "LRingSeries$Ring;") (by decide +kernel)) (fun _ h9 => h9) rfl dX1_append_16 ?_
    refine lv_iload_n hx hb dX1_append_19 rfl (lv_at hl 1 rfl) ?_
    refine lv_iload_n hx hb dX1_append_20 rfl (lv_at hl 2 rfl) ?_
    have hX := va_P_l hP
    have h0 := va_P_l (va_P_r hP)
    have h1 := va_P_l (va_P_r (va_P_r hP))
    have h2 := va_P_r (va_P_r (va_P_r hP))
    have d0 := va_D_l (va_D_r hD)
    have d1 := va_D_l (va_D_r (va_D_r hD))
    have d2 := va_D_r (va_D_r (va_D_r hD))
    have ax := va_D_apt hD
    have a0 := va_D_apt (va_D_r hD)
    have a1 := va_D_apt (va_D_r (va_D_r hD))
    have aX0 : apt ((xW x sq (nI tm) A0 A1 A2).map (·.1)) ((rgW cI cA A0 r0).map (·.1)) := fun y hy z hz => ax y hy z (by rw [List.map_append]; exact List.mem_append_left _ hz)
    have aX1 : apt ((xW x sq (nI tm) A0 A1 A2).map (·.1)) ((rgW cI cA A1 r1).map (·.1)) := fun y hy z hz => ax y hy z (by rw [List.map_append, List.map_append]; exact List.mem_append_right _ (List.mem_append_left _ hz))
    have aX2 : apt ((xW x sq (nI tm) A0 A1 A2).map (·.1)) ((rgW cI cA A2 r2).map (·.1)) := fun y hy z hz => ax y hy z (by rw [List.map_append, List.map_append]; exact List.mem_append_right _ (List.mem_append_right _ hz))
    have a01 : apt ((rgW cI cA A0 r0).map (·.1)) ((rgW cI cA A1 r1).map (·.1)) := fun y hy z hz => a0 y hy z (by rw [List.map_append]; exact List.mem_append_left _ hz)
    have a02 : apt ((rgW cI cA A0 r0).map (·.1)) ((rgW cI cA A2 r2).map (·.1)) := fun y hy z hz => a0 y hy z (by rw [List.map_append]; exact List.mem_append_right _ hz)
    have a12 : apt ((rgW cI cA A1 r1).map (·.1)) ((rgW cI cA A2 r2).map (·.1)) := a1
    refine wr_call (va_runV (As := [.int (nI tm), .int v]) (rest := []) ⟨hx, hb, hml, hown, hts⟩ (c_X0_take l A0 r0 hk0 h0 d0 tm ht v) (cwV 2 hts gX1_append_X0_take rfl rfl rfl (by decide +kernel) ⟨Nat.le_of_ble_eq_true rfl, Nat.le_of_ble_eq_true rfl⟩) (ro_preV hK (va_recv hK h0 (ci := 0) (q0 := 0) rfl rfl)) rfl rfl hl.1 rfl (lv_room (Nat.le_of_ble_eq_true rfl)) dX1_append_21 ⟨Nat.zero_le _, Nat.zero_le _⟩) hS (va_A_sub (by intro z hz; rw [List.map_append, List.map_append, List.map_append]; exact List.mem_append_right _ (List.mem_append_left _ hz)) hS.1) (fun H locs h0 hz2 hf2 hS => ?_)
    have hX := keepP (w := xW x sq (nI tm) A0 A1 A2) (wc := rgW cI cA A0 r0) aX0 hX hf2
    have h1 := keepP (w := rgW cI cA A1 r1) (wc := rgW cI cA A0 r0) (apt_symm a01) h1 hf2
    have h2 := keepP (w := rgW cI cA A2 r2) (wc := rgW cI cA A0 r0) (apt_symm a02) h2 hf2
    refine lv_aload_n hx hb dX1_append_24 rfl (lv_at hl 0 rfl) ?_
    refine va_get (D := D) (ci := 1) (v := .ref (a_o A1)) (C := RX1) (T := TX1) (N := 5) hx hb hts hi1 hown hK hX 0 rfl rfl 1 (by decide) (hts (.fieldLink RX1 27 "RingSeries" "fine" "LRingSeries$Ring;") (by decide +kernel)) (fun _ h9 => h9) rfl dX1_append_25 ?_
    refine lv_iload_n hx hb dX1_append_28 rfl (lv_at hl 1 rfl) ?_
    refine lv_iload_n hx hb dX1_append_29 rfl (lv_at hl 2 rfl) ?_
    refine wr_call (va_runV (As := [.int (nI tm), .int v]) (rest := []) ⟨hx, hb, hml, hown, hts⟩ (c_X0_take l A1 r1 hk1 h1 d1 tm ht v) (cwV 2 hts gX1_append_X0_take rfl rfl rfl (by decide +kernel) ⟨Nat.le_of_ble_eq_true rfl, Nat.le_of_ble_eq_true rfl⟩) (ro_preV hK (va_recv hK h1 (ci := 0) (q0 := 0) rfl rfl)) rfl rfl hl.1 rfl (lv_room (Nat.le_of_ble_eq_true rfl)) dX1_append_30 ⟨Nat.zero_le _, Nat.zero_le _⟩) hS (va_A_sub (by intro z hz; rw [List.map_append, List.map_append, List.map_append]; exact List.mem_append_right _ (List.mem_append_right _ (List.mem_append_left _ hz))) hS.1) (fun H locs h1 hz2 hf2 hS => ?_)
    have hX := keepP (w := xW x sq (nI tm) A0 A1 A2) (wc := rgW cI cA A1 r1) aX1 hX hf2
    have h0 := keepP (w := rgW cI cA A0 (tkV r0 tm v)) (wc := rgW cI cA A1 r1) a01 h0 hf2
    have h2 := keepP (w := rgW cI cA A2 r2) (wc := rgW cI cA A1 r1) (apt_symm a12) h2 hf2
    refine lv_aload_n hx hb dX1_append_33 rfl (lv_at hl 0 rfl) ?_
    refine va_get (D := D) (ci := 1) (v := .ref (a_o A2)) (C := RX1) (T := TX1) (N := 5) hx hb hts hi1 hown hK hX 0 rfl rfl 2 (by decide) (hts (.fieldLink RX1 30 "RingSeries" "coarse" "LRingSeries$Ring;") (by decide +kernel)) (fun _ h9 => h9) rfl dX1_append_34 ?_
    refine lv_iload_n hx hb dX1_append_37 rfl (lv_at hl 1 rfl) ?_
    refine lv_iload_n hx hb dX1_append_38 rfl (lv_at hl 2 rfl) ?_
    refine wr_call (va_runV (As := [.int (nI tm), .int v]) (rest := []) ⟨hx, hb, hml, hown, hts⟩ (c_X0_take l A2 r2 hk2 h2 d2 tm ht v) (cwV 2 hts gX1_append_X0_take rfl rfl rfl (by decide +kernel) ⟨Nat.le_of_ble_eq_true rfl, Nat.le_of_ble_eq_true rfl⟩) (ro_preV hK (va_recv hK h2 (ci := 0) (q0 := 0) rfl rfl)) rfl rfl hl.1 rfl (lv_room (Nat.le_of_ble_eq_true rfl)) dX1_append_39 ⟨Nat.zero_le _, Nat.zero_le _⟩) hS (va_A_sub (by intro z hz; rw [List.map_append, List.map_append, List.map_append]; exact List.mem_append_right _ (List.mem_append_right _ (List.mem_append_right _ hz))) hS.1) (fun H locs h2 hz2 hf2 hS => ?_)
    have hX := keepP (w := xW x sq (nI tm) A0 A1 A2) (wc := rgW cI cA A2 r2) aX2 hX hf2
    have h0 := keepP (w := rgW cI cA A0 (tkV r0 tm v)) (wc := rgW cI cA A2 r2) a02 h0 hf2
    have h1 := keepP (w := rgW cI cA A1 (tkV r1 tm v)) (wc := rgW cI cA A2 r2) a12 h1 hf2
    refine lv_iconst (v := 0) hx hb dX1_append_42 (by decide) ?_
    exact wr_iret hx hb hr rfl (hX.app (h0.app (h1.app h2))) hS dX1_append_43 hlocks
  · exact absurd hst c_5
set_option maxHeartbeats 4000000 in
set_option maxRecDepth 100000 in
/-- the reference appends, stale -/
theorem c_X2_append_s (l : Launch) {D : va_G} {cI cA cJ : ClassId} {H : Heap} (Y : mA) (q : mv) (hm : m_ok q) (hP : va_P D vwCl (mW cI cJ Y q) H) {X0 : Nat → Prop} (hD0 : va_D X0 (mW cI cJ Y q)) (t v : Int32) (hst : t < 0 ∨ (0 < m_P q ∧ ¬ nI (m_T q (m_P q - 1)) < t)) : Met l yX2_append wsX2_append ({ frames := 0, cells := 0, slots := 0, locals := 0 }) (ro_P D vwCl (tyL cI cA cJ) H [.ref (b_o Y), .int t, .int v]) (wr_Q (some (.int 1)) D vwCl H (mW cI cJ Y q) (mW cI cJ Y q)) 0 0 (va_A (mW cI cJ Y q) H.size) := by
  refine Met.ofW (cc := cX2_append) (maxL := 3) (ret := (some .int)) (by decide) rfl ?_
  intro p e s m args below meth c s₁ B hml hv
  obtain ⟨rfl, hh, hK⟩ := hv
  subst hh
  have hx := B.exec
  have hb := B.bytes
  have hr := B.returns
  have hlocks := B.notSynchronized
  have hts := atoms_spec (ws := wsX2_append) B.pre
  have hown : s.vm.findClass RX2 = some m.cls := findClass_of_methodNamed B.named
  have hi2 : ∀ w ∈ wsX20, w ∈ wsX2_append := fun w h => List.mem_cons_of_mem _ (List.mem_append_right _ h)
  have hl := lv_entry ([.ref (b_o Y), .int t, .int v]) (n := 3) (Nat.le_of_ble_eq_true rfl)
  rw [lg_entry_eq]
  generalize (lg_sl ([.ref (b_o Y), .int t, .int v]) ++ List.replicate (3 - (lg_sl ([.ref (b_o Y), .int t, .int v])).length) Slot.unset).toArray = ls at hl ⊢
  have hl : lv_has ls 3 [(0, .ref (b_o Y)), (1, .int t), (2, .int v)] := hl
  have hD := hD0.self (sz := s.heap.size)
  have hA : ∀ z : Nat, s.heap.size ≤ z → va_A (mW cI cJ Y q) s.heap.size z := fun z h => Or.inr h
  have hS : va_S (va_A (mW cI cJ Y q) s.heap.size) s.heap s.heap [] := va_S.rf
  obtain ⟨hp, hT, hRW, hkn⟩ := id hm
  have z9 : ¬ nI (m_P q) ≤ 0 → 0 < m_P q := fun z => Nat.pos_of_ne_zero (fun h => z (by rw [h]; decide))
  have hP : va_P D vwCl [(b_o Y, .inr (2, [.int 0, .ref (b_r Y), .ref (b_w Y), .int (nI (m_P q)), .ref (b_t Y), .ref (b_v Y)])), (b_r Y, .inl (cI, 3, .inl (fun k => nI (m_R q k)))), (b_w Y, .inl (cJ, 3, .inr (.inl (fun k => lN (m_W q k))))), (b_t Y, .inl (cI, 1024, .inl (fun p => nI (m_T q p)))), (b_v Y, .inl (cI, 1024, .inl (m_V q)))] s.heap := hP
  have hD : va_D (va_A (mW cI cJ Y q) s.heap.size) [(b_o Y, .inr (2, [.int 0, .ref (b_r Y), .ref (b_w Y), .int (nI (m_P q)), .ref (b_t Y), .ref (b_v Y)])), (b_r Y, .inl (cI, 3, .inl (fun k => nI (m_R q k)))), (b_w Y, .inl (cJ, 3, .inr (.inl (fun k => lN (m_W q k))))), (b_t Y, .inl (cI, 1024, .inl (fun p => nI (m_T q p)))), (b_v Y, .inl (cI, 1024, .inl (m_V q)))] := hD
  refine lv_iload_n hx hb dX2_append_0 rfl (lv_at hl 1 rfl) ?_
  refine lv_if_lt (tgt := 26) hx hb dX2_append_1 (by decide) (fun c_1 => ?_) (fun c_1 => ?_)
  · refine lv_iconst (v := 1) hx hb dX2_append_26 (by decide) ?_
    exact wr_iret hx hb hr rfl hP hS dX2_append_27 hlocks
  · refine lv_aload_n hx hb dX2_append_4 rfl (lv_at hl 0 rfl) ?_
    refine va_get (D := D) (ci := 2) (v := .int (nI (m_P q))) (C := RX2) (T := TX2) (N := 6) hx hb hts hi2 hown hK hP 0 rfl rfl 3 (by decide) (hts (.fieldLink RX2 32 "RingSeriesModel" "points" "I") (by decide +kernel)) (fun _ h9 => h9) rfl dX2_append_5 ?_
    refine lv_if_le (tgt := 28) hx hb dX2_append_8 (by decide) (fun c_8 => ?_) (fun c_8 => ?_)
    · exact absurd hst (fun z => z.elim c_1 (fun z => absurd c_8 (nI_nle (by omega) (by omega))))
    · refine lv_iload_n hx hb dX2_append_11 rfl (lv_at hl 1 rfl) ?_
      refine lv_aload_n hx hb dX2_append_12 rfl (lv_at hl 0 rfl) ?_
      refine va_get (D := D) (ci := 2) (v := .ref (b_t Y)) (C := RX2) (T := TX2) (N := 6) hx hb hts hi2 hown hK hP 0 rfl rfl 4 (by decide) (hts (.fieldLink RX2 17 "RingSeriesModel" "times" "[I") (by decide +kernel)) (fun _ h9 => h9) rfl dX2_append_13 ?_
      refine lv_aload_n hx hb dX2_append_16 rfl (lv_at hl 0 rfl) ?_
      refine va_get (D := D) (ci := 2) (v := .int (nI (m_P q))) (C := RX2) (T := TX2) (N := 6) hx hb hts hi2 hown hK hP 0 rfl rfl 3 (by decide) (hts (.fieldLink RX2 32 "RingSeriesModel" "points" "I") (by decide +kernel)) (fun _ h9 => h9) rfl dX2_append_17 ?_
      refine lv_iconst (v := 1) hx hb dX2_append_20 (by decide) ?_
      refine lv_isub hx hb dX2_append_21 ?_
      refine top_i (pk_sub (a := m_P q) (b := 1) (by have := z9 c_8; omega)) ?_
      refine ald_i (j := ((m_P q) - 1)) hx hb hK hP 3 0 rfl rfl (by omega) (by omega) dX2_append_22 ?_
      refine lv_icmp_gt (tgt := 28) hx hb dX2_append_23 (by decide) (fun c_23 => ?_) (fun c_23 => ?_)
      · exact absurd hst (fun z => z.elim c_1 (fun z => z.2 c_23))
      · refine lv_iconst (v := 1) hx hb dX2_append_26 (by decide) ?_
        exact wr_iret hx hb hr rfl hP hS dX2_append_27 hlocks
set_option maxHeartbeats 4000000 in
set_option maxRecDepth 100000 in
/-- the reference appends -/
theorem c_X2_append (l : Launch) {D : va_G} {cI cA cJ : ClassId} {H : Heap} (Y : mA) (q : mv) (hm : m_ok q) (hP : va_P D vwCl (mW cI cJ Y q) H) {X0 : Nat → Prop} (hD0 : va_D X0 (mW cI cJ Y q)) (hp1 : m_P q < 512) (tm : Nat) (ht : tm < 2 ^ 31) (v : Int32) (hst : 0 < m_P q → m_T q (m_P q - 1) < tm) : Met l yX2_append wsX2_append ({ frames := 0, cells := 0, slots := 0, locals := 0 }) (ro_P D vwCl (tyL cI cA cJ) H [.ref (b_o Y), .int (nI tm), .int v]) (wr_Q (some (.int 0)) D vwCl H (mW cI cJ Y q) (mW cI cJ Y (apM q tm v))) 0 0 (va_A (mW cI cJ Y q) H.size) := by
  refine Met.ofW (cc := cX2_append) (maxL := 3) (ret := (some .int)) (by decide) rfl ?_
  intro p e s m args below meth c s₁ B hml hv
  obtain ⟨rfl, hh, hK⟩ := hv
  subst hh
  have hx := B.exec
  have hb := B.bytes
  have hr := B.returns
  have hlocks := B.notSynchronized
  have hts := atoms_spec (ws := wsX2_append) B.pre
  have hown : s.vm.findClass RX2 = some m.cls := findClass_of_methodNamed B.named
  have hi2 : ∀ w ∈ wsX20, w ∈ wsX2_append := fun w h => List.mem_cons_of_mem _ (List.mem_append_right _ h)
  have hl := lv_entry ([.ref (b_o Y), .int (nI tm), .int v]) (n := 3) (Nat.le_of_ble_eq_true rfl)
  rw [lg_entry_eq]
  generalize (lg_sl ([.ref (b_o Y), .int (nI tm), .int v]) ++ List.replicate (3 - (lg_sl ([.ref (b_o Y), .int (nI tm), .int v])).length) Slot.unset).toArray = ls at hl ⊢
  have hl : lv_has ls 3 [(0, .ref (b_o Y)), (1, .int (nI tm)), (2, .int v)] := hl
  have hD := hD0.self (sz := s.heap.size)
  have hA : ∀ z : Nat, s.heap.size ≤ z → va_A (mW cI cJ Y q) s.heap.size z := fun z h => Or.inr h
  have hS : va_S (va_A (mW cI cJ Y q) s.heap.size) s.heap s.heap [] := va_S.rf
  obtain ⟨hp, hT, hRW, hkn⟩ := id hm
  have z9 : ¬ nI (m_P q) ≤ 0 → m_T q (m_P q - 1) < tm ∧ 0 < m_P q := fun z => have h : 0 < m_P q := Nat.pos_of_ne_zero (fun h => z (by rw [h]; decide)); ⟨hst h, h⟩
  have z8 := hT (m_P q - 1)
  have hP : va_P D vwCl [(b_o Y, .inr (2, [.int 0, .ref (b_r Y), .ref (b_w Y), .int (nI (m_P q)), .ref (b_t Y), .ref (b_v Y)])), (b_r Y, .inl (cI, 3, .inl (fun k => nI (m_R q k)))), (b_w Y, .inl (cJ, 3, .inr (.inl (fun k => lN (m_W q k))))), (b_t Y, .inl (cI, 1024, .inl (fun p => nI (m_T q p)))), (b_v Y, .inl (cI, 1024, .inl (m_V q)))] s.heap := hP
  have hD : va_D (va_A (mW cI cJ Y q) s.heap.size) [(b_o Y, .inr (2, [.int 0, .ref (b_r Y), .ref (b_w Y), .int (nI (m_P q)), .ref (b_t Y), .ref (b_v Y)])), (b_r Y, .inl (cI, 3, .inl (fun k => nI (m_R q k)))), (b_w Y, .inl (cJ, 3, .inr (.inl (fun k => lN (m_W q k))))), (b_t Y, .inl (cI, 1024, .inl (fun p => nI (m_T q p)))), (b_v Y, .inl (cI, 1024, .inl (m_V q)))] := hD
  refine lv_iload_n hx hb dX2_append_0 rfl (lv_at hl 1 rfl) ?_
  refine lv_if_lt (tgt := 26) hx hb dX2_append_1 (by decide) (fun c_1 => ?_) (fun c_1 => ?_)
  · exact absurd c_1 (nI_pos (by omega))
  · refine lv_aload_n hx hb dX2_append_4 rfl (lv_at hl 0 rfl) ?_
    refine va_get (D := D) (ci := 2) (v := .int (nI (m_P q))) (C := RX2) (T := TX2) (N := 6) hx hb hts hi2 hown hK hP 0 rfl rfl 3 (by decide) (hts (.fieldLink RX2 32 "RingSeriesModel" "points" "I") (by decide +kernel)) (fun _ h9 => h9) rfl dX2_append_5 ?_
    refine lv_if_le (tgt := 28) hx hb dX2_append_8 (by decide) (fun c_8 => ?_) (fun c_8 => ?_)
    · refine lv_aload_n hx hb dX2_append_28 rfl (lv_at hl 0 rfl) ?_
      refine va_get (D := D) (ci := 2) (v := .ref (b_t Y)) (C := RX2) (T := TX2) (N := 6) hx hb hts hi2 hown hK hP 0 rfl rfl 4 (by decide) (hts (.fieldLink RX2 17 "RingSeriesModel" "times" "[I") (by decide +kernel)) (fun _ h9 => h9) rfl dX2_append_29 ?_
      refine lv_aload_n hx hb dX2_append_32 rfl (lv_at hl 0 rfl) ?_
      refine va_get (D := D) (ci := 2) (v := .int (nI (m_P q))) (C := RX2) (T := TX2) (N := 6) hx hb hts hi2 hown hK hP 0 rfl rfl 3 (by decide) (hts (.fieldLink RX2 32 "RingSeriesModel" "points" "I") (by decide +kernel)) (fun _ h9 => h9) rfl dX2_append_33 ?_
      refine lv_iload_n hx hb dX2_append_36 rfl (lv_at hl 1 rfl) ?_
      refine ast_i (j := (m_P q)) hx hb hK hP hD hS 3 0 rfl rfl (by omega) (by omega) dX2_append_37 (fun H locs hP hD hS => ?_)
      have hP : va_P D vwCl [(b_o Y, .inr (2, [.int 0, .ref (b_r Y), .ref (b_w Y), .int (nI (m_P q)), .ref (b_t Y), .ref (b_v Y)])), (b_r Y, .inl (cI, 3, .inl (fun k => nI (m_R q k)))), (b_w Y, .inl (cJ, 3, .inr (.inl (fun k => lN (m_W q k))))), (b_t Y, .inl (cI, 1024, .inl (upd (fun p => nI (m_T q p)) (m_P q) (nI tm)))), (b_v Y, .inl (cI, 1024, .inl (m_V q)))] H := hP
      have hD : va_D (va_A (mW cI cJ Y q) s.heap.size) [(b_o Y, .inr (2, [.int 0, .ref (b_r Y), .ref (b_w Y), .int (nI (m_P q)), .ref (b_t Y), .ref (b_v Y)])), (b_r Y, .inl (cI, 3, .inl (fun k => nI (m_R q k)))), (b_w Y, .inl (cJ, 3, .inr (.inl (fun k => lN (m_W q k))))), (b_t Y, .inl (cI, 1024, .inl (upd (fun p => nI (m_T q p)) (m_P q) (nI tm)))), (b_v Y, .inl (cI, 1024, .inl (m_V q)))] := hD
      refine lv_aload_n hx hb dX2_append_38 rfl (lv_at hl 0 rfl) ?_
      refine va_get (D := D) (ci := 2) (v := .ref (b_v Y)) (C := RX2) (T := TX2) (N := 6) hx hb hts hi2 hown hK hP 0 rfl rfl 5 (by decide) (hts (.fieldLink RX2 20 "RingSeriesModel" "values" "[I") (by decide +kernel)) (fun _ h9 => h9) rfl dX2_append_39 ?_
      refine lv_aload_n hx hb dX2_append_42 rfl (lv_at hl 0 rfl) ?_
      refine va_get (D := D) (ci := 2) (v := .int (nI (m_P q))) (C := RX2) (T := TX2) (N := 6) hx hb hts hi2 hown hK hP 0 rfl rfl 3 (by decide) (hts (.fieldLink RX2 32 "RingSeriesModel" "points" "I") (by decide +kernel)) (fun _ h9 => h9) rfl dX2_append_43 ?_
      refine lv_iload_n hx hb dX2_append_46 rfl (lv_at hl 2 rfl) ?_
      refine ast_i (j := (m_P q)) hx hb hK hP hD hS 4 0 rfl rfl (by omega) (by omega) dX2_append_47 (fun H locs hP hD hS => ?_)
      have hP : va_P D vwCl [(b_o Y, .inr (2, [.int 0, .ref (b_r Y), .ref (b_w Y), .int (nI (m_P q)), .ref (b_t Y), .ref (b_v Y)])), (b_r Y, .inl (cI, 3, .inl (fun k => nI (m_R q k)))), (b_w Y, .inl (cJ, 3, .inr (.inl (fun k => lN (m_W q k))))), (b_t Y, .inl (cI, 1024, .inl (upd (fun p => nI (m_T q p)) (m_P q) (nI tm)))), (b_v Y, .inl (cI, 1024, .inl (upd (m_V q) (m_P q) v)))] H := hP
      have hD : va_D (va_A (mW cI cJ Y q) s.heap.size) [(b_o Y, .inr (2, [.int 0, .ref (b_r Y), .ref (b_w Y), .int (nI (m_P q)), .ref (b_t Y), .ref (b_v Y)])), (b_r Y, .inl (cI, 3, .inl (fun k => nI (m_R q k)))), (b_w Y, .inl (cJ, 3, .inr (.inl (fun k => lN (m_W q k))))), (b_t Y, .inl (cI, 1024, .inl (upd (fun p => nI (m_T q p)) (m_P q) (nI tm)))), (b_v Y, .inl (cI, 1024, .inl (upd (m_V q) (m_P q) v)))] := hD
      refine lv_aload_n hx hb dX2_append_48 rfl (lv_at hl 0 rfl) ?_
      refine lv_dup hx hb dX2_append_49 rfl ?_
      refine va_get (D := D) (ci := 2) (v := .int (nI (m_P q))) (C := RX2) (T := TX2) (N := 6) hx hb hts hi2 hown hK hP 0 rfl rfl 3 (by decide) (hts (.fieldLink RX2 32 "RingSeriesModel" "points" "I") (by decide +kernel)) (fun _ h9 => h9) rfl dX2_append_50 ?_
      refine lv_iconst (v := 1) hx hb dX2_append_53 (by decide) ?_
      refine lv_iadd hx hb dX2_append_54 ?_
      refine top_i (nI_add _ 1) ?_
      refine va_put (D := D) (ci := 2) (v := .int (nI ((m_P q) + 1))) (ty := .int) (C := RX2) (T := TX2) (N := 6) hx hb hts hi2 tyX2 tyX2_ok nmX2 hown hK hP hD hS 0 rfl rfl 3 (by decide) (hts (.fieldLink RX2 32 "RingSeriesModel" "points" "I") (by decide +kernel)) (fun _ h9 => h9) rfl (by decide +kernel) rfl rfl (Nat.le_of_ble_eq_true rfl) dX2_append_55 (fun H locs hP hD hS => ?_)
      have hP : va_P D vwCl [(b_o Y, .inr (2, [.int 0, .ref (b_r Y), .ref (b_w Y), .int (nI ((m_P q) + 1)), .ref (b_t Y), .ref (b_v Y)])), (b_r Y, .inl (cI, 3, .inl (fun k => nI (m_R q k)))), (b_w Y, .inl (cJ, 3, .inr (.inl (fun k => lN (m_W q k))))), (b_t Y, .inl (cI, 1024, .inl (upd (fun p => nI (m_T q p)) (m_P q) (nI tm)))), (b_v Y, .inl (cI, 1024, .inl (upd (m_V q) (m_P q) v)))] H := hP
      have hD : va_D (va_A (mW cI cJ Y q) s.heap.size) [(b_o Y, .inr (2, [.int 0, .ref (b_r Y), .ref (b_w Y), .int (nI ((m_P q) + 1)), .ref (b_t Y), .ref (b_v Y)])), (b_r Y, .inl (cI, 3, .inl (fun k => nI (m_R q k)))), (b_w Y, .inl (cJ, 3, .inr (.inl (fun k => lN (m_W q k))))), (b_t Y, .inl (cI, 1024, .inl (upd (fun p => nI (m_T q p)) (m_P q) (nI tm)))), (b_v Y, .inl (cI, 1024, .inl (upd (m_V q) (m_P q) v)))] := hD
      refine lv_iconst (v := 0) hx hb dX2_append_58 (by decide) ?_
      exact wr_iret hx hb hr rfl (by rw [apM_W]; exact hP) hS dX2_append_59 hlocks
    · refine lv_iload_n hx hb dX2_append_11 rfl (lv_at hl 1 rfl) ?_
      refine lv_aload_n hx hb dX2_append_12 rfl (lv_at hl 0 rfl) ?_
      refine va_get (D := D) (ci := 2) (v := .ref (b_t Y)) (C := RX2) (T := TX2) (N := 6) hx hb hts hi2 hown hK hP 0 rfl rfl 4 (by decide) (hts (.fieldLink RX2 17 "RingSeriesModel" "times" "[I") (by decide +kernel)) (fun _ h9 => h9) rfl dX2_append_13 ?_
      refine lv_aload_n hx hb dX2_append_16 rfl (lv_at hl 0 rfl) ?_
      refine va_get (D := D) (ci := 2) (v := .int (nI (m_P q))) (C := RX2) (T := TX2) (N := 6) hx hb hts hi2 hown hK hP 0 rfl rfl 3 (by decide) (hts (.fieldLink RX2 32 "RingSeriesModel" "points" "I") (by decide +kernel)) (fun _ h9 => h9) rfl dX2_append_17 ?_
      refine lv_iconst (v := 1) hx hb dX2_append_20 (by decide) ?_
      refine lv_isub hx hb dX2_append_21 ?_
      refine top_i (pk_sub (a := m_P q) (b := 1) (by have := z9 c_8; omega)) ?_
      refine ald_i (j := ((m_P q) - 1)) hx hb hK hP 3 0 rfl rfl (by omega) (by omega) dX2_append_22 ?_
      refine lv_icmp_gt (tgt := 28) hx hb dX2_append_23 (by decide) (fun c_23 => ?_) (fun c_23 => ?_)
      · have c_23 := (nI_ltI (a := m_T q ((m_P q) - 1)) (b := tm) (by omega) (by omega)).mp c_23
        refine lv_aload_n hx hb dX2_append_28 rfl (lv_at hl 0 rfl) ?_
        refine va_get (D := D) (ci := 2) (v := .ref (b_t Y)) (C := RX2) (T := TX2) (N := 6) hx hb hts hi2 hown hK hP 0 rfl rfl 4 (by decide) (hts (.fieldLink RX2 17 "RingSeriesModel" "times" "[I") (by decide +kernel)) (fun _ h9 => h9) rfl dX2_append_29 ?_
        refine lv_aload_n hx hb dX2_append_32 rfl (lv_at hl 0 rfl) ?_
        refine va_get (D := D) (ci := 2) (v := .int (nI (m_P q))) (C := RX2) (T := TX2) (N := 6) hx hb hts hi2 hown hK hP 0 rfl rfl 3 (by decide) (hts (.fieldLink RX2 32 "RingSeriesModel" "points" "I") (by decide +kernel)) (fun _ h9 => h9) rfl dX2_append_33 ?_
        refine lv_iload_n hx hb dX2_append_36 rfl (lv_at hl 1 rfl) ?_
        refine ast_i (j := (m_P q)) hx hb hK hP hD hS 3 0 rfl rfl (by omega) (by omega) dX2_append_37 (fun H locs hP hD hS => ?_)
        have hP : va_P D vwCl [(b_o Y, .inr (2, [.int 0, .ref (b_r Y), .ref (b_w Y), .int (nI (m_P q)), .ref (b_t Y), .ref (b_v Y)])), (b_r Y, .inl (cI, 3, .inl (fun k => nI (m_R q k)))), (b_w Y, .inl (cJ, 3, .inr (.inl (fun k => lN (m_W q k))))), (b_t Y, .inl (cI, 1024, .inl (upd (fun p => nI (m_T q p)) (m_P q) (nI tm)))), (b_v Y, .inl (cI, 1024, .inl (m_V q)))] H := hP
        have hD : va_D (va_A (mW cI cJ Y q) s.heap.size) [(b_o Y, .inr (2, [.int 0, .ref (b_r Y), .ref (b_w Y), .int (nI (m_P q)), .ref (b_t Y), .ref (b_v Y)])), (b_r Y, .inl (cI, 3, .inl (fun k => nI (m_R q k)))), (b_w Y, .inl (cJ, 3, .inr (.inl (fun k => lN (m_W q k))))), (b_t Y, .inl (cI, 1024, .inl (upd (fun p => nI (m_T q p)) (m_P q) (nI tm)))), (b_v Y, .inl (cI, 1024, .inl (m_V q)))] := hD
        refine lv_aload_n hx hb dX2_append_38 rfl (lv_at hl 0 rfl) ?_
        refine va_get (D := D) (ci := 2) (v := .ref (b_v Y)) (C := RX2) (T := TX2) (N := 6) hx hb hts hi2 hown hK hP 0 rfl rfl 5 (by decide) (hts (.fieldLink RX2 20 "RingSeriesModel" "values" "[I") (by decide +kernel)) (fun _ h9 => h9) rfl dX2_append_39 ?_
        refine lv_aload_n hx hb dX2_append_42 rfl (lv_at hl 0 rfl) ?_
        refine va_get (D := D) (ci := 2) (v := .int (nI (m_P q))) (C := RX2) (T := TX2) (N := 6) hx hb hts hi2 hown hK hP 0 rfl rfl 3 (by decide) (hts (.fieldLink RX2 32 "RingSeriesModel" "points" "I") (by decide +kernel)) (fun _ h9 => h9) rfl dX2_append_43 ?_
        refine lv_iload_n hx hb dX2_append_46 rfl (lv_at hl 2 rfl) ?_
        refine ast_i (j := (m_P q)) hx hb hK hP hD hS 4 0 rfl rfl (by omega) (by omega) dX2_append_47 (fun H locs hP hD hS => ?_)
        have hP : va_P D vwCl [(b_o Y, .inr (2, [.int 0, .ref (b_r Y), .ref (b_w Y), .int (nI (m_P q)), .ref (b_t Y), .ref (b_v Y)])), (b_r Y, .inl (cI, 3, .inl (fun k => nI (m_R q k)))), (b_w Y, .inl (cJ, 3, .inr (.inl (fun k => lN (m_W q k))))), (b_t Y, .inl (cI, 1024, .inl (upd (fun p => nI (m_T q p)) (m_P q) (nI tm)))), (b_v Y, .inl (cI, 1024, .inl (upd (m_V q) (m_P q) v)))] H := hP
        have hD : va_D (va_A (mW cI cJ Y q) s.heap.size) [(b_o Y, .inr (2, [.int 0, .ref (b_r Y), .ref (b_w Y), .int (nI (m_P q)), .ref (b_t Y), .ref (b_v Y)])), (b_r Y, .inl (cI, 3, .inl (fun k => nI (m_R q k)))), (b_w Y, .inl (cJ, 3, .inr (.inl (fun k => lN (m_W q k))))), (b_t Y, .inl (cI, 1024, .inl (upd (fun p => nI (m_T q p)) (m_P q) (nI tm)))), (b_v Y, .inl (cI, 1024, .inl (upd (m_V q) (m_P q) v)))] := hD
        refine lv_aload_n hx hb dX2_append_48 rfl (lv_at hl 0 rfl) ?_
        refine lv_dup hx hb dX2_append_49 rfl ?_
        refine va_get (D := D) (ci := 2) (v := .int (nI (m_P q))) (C := RX2) (T := TX2) (N := 6) hx hb hts hi2 hown hK hP 0 rfl rfl 3 (by decide) (hts (.fieldLink RX2 32 "RingSeriesModel" "points" "I") (by decide +kernel)) (fun _ h9 => h9) rfl dX2_append_50 ?_
        refine lv_iconst (v := 1) hx hb dX2_append_53 (by decide) ?_
        refine lv_iadd hx hb dX2_append_54 ?_
        refine top_i (nI_add _ 1) ?_
        refine va_put (D := D) (ci := 2) (v := .int (nI ((m_P q) + 1))) (ty := .int) (C := RX2) (T := TX2) (N := 6) hx hb hts hi2 tyX2 tyX2_ok nmX2 hown hK hP hD hS 0 rfl rfl 3 (by decide) (hts (.fieldLink RX2 32 "RingSeriesModel" "points" "I") (by decide +kernel)) (fun _ h9 => h9) rfl (by decide +kernel) rfl rfl (Nat.le_of_ble_eq_true rfl) dX2_append_55 (fun H locs hP hD hS => ?_)
        have hP : va_P D vwCl [(b_o Y, .inr (2, [.int 0, .ref (b_r Y), .ref (b_w Y), .int (nI ((m_P q) + 1)), .ref (b_t Y), .ref (b_v Y)])), (b_r Y, .inl (cI, 3, .inl (fun k => nI (m_R q k)))), (b_w Y, .inl (cJ, 3, .inr (.inl (fun k => lN (m_W q k))))), (b_t Y, .inl (cI, 1024, .inl (upd (fun p => nI (m_T q p)) (m_P q) (nI tm)))), (b_v Y, .inl (cI, 1024, .inl (upd (m_V q) (m_P q) v)))] H := hP
        have hD : va_D (va_A (mW cI cJ Y q) s.heap.size) [(b_o Y, .inr (2, [.int 0, .ref (b_r Y), .ref (b_w Y), .int (nI ((m_P q) + 1)), .ref (b_t Y), .ref (b_v Y)])), (b_r Y, .inl (cI, 3, .inl (fun k => nI (m_R q k)))), (b_w Y, .inl (cJ, 3, .inr (.inl (fun k => lN (m_W q k))))), (b_t Y, .inl (cI, 1024, .inl (upd (fun p => nI (m_T q p)) (m_P q) (nI tm)))), (b_v Y, .inl (cI, 1024, .inl (upd (m_V q) (m_P q) v)))] := hD
        refine lv_iconst (v := 0) hx hb dX2_append_58 (by decide) ?_
        exact wr_iret hx hb hr rfl (by rw [apM_W]; exact hP) hS dX2_append_59 hlocks
      · have c_23 := mt (nI_ltI (a := m_T q ((m_P q) - 1)) (b := tm) (by omega) (by omega)).mpr c_23
        exact absurd (by have := z9 c_8; omega) c_23
