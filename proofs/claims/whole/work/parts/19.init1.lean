set_option maxHeartbeats 4000000 in
set_option maxRecDepth 100000 in
/-- a new ring -/
theorem c_X0_init (l : Launch) {D : va_G} {cI cA cJ : ClassId} {H : Heap} (a N w : Nat) (hN : 1 ≤ N ∧ N ≤ 60) (hP : va_P D vwCl [(a, .inr (0, [.int 0, .int 0, .null, .null, .int 0, .int 0, .int 0]))] H) {X0 : Nat → Prop} (hD0 : va_D X0 [(a, .inr (0, [.int 0, .int 0, .null, .null, .int 0, .int 0, .int 0]))]) : Met l yX0_init wsX0_init ({ frames := 1, cells := 6, slots := 304, locals := 12 }) (cr_P D vwCl cI cA cJ H [.ref a, .int (nI N), .int (nI w)]) (cr_Q (S := rgA) D vwCl H ([(a, .inr (0, [.int 0, .int 0, .null, .null, .int 0, .int 0, .int 0]))]) (fun A => a_o A = a) (fun A => rgW cI cA A (rg0 N w))) 6 304 (va_A ([(a, .inr (0, [.int 0, .int 0, .null, .null, .int 0, .int 0, .int 0]))]) H.size) := by
  refine Met.ofW (cc := cX0_init) (maxL := 3) (ret := none) (by decide) rfl ?_
  intro p e s m args below meth c s₁ B hml hv
  obtain ⟨rfl, hh, hK, hG⟩ := hv
  subst hh
  have hx := B.exec
  have hb := B.bytes
  have hr := B.returns
  have hlocks := B.notSynchronized
  have hts := atoms_spec (ws := wsX0_init) B.pre
  have hown : s.vm.findClass RX0 = some m.cls := findClass_of_methodNamed B.named
  have hi0 : ∀ w ∈ wsX00, w ∈ wsX0_init := fun w h => List.mem_cons_of_mem _ (List.mem_append_right _ h)
  have hl := lv_entry ([.ref a, .int (nI N), .int (nI w)]) (n := 3) (Nat.le_of_ble_eq_true rfl)
  rw [lg_entry_eq]
  generalize (lg_sl ([.ref a, .int (nI N), .int (nI w)]) ++ List.replicate (3 - (lg_sl ([.ref a, .int (nI N), .int (nI w)])).length) Slot.unset).toArray = ls at hl ⊢
  have hl : lv_has ls 3 [(0, .ref a), (1, .int (nI N)), (2, .int (nI w))] := hl
  have hin : meth.name = "<init>" := (name_of_methodNamed B.named B.method).1
  have hD := hD0.self (sz := s.heap.size)
  have hA : ∀ z : Nat, s.heap.size ≤ z → va_A ([(a, .inr (0, [.int 0, .int 0, .null, .null, .int 0, .int 0, .int 0]))]) s.heap.size z := fun z h => Or.inr h
  have hS : va_S (va_A ([(a, .inr (0, [.int 0, .int 0, .null, .null, .int 0, .int 0, .int 0]))]) s.heap.size) s.heap s.heap [] := va_S.rf
  refine lv_aload_n hx hb dX0_init_0 rfl (lv_at hl 0 rfl) ?_
  refine W.objInit hx hb hown (hts (.methodLink RX0 3 objectInit) (by decide +kernel)) (hts (.instanceMethod objectInit) (by decide +kernel)) (hts (.code objectInit ⟨#[0xb1]⟩ 1 none) (by decide +kernel)) rfl (by rw [hml]; exact hl.1) rfl dX0_init_1 (Nat.le_of_ble_eq_true rfl) (Nat.le_of_ble_eq_true rfl) ?_
  refine W.eq (g2 := F0 m 4 ls []) rfl ?_
  refine lv_aload_n hx hb dX0_init_4 rfl (lv_at hl 0 rfl) ?_
  refine lv_iconst (v := (-1)) hx hb dX0_init_5 (by decide) ?_
  refine va_put (D := D) (ci := 0) (v := .int (-1)) (ty := .int) (C := RX0) (T := TX0) (N := 7) hx hb hts hi0 tyX0 tyX0_ok nmX0 hown hK hP hD hS 0 rfl rfl 6 (by decide) (hts (.fieldLink RX0 9 "RingSeries$Ring" "gone" "I") (by decide +kernel)) (fun _ h9 => h9) rfl (by decide +kernel) rfl rfl (Nat.le_of_ble_eq_true rfl) dX0_init_6 (fun H locs hP hD hS => ?_)
  have hP : va_P D vwCl [(a, .inr (0, [.int 0, .int 0, .null, .null, .int 0, .int 0, .int (-1)]))] H := hP
  have hD : va_D (va_A [(a, .inr (0, [.int 0, .int 0, .null, .null, .int 0, .int 0, .int 0]))] s.heap.size) [(a, .inr (0, [.int 0, .int 0, .null, .null, .int 0, .int 0, .int (-1)]))] := hD
  refine lv_aload_n hx hb dX0_init_9 rfl (lv_at hl 0 rfl) ?_
  refine lv_iload_n hx hb dX0_init_10 rfl (lv_at hl 1 rfl) ?_
  refine va_putF (D := D) (ci := 0) (v := .int (nI N)) (ty := .int) (C := RX0) (T := TX0) (N := 7) hx hb hts hi0 tyX0 tyX0_ok nmX0 hown hK hP hD hS 0 rfl rfl 0 (by decide) (hts (.fieldLink RX0 15 "RingSeries$Ring" "room" "I") (by decide +kernel)) (fun _ h9 => h9) rfl hin rfl (by decide +kernel) rfl rfl (Nat.le_of_ble_eq_true rfl) dX0_init_11 (fun H locs hP hD hS => ?_)
  have hP : va_P D vwCl [(a, .inr (0, [.int (nI N), .int 0, .null, .null, .int 0, .int 0, .int (-1)]))] H := hP
  have hD : va_D (va_A [(a, .inr (0, [.int 0, .int 0, .null, .null, .int 0, .int 0, .int 0]))] s.heap.size) [(a, .inr (0, [.int (nI N), .int 0, .null, .null, .int 0, .int 0, .int (-1)]))] := hD
  refine lv_aload_n hx hb dX0_init_14 rfl (lv_at hl 0 rfl) ?_
  refine lv_iload_n hx hb dX0_init_15 rfl (lv_at hl 2 rfl) ?_
  refine va_putF (D := D) (ci := 0) (v := .int (nI w)) (ty := .int) (C := RX0) (T := TX0) (N := 7) hx hb hts hi0 tyX0 tyX0_ok nmX0 hown hK hP hD hS 0 rfl rfl 1 (by decide) (hts (.fieldLink RX0 18 "RingSeries$Ring" "width" "I") (by decide +kernel)) (fun _ h9 => h9) rfl hin rfl (by decide +kernel) rfl rfl (Nat.le_of_ble_eq_true rfl) dX0_init_16 (fun H locs hP hD hS => ?_)
  have hP : va_P D vwCl [(a, .inr (0, [.int (nI N), .int (nI w), .null, .null, .int 0, .int 0, .int (-1)]))] H := hP
  have hD : va_D (va_A [(a, .inr (0, [.int 0, .int 0, .null, .null, .int 0, .int 0, .int 0]))] s.heap.size) [(a, .inr (0, [.int (nI N), .int (nI w), .null, .null, .int 0, .int 0, .int (-1)]))] := hD
  refine lv_aload_n hx hb dX0_init_19 rfl (lv_at hl 0 rfl) ?_
  refine lv_iload_n hx hb dX0_init_20 rfl (lv_at hl 1 rfl) ?_
  refine va_newa (atype := .int) (a0 := (N, .inl (fun _ => 0))) hx hb (hts (.arrayClass .int) (by decide +kernel)) (ty := .int) rfl hK hP hD hS hA (N' := N) (fun _ => rfl) (nI_pos (by omega)) (nI_clamp (by omega)) (by show N * 4 ≤ _; omega) (by show 0 + 1 ≤ 6; omega) (by show 0 + N ≤ 304; omega) dX0_init_21 (fun qs cX H hK2 hP hD hS => ?_)
  have eX := tyI hK hK2
  rw [eX] at hP hD
  have hP : va_P D vwCl [(a, .inr (0, [.int (nI N), .int (nI w), .null, .null, .int 0, .int 0, .int (-1)])), (qs, .inl (cI, N, .inl (fun _ => 0)))] H := hP
  have hD : va_D (va_A [(a, .inr (0, [.int 0, .int 0, .null, .null, .int 0, .int 0, .int 0]))] s.heap.size) [(a, .inr (0, [.int (nI N), .int (nI w), .null, .null, .int 0, .int 0, .int (-1)])), (qs, .inl (cI, N, .inl (fun _ => 0)))] := hD
  refine W.widen (k := 1) (n := 60) (by omega) (by omega) ?_
  refine va_putF (D := D) (ci := 0) (v := .ref qs) (ty := .array .int) (C := RX0) (T := TX0) (N := 7) hx hb hts hi0 tyX0 tyX0_ok nmX0 hown hK hP hD hS 0 rfl rfl 2 (by decide) (hts (.fieldLink RX0 21 "RingSeries$Ring" "starts" "[I") (by decide +kernel)) (fun _ h9 => h9) rfl hin rfl (by decide +kernel) rfl rfl (Nat.le_of_ble_eq_true rfl) dX0_init_23 (fun H locs hP hD hS => ?_)
  have hP : va_P D vwCl [(a, .inr (0, [.int (nI N), .int (nI w), .ref qs, .null, .int 0, .int 0, .int (-1)])), (qs, .inl (cI, N, .inl (fun _ => 0)))] H := hP
  have hD : va_D (va_A [(a, .inr (0, [.int 0, .int 0, .null, .null, .int 0, .int 0, .int 0]))] s.heap.size) [(a, .inr (0, [.int (nI N), .int (nI w), .ref qs, .null, .int 0, .int 0, .int (-1)])), (qs, .inl (cI, N, .inl (fun _ => 0)))] := hD
  refine lv_aload_n hx hb dX0_init_26 rfl (lv_at hl 0 rfl) ?_
  refine lv_iconst (v := 4) hx hb dX0_init_27 (by decide) ?_
  refine lv_iload_n hx hb dX0_init_28 rfl (lv_at hl 1 rfl) ?_
  refine va_mul4 hx hb hown (hts (.classLink RX0 25 "[[I") (by decide +kernel)) hG hP hD hS hA (K := N) (nI_pos (by omega)) (nI_clamp (by omega)) (by omega) (by show 1 + 5 ≤ 6; omega) (by show 60 + (4 + 4 * N) ≤ 304; omega) dX0_init_29 (fun qf qb H locs hP hD hS => ?_)
  have hP : va_P D vwCl [(a, .inr (0, [.int (nI N), .int (nI w), .ref qs, .null, .int 0, .int 0, .int (-1)])), (qs, .inl (cI, N, .inl (fun _ => 0))), (qf, .inl (cA, 4, .inr (.inr (.inr (.inr (fun k => some (qb k))))))), (qb 0, .inl (cI, N, .inl (fun _ => 0))), (qb 1, .inl (cI, N, .inl (fun _ => 0))), (qb 2, .inl (cI, N, .inl (fun _ => 0))), (qb 3, .inl (cI, N, .inl (fun _ => 0)))] H := hP
  have hD : va_D (va_A [(a, .inr (0, [.int 0, .int 0, .null, .null, .int 0, .int 0, .int 0]))] s.heap.size) [(a, .inr (0, [.int (nI N), .int (nI w), .ref qs, .null, .int 0, .int 0, .int (-1)])), (qs, .inl (cI, N, .inl (fun _ => 0))), (qf, .inl (cA, 4, .inr (.inr (.inr (.inr (fun k => some (qb k))))))), (qb 0, .inl (cI, N, .inl (fun _ => 0))), (qb 1, .inl (cI, N, .inl (fun _ => 0))), (qb 2, .inl (cI, N, .inl (fun _ => 0))), (qb 3, .inl (cI, N, .inl (fun _ => 0)))] := hD
  refine W.widen (k := 6) (n := 304) (by omega) (by omega) ?_
  refine va_putF (D := D) (ci := 0) (v := .ref qf) (ty := .array (.array .int)) (C := RX0) (T := TX0) (N := 7) hx hb hts hi0 tyX0 tyX0_ok nmX0 hown hK hP hD hS 0 rfl rfl 3 (by decide) (hts (.fieldLink RX0 27 "RingSeries$Ring" "figures" "[[I") (by decide +kernel)) (fun _ h9 => h9) rfl hin rfl (by decide +kernel) rfl rfl (Nat.le_of_ble_eq_true rfl) dX0_init_33 (fun H locs hP hD hS => ?_)
  have hP : va_P D vwCl [(a, .inr (0, [.int (nI N), .int (nI w), .ref qs, .ref qf, .int 0, .int 0, .int (-1)])), (qs, .inl (cI, N, .inl (fun _ => 0))), (qf, .inl (cA, 4, .inr (.inr (.inr (.inr (fun k => some (qb k))))))), (qb 0, .inl (cI, N, .inl (fun _ => 0))), (qb 1, .inl (cI, N, .inl (fun _ => 0))), (qb 2, .inl (cI, N, .inl (fun _ => 0))), (qb 3, .inl (cI, N, .inl (fun _ => 0)))] H := hP
  have hD : va_D (va_A [(a, .inr (0, [.int 0, .int 0, .null, .null, .int 0, .int 0, .int 0]))] s.heap.size) [(a, .inr (0, [.int (nI N), .int (nI w), .ref qs, .ref qf, .int 0, .int 0, .int (-1)])), (qs, .inl (cI, N, .inl (fun _ => 0))), (qf, .inl (cA, 4, .inr (.inr (.inr (.inr (fun k => some (qb k))))))), (qb 0, .inl (cI, N, .inl (fun _ => 0))), (qb 1, .inl (cI, N, .inl (fun _ => 0))), (qb 2, .inl (cI, N, .inl (fun _ => 0))), (qb 3, .inl (cI, N, .inl (fun _ => 0)))] := hD
  exact cr_vret hx hb hr (a, qs, qf, qb) rfl (show va_P D vwCl (rgW cI cA (a, qs, qf, qb) (rg0 N w)) _ from hP) (show va_D _ (rgW cI cA (a, qs, qf, qb) (rg0 N w)) from hD) hS dX0_init_36 hlocks
