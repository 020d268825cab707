/-! What a point does to a ring, entry by entry. -/
theorem sl_inj {r : rgV} (hk : r_ok r) {i j : Nat} (hi : i < v_N r) (hj : j < v_N r) (h : sl r i = sl r j) : i = j := by
  obtain ⟨k1, k2, k3, k4, k5, k6⟩ := hk
  unfold sl at h
  split at h <;> split at h <;> omega
theorem fU_F {F : Nat → Nat → Int32} {f0 f1 f2 f3 : Nat → Int32} {c : Nat} (hc : c < 4) : fU (fU (fU (fU F 0 f0) 1 f1) 2 f2) 3 f3 c = if c = 0 then f0 else if c = 1 then f1 else if c = 2 then f2 else f3 := by
  rcases (show c = 0 ∨ c = 1 ∨ c = 2 ∨ c = 3 by omega) with rfl | rfl | rfl | rfl <;> rfl
theorem rowN_F {r : rgV} {v : Int32} {c : Nat} (hc : c < 4) : v_F (rowN r v) c = upd (v_F r c) (sl r (v_h r - 1)) (ow c v) := by
  rw [show v_F (rowN r v) c = fU (fU (fU (fU (v_F r) 0 (upd (v_F r 0) (sl r (v_h r - 1)) v)) 1 (upd (v_F r 1) (sl r (v_h r - 1)) v)) 2 (upd (v_F r 2) (sl r (v_h r - 1)) v)) 3 (upd (v_F r 3) (sl r (v_h r - 1)) 1) c from rfl, fU_F hc]
  rcases (show c = 0 ∨ c = 1 ∨ c = 2 ∨ c = 3 by omega) with rfl | rfl | rfl | rfl <;> rfl
theorem rowJ_F {r : rgV} {v : Int32} {c : Nat} (hc : c < 4) : v_F (rowJ r v) c = upd (v_F r c) (sl r (v_h r - 1)) (jn c (v_F r c (sl r (v_h r - 1))) (ow c v)) := by
  rw [show v_F (rowJ r v) c = fU (fU (fU (fU (v_F r) 0 (upd (v_F r 0) (sl r (v_h r - 1)) (jn 0 (v_F r 0 (sl r (v_h r - 1))) v))) 1 (upd (v_F r 1) (sl r (v_h r - 1)) (jn 1 (v_F r 1 (sl r (v_h r - 1))) v))) 2 (upd (v_F r 2) (sl r (v_h r - 1)) (jn 2 (v_F r 2 (sl r (v_h r - 1))) v))) 3 (upd (v_F r 3) (sl r (v_h r - 1)) (jn 3 (v_F r 3 (sl r (v_h r - 1))) 1)) c from rfl, fU_F hc]
  rcases (show c = 0 ∨ c = 1 ∨ c = 2 ∨ c = 3 by omega) with rfl | rfl | rfl | rfl <;> rfl
theorem upd_s {f : Nat → Int32} {k : Nat} {x : Int32} : upd f k x k = x := pk_us
theorem upd_n {f : Nat → Int32} {k j : Nat} {x : Int32} (h : ¬ j = k) : upd f k x j = f j := pk_un h
/-- what is known of a ring behind a point: the entries that stay, from place d on, and the last one -/
def tkd (r r' : rgV) (d h : Nat) (b g : Int32) (x : Nat → Int32) : Prop := r_ok r' ∧ v_N r' = v_N r ∧ v_w r' = v_w r ∧ v_h r' = h + 1 ∧ (∀ j, j < h → v_E r' j = v_E r (j + d) ∧ ∀ c, c < 4 → v_G r' c j = v_G r c (j + d)) ∧ v_E r' h = b ∧ (∀ c, c < 4 → v_G r' c h = x c) ∧ v_g r' = g
theorem tk_room {r : rgV} {b v : Int32} (hk : r_ok r) (hh : v_h r < v_N r) : tkd r (rowN (opA r b) v) 0 (v_h r) b (v_g r) (fun c => ow c v) := by
  have hok : r_ok (rowN (opA r b) v) := ok_F (ok_S (ok_h hk (by omega)))
  have hs : ∀ j, sl (rowN (opA r b) v) j = sl r j := fun _ => rfl
  have hs2 : ∀ j, sl (opA r b) j = sl r j := fun _ => rfl
  have hS : ∀ z, v_S (rowN (opA r b) v) z = upd (v_S r) (sl r (v_h r)) b z := fun _ => rfl
  have hF : ∀ c, c < 4 → ∀ z, v_F (rowN (opA r b) v) c z = upd (v_F r c) (sl r (v_h r)) (ow c v) z := fun c hc z => by
    rw [rowN_F hc]
    rfl
  refine ⟨hok, rfl, rfl, rfl, fun j hj => ⟨?_, fun c hc => ?_⟩, ?_, fun c hc => ?_, rfl⟩
  · unfold v_E
    rw [hs, hS, upd_n (fun h => absurd (sl_inj hk (by omega) hh h) (by omega))]
    rfl
  · unfold v_G
    rw [hs, hF c hc, upd_n (fun h => absurd (sl_inj hk (by omega) hh h) (by omega))]
    rfl
  · unfold v_E
    rw [hs, hS, upd_s]
  · unfold v_G
    rw [hs, hF c hc, upd_s]
theorem tk_full {r : rgV} {b v : Int32} (hk : r_ok r) (hh : ¬ v_h r < v_N r) : tkd r (rowN (opB r b) v) 1 (v_h r - 1) b (v_E r 0) (fun c => ow c v) := by
  obtain ⟨k1, k2, k3, k4, k5, k6⟩ := id hk
  have hn : nxo r < v_N r := by unfold nxo; split <;> omega
  have hok2 : r_ok (opB r b) := ok_S (ok_o (ok_g hk) hn)
  have hok : r_ok (rowN (opB r b) v) := ok_F hok2
  have hs : ∀ j, j < v_N r → sl (opB r b) j = if j + 1 < v_N r then sl r (j + 1) else v_o r := fun j hj => by
    show (if nxo r + j < v_N r then nxo r + j else nxo r + j - v_N r) = _
    unfold nxo sl
    split <;> split <;> split <;> (try split) <;> omega
  have hl : sl (opB r b) (v_h r - 1) = v_o r := by rw [hs _ (by omega), if_neg (by omega)]
  have hS : ∀ z, v_S (rowN (opB r b) v) z = upd (v_S r) (sl (opB r b) (v_h r - 1)) b z := fun _ => rfl
  have hF : ∀ c, c < 4 → ∀ z, v_F (rowN (opB r b) v) c z = upd (v_F r c) (sl (opB r b) (v_h r - 1)) (ow c v) z := fun c hc z => by
    rw [rowN_F hc]
    rfl
  have hs3 : ∀ j, sl (rowN (opB r b) v) j = sl (opB r b) j := fun _ => rfl
  have hv : v_h (rowN (opB r b) v) = v_h r - 1 + 1 := by show v_h r = _; omega
  refine ⟨hok, rfl, rfl, hv, fun j hj => ⟨?_, fun c hc => ?_⟩, ?_, fun c hc => ?_, ?_⟩
  · unfold v_E
    rw [hs3, hS, upd_n (fun h => absurd (sl_inj hok2 (show j < v_N r by omega) (show v_h r - 1 < v_N r by omega) h) (by omega)), hs j (by omega), if_pos (by omega)]
  · unfold v_G
    rw [hs3, hF c hc, upd_n (fun h => absurd (sl_inj hok2 (show j < v_N r by omega) (show v_h r - 1 < v_N r by omega) h) (by omega)), hs j (by omega), if_pos (by omega)]
  · unfold v_E
    rw [hs3, hS, upd_s]
  · unfold v_G
    rw [hs3, hF c hc, upd_s]
  · show v_S r (v_o r) = v_E r 0
    unfold v_E sl
    rw [if_pos (by omega)]
    rfl
theorem tk_join {r : rgV} {v : Int32} (hk : r_ok r) (h1 : 1 ≤ v_h r) : tkd r (rowJ r v) 0 (v_h r - 1) (v_E r (v_h r - 1)) (v_g r) (fun c => jn c (v_G r c (v_h r - 1)) (ow c v)) := by
  obtain ⟨k1, k2, k3, k4, k5, k6⟩ := id hk
  have hok : r_ok (rowJ r v) := ok_F hk
  have hs : ∀ j, sl (rowJ r v) j = sl r j := fun _ => rfl
  have hF : ∀ c, c < 4 → ∀ z, v_F (rowJ r v) c z = upd (v_F r c) (sl r (v_h r - 1)) (jn c (v_G r c (v_h r - 1)) (ow c v)) z := fun c hc z => by
    rw [rowJ_F hc]
    rfl
  have hv : v_h (rowJ r v) = v_h r - 1 + 1 := by show v_h r = _; omega
  refine ⟨hok, rfl, rfl, hv, fun j hj => ⟨rfl, fun c hc => ?_⟩, rfl, fun c hc => ?_, rfl⟩
  · unfold v_G
    rw [hs, hF c hc, upd_n (fun h => absurd (sl_inj hk (by omega) (by omega) h) (by omega))]
    rfl
  · unfold v_G
    rw [hs, hF c hc, upd_s]
    rfl
