/-! What holds between the series and the reference, call after call. -/
def INV (q : mv) (lt : Int32) (r0 r1 r2 : rgV) : Prop := m_ok q ∧ m_up q ∧ m_W q 0 = 1 ∧ (∃ m, m_W q 2 = m_W q 1 * m ∧ 1 ≤ m) ∧ RI q 0 r0 ∧ RI q 1 r1 ∧ RI q 2 r2 ∧ lt = (if m_P q = 0 then -1 else nI (m_T q (m_P q - 1)))
theorem nE_ng {q : mv} (hW : m_W q 0 = 1) (hu : m_up q) (k : Nat) : nE q k = ng q k (m_P q) := by
  unfold nE
  by_cases h : k = 0
  · rw [if_pos h, h, ng_0 hW hu _ (Nat.le_refl _)]
  · rw [if_neg h]
theorem INV_L0 {q : mv} {lt : Int32} {r0 r1 r2 : rgV} (h : INV q lt r0 r1 r2) : L0 q r0 := L0_of h.1 h.2.2.1 h.2.1 h.2.2.2.2.1
theorem INV_ap {q : mv} {lt : Int32} {r0 r1 r2 : rgV} (h : INV q lt r0 r1 r2) (hp : m_P q < 512) {tm : Nat} (ht : tm < 2 ^ 31) (v : Int32) (hst : 0 < m_P q → m_T q (m_P q - 1) < tm) : INV (apM q tm v) (nI tm) (tkV r0 tm v) (tkV r1 tm v) (tkV r2 tm v) := by
  obtain ⟨hm, hu, hW, ⟨m, hm1, hm2⟩, h0, h1, h2, hl⟩ := h
  obtain ⟨g1, g2, g3, g4⟩ := id hm
  have hT' : ∀ p, m_T (apM q tm v) p < 2 ^ 31 := fun p => by
    show (if p = m_P q then tm else m_T q p) < 2 ^ 31
    split
    · exact ht
    · exact g2 p
  have hu' : m_up (apM q tm v) := by
    intro p hpp
    rw [apM_P] at hpp
    by_cases hz : p + 1 = m_P q
    · rw [hz, apM_Tn, apM_T (by omega), show p = m_P q - 1 by omega]
      exact hst (by omega)
    · rw [apM_T (by omega), apM_T (by omega)]
      exact hu p (by omega)
  have hE := nE_ng hW hu
  have hE' := nE_ng (q := apM q tm v) hW hu'
  refine ⟨⟨by rw [apM_P]; omega, hT', g3, fun k hk => ?_⟩, hu', hW, ⟨m, hm1, hm2⟩, ?_, ?_, ?_, ?_⟩
  · rcases kp_cases (hE' k) with z | z <;> omega
  · exact RI_ap g2 (g3 0 (by omega)).1 (g3 0 (by omega)).2.2.1 (hE 0) (hE' 0) h0 ht
  · exact RI_ap g2 (g3 1 (by omega)).1 (g3 1 (by omega)).2.2.1 (hE 1) (hE' 1) h1 ht
  · exact RI_ap g2 (g3 2 (by omega)).1 (g3 2 (by omega)).2.2.1 (hE 2) (hE' 2) h2 ht
  · rw [if_neg (by rw [apM_P]; omega), apM_P, show m_P q + 1 - 1 = m_P q from rfl, apM_Tn]
theorem INV_sound {q : mv} {lt : Int32} {r0 r1 r2 : rgV} (h : INV q lt r0 r1 r2) : agr r2 r1 ∧ agr r1 r0 := by
  obtain ⟨hm, hu, hW, ⟨m, hm1, hm2⟩, h0, h1, h2, hl⟩ := h
  obtain ⟨g1, g2, g3, g4⟩ := id hm
  have hE := nE_ng hW hu
  exact ⟨agr_of g2 hu hm1 hm2 (g3 1 (by omega)).2.2.1 (g3 2 (by omega)).2.2.2 (g4 2 (by omega)) (g4 1 (by omega)) (hE 1) h2 h1,
    agr_of (m := m_W q 1) g2 hu (by rw [hW, Nat.one_mul]) (g3 1 (by omega)).2.2.1 (by omega) (g3 1 (by omega)).2.2.2 (g4 1 (by omega)) (g4 0 (by omega)) (hE 0) h1 h0⟩
theorem INV_0 {a b c w kk : Nat} (ha : 1 ≤ a ∧ a ≤ 60) (hb : 1 ≤ b ∧ b ≤ 60) (hc : 1 ≤ c ∧ c ≤ 60) (hw : 1 ≤ w ∧ w ≤ 1000000) (hk : 2 ≤ kk ∧ kk ≤ 1000) : INV (md0 a b c w kk) (-1) (rg0 a 1) (rg0 b w) (rg0 c (w * kk)) := by
  have h1 : 1 ≤ w * kk := Nat.mul_pos (by omega) (by omega)
  have h2 : w * kk ≤ 1000000 * 1000 := Nat.mul_le_mul hw.2 hk.2
  have hng : ∀ k, ng (md0 a b c w kk) k (m_P (md0 a b c w kk)) = 0 := fun _ => rfl
  refine ⟨⟨Nat.zero_le _, fun p => by show 0 < 2 ^ 31; decide, fun k hk3 => ?_, fun k hk3 => ?_⟩, fun p hp => absurd hp (Nat.not_lt_zero _), rfl, ⟨kk, rfl, by omega⟩, RI_0 rfl rfl rfl ha ⟨by omega, by omega⟩, RI_0 rfl rfl rfl hb ⟨by omega, by omega⟩, RI_0 rfl rfl rfl hc ⟨h1, by omega⟩, ?_⟩
  · rcases (show k = 0 ∨ k = 1 ∨ k = 2 by omega) with rfl | rfl | rfl
    · exact ⟨ha.1, ha.2, Nat.le_refl 1, (show (1 : Nat) ≤ 1000000000 by omega)⟩
    · exact ⟨hb.1, hb.2, hw.1, (show w ≤ 1000000000 by omega)⟩
    · exact ⟨hc.1, hc.2, h1, (show w * kk ≤ 1000000000 by omega)⟩
  · have hE : nE (md0 a b c w kk) k = ng (md0 a b c w kk) k (m_P (md0 a b c w kk)) := by
      unfold nE
      split <;> rfl
    rcases kp_cases hE with z | z
    · omega
    · have := hng k
      omega
  · rw [if_pos (show m_P (md0 a b c w kk) = 0 from rfl)]
/-! The series' answers, in the reference's words. -/
theorem k_count (l : Launch) {D : va_G} {cI cA cJ : ClassId} {H : Heap} {x sq : Nat} {lt : Int32} {A0 A1 A2 : rgA} {r0 r1 r2 : rgV} {q : mv} (I : INV q lt r0 r1 r2) (hX : va_P D vwCl (xW x sq lt A0 A1 A2) H) (h0 : va_P D vwCl (rgW cI cA A0 r0) H) (h1 : va_P D vwCl (rgW cI cA A1 r1) H) (h2 : va_P D vwCl (rgW cI cA A2 r2) H) {k : Nat} (hk : k < 3) : Met l yX1_count wsX1_count ({ frames := 1, cells := 0, slots := 0, locals := 21 }) (ro_P D vwCl (tyL cI cA cJ) H [.ref x, .int (nI k)]) (ro_Q (.int (nI (kp q k))) H) 0 0 ro_no := by
  obtain ⟨hm, hu, hW, hw, i0, i1, i2, hl⟩ := I
  rcases (show k = 0 ∨ k = 1 ∨ k = 2 by omega) with rfl | rfl | rfl
  · rw [← i0.2.2.2.1]; exact c_X1_count_0 l x sq lt A0 A1 A2 hX r0 i0.1 h0
  · rw [← i1.2.2.2.1]; exact c_X1_count_1 l x sq lt A0 A1 A2 hX r1 i1.1 h1
  · rw [← i2.2.2.2.1]; exact c_X1_count_2 l x sq lt A0 A1 A2 hX r2 i2.1 h2
theorem k_start (l : Launch) {D : va_G} {cI cA cJ : ClassId} {H : Heap} {x sq : Nat} {lt : Int32} {A0 A1 A2 : rgA} {r0 r1 r2 : rgV} {q : mv} (I : INV q lt r0 r1 r2) (hX : va_P D vwCl (xW x sq lt A0 A1 A2) H) (h0 : va_P D vwCl (rgW cI cA A0 r0) H) (h1 : va_P D vwCl (rgW cI cA A1 r1) H) (h2 : va_P D vwCl (rgW cI cA A2 r2) H) {k j : Nat} (hk : k < 3) (hj : j < kp q k) : Met l yX1_start wsX1_start ({ frames := 2, cells := 0, slots := 0, locals := 43 }) (ro_P D vwCl (tyL cI cA cJ) H [.ref x, .int (nI k), .int (nI j)]) (ro_Q (.int (nI (bg q k j))) H) 0 0 ro_no := by
  obtain ⟨hm, hu, hW, hw, i0, i1, i2, hl⟩ := I
  rw [bg_eq (hm.2.2.2 k hk) hj]
  rcases (show k = 0 ∨ k = 1 ∨ k = 2 by omega) with rfl | rfl | rfl
  · rw [← (i0.2.2.2.2.1 j (by rw [i0.2.2.2.1]; exact hj)).1]; exact c_X1_start_0 l x sq lt A0 A1 A2 hX r0 i0.1 h0 j (by rw [i0.2.2.2.1]; exact hj)
  · rw [← (i1.2.2.2.2.1 j (by rw [i1.2.2.2.1]; exact hj)).1]; exact c_X1_start_1 l x sq lt A0 A1 A2 hX r1 i1.1 h1 j (by rw [i1.2.2.2.1]; exact hj)
  · rw [← (i2.2.2.2.2.1 j (by rw [i2.2.2.2.1]; exact hj)).1]; exact c_X1_start_2 l x sq lt A0 A1 A2 hX r2 i2.1 h2 j (by rw [i2.2.2.2.1]; exact hj)
theorem k_start_n (l : Launch) {D : va_G} {cI cA cJ : ClassId} {H : Heap} {x sq : Nat} {lt : Int32} {A0 A1 A2 : rgA} {r0 r1 r2 : rgV} {q : mv} (I : INV q lt r0 r1 r2) (hX : va_P D vwCl (xW x sq lt A0 A1 A2) H) (h0 : va_P D vwCl (rgW cI cA A0 r0) H) (h1 : va_P D vwCl (rgW cI cA A1 r1) H) (h2 : va_P D vwCl (rgW cI cA A2 r2) H) {k : Nat} {i : Int32} (hk : k < 3) (hi : ¬ ix (kp q k) i) : Met l yX1_start wsX1_start ({ frames := 2, cells := 0, slots := 0, locals := 43 }) (ro_P D vwCl (tyL cI cA cJ) H [.ref x, .int (nI k), .int i]) (ro_Q (.int (-1)) H) 0 0 ro_no := by
  obtain ⟨hm, hu, hW, hw, i0, i1, i2, hl⟩ := I
  rcases (show k = 0 ∨ k = 1 ∨ k = 2 by omega) with rfl | rfl | rfl
  · exact c_X1_start_0_n l x sq lt A0 A1 A2 hX r0 i0.1 h0 i (by rw [i0.2.2.2.1]; exact hi)
  · exact c_X1_start_1_n l x sq lt A0 A1 A2 hX r1 i1.1 h1 i (by rw [i1.2.2.2.1]; exact hi)
  · exact c_X1_start_2_n l x sq lt A0 A1 A2 hX r2 i2.1 h2 i (by rw [i2.2.2.2.1]; exact hi)
theorem k_figure (l : Launch) {D : va_G} {cI cA cJ : ClassId} {H : Heap} {x sq : Nat} {lt : Int32} {A0 A1 A2 : rgA} {r0 r1 r2 : rgV} {q : mv} (I : INV q lt r0 r1 r2) (hX : va_P D vwCl (xW x sq lt A0 A1 A2) H) (h0 : va_P D vwCl (rgW cI cA A0 r0) H) (h1 : va_P D vwCl (rgW cI cA A1 r1) H) (h2 : va_P D vwCl (rgW cI cA A2 r2) H) {k j w : Nat} (hk : k < 3) (hj : j < kp q k) (hw : w < 4) : Met l yX1_figure wsX1_figure ({ frames := 2, cells := 0, slots := 0, locals := 44 }) (ro_P D vwCl (tyL cI cA cJ) H [.ref x, .int (nI k), .int (nI j), .int (nI w)]) (ro_Q (.int (fg q k j w)) H) 0 0 ro_no := by
  obtain ⟨hm, hu, hW, hw9, i0, i1, i2, hl⟩ := I
  rw [fg_eq (hm.2.2.2 k hk) hj hw]
  rcases (show k = 0 ∨ k = 1 ∨ k = 2 by omega) with rfl | rfl | rfl
  · rw [← (i0.2.2.2.2.1 j (by rw [i0.2.2.2.1]; exact hj)).2 w hw]; exact c_X1_figure_0 l x sq lt A0 A1 A2 hX r0 i0.1 h0 j w (by rw [i0.2.2.2.1]; exact hj) hw
  · rw [← (i1.2.2.2.2.1 j (by rw [i1.2.2.2.1]; exact hj)).2 w hw]; exact c_X1_figure_1 l x sq lt A0 A1 A2 hX r1 i1.1 h1 j w (by rw [i1.2.2.2.1]; exact hj) hw
  · rw [← (i2.2.2.2.2.1 j (by rw [i2.2.2.2.1]; exact hj)).2 w hw]; exact c_X1_figure_2 l x sq lt A0 A1 A2 hX r2 i2.1 h2 j w (by rw [i2.2.2.2.1]; exact hj) hw
theorem k_figure_n (l : Launch) {D : va_G} {cI cA cJ : ClassId} {H : Heap} {x sq : Nat} {lt : Int32} {A0 A1 A2 : rgA} {r0 r1 r2 : rgV} {q : mv} (I : INV q lt r0 r1 r2) (hX : va_P D vwCl (xW x sq lt A0 A1 A2) H) (h0 : va_P D vwCl (rgW cI cA A0 r0) H) (h1 : va_P D vwCl (rgW cI cA A1 r1) H) (h2 : va_P D vwCl (rgW cI cA A2 r2) H) {k : Nat} {i w : Int32} (hk : k < 3) (hi : ¬ ix (kp q k) i) : Met l yX1_figure wsX1_figure ({ frames := 2, cells := 0, slots := 0, locals := 44 }) (ro_P D vwCl (tyL cI cA cJ) H [.ref x, .int (nI k), .int i, .int w]) (ro_Q (.int 0) H) 0 0 ro_no := by
  obtain ⟨hm, hu, hW, hw9, i0, i1, i2, hl⟩ := I
  rcases (show k = 0 ∨ k = 1 ∨ k = 2 by omega) with rfl | rfl | rfl
  · exact c_X1_figure_0_n l x sq lt A0 A1 A2 hX r0 i0.1 h0 i w (by rw [i0.2.2.2.1]; exact hi)
  · exact c_X1_figure_1_n l x sq lt A0 A1 A2 hX r1 i1.1 h1 i w (by rw [i1.2.2.2.1]; exact hi)
  · exact c_X1_figure_2_n l x sq lt A0 A1 A2 hX r2 i2.1 h2 i w (by rw [i2.2.2.2.1]; exact hi)
theorem k_figure_m (l : Launch) {D : va_G} {cI cA cJ : ClassId} {H : Heap} {x sq : Nat} {lt : Int32} {A0 A1 A2 : rgA} {r0 r1 r2 : rgV} {q : mv} (I : INV q lt r0 r1 r2) (hX : va_P D vwCl (xW x sq lt A0 A1 A2) H) (h0 : va_P D vwCl (rgW cI cA A0 r0) H) (h1 : va_P D vwCl (rgW cI cA A1 r1) H) (h2 : va_P D vwCl (rgW cI cA A2 r2) H) {k j : Nat} {w : Int32} (hk : k < 3) (hj : j < kp q k) (hw : ¬ ix 4 w) : Met l yX1_figure wsX1_figure ({ frames := 2, cells := 0, slots := 0, locals := 44 }) (ro_P D vwCl (tyL cI cA cJ) H [.ref x, .int (nI k), .int (nI j), .int w]) (ro_Q (.int 0) H) 0 0 ro_no := by
  obtain ⟨hm, hu, hW, hw9, i0, i1, i2, hl⟩ := I
  rcases (show k = 0 ∨ k = 1 ∨ k = 2 by omega) with rfl | rfl | rfl
  · exact c_X1_figure_0_m l x sq lt A0 A1 A2 hX r0 i0.1 h0 j w (by rw [i0.2.2.2.1]; exact hj) hw
  · exact c_X1_figure_1_m l x sq lt A0 A1 A2 hX r1 i1.1 h1 j w (by rw [i1.2.2.2.1]; exact hj) hw
  · exact c_X1_figure_2_m l x sq lt A0 A1 A2 hX r2 i2.1 h2 j w (by rw [i2.2.2.2.1]; exact hj) hw
theorem k_many (l : Launch) {D : va_G} {cI cA cJ : ClassId} {H : Heap} {x sq : Nat} {lt : Int32} {A0 A1 A2 : rgA} {r0 r1 r2 : rgV} {q : mv} (I : INV q lt r0 r1 r2) (hX : va_P D vwCl (xW x sq lt A0 A1 A2) H) (h0 : va_P D vwCl (rgW cI cA A0 r0) H) (h1 : va_P D vwCl (rgW cI cA A1 r1) H) (h2 : va_P D vwCl (rgW cI cA A2 r2) H) (f t : Int32) : Met l yX1_many wsX1_many ({ frames := 4, cells := 0, slots := 0, locals := 89 }) (ro_P D vwCl (tyL cI cA cJ) H [.ref x, .int f, .int t]) (ro_Q (.int (nI (mnc q f t (m_P q)))) H) 0 0 ro_no := by
  rw [mnc_all (INV_L0 I)]; exact c_X1_many l x sq lt A0 A1 A2 hX r0 I.2.2.2.2.1.1 h0 f t
theorem k_extreme (l : Launch) {D : va_G} {cI cA cJ : ClassId} {H : Heap} {x sq : Nat} {lt : Int32} {A0 A1 A2 : rgA} {r0 r1 r2 : rgV} {q : mv} (I : INV q lt r0 r1 r2) (hX : va_P D vwCl (xW x sq lt A0 A1 A2) H) (h0 : va_P D vwCl (rgW cI cA A0 r0) H) (h1 : va_P D vwCl (rgW cI cA A1 r1) H) (h2 : va_P D vwCl (rgW cI cA A2 r2) H) (f t g : Int32) : Met l yX1_extreme wsX1_extreme ({ frames := 4, cells := 0, slots := 0, locals := 89 }) (ro_P D vwCl (tyL cI cA cJ) H [.ref x, .int f, .int t, .int g]) (ro_Q (.int (exM q f t g)) H) 0 0 ro_no := by
  obtain ⟨e1, e2, e3⟩ := exM_eq (INV_L0 I) f t
  by_cases g1 : g = 1
  · rw [g1, e1]; exact c_X1_extreme_1 l x sq lt A0 A1 A2 hX r0 I.2.2.2.2.1.1 h0 f t
  · by_cases g2 : g = -1
    · rw [g2, e2]; exact c_X1_extreme_m l x sq lt A0 A1 A2 hX r0 I.2.2.2.2.1.1 h0 f t
    · rw [e3 g g1 g2]; exact c_X1_extreme_o l x sq lt A0 A1 A2 hX r0 I.2.2.2.2.1.1 h0 f t g g1 g2
theorem k_sum (l : Launch) {D : va_G} {cI cA cJ : ClassId} {H : Heap} {x sq : Nat} {lt : Int32} {A0 A1 A2 : rgA} {r0 r1 r2 : rgV} {q : mv} (I : INV q lt r0 r1 r2) (hX : va_P D vwCl (xW x sq lt A0 A1 A2) H) (h0 : va_P D vwCl (rgW cI cA A0 r0) H) (h1 : va_P D vwCl (rgW cI cA A1 r1) H) (h2 : va_P D vwCl (rgW cI cA A2 r2) H) (f t : Int32) : Met l yX1_sum wsX1_sum ({ frames := 4, cells := 0, slots := 0, locals := 89 }) (ro_P D vwCl (tyL cI cA cJ) H [.ref x, .int f, .int t]) (ro_Q (.long (smq q f t (m_P q))) H) 0 0 ro_no := by
  rw [smq_all (INV_L0 I)]; exact c_X1_sum l x sq lt A0 A1 A2 hX r0 I.2.2.2.2.1.1 h0 f t
theorem k_at (l : Launch) {D : va_G} {cI cA cJ : ClassId} {H : Heap} {x sq : Nat} {lt : Int32} {A0 A1 A2 : rgA} {r0 r1 r2 : rgV} {q : mv} (I : INV q lt r0 r1 r2) (hX : va_P D vwCl (xW x sq lt A0 A1 A2) H) (h0 : va_P D vwCl (rgW cI cA A0 r0) H) (h1 : va_P D vwCl (rgW cI cA A1 r1) H) (h2 : va_P D vwCl (rgW cI cA A2 r2) H) (t sw : Int32) : Met l yX1_at wsX1_at ({ frames := 5, cells := 0, slots := 0, locals := 113 }) (ro_P D vwCl (tyL cI cA cJ) H [.ref x, .int t, .int sw]) (ro_Q (.int (atM q t sw)) H) 0 0 ro_no := by
  rw [at_eq (INV_L0 I)]; exact c_X1_at l x sq lt A0 A1 A2 hX r0 I.2.2.2.2.1.1 h0 t sw
theorem k_steepest (l : Launch) {D : va_G} {cI cA cJ : ClassId} {H : Heap} {x sq : Nat} {lt : Int32} {A0 A1 A2 : rgA} {r0 r1 r2 : rgV} {q : mv} (I : INV q lt r0 r1 r2) (hX : va_P D vwCl (xW x sq lt A0 A1 A2) H) (h0 : va_P D vwCl (rgW cI cA A0 r0) H) (h1 : va_P D vwCl (rgW cI cA A1 r1) H) (h2 : va_P D vwCl (rgW cI cA A2 r2) H) (f t : Int32) : Met l yX1_steepest wsX1_steepest ({ frames := 4, cells := 0, slots := 0, locals := 89 }) (ro_P D vwCl (tyL cI cA cJ) H [.ref x, .int f, .int t]) (ro_Q (.int (spM q f t)) H) 0 0 ro_no := by
  rw [spM_eq (INV_L0 I)]; exact c_X1_steepest l x sq lt A0 A1 A2 hX r0 I.2.2.2.2.1.1 h0 f t
theorem k_reach (l : Launch) {D : va_G} {cI cA cJ : ClassId} {H : Heap} {x sq : Nat} {lt : Int32} {A0 A1 A2 : rgA} {r0 r1 r2 : rgV} {q : mv} (I : INV q lt r0 r1 r2) (hX : va_P D vwCl (xW x sq lt A0 A1 A2) H) (h0 : va_P D vwCl (rgW cI cA A0 r0) H) (h1 : va_P D vwCl (rgW cI cA A1 r1) H) (h2 : va_P D vwCl (rgW cI cA A2 r2) H) (f t : Int32) : Met l yX1_reach wsX1_reach ({ frames := 4, cells := 0, slots := 0, locals := 91 }) (ro_P D vwCl (tyL cI cA cJ) H [.ref x, .int f, .int t]) (ro_Q (.long (rcM q f t)) H) 0 0 ro_no := by
  rw [rc_eq (INV_L0 I) I.1 (fun k _ => nE_ng I.2.2.1 I.2.1 k) I.2.2.2.2.2.1 I.2.2.2.2.2.2.1]; exact c_X1_reach l x sq lt A0 A1 A2 hX r0 I.2.2.2.2.1.1 h0 r1 I.2.2.2.2.2.1.1 h1 r2 I.2.2.2.2.2.2.1.1 h2 f t
theorem k_sound (l : Launch) {D : va_G} {cI cA cJ : ClassId} {H : Heap} {x sq : Nat} {lt : Int32} {A0 A1 A2 : rgA} {r0 r1 r2 : rgV} {q : mv} (I : INV q lt r0 r1 r2) (hX : va_P D vwCl (xW x sq lt A0 A1 A2) H) (h0 : va_P D vwCl (rgW cI cA A0 r0) H) (h1 : va_P D vwCl (rgW cI cA A1 r1) H) (h2 : va_P D vwCl (rgW cI cA A2 r2) H) : Met l yX1_sound wsX1_sound ({ frames := 5, cells := 0, slots := 0, locals := 119 }) (ro_P D vwCl (tyL cI cA cJ) H [.ref x]) (ro_Q (.int 1) H) 0 0 ro_no := c_X1_sound l x sq lt A0 A1 A2 hX r0 I.2.2.2.2.1.1 h0 r1 I.2.2.2.2.2.1.1 h1 r2 I.2.2.2.2.2.2.1.1 h2 (INV_sound I).1 (INV_sound I).2
theorem va_D_app {A : Nat → Prop} {w1 w2 : va_W} (h1 : va_D A w1) (h2 : va_D A w2) (ap : apt (w1.map (·.1)) (w2.map (·.1))) : va_D A (w1 ++ w2) := va_D.app h1 h2 (fun i j p q hp hq => ap p.1 (List.mem_map.mpr ⟨p, List.mem_of_getElem? hp, rfl⟩) q.1 (List.mem_map.mpr ⟨q, List.mem_of_getElem? hq, rfl⟩))
theorem apt_l {l1 l2 l3 : List Nat} (h : apt l1 (l2 ++ l3)) : apt l1 l2 := fun x hx y hy => h x hx y (List.mem_append_left _ hy)
theorem apt_r {l1 l2 l3 : List Nat} (h : apt l1 (l2 ++ l3)) : apt l1 l3 := fun x hx y hy => h x hx y (List.mem_append_right _ hy)
theorem apt_a {l1 l2 l3 : List Nat} (h1 : apt l1 l2) (h2 : apt l1 l3) : apt l1 (l2 ++ l3) := fun x hx y hy => (List.mem_append.mp hy).elim (h1 x hx y) (h2 x hx y)
/-- where all cells lie -/
def adR (A : rgA) : List Nat := [a_o A, a_s A, a_f A, a_b A 0, a_b A 1, a_b A 2, a_b A 3]
def adM (Y : mA) : List Nat := [b_o Y, b_r Y, b_w Y, b_t Y, b_v Y]
/-- the cells of the series but the row that is sorted -/
def aW (cI cA : ClassId) (x sq : Nat) (lt : Int32) (A0 A1 A2 : rgA) (r0 r1 r2 : rgV) : va_W := xW x sq lt A0 A1 A2 ++ (rgW cI cA A0 r0 ++ (rgW cI cA A1 r1 ++ rgW cI cA A2 r2))
def TOT (cI cA cJ : ClassId) (x sq : Nat) (lt : Int32) (A0 A1 A2 : rgA) (r0 r1 r2 : rgV) (g : Nat → Int32) (Y : mA) (q : mv) : va_W := aW cI cA x sq lt A0 A1 A2 r0 r1 r2 ++ (sqW cI sq (v_N r0) g ++ mW cI cJ Y q)
theorem TOT_map {cI cA cJ : ClassId} {x sq : Nat} {lt : Int32} {A0 A1 A2 : rgA} {r0 r1 r2 : rgV} {g : Nat → Int32} {Y : mA} {q : mv} : (TOT cI cA cJ x sq lt A0 A1 A2 r0 r1 r2 g Y q).map (·.1) = (x :: (adR A0 ++ (adR A1 ++ adR A2))) ++ ([sq] ++ adM Y) := rfl
theorem TOT_D {A : Nat → Prop} {cI cA cJ : ClassId} {x sq : Nat} {lt lt' : Int32} {A0 A1 A2 : rgA} {r0 r1 r2 r0' r1' r2' : rgV} {g g' : Nat → Int32} {Y : mA} {q q' : mv} (h : va_D A (TOT cI cA cJ x sq lt A0 A1 A2 r0 r1 r2 g Y q)) : va_D A (TOT cI cA cJ x sq lt' A0 A1 A2 r0' r1' r2' g' Y q') := va_D_of (by rw [TOT_map, TOT_map]) h
