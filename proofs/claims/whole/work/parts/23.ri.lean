/-! A ring of the series holds the last buckets of its level. -/
def RI (q : mv) (k : Nat) (r : rgV) : Prop := r_ok r ∧ v_N r = m_R q k ∧ v_w r = m_W q k ∧ v_h r = kp q k ∧ (∀ j, j < v_h r → v_E r j = nI (bsf q k (m_P q) (gn q k j)) ∧ ∀ c, c < 4 → v_G r c j = agf q k (m_P q) (gn q k j) c) ∧ v_g r = (if ng q k (m_P q) ≤ m_R q k then -1 else nI (bsf q k (m_P q) (ng q k (m_P q) - m_R q k - 1)))
theorem div_sub (t w : Nat) : t - t % w = t / w * w := by
  have h := Nat.div_add_mod t w
  rw [Nat.mul_comm] at h
  omega
theorem kp_cases {q : mv} {k : Nat} (hE : nE q k = ng q k (m_P q)) : (ng q k (m_P q) < m_R q k ∧ kp q k = ng q k (m_P q)) ∨ (m_R q k ≤ ng q k (m_P q) ∧ kp q k = m_R q k) := by
  unfold kp
  rw [hE]
  by_cases h : ng q k (m_P q) < m_R q k
  · rw [if_pos h]; exact Or.inl ⟨h, rfl⟩
  · rw [if_neg h]; exact Or.inr ⟨by omega, rfl⟩
theorem opn_iff {q : mv} {k : Nat} {r : rgV} {tm : Nat} (hT : ∀ p, m_T q p < 2 ^ 31) (hR1 : 1 ≤ m_R q k) (hW1 : 1 ≤ m_W q k) (hE : nE q k = ng q k (m_P q)) (hI : RI q k r) (ht : tm < 2 ^ 31) : opn r tm ↔ (m_P q = 0 ∨ ¬ m_T q (m_P q - 1) / m_W q k = tm / m_W q k) := by
  obtain ⟨hok, hN, hw, hh, hent, hg⟩ := hI
  have hk := kp_cases hE
  by_cases h0 : m_P q = 0
  · have hz : ng q k (m_P q) = 0 := by rw [h0]; rfl
    exact ⟨fun _ => Or.inl h0, fun _ => Or.inl (by omega)⟩
  · have hp := ng_pos q k (m_P q) (by omega)
    have hh1 : 1 ≤ v_h r := by omega
    have e1 := (hent (v_h r - 1) (by omega)).1
    have eg : gn q k (v_h r - 1) = ng q k (m_P q) - 1 := by unfold gn; omega
    rw [eg, bsf_last q k (m_P q) (by omega)] at e1
    have b1 : m_T q (m_P q - 1) / m_W q k * m_W q k < 2 ^ 31 := Nat.lt_of_le_of_lt (Nat.div_mul_le_self _ _) (hT _)
    have b2 : tm / m_W q k * m_W q k < 2 ^ 31 := Nat.lt_of_le_of_lt (Nat.div_mul_le_self _ _) ht
    have key : v_E r (v_h r - 1) = nI (tm - tm % v_w r) ↔ m_T q (m_P q - 1) / m_W q k = tm / m_W q k := by
      rw [e1, hw, div_sub, nI_eq b1 b2]
      exact ⟨fun z => Nat.eq_of_mul_eq_mul_right (by omega) z, fun z => by rw [z]⟩
    unfold opn
    rw [key]
    exact ⟨fun z => z.elim (fun z => absurd z (by omega)) Or.inr, fun z => z.elim (fun z => absurd z h0) Or.inr⟩
theorem RI_ap {q : mv} {k : Nat} {r : rgV} {tm : Nat} {v : Int32} (hT : ∀ p, m_T q p < 2 ^ 31) (hR1 : 1 ≤ m_R q k) (hW1 : 1 ≤ m_W q k) (hE : nE q k = ng q k (m_P q)) (hE' : nE (apM q tm v) k = ng (apM q tm v) k (m_P q + 1)) (hI : RI q k r) (ht : tm < 2 ^ 31) : RI (apM q tm v) k (tkV r tm v) := by
  have ho := opn_iff hT hR1 hW1 hE hI ht
  have hk := kp_cases hE
  have hk' := kp_cases (q := apM q tm v) hE'
  obtain ⟨hok, hN, hw, hh, hent, hg⟩ := hI
  rw [apM_P, apM_R] at hk'
  have hA := ng_new (q := q) (tm := tm) (v := v) k
  have hAP := ng_ap (q := q) (tm := tm) (v := v) k (m_P q) (Nat.le_refl _)
  have hbs : ∀ g, ¬ (ng q k (m_P q) = g ∧ ng (apM q tm v) k (m_P q + 1) = g + 1) → bsf (apM q tm v) k (m_P q + 1) g = bsf q k (m_P q) g := fun g hz => by
    rw [bsf, hAP, if_neg hz, bsf_ap k _ _ (Nat.le_refl _)]
  have hag : ∀ g c, ¬ ng (apM q tm v) k (m_P q + 1) = g + 1 → agf (apM q tm v) k (m_P q + 1) g c = agf q k (m_P q) g c := fun g c hz => by
    rw [agf, if_neg hz, agf_ap k _ _ _ (Nat.le_refl _)]
  unfold tkV
  by_cases hop : opn r tm
  · rw [if_pos hop]
    rw [if_pos (ho.mp hop)] at hA
    have b0 : bsf (apM q tm v) k (m_P q + 1) (ng q k (m_P q)) = tm / m_W q k * m_W q k := by
      rw [bsf, if_pos ⟨hAP, by omega⟩, apM_Tn, apM_Wd]
    have a0 : ∀ c, agf (apM q tm v) k (m_P q + 1) (ng q k (m_P q)) c = ow c v := fun c => by
      rw [agf, if_pos (by omega), if_pos hAP, apM_Vn]
    have bb : nI (tm - tm % v_w r) = nI (bsf (apM q tm v) k (m_P q + 1) (ng q k (m_P q))) := by rw [b0, hw, div_sub]
    unfold opV
    by_cases hr : v_h r < v_N r
    · rw [if_pos hr]
      obtain ⟨t1, t2, t3, t4, t5, t6, t7, t8⟩ := tk_room (b := nI (tm - tm % v_w r)) (v := v) hok hr
      have hgn : ∀ j, gn (apM q tm v) k j = gn q k j := fun j => by
        unfold gn
        rw [apM_P]
        omega
      refine ⟨t1, by rw [t2, hN, apM_R], by rw [t3, hw, apM_Wd], by rw [t4]; omega, fun j hj => ?_, ?_⟩
      · rw [t4] at hj
        rw [hgn, apM_P]
        by_cases hl : j < v_h r
        · obtain ⟨e1, e2⟩ := t5 j hl
          obtain ⟨e3, e4⟩ := hent j hl
          have hgl : gn q k j < ng q k (m_P q) := by unfold gn; omega
          exact ⟨by rw [e1, Nat.add_zero, e3, hbs _ (by omega)], fun c hc => by rw [e2 c hc, Nat.add_zero, e4 c hc, hag _ _ (by omega)]⟩
        · have hj2 : j = v_h r := by omega
          subst hj2
          have hgl : gn q k (v_h r) = ng q k (m_P q) := by unfold gn; omega
          rw [hgl]
          exact ⟨by rw [t6, bb], fun c hc => by rw [t7 c hc, a0]⟩
      · rw [t8, hg, apM_P, apM_R, if_pos (by omega), if_pos (by omega)]
    · rw [if_neg hr]
      obtain ⟨t1, t2, t3, t4, t5, t6, t7, t8⟩ := tk_full (b := nI (tm - tm % v_w r)) (v := v) hok hr
      have hh1 : 1 ≤ v_h r := by omega
      have hgn : ∀ j, gn (apM q tm v) k j = gn q k (j + 1) := fun j => by
        unfold gn
        rw [apM_P]
        omega
      refine ⟨t1, by rw [t2, hN, apM_R], by rw [t3, hw, apM_Wd], by rw [t4]; omega, fun j hj => ?_, ?_⟩
      · rw [t4] at hj
        rw [hgn, apM_P]
        by_cases hl : j < v_h r - 1
        · obtain ⟨e1, e2⟩ := t5 j hl
          obtain ⟨e3, e4⟩ := hent (j + 1) (by omega)
          have hgl : gn q k (j + 1) < ng q k (m_P q) := by unfold gn; omega
          exact ⟨by rw [e1, e3, hbs _ (by omega)], fun c hc => by rw [e2 c hc, e4 c hc, hag _ _ (by omega)]⟩
        · have hj2 : j = v_h r - 1 := by omega
          subst hj2
          have hgl : gn q k (v_h r - 1 + 1) = ng q k (m_P q) := by unfold gn; omega
          rw [hgl]
          exact ⟨by rw [t6, bb], fun c hc => by rw [t7 c hc, a0]⟩
      · rw [t8, (hent 0 (by omega)).1, apM_P, apM_R, if_neg (by omega), hbs _ (by omega)]
        have : gn q k 0 = ng (apM q tm v) k (m_P q + 1) - m_R q k - 1 := by unfold gn; omega
        rw [this]
  · rw [if_neg hop]
    have hno : ¬ (m_P q = 0 ∨ ¬ m_T q (m_P q - 1) / m_W q k = tm / m_W q k) := fun z => hop (ho.mpr z)
    rw [if_neg hno] at hA
    have h0 : 0 < m_P q := Nat.pos_of_ne_zero (fun z => hno (Or.inl z))
    have hp := ng_pos q k (m_P q) h0
    have hh1 : 1 ≤ v_h r := by omega
    obtain ⟨t1, t2, t3, t4, t5, t6, t7, t8⟩ := tk_join (v := v) hok hh1
    have hgn : ∀ j, gn (apM q tm v) k j = gn q k j := fun j => by
      unfold gn
      rw [apM_P]
      omega
    refine ⟨t1, by rw [t2, hN, apM_R], by rw [t3, hw, apM_Wd], by rw [t4]; omega, fun j hj => ?_, ?_⟩
    · rw [t4] at hj
      rw [hgn, apM_P]
      by_cases hl : j < v_h r - 1
      · obtain ⟨e1, e2⟩ := t5 j hl
        obtain ⟨e3, e4⟩ := hent j (by omega)
        have hgl : gn q k j < ng q k (m_P q) - 1 := by unfold gn; omega
        exact ⟨by rw [e1, Nat.add_zero, e3, hbs _ (by omega)], fun c hc => by rw [e2 c hc, Nat.add_zero, e4 c hc, hag _ _ (by omega)]⟩
      · have hj2 : j = v_h r - 1 := by omega
        subst hj2
        obtain ⟨e3, e4⟩ := hent (v_h r - 1) (by omega)
        have hgl : gn q k (v_h r - 1) = ng q k (m_P q) - 1 := by unfold gn; omega
        rw [hgl] at e3 e4 ⊢
        refine ⟨by rw [t6, e3, hbs _ (by omega)], fun c hc => ?_⟩
        rw [t7 c hc]
        show jn c (v_G r c (v_h r - 1)) (ow c v) = _
        rw [e4 c hc, agf, if_pos (by omega), if_neg (by omega), agf_ap k _ _ _ (Nat.le_refl _), apM_Vn]
    · rw [t8, hg, apM_P, apM_R, hA]
      split
      · rfl
      · rw [hbs _ (by omega)]
theorem RI_0 {q : mv} {k N w : Nat} (hP : m_P q = 0) (hR : m_R q k = N) (hW : m_W q k = w) (hN : 1 ≤ N ∧ N ≤ 60) (hw : 1 ≤ w ∧ w ≤ 1000000000) : RI q k (rg0 N w) := by
  have hn : ng q k (m_P q) = 0 := by rw [hP]; rfl
  have hE : nE q k = 0 := by unfold nE; rw [hP]; split <;> rfl
  have hkp : kp q k = 0 := by
    unfold kp
    rw [hE]
    split
    · rfl
    · omega
  refine ⟨?_, hR.symm, hW.symm, hkp.symm, fun j hj => ?_, ?_⟩
  · unfold r_ok
    exact ⟨hN.1, hN.2, hN.1, Nat.zero_le _, hw.1, hw.2⟩
  · exact absurd hj (Nat.not_lt_zero j)
  · rw [hn, if_pos (Nat.zero_le _)]
    rfl
