/-! The reference's entries are those buckets. -/
theorem fsr_is {q : mv} {k g : Nat} (hg : g + 1 ≤ ng q k (m_P q)) : ∀ n p, p + n = m_P q → (p = 0 ∨ ng q k (p - 1) ≤ g) → ng q k (fsr q k g n p) = g ∧ ng q k (fsr q k g n p + 1) = g + 1 := by
  have fin : ∀ p, g + 1 ≤ ng q k p → (p = 0 ∨ ng q k (p - 1) ≤ g) → ng q k (p - 1) = g ∧ ng q k (p - 1 + 1) = g + 1 := by
    intro p h1 h2
    have h0 : 0 < p := Nat.pos_of_ne_zero (fun z => by rw [z] at h1; exact absurd h1 (Nat.not_succ_le_zero g))
    have h3 : ng q k (p - 1) ≤ g := h2.elim (fun z => absurd z (by omega)) id
    have h4 := ng_s q k (p - 1)
    rw [show p - 1 + 1 = p by omega] at h4 ⊢
    omega
  intro n
  induction n with
  | zero =>
    intro p hp h
    exact fin p (by rw [show p = m_P q by omega]; exact hg) h
  | succ n ih =>
    intro p hp h
    rw [fsr]
    by_cases hc : g + 1 ≤ ng q k p
    · rw [if_pos hc]
      exact fin p hc h
    · rw [if_neg hc]
      exact ih (p + 1) (by omega) (Or.inr (by show ng q k p ≤ g; omega))
theorem fs_is {q : mv} {k j : Nat} (h : kp q k ≤ ng q k (m_P q)) (hj : j < kp q k) : ng q k (fs q k j) = gn q k j ∧ ng q k (fs q k j + 1) = gn q k j + 1 := fsr_is (gn_lt h hj) (m_P q) 0 (Nat.zero_add _) (Or.inl rfl)
theorem bg_eq {q : mv} {k j : Nat} (h : kp q k ≤ ng q k (m_P q)) (hj : j < kp q k) : bg q k j = bsf q k (m_P q) (gn q k j) := by
  obtain ⟨h1, h2⟩ := fs_is h hj
  have h3 := fs_lt h hj
  have h4 := bsf_keep q k (gn q k j) (fs q k j + 1) (by omega) (m_P q - (fs q k j + 1))
  rw [show fs q k j + 1 + (m_P q - (fs q k j + 1)) = m_P q by omega, bsf, if_pos ⟨h1, h2⟩] at h4
  exact h4.symm
theorem fgr_eq {q : mv} {k g i : Nat} (hi : ng q k i = g) (hi1 : ng q k (i + 1) = g + 1) : ∀ n x (a b s : Int32) (d : Nat), x + n = m_P q → i < x → ng q k x = g + 1 → sm q k i (x - 1) → a = agf q k x g 0 → b = agf q k x g 1 → s = agf q k x g 2 → nI d = agf q k x g 3 → ∀ w, w < 4 → fgr q k i n x a b s d w = agf q k (m_P q) g w := by
  have sel : ∀ x (a b s : Int32) (d : Nat), a = agf q k x g 0 → b = agf q k x g 1 → s = agf q k x g 2 → nI d = agf q k x g 3 → ∀ w, w < 4 → (if w = 0 then a else if w = 1 then b else if w = 2 then s else nI d) = agf q k x g w := by
    intro x a b s d ha hb hs hd w hw
    rcases (show w = 0 ∨ w = 1 ∨ w = 2 ∨ w = 3 by omega) with rfl | rfl | rfl | rfl
    · exact ha
    · exact hb
    · exact hs
    · exact hd
  intro n
  induction n with
  | zero =>
    intro x a b s d hx hix hng hsm ha hb hs hd w hw
    rw [fgr, show m_P q = x by omega]
    exact sel x a b s d ha hb hs hd w hw
  | succ n ih =>
    intro x a b s d hx hix hng hsm ha hb hs hd w hw
    have hiff : sm q k i x ↔ sm q k (x - 1) x := ⟨fun z => (show m_T q (x - 1) / m_W q k = _ from hsm.symm.trans z), fun z => hsm.trans z⟩
    rw [fgr]
    by_cases hc : sm q k i x
    · rw [if_pos hc]
      have hn : ng q k (x + 1) = g + 1 := by rw [ng, if_neg (fun z => z.elim (fun z => absurd z (by omega)) (fun z => z (hiff.mp hc))), hng]
      have hag : ∀ c, agf q k (x + 1) g c = jn c (agf q k x g c) (ow c (m_V q x)) := fun c => by rw [agf, if_pos hn, if_neg (by omega)]
      refine ih (x + 1) _ _ _ _ (by omega) (by omega) hn hc ?_ ?_ ?_ ?_ w hw
      · rw [hag 0, ← ha]; rfl
      · rw [hag 1, ← hb]; rfl
      · rw [hag 2, ← hs]; rfl
      · rw [hag 3, ← hd, ← nI_1]; rfl
    · rw [if_neg hc]
      have hn : ng q k (x + 1) = g + 1 + 1 := by rw [ng, if_pos (Or.inr (fun z => hc (hiff.mpr z))), hng]
      have hk := agf_keep q k g w x (by omega) (n + 1)
      rw [hx] at hk
      rw [hk]
      exact sel x a b s d ha hb hs hd w hw
theorem fg_eq {q : mv} {k j : Nat} (h : kp q k ≤ ng q k (m_P q)) (hj : j < kp q k) {w : Nat} (hw : w < 4) : fg q k j w = agf q k (m_P q) (gn q k j) w := by
  obtain ⟨h1, h2⟩ := fs_is h hj
  have h3 := fs_lt h hj
  unfold fg
  obtain ⟨n, hn⟩ : ∃ n, m_P q - fs q k j = n + 1 := ⟨m_P q - fs q k j - 1, by omega⟩
  rw [hn, fgr, if_pos rfl]
  have hag : ∀ c, agf q k (fs q k j + 1) (gn q k j) c = ow c (m_V q (fs q k j)) := fun c => by rw [agf, if_pos h2, if_pos h1]
  refine fgr_eq h1 h2 n (fs q k j + 1) _ _ _ _ (by omega) (by omega) h2 rfl ?_ ?_ ?_ ?_ w hw
  · rw [hag 0]
    show (if m_V q (fs q k j) < m_V q (fs q k j) then _ else _) = m_V q (fs q k j)
    split <;> rfl
  · rw [hag 1]
    show (if m_V q (fs q k j) < m_V q (fs q k j) then _ else _) = m_V q (fs q k j)
    split <;> rfl
  · rw [hag 2]
    show 0 + m_V q (fs q k j) = m_V q (fs q k j)
    exact Int32.zero_add _
  · rw [hag 3]
    rfl
/-! Level 0: every point is a bucket. -/
theorem ng_0 {q : mv} (hW : m_W q 0 = 1) (hu : m_up q) : ∀ p, p ≤ m_P q → ng q 0 p = p
  | 0, _ => rfl
  | p + 1, h => by
    rw [ng, ng_0 hW hu p (by omega)]
    by_cases h0 : p = 0
    · rw [if_pos (Or.inl h0)]
    · rw [if_pos (Or.inr ?_)]
      show ¬ m_T q (p - 1) / m_W q 0 = m_T q p / m_W q 0
      rw [hW, Nat.div_one, Nat.div_one]
      have := hu (p - 1) (by omega)
      rw [show p - 1 + 1 = p by omega] at this
      omega
theorem bsf_0 {q : mv} (hW : m_W q 0 = 1) (hu : m_up q) {g : Nat} (hg : g < m_P q) : bsf q 0 (m_P q) g = m_T q g := by
  have h1 := ng_0 hW hu g (by omega)
  have h2 := ng_0 hW hu (g + 1) (by omega)
  have h4 := bsf_keep q 0 g (g + 1) (by omega) (m_P q - (g + 1))
  rw [show g + 1 + (m_P q - (g + 1)) = m_P q by omega, bsf, if_pos ⟨h1, h2⟩, hW, Nat.div_one, Nat.mul_one] at h4
  exact h4
theorem agf_0 {q : mv} (hW : m_W q 0 = 1) (hu : m_up q) {g c : Nat} (hg : g < m_P q) : agf q 0 (m_P q) g c = ow c (m_V q g) := by
  have h1 := ng_0 hW hu g (by omega)
  have h2 := ng_0 hW hu (g + 1) (by omega)
  have h3 : agf q 0 (g + 1) g c = ow c (m_V q g) := by rw [agf, if_pos h2, if_pos h1]
  by_cases hl : g + 1 < m_P q
  · have h5 := ng_0 hW hu (g + 2) (by omega)
    have h4 := agf_keep q 0 g c (g + 1) (by show g + 1 < ng q 0 (g + 2); omega) (m_P q - (g + 1))
    rw [show g + 1 + (m_P q - (g + 1)) = m_P q by omega] at h4
    rw [h4, h3]
  · rw [show m_P q = g + 1 by omega]
    exact h3
