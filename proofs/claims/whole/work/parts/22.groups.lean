/-! Buckets of a level, out of the points. -/
def m_up (q : mv) : Prop := ∀ p, p + 1 < m_P q → m_T q p < m_T q (p + 1)
theorem m_up_lt {q : mv} (h : m_up q) (a : Nat) : ∀ n, a + n + 1 < m_P q → m_T q a < m_T q (a + n + 1)
  | 0, hb => h a hb
  | n + 1, hb => Nat.lt_trans (m_up_lt h a n (by omega)) (h (a + n + 1) hb)
theorem m_up_ab {q : mv} (h : m_up q) {a b : Nat} (hab : a < b) (hb : b < m_P q) : m_T q a < m_T q b := by
  obtain ⟨n, rfl⟩ : ∃ n, b = a + n + 1 := ⟨b - a - 1, by omega⟩
  exact m_up_lt h a n hb
theorem m_up_le {q : mv} (h : m_up q) {a b : Nat} (hab : a ≤ b) (hb : b < m_P q) : m_T q a ≤ m_T q b := by
  rcases Nat.lt_or_eq_of_le hab with z | z
  · exact Nat.le_of_lt (m_up_ab h z hb)
  · rw [z]; exact Nat.le_refl _
theorem ng_s (q : mv) (k p : Nat) : ng q k (p + 1) = ng q k p + 1 ∨ (ng q k (p + 1) = ng q k p ∧ 0 < p ∧ sm q k (p - 1) p) := by
  rw [ng]
  by_cases h : p = 0 ∨ ¬ sm q k (p - 1) p
  · rw [if_pos h]; exact Or.inl rfl
  · rw [if_neg h]
    refine Or.inr ⟨rfl, ?_, ?_⟩
    · exact Nat.pos_of_ne_zero (fun z => h (Or.inl z))
    · exact Decidable.byContradiction (fun z => h (Or.inr z))
theorem ng_pos (q : mv) (k p : Nat) (h : 0 < p) : 0 < ng q k p := by
  have h1 := ng_mono q k 1 (p - 1)
  rw [show 1 + (p - 1) = p by omega] at h1
  have h2 : ng q k 1 = 1 := by rw [ng, if_pos (Or.inl rfl)]; rfl
  omega
theorem ng_le2 (q : mv) (k : Nat) {a b : Nat} (h : a ≤ b) : ng q k a ≤ ng q k b := by
  have := ng_mono q k a (b - a)
  rwa [show a + (b - a) = b by omega] at this
/-- where bucket g begins, what its figures are, after p points -/
def bsf (q : mv) (k : Nat) : Nat → Nat → Nat
  | 0, _ => 0
  | p + 1, g => if ng q k p = g ∧ ng q k (p + 1) = g + 1 then m_T q p / m_W q k * m_W q k else bsf q k p g
def agf (q : mv) (k : Nat) : Nat → Nat → Nat → Int32
  | 0, _, _ => 0
  | p + 1, g, c => if ng q k (p + 1) = g + 1 then (if ng q k p = g then ow c (m_V q p) else jn c (agf q k p g c) (ow c (m_V q p))) else agf q k p g c
theorem bsf_le {q : mv} (hT : ∀ p, m_T q p < 2 ^ 31) (k : Nat) : ∀ p g, bsf q k p g < 2 ^ 31
  | 0, _ => by unfold bsf; decide
  | p + 1, g => by
    unfold bsf
    split
    · exact Nat.lt_of_le_of_lt (Nat.div_mul_le_self _ _) (hT p)
    · exact bsf_le hT k p g
/-- the last bucket is that of the last point -/
theorem bsf_last (q : mv) (k : Nat) : ∀ p, 0 < p → bsf q k p (ng q k p - 1) = m_T q (p - 1) / m_W q k * m_W q k
  | 0, h => absurd h (Nat.lt_irrefl _)
  | p + 1, _ => by
    rcases ng_s q k p with h | ⟨h, hp, hs⟩
    · rw [bsf, if_pos ⟨by omega, by omega⟩]
      rfl
    · have h1 := ng_pos q k p hp
      rw [bsf, if_neg (by omega), h, bsf_last q k p hp, show p + 1 - 1 = p from rfl, show m_T q (p - 1) / m_W q k = m_T q p / m_W q k from hs]
/-- later buckets change nothing -/
theorem bsf_keep (q : mv) (k g a : Nat) (hg : g + 1 ≤ ng q k a) : ∀ n, bsf q k (a + n) g = bsf q k a g
  | 0 => rfl
  | n + 1 => by
    have h1 := ng_le2 q k (show a ≤ a + n by omega)
    have h2 := ng_le2 q k (show a ≤ a + n + 1 by omega)
    rw [show a + (n + 1) = (a + n) + 1 from rfl, bsf, if_neg (by omega)]
    exact bsf_keep q k g a hg n
theorem agf_keep (q : mv) (k g c a : Nat) (hg : g + 1 < ng q k (a + 1)) : ∀ n, agf q k (a + n) g c = agf q k a g c
  | 0 => rfl
  | n + 1 => by
    have h2 := ng_le2 q k (show a + 1 ≤ a + n + 1 by omega)
    rw [show a + (n + 1) = (a + n) + 1 from rfl, agf, if_neg (by omega)]
    exact agf_keep q k g c a hg n
/-! another point -/
section AP
variable {q : mv} {tm : Nat} {v : Int32}
theorem apM_P : m_P (apM q tm v) = m_P q + 1 := rfl
theorem apM_R : m_R (apM q tm v) = m_R q := rfl
theorem apM_Wd : m_W (apM q tm v) = m_W q := rfl
theorem apM_T {p : Nat} (h : p < m_P q) : m_T (apM q tm v) p = m_T q p := by
  show (if p = m_P q then tm else m_T q p) = _
  rw [if_neg (by omega)]
theorem apM_Tn : m_T (apM q tm v) (m_P q) = tm := by
  show (if m_P q = m_P q then tm else _) = _
  rw [if_pos rfl]
theorem apM_V {p : Nat} (h : p < m_P q) : m_V (apM q tm v) p = m_V q p := upd_n (by omega)
theorem apM_Vn : m_V (apM q tm v) (m_P q) = v := upd_s
theorem ng_ap (k : Nat) : ∀ p, p ≤ m_P q → ng (apM q tm v) k p = ng q k p
  | 0, _ => rfl
  | p + 1, h => by
    have ih := ng_ap k p (by omega)
    have hs : sm (apM q tm v) k (p - 1) p ↔ sm q k (p - 1) p := by
      show m_T (apM q tm v) (p - 1) / m_W q k = m_T (apM q tm v) p / m_W q k ↔ _
      rw [apM_T (show p < m_P q by omega), apM_T (show p - 1 < m_P q by omega)]
    rw [ng, ng, ih]
    by_cases hc : p = 0 ∨ ¬ sm q k (p - 1) p
    · rw [if_pos hc, if_pos (hc.imp id (fun z w => z (hs.mp w)))]
    · rw [if_neg hc, if_neg (fun z => hc (z.imp id (fun z w => z (hs.mpr w))))]
theorem bsf_ap (k : Nat) : ∀ p g, p ≤ m_P q → bsf (apM q tm v) k p g = bsf q k p g
  | 0, _, _ => rfl
  | p + 1, g, h => by
    rw [bsf, bsf, ng_ap k p (by omega), ng_ap k (p + 1) h, bsf_ap k p g (by omega), apM_Wd, apM_T (show p < m_P q by omega)]
theorem agf_ap (k : Nat) : ∀ p g c, p ≤ m_P q → agf (apM q tm v) k p g c = agf q k p g c
  | 0, _, _, _ => rfl
  | p + 1, g, c, h => by
    rw [agf, agf, ng_ap k p (by omega), ng_ap k (p + 1) h, agf_ap k p g c (by omega), apM_V (show p < m_P q by omega)]
theorem ng_new (k : Nat) : ng (apM q tm v) k (m_P q + 1) = if m_P q = 0 ∨ ¬ m_T q (m_P q - 1) / m_W q k = tm / m_W q k then ng q k (m_P q) + 1 else ng q k (m_P q) := by
  rw [ng, ng_ap k _ (Nat.le_refl _)]
  by_cases h0 : m_P q = 0
  · rw [if_pos (Or.inl h0), if_pos (Or.inl h0)]
  · have hs : sm (apM q tm v) k (m_P q - 1) (m_P q) ↔ m_T q (m_P q - 1) / m_W q k = tm / m_W q k := by
      show m_T (apM q tm v) (m_P q - 1) / m_W q k = m_T (apM q tm v) (m_P q) / m_W q k ↔ _
      rw [apM_Tn, apM_T (show m_P q - 1 < m_P q by omega)]
    by_cases hc : m_T q (m_P q - 1) / m_W q k = tm / m_W q k
    · rw [if_neg (fun z => z.elim h0 (fun z => z (hs.mpr hc))), if_neg (fun z => z.elim h0 (fun z => z hc))]
    · rw [if_pos (Or.inr (fun z => hc (hs.mp z))), if_pos (Or.inr hc)]
end AP
