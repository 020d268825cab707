/-! at -/
theorem atq_eq {q : mv} {r : rgV} (h : L0 q r) (t : Int32) : ∀ n, n ≤ v_h r → atq q t (m_P q - kp q 0) n = if min n (ff r (t.toInt64 + 1) 0) = 0 then -1 else nI (m_P q - kp q 0 + min n (ff r (t.toInt64 + 1) 0) - 1)
  | 0, _ => by rw [if_pos (by omega)]; rfl
  | n + 1, hn => by
    have ih := atq_eq h t n (by omega)
    have hL := h
    obtain ⟨hok, hh, hkp, hent, hu, hT, hp, hw⟩ := h
    obtain ⟨s1, s2⟩ := ff_spec (r := r) (t := t.toInt64 + 1) (Nat.zero_le (v_h r))
    have hle : ff r (t.toInt64 + 1) 0 ≤ v_h r := ff_le (Nat.zero_le _)
    generalize ff r (t.toInt64 + 1) 0 = e at *
    have en := (hent n (by omega)).1
    rw [atq, ← en]
    by_cases hc : n < e
    · rw [if_neg ((i64_lt1 _ _).mp (s1 n (Nat.zero_le _) hc)), if_neg (by omega), show m_P q - kp q 0 + min (n + 1) e - 1 = m_P q - kp q 0 + n by omega]
    · have n1 : t < v_E r e := Decidable.byContradiction (fun u => s2 (by omega) ((i64_lt1 _ _).mpr u))
      have n2 : t < v_E r n := by
        rcases Nat.lt_or_eq_of_le (Nat.le_of_not_lt hc) with u | u
        · have := L0_mono hL u (by omega)
          rw [Int32.lt_iff_toInt_lt] at *
          omega
        · rw [← u]; exact n1
      rw [if_pos n2, ih, show min (n + 1) e = min n e by omega]
theorem l_diff {a b : Nat} (hab : b ≤ a) (ha : a < 2 ^ 31) : (nI a).toInt64 - (nI b).toInt64 = (nI a - nI b).toInt64 := by
  rw [nI_l ha, nI_l (by omega), lN_sub hab, pk_sub hab, nI_l (by omega)]
theorem lN_pos {a : Nat} (h : 0 < a) (ha : a < 2 ^ 31) : (0 : Int64) < lN a := by
  have := (lN_lt (a := 0) (b := a) (by omega) ha).mpr h
  exact this
theorem at_eq {q : mv} {r : rgV} (h : L0 q r) (t sw : Int32) : atM q t sw = atV r t sw := by
  have e1 := atq_eq h t (kp q 0) (by rw [h.2.1]; exact Nat.le_refl _)
  have hle : ff r (t.toInt64 + 1) 0 ≤ v_h r := ff_le (Nat.zero_le _)
  obtain ⟨hok, hh, hkp, hent, hu, hT, hp, hw⟩ := h
  unfold atM atV
  rw [e1, show min (kp q 0) (ff r (t.toInt64 + 1) 0) = ff r (t.toInt64 + 1) 0 by omega]
  generalize ff r (t.toInt64 + 1) 0 = e at *
  by_cases h0 : e = 0
  · rw [if_pos h0, if_pos h0, if_pos (by decide)]
  · rw [if_neg h0, if_neg h0, if_neg (nI_pos (by omega)), nI_clamp (by omega)]
    have hv : ∀ x, x < v_h r → v_G r 2 x = m_V q (m_P q - kp q 0 + x) := fun x hx => by
      rw [(hent x hx).2 2 (by omega)]
      rfl
    have ev : v_G r 2 (e - 1) = m_V q (m_P q - kp q 0 + e - 1) := by rw [hv _ (by omega), show m_P q - kp q 0 + (e - 1) = m_P q - kp q 0 + e - 1 by omega]
    by_cases hs : ¬ sw = 0 ∧ e < v_h r
    · rw [if_neg (fun z => z.elim hs.1 (fun z => absurd ((nI_eq (by omega) (by omega)).mp z) (by omega))), if_pos hs]
      have ev1 : v_G r 2 e = m_V q (m_P q - kp q 0 + e - 1 + 1) := by rw [hv _ hs.2, show m_P q - kp q 0 + e - 1 + 1 = m_P q - kp q 0 + e by omega]
      have et : v_E r (e - 1) = nI (m_T q (m_P q - kp q 0 + e - 1)) := by rw [(hent (e - 1) (by omega)).1, show m_P q - kp q 0 + (e - 1) = m_P q - kp q 0 + e - 1 by omega]
      have et1 : v_E r e = nI (m_T q (m_P q - kp q 0 + e - 1 + 1)) := by rw [(hent e hs.2).1, show m_P q - kp q 0 + e - 1 + 1 = m_P q - kp q 0 + e by omega]
      have hlt : m_T q (m_P q - kp q 0 + e - 1) < m_T q (m_P q - kp q 0 + e - 1 + 1) := hu _ (by omega)
      have hT1 := hT (m_P q - kp q 0 + e - 1 + 1)
      unfold onl rz
      rw [show e - 1 + 1 = e by omega, ev, ev1, et, et1, l_diff (by omega) hT1, if_pos]
      rw [pk_sub (by omega), nI_l (by omega)]
      exact lN_pos (by omega) (by omega)
    · have hq : sw = 0 ∨ nI (m_P q - kp q 0 + e - 1) = nI (m_P q - 1) := by
        by_cases hz : sw = 0
        · exact Or.inl hz
        · refine Or.inr ?_
          have : ¬ e < v_h r := fun w => hs ⟨hz, w⟩
          rw [show m_P q - kp q 0 + e - 1 = m_P q - 1 by omega]
      rw [if_pos hq, if_neg hs, ev]
/-! steepest -/
theorem sp_eq {q : mv} {r : rgV} (h : L0 q r) (f t : Int32) : ∀ n x B M, x + n = v_h r → 1 ≤ x → spq q f t (m_P q - kp q 0) n (m_P q - kp q 0 + x) B M = if sB r f t ≤ x then B else if sA r f + 1 ≤ x then spr r (sB r f t - x) x B M else spr r (sB r f t - (sA r f + 1)) (sA r f + 1) B M := by
  have b2 := sB_ge r f t
  have b1 := sB_le r f t
  intro n
  induction n with
  | zero =>
    intro x B M hx h1
    rw [if_pos (by omega)]
    rfl
  | succ n ih =>
    intro x B M hx h1
    have s1 := span h f t (x := x - 1) (by omega)
    have s2 := span h f t (x := x) (by omega)
    rw [show m_P q - kp q 0 + (x - 1) = m_P q - kp q 0 + x - 1 by omega] at s1
    have hr : rzq q (m_P q - kp q 0 + x) = rz r x := by
      obtain ⟨hok, hh, hkp, hent, -⟩ := h
      unfold rzq rz
      rw [(hent x (by omega)).2 2 (by omega), (hent (x - 1) (by omega)).2 2 (by omega), show m_P q - kp q 0 + (x - 1) = m_P q - kp q 0 + x - 1 by omega]
      rfl
    rw [spq, hr, show m_P q - kp q 0 + x - (m_P q - kp q 0) = x by omega]
    have ih1 := fun B M => ih (x + 1) B M (by omega) (by omega)
    rw [show m_P q - kp q 0 + (x + 1) = m_P q - kp q 0 + x + 1 from rfl] at ih1
    by_cases hb : sB r f t ≤ x
    · rw [if_pos hb, if_neg (fun z => absurd (s2.mp z.2.1) (by omega)), ih1, if_pos (by omega)]
    · rw [if_neg hb]
      by_cases ha : sA r f + 1 ≤ x
      · rw [if_pos ha, show sB r f t - x = (sB r f t - (x + 1)) + 1 by omega, spr]
        by_cases hc : B = -1 ∨ M < rz r x
        · rw [if_pos ⟨s1.mpr ⟨by omega, by omega⟩, s2.mpr ⟨by omega, by omega⟩, hc⟩, if_pos hc, ih1]
          by_cases hz : sB r f t ≤ x + 1
          · rw [if_pos hz, show sB r f t - (x + 1) = 0 by omega]; rfl
          · rw [if_neg hz, if_pos (by omega)]
        · rw [if_neg (fun z => hc z.2.2), if_neg hc, ih1]
          by_cases hz : sB r f t ≤ x + 1
          · rw [if_pos hz, show sB r f t - (x + 1) = 0 by omega]; rfl
          · rw [if_neg hz, if_pos (by omega)]
      · rw [if_neg ha, if_neg (fun z => absurd (s1.mp z.1) (by omega)), ih1]
        by_cases hz : sB r f t ≤ x + 1
        · rw [if_pos hz, show sB r f t - (sA r f + 1) = 0 by omega]; rfl
        · rw [if_neg hz]
          by_cases hy : sA r f + 1 ≤ x + 1
          · rw [if_pos hy, show x = sA r f by omega]
          · rw [if_neg hy]
theorem spM_eq {q : mv} {r : rgV} (h : L0 q r) (f t : Int32) : spM q f t = spV r f t := by
  have b2 := sB_ge r f t
  have b1 := sB_le r f t
  have hh := h.2.1
  unfold spM spV
  by_cases h0 : v_h r = 0
  · rw [show kp q 0 - 1 = 0 by omega, show sB r f t - (sA r f + 1) = 0 by omega]
    rfl
  · rw [sp_eq h f t (kp q 0 - 1) 1 (-1) 0 (by omega) (by omega)]
    by_cases hz : sB r f t ≤ 1
    · rw [if_pos hz, show sB r f t - (sA r f + 1) = 0 by omega]
      rfl
    · rw [if_neg hz]
      by_cases hy : sA r f + 1 ≤ 1
      · rw [if_pos hy, show sA r f = 0 by omega]
      · rw [if_neg hy]
/-! median: the row in order, and how often a value stands in it -/
def cnt (P : Int32 → Bool) (g : Nat → Int32) : Nat → Nat
  | 0 => 0
  | n + 1 => cnt P g n + (if P (g n) = true then 1 else 0)
def srt (g : Nat → Int32) (n : Nat) : Prop := ∀ i j, i < j → j < n → g i ≤ g j
theorem cnt_congr {P : Int32 → Bool} {g g' : Nat → Int32} : ∀ n, (∀ i, i < n → g i = g' i) → cnt P g n = cnt P g' n
  | 0, _ => rfl
  | n + 1, h => by rw [cnt, cnt, cnt_congr n (fun i hi => h i (by omega)), h n (by omega)]
theorem insr_out (v : Int32) : ∀ n g j, n < j → insr v n g j = g j
  | 0, g, j, h => upd_n (by omega)
  | n + 1, g, j, h => by
    unfold insr
    split
    · rw [insr_out v n _ j (by omega), upd_n (by omega)]
    · rw [upd_n (by omega)]
theorem insr_cnt (P : Int32 → Bool) (v : Int32) : ∀ n g, cnt P (insr v n g) (n + 1) = cnt P g n + (if P v = true then 1 else 0)
  | 0, g => by
    show 0 + (if P (upd g 0 v 0) = true then 1 else 0) = _
    rw [upd_s]
    rfl
  | n + 1, g => by
    unfold insr
    split
    · rw [cnt, insr_cnt P v n, insr_out v n _ (n + 1) (by omega), upd_s, cnt_congr (g' := g) n (fun i hi => upd_n (by omega)), cnt]
      omega
    · rw [cnt, upd_s, cnt_congr (g' := g) (n + 1) (fun i hi => upd_n (by omega))]
theorem i_le_tr {a b c : Int32} (h1 : a ≤ b) (h2 : b ≤ c) : a ≤ c := by
  rw [Int32.le_iff_toInt_le] at *
  omega
theorem i_lt_le {a b : Int32} (h : a < b) : a ≤ b := by
  rw [Int32.lt_iff_toInt_lt] at h
  rw [Int32.le_iff_toInt_le]
  omega
theorem i_nlt_le {a b : Int32} (h : ¬ a < b) : b ≤ a := by
  rw [Int32.lt_iff_toInt_lt] at h
  rw [Int32.le_iff_toInt_le]
  omega
theorem insr_max (v m : Int32) (hv : v ≤ m) : ∀ n g, (∀ i, i < n → g i ≤ m) → ∀ i, i ≤ n → insr v n g i ≤ m
  | 0, g, _, i, hi => by
    rw [show i = 0 by omega]
    show upd g 0 v 0 ≤ m
    rw [upd_s]
    exact hv
  | n + 1, g, h, i, hi => by
    unfold insr
    split
    · by_cases hl : i ≤ n
      · refine insr_max v m hv n _ (fun j hj => ?_) i hl
        rw [upd_n (by omega)]
        exact h j (by omega)
      · rw [insr_out v n _ i (by omega), show i = n + 1 by omega, upd_s]
        exact h n (by omega)
    · by_cases hl : i = n + 1
      · rw [hl, upd_s]; exact hv
      · rw [upd_n hl]; exact h i (by omega)
theorem insr_srt (v : Int32) : ∀ n g, srt g n → srt (insr v n g) (n + 1)
  | 0, g, _ => fun i j h1 h2 => absurd h1 (by omega)
  | n + 1, g, hs => by
    unfold insr
    split
    · rename_i hv
      intro i j h1 h2
      by_cases hj : j = n + 1
      · rw [hj, insr_out v n _ (n + 1) (by omega), upd_s]
        refine insr_max v (g n) (i_lt_le hv) n _ (fun x hx => ?_) i (by omega)
        rw [upd_n (by omega)]
        exact hs x n (by omega) (by omega)
      · refine insr_srt v n _ (fun a b ha hb => ?_) i j h1 (by omega)
        rw [upd_n (by omega), upd_n (by omega)]
        exact hs a b ha (by omega)
    · rename_i hv
      intro i j h1 h2
      by_cases hj : j = n + 1
      · rw [hj, upd_s, upd_n (by omega)]
        by_cases hi : i = n
        · rw [hi]; exact i_nlt_le hv
        · exact i_le_tr (hs i n (by omega) (by omega)) (i_nlt_le hv)
      · rw [upd_n hj, upd_n (by omega)]
        exact hs i j h1 (by omega)
/-- the values of entries i, .. -/
def cv (P : Int32 → Bool) (r : rgV) : Nat → Nat → Nat
  | 0, _ => 0
  | n + 1, i => (if P (v_G r 2 i) = true then 1 else 0) + cv P r n (i + 1)
theorem msr_ok (r : rgV) : ∀ n i len g, srt g len → srt (msr r n i len g) (len + n) ∧ ∀ P : Int32 → Bool, cnt P (msr r n i len g) (len + n) = cnt P g len + cv P r n i
  | 0, i, len, g, h => ⟨h, fun P => rfl⟩
  | n + 1, i, len, g, h => by
    obtain ⟨h1, h2⟩ := msr_ok r n (i + 1) (len + 1) _ (insr_srt (v_G r 2 i) len g h)
    rw [show len + (n + 1) = len + 1 + n by omega]
    refine ⟨h1, fun P => ?_⟩
    show cnt P (msr r n (i + 1) (len + 1) (insr (v_G r 2 i) len g)) (len + 1 + n) = _
    rw [h2 P, insr_cnt, cv]
    omega
theorem cnt_le {P : Int32 → Bool} {g : Nat → Int32} : ∀ n m, m ≤ n → (∀ i, m ≤ i → i < n → ¬ P (g i) = true) → cnt P g n ≤ m
  | 0, m, _, _ => Nat.zero_le _
  | n + 1, m, hm, h => by
    rw [cnt]
    by_cases hz : m = n + 1
    · have := cnt_le (P := P) (g := g) n n (Nat.le_refl _) (fun i h1 h2 => absurd h1 (by omega))
      split <;> omega
    · rw [if_neg (h n (by omega) (by omega))]
      exact cnt_le n m (by omega) (fun i h1 h2 => h i h1 (by omega))
theorem cnt_ge {P : Int32 → Bool} {g : Nat → Int32} : ∀ n m, m ≤ n → (∀ i, i < m → P (g i) = true) → m ≤ cnt P g n
  | 0, m, hm, _ => by omega
  | n + 1, m, hm, h => by
    rw [cnt]
    by_cases hz : m = n + 1
    · have := cnt_ge (P := P) (g := g) n n (Nat.le_refl _) (fun i hi => h i (by omega))
      rw [if_pos (h n (by omega))]
      omega
    · have := cnt_ge (P := P) (g := g) n m (by omega) h
      omega
theorem cv_s (P : Int32 → Bool) (r : rgV) : ∀ n i, cv P r (n + 1) i = cv P r n i + (if P (v_G r 2 (i + n)) = true then 1 else 0)
  | 0, i => by
    show (if P (v_G r 2 i) = true then 1 else 0) + 0 = 0 + (if P (v_G r 2 i) = true then 1 else 0)
    omega
  | n + 1, i => by
    rw [cv, cv_s P r n (i + 1), cv, show i + 1 + n = i + (n + 1) by omega]
    omega
theorem cv_add (P1 P2 P3 : Int32 → Bool) (h : ∀ x, (if P3 x = true then 1 else 0) = (if P1 x = true then 1 else 0) + (if P2 x = true then (1 : Nat) else 0)) (r : rgV) : ∀ n i, cv P3 r n i = cv P1 r n i + cv P2 r n i
  | 0, _ => rfl
  | n + 1, i => by
    rw [cv, cv, cv, cv_add P1 P2 P3 h r n (i + 1), h]
    omega
theorem cv_ex (P : Int32 → Bool) (r : rgV) : ∀ n i, 0 < cv P r n i → ∃ x, i ≤ x ∧ x < i + n ∧ P (v_G r 2 x) = true
  | 0, _, h => absurd h (Nat.lt_irrefl _)
  | n + 1, i, h => by
    rw [cv] at h
    by_cases hp : P (v_G r 2 i) = true
    · exact ⟨i, Nat.le_refl _, by omega, hp⟩
    · rw [if_neg hp] at h
      obtain ⟨x, h1, h2, h3⟩ := cv_ex P r n (i + 1) (by omega)
      exact ⟨x, by omega, by omega, h3⟩
