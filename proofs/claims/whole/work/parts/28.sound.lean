/-! sound: a coarse bucket's figures are its fine buckets' together. -/
abbrev ky (q : mv) (k p : Nat) : Nat := m_T q p / m_W q k
theorem ky_mono {q : mv} (hu : m_up q) (k : Nat) {a b : Nat} (h : a ≤ b) (hb : b < m_P q) : ky q k a ≤ ky q k b := Nat.div_le_div_right (m_up_le hu h hb)
theorem kn1 {q : mv} (k a : Nat) : ∀ n, ng q k (a + n + 1) = ng q k (a + 1) → ky q k (a + n) = ky q k a
  | 0, _ => rfl
  | n + 1, h => by
    have h1 := ng_le2 q k (show a + 1 ≤ a + n + 1 by omega)
    have h3 := ng_le2 q k (show a + n + 1 ≤ a + (n + 1) + 1 by omega)
    rcases ng_s q k (a + (n + 1)) with h4 | ⟨h4, h5, h6⟩
    · rw [show a + (n + 1) = a + n + 1 from rfl] at *
      omega
    · have h7 : ky q k (a + n) = ky q k (a + n + 1) := h6
      rw [show a + (n + 1) = a + n + 1 from rfl] at *
      rw [← h7]
      exact kn1 k a n (by omega)
theorem kn2 {q : mv} (hu : m_up q) (k a : Nat) : ∀ n, a + n < m_P q → ng q k (a + 1) < ng q k (a + n + 1) → ky q k a < ky q k (a + n)
  | 0, _, h => absurd h (Nat.lt_irrefl _)
  | n + 1, hb, h => by
    rcases ng_s q k (a + (n + 1)) with h4 | ⟨h4, h5, h6⟩
    · have hs : ¬ sm q k (a + n) (a + (n + 1)) := fun z => by
        rw [ng, if_neg (fun w => w.elim (fun w => absurd w (by omega)) (fun w => w z))] at h4
        omega
      have h7 := ky_mono hu k (show a ≤ a + n by omega) (by omega)
      have h8 := ky_mono hu k (show a + n ≤ a + (n + 1) by omega) hb
      have h9 : ¬ ky q k (a + n) = ky q k (a + (n + 1)) := hs
      omega
    · have h7 : ky q k (a + n) = ky q k (a + (n + 1)) := h6
      rw [← h7]
      exact kn2 hu k a n (by omega) (by rw [show a + n + 1 = a + (n + 1) from rfl]; omega)
theorem kn_eq {q : mv} {k a b : Nat} (hab : a ≤ b) (h : ng q k (b + 1) = ng q k (a + 1)) : ky q k b = ky q k a := by
  obtain ⟨n, rfl⟩ : ∃ n, b = a + n := ⟨b - a, by omega⟩
  exact kn1 k a n h
theorem kn_lt {q : mv} (hu : m_up q) {k a b : Nat} (hab : a ≤ b) (hb : b < m_P q) (h : ng q k (a + 1) < ng q k (b + 1)) : ky q k a < ky q k b := by
  obtain ⟨n, rfl⟩ : ∃ n, b = a + n := ⟨b - a, by omega⟩
  exact kn2 hu k a n hb h
/-- the first point of bucket g; behind the last bucket the end -/
def fp (q : mv) (k g : Nat) : Nat := if g < ng q k (m_P q) then fsr q k g (m_P q) 0 else m_P q
theorem fp_is {q : mv} {k g : Nat} (h : g < ng q k (m_P q)) : ng q k (fp q k g) = g ∧ ng q k (fp q k g + 1) = g + 1 ∧ fp q k g < m_P q := by
  unfold fp
  rw [if_pos h]
  obtain ⟨h1, h2⟩ := fsr_is (q := q) (k := k) (g := g) h (m_P q) 0 (Nat.zero_add _) (Or.inl rfl)
  exact ⟨h1, h2, fsr_lt q k g h (m_P q) 0 (Nat.zero_add _)⟩
theorem fp_ng {q : mv} {k g : Nat} (h : g ≤ ng q k (m_P q)) : ng q k (fp q k g) = g := by
  by_cases h1 : g < ng q k (m_P q)
  · exact (fp_is h1).1
  · unfold fp
    rw [if_neg h1]
    omega
theorem fp_le {q : mv} {k g : Nat} : fp q k g ≤ m_P q := by
  by_cases h1 : g < ng q k (m_P q)
  · exact Nat.le_of_lt (fp_is h1).2.2
  · unfold fp
    rw [if_neg h1]
    exact Nat.le_refl _
theorem fp_uniq {q : mv} {k i : Nat} (hi : i < m_P q) (h : ng q k (i + 1) = ng q k i + 1) : fp q k (ng q k i) = i := by
  have hl : ng q k i < ng q k (m_P q) := by
    have := ng_le2 q k (show i + 1 ≤ m_P q by omega)
    omega
  obtain ⟨h1, h2, h3⟩ := fp_is hl
  generalize fp q k (ng q k i) = j at *
  rcases Nat.lt_trichotomy i j with z | z | z
  · have := ng_le2 q k (show i + 1 ≤ j by omega)
    omega
  · exact z.symm
  · have := ng_le2 q k (show j + 1 ≤ i by omega)
    omega
theorem fp_lt {q : mv} {k g : Nat} (h : g < ng q k (m_P q)) : fp q k g < fp q k (g + 1) := by
  have h1 := fp_is h
  have h2 := fp_ng (q := q) (k := k) (g := g + 1) (by omega)
  rcases Nat.lt_or_ge (fp q k g) (fp q k (g + 1)) with z | z
  · exact z
  · have := ng_le2 q k z
    omega
theorem bsf_fp {q : mv} {k g : Nat} (h : g < ng q k (m_P q)) : bsf q k (m_P q) g = ky q k (fp q k g) * m_W q k := by
  obtain ⟨h1, h2, h3⟩ := fp_is h
  have h4 := bsf_keep q k g (fp q k g + 1) (by omega) (m_P q - (fp q k g + 1))
  rw [show fp q k g + 1 + (m_P q - (fp q k g + 1)) = m_P q by omega, bsf, if_pos ⟨h1, h2⟩] at h4
  exact h4
/-- figures of the points a, .., b - 1 -/
def rgr (q : mv) (c : Nat) : Nat → Nat → Int32 → Int32
  | 0, _, x => x
  | n + 1, i, x => rgr q c n (i + 1) (jn c x (ow c (m_V q i)))
def rgp (q : mv) (c a b : Nat) : Int32 := rgr q c (b - (a + 1)) (a + 1) (ow c (m_V q a))
theorem rgr_s (q : mv) (c : Nat) : ∀ n i x, rgr q c (n + 1) i x = jn c (rgr q c n i x) (ow c (m_V q (i + n)))
  | 0, i, x => rfl
  | n + 1, i, x => by
    rw [rgr, rgr_s q c n (i + 1), show i + 1 + n = i + (n + 1) by omega]
    rfl
theorem rgp_s {q : mv} {c a b : Nat} (h : a < b) : rgp q c a (b + 1) = jn c (rgp q c a b) (ow c (m_V q b)) := by
  unfold rgp
  rw [show b + 1 - (a + 1) = (b - (a + 1)) + 1 by omega, rgr_s, show a + 1 + (b - (a + 1)) = b by omega]
theorem rgp_1 {q : mv} {c a : Nat} : rgp q c a (a + 1) = ow c (m_V q a) := by
  unfold rgp
  rw [Nat.sub_self]
  rfl
theorem jn_assoc (c : Nat) (x y z : Int32) : jn c (jn c x y) z = jn c x (jn c y z) := by
  unfold jn
  by_cases h0 : c = 0
  · rw [if_pos h0, if_pos h0, if_pos h0, if_pos h0]
    by_cases a1 : y < x <;> by_cases a2 : z < y <;> by_cases a3 : z < x <;> simp only [a1, a2, a3, if_true, if_false] <;> (rw [Int32.lt_iff_toInt_lt] at a1 a2 a3; omega)
  · rw [if_neg h0, if_neg h0, if_neg h0, if_neg h0]
    by_cases h1 : c = 1
    · rw [if_pos h1, if_pos h1, if_pos h1, if_pos h1]
      by_cases a1 : x < y <;> by_cases a2 : y < z <;> by_cases a3 : x < z <;> simp only [a1, a2, a3, if_true, if_false] <;> (rw [Int32.lt_iff_toInt_lt] at a1 a2 a3; omega)
    · rw [if_neg h1, if_neg h1, if_neg h1, if_neg h1]
      exact Int32.add_assoc _ _ _
theorem rgp_app {q : mv} {c a b : Nat} (hab : a < b) : ∀ n, rgp q c a (b + n + 1) = jn c (rgp q c a b) (rgp q c b (b + n + 1))
  | 0 => by rw [rgp_s (by omega), rgp_1]
  | n + 1 => by
    rw [show b + (n + 1) + 1 = (b + n + 1) + 1 from rfl, rgp_s (by omega), rgp_app hab n, rgp_s (show b < b + n + 1 by omega), jn_assoc]
/-- a bucket's figures -/
theorem agf_rgp {q : mv} {k g c : Nat} (h : g < ng q k (m_P q)) : agf q k (m_P q) g c = rgp q c (fp q k g) (fp q k (g + 1)) := by
  obtain ⟨h1, h2, h3⟩ := fp_is h
  have h4 := fp_lt h
  have h5 := fp_ng (q := q) (k := k) (g := g + 1) (by omega)
  have h6 : fp q k (g + 1) ≤ m_P q := fp_le
  have run : ∀ n, fp q k g + 1 + n ≤ fp q k (g + 1) → agf q k (fp q k g + 1 + n) g c = rgp q c (fp q k g) (fp q k g + 1 + n) := by
    intro n
    induction n with
    | zero => intro _; rw [Nat.add_zero, agf, if_pos h2, if_pos h1, rgp_1]
    | succ n ih =>
      intro hn
      have a1 := ng_le2 q k (show fp q k g + 1 ≤ fp q k g + 1 + n by omega)
      have a2 := ng_le2 q k (show fp q k g + 1 + n ≤ fp q k g + 1 + n + 1 by omega)
      have a3 := ng_le2 q k (show fp q k g + 1 + n + 1 ≤ fp q k (g + 1) by omega)
      rw [show fp q k g + 1 + (n + 1) = (fp q k g + 1 + n) + 1 from rfl, agf, if_pos (by omega), if_neg (by omega), ih (by omega), rgp_s (by omega)]
  have e1 := run (fp q k (g + 1) - (fp q k g + 1)) (by omega)
  rw [show fp q k g + 1 + (fp q k (g + 1) - (fp q k g + 1)) = fp q k (g + 1) by omega] at e1
  rw [← e1]
  by_cases hl : g + 1 < ng q k (m_P q)
  · have h7 := (fp_is hl).2.1
    have := agf_keep q k g c (fp q k (g + 1)) (by omega) (m_P q - fp q k (g + 1))
    rw [show fp q k (g + 1) + (m_P q - fp q k (g + 1)) = m_P q by omega] at this
    exact this
  · rw [show fp q k (g + 1) = m_P q by unfold fp; rw [if_neg hl]]
theorem tg_rgp {q : mv} {k : Nat} {s : rgV} (hI : RI q k s) (hkn : kp q k ≤ ng q k (m_P q)) {c x : Nat} (hc : c < 4) : ∀ n, x + n + 1 ≤ v_h s → tg s c x (x + n + 1) = rgp q c (fp q k (gn q k x)) (fp q k (gn q k x + n + 1))
  | 0, hn => by
    obtain ⟨hok, hN, hw, hh, hent, hg⟩ := hI
    rw [show x + 0 + 1 = x + 1 from rfl, tg_1, (hent x (by omega)).2 c hc, agf_rgp (by unfold gn; omega)]
  | n + 1, hn => by
    have ih := tg_rgp (x := x) hI hkn hc n (by omega)
    obtain ⟨hok, hN, hw, hh, hent, hg⟩ := hI
    have hgn : gn q k (x + n + 1) = gn q k x + n + 1 := by unfold gn; omega
    have hl : gn q k x + n + 1 < ng q k (m_P q) := by unfold gn; omega
    have f1 := fp_lt hl
    have f2 : fp q k (gn q k x) < fp q k (gn q k x + n + 1) := by
      rcases Nat.lt_or_ge (fp q k (gn q k x)) (fp q k (gn q k x + n + 1)) with z | z
      · exact z
      · have a1 := ng_le2 q k z
        rw [fp_ng (by omega), fp_ng (by omega)] at a1
        omega
    rw [show x + (n + 1) + 1 = (x + n + 1) + 1 from rfl, tg_s (by omega), ih, (hent (x + n + 1) (by omega)).2 c hc, hgn, agf_rgp hl]
    have := rgp_app (q := q) (c := c) f2 (fp q k (gn q k x + n + 1 + 1) - fp q k (gn q k x + n + 1) - 1)
    rw [show fp q k (gn q k x + n + 1) + (fp q k (gn q k x + n + 1 + 1) - fp q k (gn q k x + n + 1) - 1) + 1 = fp q k (gn q k x + n + 1 + 1) by omega] at this
    exact this.symm
theorem ff_uniq {r : rgV} {t : Int64} {a e : Nat} (ha : a ≤ e) (he : e ≤ v_h r) (h1 : ∀ x, a ≤ x → x < e → (v_E r x).toInt64 < t) (h2 : e < v_h r → ¬ (v_E r e).toInt64 < t) : ff r t a = e := by
  obtain ⟨s1, s2⟩ := ff_spec (r := r) (t := t) (i := a) (by omega)
  have s3 : ff r t a ≤ v_h r := ff_le (by omega)
  have s4 : a ≤ ff r t a := ff_ge
  rcases Nat.lt_trichotomy (ff r t a) e with z | z | z
  · exact absurd (h1 _ s4 z) (s2 (by omega))
  · exact z
  · exact absurd (s1 e ha z) (h2 (by omega))
/-- level K over level F: each coarse bucket agrees -/
theorem agr_of {q : mv} {K F m : Nat} {r s : rgV} (hT : ∀ p, m_T q p < 2 ^ 31) (hu : m_up q) (hW : m_W q K = m_W q F * m) (hm : 1 ≤ m) (hF1 : 1 ≤ m_W q F) (hK9 : m_W q K ≤ 1000000000) (hkK : kp q K ≤ ng q K (m_P q)) (hkF : kp q F ≤ ng q F (m_P q)) (hEF : nE q F = ng q F (m_P q)) (hr : RI q K r) (hs : RI q F s) : agr r s := by
  have hr0 := hr
  have hs0 := hs
  obtain ⟨rok, rN, rw_, rh, rent, rg⟩ := hr
  obtain ⟨sok, sN, sw, sh, sent, sg⟩ := hs
  have hK1 : 1 ≤ m_W q K := by rw [hW]; exact Nat.le_trans hF1 (Nat.le_mul_of_pos_right _ hm)
  have bl : ∀ k g, bsf q k (m_P q) g < 2 ^ 31 := fun k g => bsf_le hT k _ g
  -- the key of the coarser level out of the finer one's
  have kk : ∀ p, ky q K p = ky q F p / m := fun p => by
    show m_T q p / m_W q K = m_T q p / m_W q F / m
    rw [hW, Nat.div_div_eq_div_mul]
  have cross : ∀ g, g < ng q K (m_P q) → ng q F (fp q K g + 1) = ng q F (fp q K g) + 1 := by
    intro g hg
    obtain ⟨a1, a2, a3⟩ := fp_is hg
    rcases ng_s q F (fp q K g) with z | ⟨z1, z2, z3⟩
    · exact z
    · exfalso
      have z4 : sm q K (fp q K g - 1) (fp q K g) := by
        show ky q K _ = ky q K _
        rw [kk, kk]
        exact congrArg (fun z => z / m) z3
      have : ng q K (fp q K g + 1) = ng q K (fp q K g) := by rw [ng, if_neg (fun w => w.elim (fun w => absurd w (by omega)) (fun w => w z4))]
      omega
  have fpF : ∀ g, g ≤ ng q K (m_P q) → fp q F (ng q F (fp q K g)) = fp q K g := by
    intro g hg
    by_cases hl : g < ng q K (m_P q)
    · exact fp_uniq (fp_is hl).2.2 (cross g hl)
    · rw [show fp q K g = m_P q by unfold fp; rw [if_neg hl]]
      unfold fp
      rw [if_neg (Nat.lt_irrefl _)]
  -- starts of fine buckets against a coarse one
  have low : ∀ g G, G < ng q K (m_P q) → g < ng q F (m_P q) → g < ng q F (fp q K G) → bsf q F (m_P q) g < bsf q K (m_P q) G := by
    intro g G hG hg hlt
    obtain ⟨a1, a2, a3⟩ := fp_is hG
    obtain ⟨c1, c2, c3⟩ := fp_is hg
    have hp : fp q F g < fp q K G := by
      rcases Nat.lt_or_ge (fp q F g) (fp q K G) with z | z
      · exact z
      · have := ng_le2 q F z
        omega
    have n1 := ng_le2 q K (show fp q F g + 1 ≤ fp q K G by omega)
    have k1 := kn_lt hu (k := K) (show fp q F g ≤ fp q K G by omega) a3 (by omega)
    rw [bsf_fp hG, bsf_fp hg]
    have k2 : ky q F (fp q F g) * m_W q F ≤ m_T q (fp q F g) := Nat.div_mul_le_self _ _
    have k3 : m_T q (fp q F g) < (ky q K (fp q F g) + 1) * m_W q K := by
      have := Nat.lt_mul_div_succ (m_T q (fp q F g)) (show 0 < m_W q K by omega)
      rw [Nat.mul_comm]
      exact this
    have k4 : (ky q K (fp q F g) + 1) * m_W q K ≤ ky q K (fp q K G) * m_W q K := Nat.mul_le_mul_right _ k1
    omega
  have ge_of : ∀ g, g < ng q F (m_P q) → ky q K (fp q F g) * m_W q K ≤ bsf q F (m_P q) g := by
    intro g hg
    rw [bsf_fp hg, kk, hW, Nat.mul_comm (m_W q F) m, ← Nat.mul_assoc]
    exact Nat.mul_le_mul_right _ (Nat.div_mul_le_self _ _)
  have lt_of : ∀ g, g < ng q F (m_P q) → bsf q F (m_P q) g < (ky q K (fp q F g) + 1) * m_W q K := by
    intro g hg
    rw [bsf_fp hg]
    have k2 : ky q F (fp q F g) * m_W q F ≤ m_T q (fp q F g) := Nat.div_mul_le_self _ _
    have k3 : m_T q (fp q F g) < (ky q K (fp q F g) + 1) * m_W q K := by
      have := Nat.lt_mul_div_succ (m_T q (fp q F g)) (show 0 < m_W q K by omega)
      rw [Nat.mul_comm]
      exact this
    omega
  have high : ∀ g G, G < ng q K (m_P q) → g < ng q F (m_P q) → ng q F (fp q K G) ≤ g → bsf q K (m_P q) G ≤ bsf q F (m_P q) g := by
    intro g G hG hg hle
    obtain ⟨a1, a2, a3⟩ := fp_is hG
    obtain ⟨c1, c2, c3⟩ := fp_is hg
    have hp : fp q K G ≤ fp q F g := by
      rcases Nat.lt_or_ge (fp q F g) (fp q K G) with z | z
      · have := ng_le2 q F (show fp q F g + 1 ≤ fp q K G by omega)
        omega
      · exact z
    have k1 := ky_mono hu K hp c3
    rw [bsf_fp hG]
    exact Nat.le_trans (Nat.mul_le_mul_right _ k1) (ge_of g hg)
  have mid : ∀ g G, G < ng q K (m_P q) → g < ng q F (m_P q) → g < ng q F (fp q K (G + 1)) → bsf q F (m_P q) g < bsf q K (m_P q) G + m_W q K := by
    intro g G hG hg hlt
    obtain ⟨a1, a2, a3⟩ := fp_is hG
    obtain ⟨c1, c2, c3⟩ := fp_is hg
    have hp : fp q F g < fp q K (G + 1) := by
      rcases Nat.lt_or_ge (fp q F g) (fp q K (G + 1)) with z | z
      · exact z
      · have := ng_le2 q F z
        omega
    have n1 := ng_le2 q K (show fp q F g + 1 ≤ fp q K (G + 1) by omega)
    rw [fp_ng (g := G + 1) (by omega)] at n1
    have k1 : ky q K (fp q F g) ≤ ky q K (fp q K G) := by
      rcases Nat.lt_or_ge (fp q F g) (fp q K G) with z | z
      · exact ky_mono hu K (by omega) a3
      · have n2 := ng_le2 q K (show fp q K G + 1 ≤ fp q F g + 1 by omega)
        exact Nat.le_of_eq (kn_eq z (by omega))
    have k2 := lt_of g hg
    have k3 : (ky q K (fp q F g) + 1) * m_W q K ≤ (ky q K (fp q K G) + 1) * m_W q K := Nat.mul_le_mul_right _ (by omega)
    have k4 : (ky q K (fp q K G) + 1) * m_W q K = ky q K (fp q K G) * m_W q K + m_W q K := Nat.succ_mul _ _
    rw [bsf_fp hG]
    omega
  have top : ∀ g G, G < ng q K (m_P q) → g < ng q F (m_P q) → ng q F (fp q K (G + 1)) ≤ g → bsf q K (m_P q) G + m_W q K ≤ bsf q F (m_P q) g := by
    intro g G hG hg hle
    obtain ⟨a1, a2, a3⟩ := fp_is hG
    obtain ⟨c1, c2, c3⟩ := fp_is hg
    have hl : G + 1 < ng q K (m_P q) := by
      rcases Nat.lt_or_ge (G + 1) (ng q K (m_P q)) with z | z
      · exact z
      · rw [show fp q K (G + 1) = m_P q by unfold fp; rw [if_neg (by omega)]] at hle
        omega
    obtain ⟨e1, e2, e3⟩ := fp_is hl
    have hp : fp q K (G + 1) ≤ fp q F g := by
      rcases Nat.lt_or_ge (fp q F g) (fp q K (G + 1)) with z | z
      · have := ng_le2 q F (show fp q F g + 1 ≤ fp q K (G + 1) by omega)
        omega
      · exact z
    have k1 := kn_lt hu (k := K) (Nat.le_of_lt (fp_lt hG)) e3 (by omega)
    have k2 := ky_mono hu K hp c3
    have k3 := ge_of g hg
    have k4 : (ky q K (fp q K G) + 1) * m_W q K ≤ ky q K (fp q F g) * m_W q K := Nat.mul_le_mul_right _ (by omega)
    rw [bsf_fp hG]
    rw [Nat.succ_mul] at k4
    omega
  -- numbers of the machine
  have eF : ∀ e, e < v_h s → (v_E s e).toInt64 = lN (bsf q F (m_P q) (gn q F e)) := fun e he => by rw [(sent e he).1, nI_l (bl _ _)]
  have eK : ∀ i, i < v_h r → (v_E r i).toInt64 = lN (bsf q K (m_P q) (gn q K i)) := fun i hi => by rw [(rent i hi).1, nI_l (bl _ _)]
  have xK : ∀ i, i < v_h r → v_X r i = lN (bsf q K (m_P q) (gn q K i) + m_W q K) := fun i hi => by
    unfold v_X
    rw [eK i hi, rw_, nI_l (by omega), lN_add]
  have gK : ∀ i, i < v_h r → gn q K i < ng q K (m_P q) := fun i hi => by unfold gn; omega
  have gF : ∀ e, e < v_h s → gn q F e < ng q F (m_P q) := fun e he => by unfold gn; omega
  refine ⟨fun i a => i < v_h r → ∀ e, e < a → (v_E s e).toInt64 < (v_E r i).toInt64, fun _ e he => absurd he (Nat.not_lt_zero e), fun i a hi ha hJ => ⟨?_, ?_⟩⟩
  · intro hi1 e he
    have hJ := hJ hi
    have q1 : ff s (v_E r i).toInt64 a ≤ v_h s := ff_le ha
    obtain ⟨s1, s2⟩ := ff_spec (r := s) (t := (v_E r i).toInt64) ha
    obtain ⟨t1, t2⟩ := ff_spec (r := s) (t := v_X r i) q1
    have q2 : ff s (v_X r i) (ff s (v_E r i).toInt64 a) ≤ v_h s := ff_le q1
    have he2 : e < v_h s := by omega
    have g1 : gn q K (i + 1) = gn q K i + 1 := rfl
    have up : bsf q K (m_P q) (gn q K i) + m_W q K ≤ bsf q K (m_P q) (gn q K (i + 1)) := by
      have h1 := gK (i + 1) hi1
      rw [g1] at h1 ⊢
      have h2 := gK i hi
      rw [bsf_fp h2, bsf_fp h1]
      obtain ⟨a1, a2, a3⟩ := fp_is h2
      obtain ⟨c1, c2, c3⟩ := fp_is h1
      have k1 := kn_lt hu (k := K) (Nat.le_of_lt (fp_lt h2)) c3 (by omega)
      have k4 : (ky q K (fp q K (gn q K i)) + 1) * m_W q K ≤ ky q K (fp q K (gn q K i + 1)) * m_W q K := Nat.mul_le_mul_right _ k1
      rw [Nat.succ_mul] at k4
      exact k4
    have b9 := bl K (gn q K i)
    have c9 := bl K (gn q K (i + 1))
    have d9 := bl F (gn q F e)
    have lt1 : bsf q F (m_P q) (gn q F e) < bsf q K (m_P q) (gn q K i) + m_W q K := by
      by_cases z1 : e < a
      · have := hJ e z1
        rw [eF e he2, eK i hi, pk_lLT (by omega) (by omega)] at this
        omega
      · by_cases z2 : e < ff s (v_E r i).toInt64 a
        · have := s1 e (by omega) z2
          rw [eF e he2, eK i hi, pk_lLT (by omega) (by omega)] at this
          omega
        · have := t1 e (by omega) he
          rw [eF e he2, xK i hi, pk_lLT (by omega) (by omega)] at this
          exact this
    rw [eF e he2, eK (i + 1) hi1, pk_lLT (by omega) (by omega)]
    omega
  · intro hgone c hc
    have hJ := hJ hi
    have hG := gK i hi
    have b9 := bl K (gn q K i)
    obtain ⟨a1, a2, a3⟩ := fp_is hG
    have f1 := fp_lt hG
    have f2 : fp q K (gn q K i + 1) ≤ m_P q := fp_le
    have n1 := ng_le2 q F f2
    have n2 := ng_le2 q F (show fp q K (gn q K i) + 1 ≤ fp q K (gn q K i + 1) by omega)
    have n3 := cross (gn q K i) hG
    -- all its fine buckets are kept
    have kept : ng q F (m_P q) - kp q F ≤ ng q F (fp q K (gn q K i)) := by
      rcases kp_cases hEF with z | z
      · omega
      · by_cases w : ng q F (m_P q) ≤ m_R q F
        · omega
        · rw [sg, if_neg w, (rent i hi).1] at hgone
          rcases Nat.lt_or_ge (ng q F (m_P q) - m_R q F - 1) (ng q F (fp q K (gn q K i))) with u | u
          · omega
          · have := high (ng q F (m_P q) - m_R q F - 1) (gn q K i) hG (by omega) u
            exact absurd ((nI_leI (bl _ _) (bl _ _)).mpr this) hgone
    obtain ⟨ea, hea⟩ : ∃ ea, ea + (ng q F (m_P q) - kp q F) = ng q F (fp q K (gn q K i)) := ⟨_, Nat.sub_add_cancel kept⟩
    obtain ⟨eb, heb⟩ : ∃ eb, eb + (ng q F (m_P q) - kp q F) = ng q F (fp q K (gn q K i + 1)) := ⟨_, Nat.sub_add_cancel (by omega)⟩
    have hab : ea < eb := by omega
    have hbh : eb ≤ v_h s := by omega
    have gnE : ∀ e, gn q F e = e + (ng q F (m_P q) - kp q F) := fun e => by unfold gn; omega
    have x1 : ff s (v_E r i).toInt64 a = ea := by
      refine ff_uniq ?_ (by omega) (fun e h1 h2 => ?_) (fun h => ?_)
      · rcases Nat.lt_or_ge ea a with w | w
        · have := hJ ea w
          have d9 := bl F (gn q F ea)
          rw [eF ea (by omega), eK i hi, pk_lLT (by omega) (by omega)] at this
          have := high (gn q F ea) (gn q K i) hG (gF ea (by omega)) (by rw [gnE]; omega)
          omega
        · exact w
      · have d9 := bl F (gn q F e)
        rw [eF e (by omega), eK i hi, pk_lLT (by omega) (by omega)]
        exact low (gn q F e) (gn q K i) hG (gF e (by omega)) (by rw [gnE]; omega)
      · have d9 := bl F (gn q F ea)
        rw [eF ea h, eK i hi, pk_lLT (by omega) (by omega)]
        have := high (gn q F ea) (gn q K i) hG (gF ea h) (by rw [gnE]; omega)
        omega
    have x2 : ff s (v_X r i) ea = eb := by
      refine ff_uniq (by omega) hbh (fun e h1 h2 => ?_) (fun h => ?_)
      · have d9 := bl F (gn q F e)
        rw [eF e (by omega), xK i hi, pk_lLT (by omega) (by omega)]
        exact mid (gn q F e) (gn q K i) hG (gF e (by omega)) (by rw [gnE]; omega)
      · have d9 := bl F (gn q F eb)
        rw [eF eb h, xK i hi, pk_lLT (by omega) (by omega)]
        have := top (gn q F eb) (gn q K i) hG (gF eb h) (by rw [gnE]; omega)
        omega
    rw [x1, x2, (rent i hi).2 c hc, agf_rgp hG]
    have := tg_rgp (x := ea) hs0 hkF hc (eb - ea - 1) (by omega)
    rw [show ea + (eb - ea - 1) + 1 = eb by omega, gnE, show ea + (ng q F (m_P q) - kp q F) + (eb - ea - 1) + 1 = eb + (ng q F (m_P q) - kp q F) by omega, hea, heb, fpF _ (by omega), fpF _ (by omega)] at this
    exact this.symm
