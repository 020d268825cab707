/-! Level 0 and a span. -/
def L0 (q : mv) (r : rgV) : Prop := r_ok r ∧ v_h r = kp q 0 ∧ kp q 0 ≤ m_P q ∧ (∀ j, j < v_h r → v_E r j = nI (m_T q (m_P q - kp q 0 + j)) ∧ ∀ c, c < 4 → v_G r c j = ow c (m_V q (m_P q - kp q 0 + j))) ∧ m_up q ∧ (∀ p, m_T q p < 2 ^ 31) ∧ m_P q ≤ 512 ∧ v_w r = 1
theorem L0_of {q : mv} {r : rgV} (hm : m_ok q) (hW : m_W q 0 = 1) (hu : m_up q) (hI : RI q 0 r) : L0 q r := by
  obtain ⟨hok, hN, hw, hh, hent, hg⟩ := hI
  obtain ⟨hp, hT, hRW, hkn⟩ := hm
  have h1 := ng_0 hW hu (m_P q) (Nat.le_refl _)
  have h2 := hkn 0 (by omega)
  have hgn : ∀ j, gn q 0 j = m_P q - kp q 0 + j := fun j => by unfold gn; rw [h1]
  refine ⟨hok, hh, by omega, fun j hj => ?_, hu, hT, hp, by rw [hw, hW]⟩
  obtain ⟨e1, e2⟩ := hent j hj
  rw [hgn] at e1 e2
  rw [bsf_0 hW hu (by omega)] at e1
  exact ⟨e1, fun c hc => by rw [e2 c hc, agf_0 hW hu (by omega)]⟩
theorem ffr_spec (r : rgV) (t : Int64) : ∀ n i, (∀ x, i ≤ x → x < ffr r t n i → (v_E r x).toInt64 < t) ∧ (ffr r t n i < i + n → ¬ (v_E r (ffr r t n i)).toInt64 < t)
  | 0, i => ⟨fun x h1 h2 => absurd h2 (by unfold ffr; omega), fun h => absurd h (by unfold ffr; omega)⟩
  | n + 1, i => by
    unfold ffr
    by_cases h : (v_E r i).toInt64 < t
    · rw [if_pos h]
      obtain ⟨h1, h2⟩ := ffr_spec r t n (i + 1)
      refine ⟨fun x hx1 hx2 => ?_, fun hz => h2 (by omega)⟩
      rcases Nat.lt_or_eq_of_le hx1 with z | z
      · exact h1 x (by omega) hx2
      · rw [← z]; exact h
    · rw [if_neg h]
      exact ⟨fun x h1 h2 => absurd h2 (by omega), fun _ => h⟩
theorem ff_spec {r : rgV} {t : Int64} {i : Nat} (hi : i ≤ v_h r) : (∀ x, i ≤ x → x < ff r t i → (v_E r x).toInt64 < t) ∧ (ff r t i < v_h r → ¬ (v_E r (ff r t i)).toInt64 < t) := by
  obtain ⟨h1, h2⟩ := ffr_spec r t (v_h r - i) i
  exact ⟨h1, fun h => h2 (by unfold ff at h; omega)⟩
theorem i64_lt (a b : Int32) : a.toInt64 < b.toInt64 ↔ a < b := by
  rw [Int64.lt_iff_toInt_lt, Int32.lt_iff_toInt_lt, Int32.toInt_toInt64, Int32.toInt_toInt64]
theorem i64_le (a b : Int32) : a.toInt64 ≤ b.toInt64 ↔ a ≤ b := by
  rw [Int64.le_iff_toInt_le, Int32.le_iff_toInt_le, Int32.toInt_toInt64, Int32.toInt_toInt64]
theorem l_add {a b : Int64} (h1 : -2 ^ 63 ≤ a.toInt + b.toInt) (h2 : a.toInt + b.toInt < 2 ^ 63) : (a + b).toInt = a.toInt + b.toInt := by
  rw [Int64.toInt_add]
  exact Int.bmod_eq_of_le (by omega) (by omega)
theorem l_sub {a b : Int64} (h1 : -2 ^ 63 ≤ a.toInt - b.toInt) (h2 : a.toInt - b.toInt < 2 ^ 63) : (a - b).toInt = a.toInt - b.toInt := by
  rw [Int64.toInt_sub]
  exact Int.bmod_eq_of_le (by omega) (by omega)
theorem i32_b (a : Int32) : -2 ^ 31 ≤ a.toInt ∧ a.toInt < 2 ^ 31 := ⟨Int32.le_toInt a, Int32.toInt_lt a⟩
theorem l_one : (1 : Int64).toInt = 1 := by decide
theorem i64_lt1 (a b : Int32) : a.toInt64 < b.toInt64 + 1 ↔ ¬ b < a := by
  have h1 := i32_b a
  have h2 := i32_b b
  rw [Int64.lt_iff_toInt_lt, l_add (by rw [Int32.toInt_toInt64, l_one]; omega) (by rw [Int32.toInt_toInt64, l_one]; omega), Int32.toInt_toInt64, Int32.toInt_toInt64, l_one, Int32.lt_iff_toInt_lt]
  omega
theorem L0_mono {q : mv} {r : rgV} (h : L0 q r) {x y : Nat} (hxy : x < y) (hy : y < v_h r) : v_E r x < v_E r y := by
  obtain ⟨hok, hh, hkp, hent, hu, hT, hp, hw⟩ := h
  rw [(hent x (by omega)).1, (hent y hy).1]
  exact nI_lt (m_up_ab hu (by omega) (by omega)) (hT _)
theorem lt_tr {a b c : Int32} (h1 : ¬ b < c) (h2 : b < a) : ¬ a < c := by
  rw [Int32.lt_iff_toInt_lt] at *
  omega
/-- the entries of a span -/
theorem span {q : mv} {r : rgV} (h : L0 q r) (f t : Int32) {x : Nat} (hx : x < v_h r) : inS q f t (m_P q - kp q 0 + x) ↔ (sA r f ≤ x ∧ x < sB r f t) := by
  have hL := h
  obtain ⟨hok, hh, hkp, hent, hu, hT, hp, hw⟩ := h
  have a1 := sA_le r f
  have b1 := sB_le r f t
  have b2 := sB_ge r f t
  have e := (hent x hx).1
  obtain ⟨s1, s2⟩ := ff_spec (r := r) (t := f.toInt64) (Nat.zero_le (v_h r))
  obtain ⟨t1, t2⟩ := ff_spec (r := r) (t := t.toInt64 + 1) a1
  change (∀ x, 0 ≤ x → x < sA r f → _) at s1
  change (sA r f < v_h r → ¬ (v_E r (sA r f)).toInt64 < _) at s2
  change (∀ x, sA r f ≤ x → x < sB r f t → _) at t1
  change (sB r f t < v_h r → ¬ (v_E r (sB r f t)).toInt64 < _) at t2
  have lo : ¬ nI (m_T q (m_P q - kp q 0 + x)) < f ↔ sA r f ≤ x := by
    rw [← e]
    constructor
    · intro z
      exact Nat.le_of_not_lt (fun w => z ((i64_lt _ _).mp (s1 x (Nat.zero_le _) w)))
    · intro z w
      have n1 : ¬ v_E r (sA r f) < f := fun u => s2 (by omega) ((i64_lt _ _).mpr u)
      rcases Nat.lt_or_eq_of_le z with u | u
      · exact lt_tr n1 (L0_mono hL u hx) w
      · rw [u] at n1; exact n1 w
  constructor
  · rintro ⟨i1, i2, i3, i4⟩
    have h1 := lo.mp i3
    refine ⟨h1, Nat.lt_of_not_le (fun w => ?_)⟩
    rw [← e] at i4
    have n1 : t < v_E r (sB r f t) := Decidable.byContradiction (fun u => t2 (by omega) ((i64_lt1 _ _).mpr u))
    rcases Nat.lt_or_eq_of_le w with u | u
    · have := L0_mono hL u hx
      rw [Int32.lt_iff_toInt_lt] at *
      omega
    · rw [u] at n1; exact i4 n1
  · rintro ⟨h1, h2⟩
    refine ⟨by omega, by omega, lo.mpr h1, ?_⟩
    rw [← e]
    exact (i64_lt1 _ _).mp (t1 x h1 h2)
theorem nin {q : mv} {f t : Int32} {p : Nat} (h : p < m_P q - kp q 0) : ¬ inS q f t p := fun z => absurd z.1 (by omega)
/-- many -/
theorem mnc_lo {q : mv} {f t : Int32} : ∀ p, p ≤ m_P q - kp q 0 → mnc q f t p = 0
  | 0, _ => rfl
  | p + 1, h => by rw [mnc, if_neg (nin (by omega)), mnc_lo p (by omega)]
theorem mnc_eq {q : mv} {r : rgV} (h : L0 q r) (f t : Int32) : ∀ n, n ≤ v_h r → mnc q f t (m_P q - kp q 0 + n) = min n (sB r f t) - min n (sA r f)
  | 0, _ => by rw [Nat.add_zero, mnc_lo _ (Nat.le_refl _)]; omega
  | n + 1, hn => by
    have b2 := sB_ge r f t
    have ih := mnc_eq h f t n (by omega)
    have hs := span h f t (x := n) (by omega)
    rw [show m_P q - kp q 0 + (n + 1) = (m_P q - kp q 0 + n) + 1 from rfl, mnc, ih]
    by_cases hc : sA r f ≤ n ∧ n < sB r f t
    · rw [if_pos (hs.mpr hc)]; omega
    · rw [if_neg (fun z => hc (hs.mp z))]; omega
theorem mnc_all {q : mv} {r : rgV} (h : L0 q r) (f t : Int32) : mnc q f t (m_P q) = sB r f t - sA r f := by
  have h1 := mnc_eq h f t (v_h r) (Nat.le_refl _)
  have a1 := sA_le r f
  have b1 := sB_le r f t
  have b2 := sB_ge r f t
  obtain ⟨hok, hh, hkp, -⟩ := h
  rw [show m_P q - kp q 0 + v_h r = m_P q by omega] at h1
  omega
/-- sum -/
theorem smr_s (r : rgV) : ∀ n i x, smr r (n + 1) i x = smr r n i x + (v_G r 2 (i + n)).toInt64
  | 0, i, x => rfl
  | n + 1, i, x => by
    rw [smr, smr_s r n (i + 1), show i + 1 + n = i + (n + 1) by omega]
    rfl
theorem smq_lo {q : mv} {f t : Int32} : ∀ p, p ≤ m_P q - kp q 0 → smq q f t p = 0
  | 0, _ => rfl
  | p + 1, h => by rw [smq, if_neg (nin (by omega)), smq_lo p (by omega)]
theorem smq_eq {q : mv} {r : rgV} (h : L0 q r) (f t : Int32) : ∀ n, n ≤ v_h r → smq q f t (m_P q - kp q 0 + n) = smr r (min n (sB r f t) - min n (sA r f)) (sA r f) 0
  | 0, _ => by
    rw [Nat.add_zero, smq_lo _ (Nat.le_refl _), show min 0 (sB r f t) - min 0 (sA r f) = 0 by omega]
    rfl
  | n + 1, hn => by
    have b2 := sB_ge r f t
    have ih := smq_eq h f t n (by omega)
    have hs := span h f t (x := n) (by omega)
    rw [show m_P q - kp q 0 + (n + 1) = (m_P q - kp q 0 + n) + 1 from rfl, smq, ih]
    by_cases hc : sA r f ≤ n ∧ n < sB r f t
    · rw [if_pos (hs.mpr hc), show min (n + 1) (sB r f t) - min (n + 1) (sA r f) = (min n (sB r f t) - min n (sA r f)) + 1 by omega, smr_s, show sA r f + (min n (sB r f t) - min n (sA r f)) = n by omega]
      obtain ⟨hok, hh, hkp, hent, -⟩ := h
      rw [(hent n (by omega)).2 2 (by omega)]
      rfl
    · rw [if_neg (fun z => hc (hs.mp z)), show min (n + 1) (sB r f t) - min (n + 1) (sA r f) = min n (sB r f t) - min n (sA r f) by omega]
theorem smq_all {q : mv} {r : rgV} (h : L0 q r) (f t : Int32) : smq q f t (m_P q) = smr r (sB r f t - sA r f) (sA r f) 0 := by
  have h1 := smq_eq h f t (v_h r) (Nat.le_refl _)
  have a1 := sA_le r f
  have b1 := sB_le r f t
  have b2 := sB_ge r f t
  obtain ⟨hok, hh, hkp, -⟩ := h
  rw [show m_P q - kp q 0 + v_h r = m_P q by omega, show min (v_h r) (sB r f t) - min (v_h r) (sA r f) = sB r f t - sA r f by omega] at h1
  exact h1
/-- extreme -/
theorem tgr_s (r : rgV) (k : Nat) : ∀ n i x, tgr r k (n + 1) i x = jn k (tgr r k n i x) (v_G r k (i + n))
  | 0, i, x => rfl
  | n + 1, i, x => by
    rw [tgr, tgr_s r k n (i + 1), show i + 1 + n = i + (n + 1) by omega]
    rfl
theorem tg_s {r : rgV} {k a n : Nat} (h : a < n) : tg r k a (n + 1) = jn k (tg r k a n) (v_G r k n) := by
  unfold tg
  rw [if_pos (by omega), if_pos h, show n + 1 - (a + 1) = (n - (a + 1)) + 1 by omega, tgr_s, show a + 1 + (n - (a + 1)) = n by omega]
theorem tg_1 {r : rgV} {k a : Nat} : tg r k a (a + 1) = v_G r k a := by
  unfold tg
  rw [if_pos (by omega), Nat.sub_self]
  rfl
theorem tg_0 {r : rgV} {k a b : Nat} (h : b ≤ a) : tg r k a b = 0 := by
  unfold tg
  rw [if_neg (by omega)]
theorem exq_lo {q : mv} {f t g : Int32} : ∀ p, p ≤ m_P q - kp q 0 → exq q f t g p = 0
  | 0, _ => rfl
  | p + 1, h => by rw [exq, if_neg (nin (by omega)), exq_lo p (by omega)]
theorem exq_eq {q : mv} {r : rgV} (h : L0 q r) (f t g : Int32) {k : Nat} (hg : (g < 0 ∧ k = 0) ∨ (¬ g < 0 ∧ k = 1)) : ∀ n, n ≤ v_h r → exq q f t g (m_P q - kp q 0 + n) = tg r k (sA r f) (min n (sB r f t))
  | 0, _ => by rw [Nat.add_zero, exq_lo _ (Nat.le_refl _), tg_0 (by omega)]
  | n + 1, hn => by
    have b2 := sB_ge r f t
    have ih := exq_eq h f t g hg n (by omega)
    have hs := span h f t (x := n) (by omega)
    have hc := mnc_eq h f t n (by omega)
    have hv : v_G r k n = m_V q (m_P q - kp q 0 + n) := by
      obtain ⟨hok, hh, hkp, hent, -⟩ := h
      rw [(hent n (by omega)).2 k (by omega)]
      unfold ow
      rw [if_neg (by omega)]
    rw [show m_P q - kp q 0 + (n + 1) = (m_P q - kp q 0 + n) + 1 from rfl, exq, ih, hc]
    by_cases hc : sA r f ≤ n ∧ n < sB r f t
    · rw [if_pos (hs.mpr hc), show min (n + 1) (sB r f t) = n + 1 by omega, show min n (sB r f t) = n by omega]
      rcases Nat.lt_or_eq_of_le hc.1 with z | z
      · rw [tg_s z, hv]
        rcases hg with ⟨g1, rfl⟩ | ⟨g1, rfl⟩
        · show _ = (if m_V q (m_P q - kp q 0 + n) < tg r 0 (sA r f) n then m_V q (m_P q - kp q 0 + n) else tg r 0 (sA r f) n)
          by_cases w : m_V q (m_P q - kp q 0 + n) < tg r 0 (sA r f) n
          · rw [if_pos (Or.inr (by rw [if_pos g1]; exact w)), if_pos w]
          · rw [if_neg (fun u => u.elim (fun u => absurd u (by omega)) (fun u => by rw [if_pos g1] at u; exact w u)), if_neg w]
        · show _ = (if tg r 1 (sA r f) n < m_V q (m_P q - kp q 0 + n) then m_V q (m_P q - kp q 0 + n) else tg r 1 (sA r f) n)
          by_cases w : tg r 1 (sA r f) n < m_V q (m_P q - kp q 0 + n)
          · rw [if_pos (Or.inr (by rw [if_neg g1]; exact w)), if_pos w]
          · rw [if_neg (fun u => u.elim (fun u => absurd u (by omega)) (fun u => by rw [if_neg g1] at u; exact w u)), if_neg w]
      · rw [z, tg_1, if_pos (Or.inl (by omega)), hv]
    · rw [if_neg (fun z => hc (hs.mp z))]
      by_cases hb : n < sB r f t
      · rw [tg_0 (by omega), tg_0 (by omega)]
      · rw [show min (n + 1) (sB r f t) = min n (sB r f t) by omega]
theorem exM_eq {q : mv} {r : rgV} (h : L0 q r) (f t : Int32) : exM q f t 1 = tg r 1 (sA r f) (sB r f t) ∧ exM q f t (-1) = tg r 0 (sA r f) (sB r f t) ∧ ∀ g, ¬ g = 1 → ¬ g = -1 → exM q f t g = 0 := by
  have a1 := sA_le r f
  have b1 := sB_le r f t
  have b2 := sB_ge r f t
  have hk : v_h r = kp q 0 ∧ kp q 0 ≤ m_P q := ⟨h.2.1, h.2.2.1⟩
  have e1 := exq_eq h f t 1 (k := 1) (Or.inr ⟨by decide, rfl⟩) (v_h r) (Nat.le_refl _)
  have e2 := exq_eq h f t (-1) (k := 0) (Or.inl ⟨by decide, rfl⟩) (v_h r) (Nat.le_refl _)
  rw [show m_P q - kp q 0 + v_h r = m_P q by omega, show min (v_h r) (sB r f t) = sB r f t by omega] at e1 e2
  refine ⟨?_, ?_, fun g h1 h2 => ?_⟩
  · unfold exM; rw [if_pos (Or.inl rfl), e1]
  · unfold exM; rw [if_pos (Or.inr rfl), e2]
  · unfold exM; rw [if_neg (fun z => z.elim h1 h2)]
