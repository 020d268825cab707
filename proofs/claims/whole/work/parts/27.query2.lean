theorem cv_mono {P1 P2 : Int32 → Bool} (h : ∀ x, P1 x = true → P2 x = true) (r : rgV) : ∀ n i, cv P1 r n i ≤ cv P2 r n i
  | 0, _ => Nat.le_refl _
  | n + 1, i => by
    have ih := cv_mono h r n (i + 1)
    rw [cv, cv]
    by_cases h1 : P1 (v_G r 2 i) = true
    · rw [if_pos h1, if_pos (h _ h1)]; omega
    · rw [if_neg h1]
      split <;> omega
theorem blw_eq {q : mv} {r : rgV} (h : L0 q r) (f t v : Int32) : ∀ n, n ≤ v_h r → blw q f t v (m_P q - kp q 0 + n) = cv (fun x => decide (x < v)) r (min n (sB r f t) - min n (sA r f)) (sA r f)
  | 0, _ => by
    have lo : ∀ p, p ≤ m_P q - kp q 0 → blw q f t v p = 0 := by
      intro p
      induction p with
      | zero => intro _; rfl
      | succ p ih => intro hp; rw [blw, if_neg (fun z => nin (by omega) z.1), ih (by omega)]
    rw [Nat.add_zero, lo _ (Nat.le_refl _), show min 0 (sB r f t) - min 0 (sA r f) = 0 by omega]
    rfl
  | n + 1, hn => by
    have b2 := sB_ge r f t
    have ih := blw_eq h f t v n (by omega)
    have hs := span h f t (x := n) (by omega)
    rw [show m_P q - kp q 0 + (n + 1) = (m_P q - kp q 0 + n) + 1 from rfl, blw, ih]
    by_cases hc : sA r f ≤ n ∧ n < sB r f t
    · rw [show min (n + 1) (sB r f t) - min (n + 1) (sA r f) = (min n (sB r f t) - min n (sA r f)) + 1 by omega, cv_s, show sA r f + (min n (sB r f t) - min n (sA r f)) = n by omega]
      obtain ⟨hok, hh, hkp, hent, -⟩ := h
      rw [(hent n (by omega)).2 2 (by omega), show ow 2 (m_V q (m_P q - kp q 0 + n)) = m_V q (m_P q - kp q 0 + n) from rfl]
      by_cases hv : m_V q (m_P q - kp q 0 + n) < v
      · rw [if_pos ⟨hs.mpr hc, hv⟩, if_pos (decide_eq_true hv)]
      · rw [if_neg (fun z => hv z.2), if_neg (fun z => hv (of_decide_eq_true z))]; rfl
    · rw [if_neg (fun z => hc (hs.mp z.1)), show min (n + 1) (sB r f t) - min (n + 1) (sA r f) = min n (sB r f t) - min n (sA r f) by omega]
theorem eqv_eq {q : mv} {r : rgV} (h : L0 q r) (f t v : Int32) : ∀ n, n ≤ v_h r → eqv q f t v (m_P q - kp q 0 + n) = cv (fun x => decide (x = v)) r (min n (sB r f t) - min n (sA r f)) (sA r f)
  | 0, _ => by
    have lo : ∀ p, p ≤ m_P q - kp q 0 → eqv q f t v p = 0 := by
      intro p
      induction p with
      | zero => intro _; rfl
      | succ p ih => intro hp; rw [eqv, if_neg (fun z => nin (by omega) z.1), ih (by omega)]
    rw [Nat.add_zero, lo _ (Nat.le_refl _), show min 0 (sB r f t) - min 0 (sA r f) = 0 by omega]
    rfl
  | n + 1, hn => by
    have b2 := sB_ge r f t
    have ih := eqv_eq h f t v n (by omega)
    have hs := span h f t (x := n) (by omega)
    rw [show m_P q - kp q 0 + (n + 1) = (m_P q - kp q 0 + n) + 1 from rfl, eqv, ih]
    by_cases hc : sA r f ≤ n ∧ n < sB r f t
    · rw [show min (n + 1) (sB r f t) - min (n + 1) (sA r f) = (min n (sB r f t) - min n (sA r f)) + 1 by omega, cv_s, show sA r f + (min n (sB r f t) - min n (sA r f)) = n by omega]
      obtain ⟨hok, hh, hkp, hent, -⟩ := h
      rw [(hent n (by omega)).2 2 (by omega), show ow 2 (m_V q (m_P q - kp q 0 + n)) = m_V q (m_P q - kp q 0 + n) from rfl]
      by_cases hv : m_V q (m_P q - kp q 0 + n) = v
      · rw [if_pos ⟨hs.mpr hc, hv⟩, if_pos (decide_eq_true hv)]
      · rw [if_neg (fun z => hv z.2), if_neg (fun z => hv (of_decide_eq_true z))]; rfl
    · rw [if_neg (fun z => hc (hs.mp z.1)), show min (n + 1) (sB r f t) - min (n + 1) (sA r f) = min n (sB r f t) - min n (sA r f) by omega]
theorem md_eq {q : mv} {r : rgV} (h : L0 q r) (g : Nat → Int32) (f t : Int32) : mdM q f t = mdV r g f t := by
  have a1 := sA_le r f
  have b1 := sB_le r f t
  have b2 := sB_ge r f t
  have hk : v_h r = kp q 0 ∧ kp q 0 ≤ m_P q := ⟨h.2.1, h.2.2.1⟩
  have hm := mnc_all h f t
  unfold mdM mdV
  rw [hm]
  by_cases h0 : sA r f = sB r f t
  · rw [if_pos (by omega), if_pos h0]
  · rw [if_neg (by omega), if_neg h0]
    have hB : ∀ v, blw q f t v (m_P q) = cv (fun x => decide (x < v)) r (sB r f t - sA r f) (sA r f) := fun v => by
      have := blw_eq h f t v (v_h r) (Nat.le_refl _)
      rw [show m_P q - kp q 0 + v_h r = m_P q by omega, show min (v_h r) (sB r f t) - min (v_h r) (sA r f) = sB r f t - sA r f by omega] at this
      exact this
    have hQ : ∀ v, eqv q f t v (m_P q) = cv (fun x => decide (x = v)) r (sB r f t - sA r f) (sA r f) := fun v => by
      have := eqv_eq h f t v (v_h r) (Nat.le_refl _)
      rw [show m_P q - kp q 0 + v_h r = m_P q by omega, show min (v_h r) (sB r f t) - min (v_h r) (sA r f) = sB r f t - sA r f by omega] at this
      exact this
    have hle : ∀ v, cv (fun x => decide (x ≤ v)) r (sB r f t - sA r f) (sA r f) = cv (fun x => decide (x < v)) r (sB r f t - sA r f) (sA r f) + cv (fun x => decide (x = v)) r (sB r f t - sA r f) (sA r f) := fun v => by
      refine cv_add _ _ _ (fun x => ?_) r _ _
      by_cases h1 : x < v
      · have h2 : x ≤ v := i_lt_le h1
        have h3 : ¬ x = v := fun z => by rw [z, Int32.lt_iff_toInt_lt] at h1; omega
        rw [if_pos (decide_eq_true h2), if_pos (decide_eq_true h1), if_neg (fun z => h3 (of_decide_eq_true z))]
      · by_cases h3 : x = v
        · have h2 : x ≤ v := by rw [h3, Int32.le_iff_toInt_le]; omega
          rw [if_pos (decide_eq_true h2), if_neg (fun z => h1 (of_decide_eq_true z)), if_pos (decide_eq_true h3)]
        · have h2 : ¬ x ≤ v := fun z => by
            rw [Int32.lt_iff_toInt_lt] at h1
            rw [Int32.le_iff_toInt_le] at z
            exact h3 (Int32.toInt_inj.mp (by omega))
          rw [if_neg (fun z => h2 (of_decide_eq_true z)), if_neg (fun z => h1 (of_decide_eq_true z)), if_neg (fun z => h3 (of_decide_eq_true z))]
    obtain ⟨hs, hc⟩ := msr_ok r (sB r f t - sA r f) (sA r f) 0 g (fun i j h1 h2 => absurd h2 (by omega))
    rw [Nat.zero_add] at hs hc
    generalize hsx : msr r (sB r f t - sA r f) (sA r f) 0 g = sx at hs hc ⊢
    obtain ⟨m, hmd⟩ : ∃ m, m = (sB r f t - sA r f - 1) / 2 := ⟨_, rfl⟩
    rw [← hmd]
    have hml : m < sB r f t - sA r f := by omega
    have c1 : cv (fun x => decide (x < sx m)) r (sB r f t - sA r f) (sA r f) ≤ m := by
      have := cnt_le (P := fun x => decide (x < sx m)) (g := sx) (sB r f t - sA r f) m (by omega) (fun i h1 h2 z => by
        have z := of_decide_eq_true z
        rcases Nat.lt_or_eq_of_le h1 with w | w
        · have := hs m i w h2
          rw [Int32.lt_iff_toInt_lt] at z
          rw [Int32.le_iff_toInt_le] at this
          omega
        · rw [w, Int32.lt_iff_toInt_lt] at z; omega)
      rw [hc] at this
      have h9 : cnt (fun x => decide (x < sx m)) g 0 = 0 := rfl
      omega
    have c2 : m + 1 ≤ cv (fun x => decide (x ≤ sx m)) r (sB r f t - sA r f) (sA r f) := by
      have := cnt_ge (P := fun x => decide (x ≤ sx m)) (g := sx) (sB r f t - sA r f) (m + 1) (by omega) (fun i h1 => by
        refine decide_eq_true ?_
        rcases Nat.lt_or_eq_of_le (Nat.le_of_lt_succ h1) with w | w
        · exact hs i m w hml
        · rw [w, Int32.le_iff_toInt_le]; omega)
      rw [hc] at this
      have h9 : cnt (fun x => decide (x ≤ sx m)) g 0 = 0 := rfl
      omega
    have uniq : ∀ p, mdc q f t p → m_V q p = sx m := by
      intro p ⟨p1, p2, p3⟩
      rw [hm, ← hmd, hB] at p2
      rw [hm, ← hmd, hB, hQ, ← hle] at p3
      by_cases w1 : m_V q p < sx m
      · have := cv_mono (P1 := fun x => decide (x ≤ m_V q p)) (P2 := fun x => decide (x < sx m)) (fun x z => decide_eq_true (by
          have z := of_decide_eq_true z
          rw [Int32.lt_iff_toInt_lt] at *
          rw [Int32.le_iff_toInt_le] at z
          omega)) r (sB r f t - sA r f) (sA r f)
        omega
      · by_cases w2 : sx m < m_V q p
        · have := cv_mono (P1 := fun x => decide (x ≤ sx m)) (P2 := fun x => decide (x < m_V q p)) (fun x z => decide_eq_true (by
            have z := of_decide_eq_true z
            rw [Int32.lt_iff_toInt_lt] at *
            rw [Int32.le_iff_toInt_le] at z
            omega)) r (sB r f t - sA r f) (sA r f)
          omega
        · rw [Int32.lt_iff_toInt_lt] at w1 w2
          exact Int32.toInt_inj.mp (by omega)
    have ex : ∃ p, p < m_P q ∧ mdc q f t p := by
      have hpos : 0 < cv (fun x => decide (x = sx m)) r (sB r f t - sA r f) (sA r f) := by
        have := hle (sx m)
        omega
      obtain ⟨x, x1, x2, x3⟩ := cv_ex _ r _ _ hpos
      have x3 := of_decide_eq_true x3
      have hv : m_V q (m_P q - kp q 0 + x) = sx m := by
        obtain ⟨hok, hh, hkp, hent, -⟩ := h
        rw [(hent x (by omega)).2 2 (by omega)] at x3
        exact x3
      refine ⟨m_P q - kp q 0 + x, by omega, (span h f t (x := x) (by omega)).mpr ⟨x1, by omega⟩, ?_, ?_⟩
      · rw [hm, ← hmd, hv, hB]; exact c1
      · rw [hm, ← hmd, hv, hB, hQ, ← hle]; omega
    have run : ∀ n p, p + n = m_P q → (∃ p', p ≤ p' ∧ p' < m_P q ∧ mdc q f t p') → mdr q f t n p = sx m := by
      intro n
      induction n with
      | zero => intro p hp ⟨p', h1, h2, _⟩; omega
      | succ n ih =>
        intro p hp ⟨p', h1, h2, h3⟩
        rw [mdr]
        by_cases hc : mdc q f t p
        · rw [if_pos hc]; exact uniq p hc
        · rw [if_neg hc]
          refine ih (p + 1) (by omega) ⟨p', ?_, h2, h3⟩
          rcases Nat.lt_or_eq_of_le h1 with w | w
          · omega
          · rw [← w] at h3; exact absurd h3 hc
    obtain ⟨p, p1, p2⟩ := ex
    exact run (m_P q) 0 (by omega) ⟨p, Nat.zero_le _, p1, p2⟩
/-! reach -/
theorem mwr_s (r : rgV) (f t : Int64) : ∀ n i x, mwr r f t (n + 1) i x = if f ≤ (v_E r (i + n)).toInt64 ∧ v_X r (i + n) ≤ t + 1 then mwr r f t n i x + (v_G r 3 (i + n)).toInt64 else mwr r f t n i x
  | 0, i, x => rfl
  | n + 1, i, x => by
    rw [mwr, mwr_s r f t n (i + 1), show i + 1 + n = i + (n + 1) by omega]
    rfl
theorem lNI {n : Nat} (h : n < 2 ^ 62) : (lN n).toInt = (n : Int) := pk_lT (by omega)
/-- a bucket's level: the rings' sum is the reference's -/
theorem mw_wh {q : mv} {k : Nat} {r : rgV} (hT : ∀ p, m_T q p < 2 ^ 31) (hkn : kp q k ≤ ng q k (m_P q)) (hW : 1 ≤ m_W q k ∧ m_W q k ≤ 1000000000) (hI : RI q k r) (f t : Int32) (L B : Int64) (hL : -2 ^ 40 ≤ L.toInt ∧ L.toInt < 2 ^ 40) (hLB : L.toInt = min t.toInt (B.toInt - 1)) : ∀ n, n ≤ v_h r → mwr r f.toInt64 L n 0 0 = whq q k f t B n
  | 0, _ => rfl
  | n + 1, hn => by
    have ih := mw_wh hT hkn hW hI f t L B hL hLB n (by omega)
    obtain ⟨hok, hN, hw, hh, hent, hg⟩ := hI
    obtain ⟨e1, e2⟩ := hent n (by omega)
    have hb : bg q k n < 2 ^ 31 := by rw [bg_eq hkn (by omega)]; exact bsf_le hT k _ _
    rw [← bg_eq hkn (by omega)] at e1
    have e3 : v_G r 3 n = fg q k n 3 := by rw [e2 3 (by omega), fg_eq hkn (by omega) (by omega)]
    rw [mwr_s, Nat.zero_add, whq, ih, e3]
    have x1 : (v_E r n).toInt64 = lN (bg q k n) := by rw [e1, nI_l hb]
    have x2 : v_X r n = lN (bg q k n + m_W q k) := by unfold v_X; rw [x1, hw, nI_l (by omega), lN_add]
    have x3 : (L + 1).toInt = L.toInt + 1 := by
      rw [l_add (by rw [l_one]; omega) (by rw [l_one]; omega), l_one]
    have iff : (f.toInt64 ≤ (v_E r n).toInt64 ∧ v_X r n ≤ L + 1) ↔ (f.toInt64 ≤ lN (bg q k n) ∧ lN (bg q k n + m_W q k - 1) ≤ t.toInt64 ∧ lN (bg q k n + m_W q k - 1) < B) := by
      rw [x1, x2]
      rw [Int64.le_iff_toInt_le (x := lN (bg q k n + m_W q k)), Int64.le_iff_toInt_le (x := lN (bg q k n + m_W q k - 1)), Int64.lt_iff_toInt_lt (x := lN (bg q k n + m_W q k - 1)), x3, lNI (by omega), lNI (by omega), Int32.toInt_toInt64]
      constructor
      · rintro ⟨z1, z2⟩
        exact ⟨z1, by omega, by omega⟩
      · rintro ⟨z1, z2, z3⟩
        exact ⟨z1, by omega⟩
    by_cases hc : f.toInt64 ≤ (v_E r n).toInt64 ∧ v_X r n ≤ L + 1
    · rw [if_pos hc, if_pos (iff.mp hc)]
    · rw [if_neg hc, if_neg (fun z => hc (iff.mpr z))]
theorem mw_0 {q : mv} {r : rgV} (h : L0 q r) (f t : Int32) : ∀ n, n ≤ v_h r → mwr r f.toInt64 t.toInt64 n 0 0 = lN (min n (sB r f t) - min n (sA r f))
  | 0, _ => by rw [show min 0 (sB r f t) - min 0 (sA r f) = 0 by omega]; rfl
  | n + 1, hn => by
    have b2 := sB_ge r f t
    have ih := mw_0 h f t n (by omega)
    have hs := span h f t (x := n) (by omega)
    obtain ⟨hok, hh, hkp, hent, hu, hT, hp, hw⟩ := h
    obtain ⟨e1, e2⟩ := hent n (by omega)
    have g3 : v_G r 3 n = 1 := by rw [e2 3 (by omega)]; rfl
    have et := i32_b t
    have ee := i32_b (v_E r n)
    have x2 : (v_X r n).toInt = (v_E r n).toInt + 1 := by
      unfold v_X
      rw [hw, nI_l (by omega), l_add (by rw [Int32.toInt_toInt64, lNI (by omega)]; omega) (by rw [Int32.toInt_toInt64, lNI (by omega)]; omega), Int32.toInt_toInt64, lNI (by omega)]
      rfl
    have x3 : (t.toInt64 + 1).toInt = t.toInt + 1 := by
      rw [l_add (by rw [Int32.toInt_toInt64, l_one]; omega) (by rw [Int32.toInt_toInt64, l_one]; omega), Int32.toInt_toInt64, l_one]
    have iff : (f.toInt64 ≤ (v_E r n).toInt64 ∧ v_X r n ≤ t.toInt64 + 1) ↔ inS q f t (m_P q - kp q 0 + n) := by
      rw [i64_le, Int64.le_iff_toInt_le, x2, x3, Int32.le_iff_toInt_le]
      constructor
      · rintro ⟨z1, z2⟩
        refine ⟨by omega, by omega, ?_, ?_⟩
        · rw [← e1, Int32.lt_iff_toInt_lt]; omega
        · rw [← e1, Int32.lt_iff_toInt_lt]; omega
      · rintro ⟨z1, z2, z3, z4⟩
        rw [← e1, Int32.lt_iff_toInt_lt] at z3 z4
        exact ⟨by omega, by omega⟩
    rw [mwr_s, Nat.zero_add, ih, g3]
    by_cases hc : sA r f ≤ n ∧ n < sB r f t
    · rw [if_pos (iff.mpr (hs.mpr hc)), show min (n + 1) (sB r f t) - min (n + 1) (sA r f) = (min n (sB r f t) - min n (sA r f)) + 1 by omega, ← lN_1]
      rfl
    · rw [if_neg (fun z => hc (hs.mp (iff.mp z))), show min (n + 1) (sB r f t) - min (n + 1) (sA r f) = min n (sB r f t) - min n (sA r f) by omega]
theorem mnl_int (x y : Int64) : (mnl x y).toInt = min x.toInt y.toInt := by
  unfold mnl
  by_cases h : y < x
  · rw [if_pos h, Int64.lt_iff_toInt_lt] at *
    omega
  · rw [if_neg h]
    rw [Int64.lt_iff_toInt_lt] at h
    omega
theorem rc_eq {q : mv} {r0 r1 r2 : rgV} (h : L0 q r0) (hm : m_ok q) (hE : ∀ k, k < 3 → nE q k = ng q k (m_P q)) (h1 : RI q 1 r1) (h2 : RI q 2 r2) (f t : Int32) : rcM q f t = rcV r0 r1 r2 f t := by
  obtain ⟨hp, hT, hRW, hkn⟩ := hm
  have et := i32_b t
  unfold rcM rcV
  by_cases h0 : m_P q = 0
  · rw [if_pos h0]
    have z : ∀ k, k < 3 → kp q k = 0 := fun k hk => by
      have := hkn k hk
      rw [h0] at this
      exact Nat.le_zero.mp this
    have z0 : v_h r0 = 0 := by rw [h.2.1]; exact z 0 (by omega)
    have z1 : v_h r1 = 0 := by rw [h1.2.2.2.1]; exact z 1 (by omega)
    have z2 : v_h r2 = 0 := by rw [h2.2.2.2.1]; exact z 2 (by omega)
    unfold mw
    rw [z0, z1, z2]
    rfl
  · rw [if_neg h0]
    have kpos : ∀ k, k < 3 → 1 ≤ kp q k := fun k hk => by
      have := ng_pos q k (m_P q) (by omega)
      have h9 := hRW k hk
      rcases kp_cases (hE k hk) with z | z <;> omega
    have k0 := kpos 0 (by omega)
    have k1 := kpos 1 (by omega)
    have hh0 := h.2.1
    have hh1 := h1.2.2.2.1
    have hh2 := h2.2.2.2.1
    have s0 : st0 r0 = nI (m_T q (m_P q - kp q 0)) := by
      unfold st0
      rw [if_pos (by omega), (h.2.2.2.1 0 (by omega)).1]
      rfl
    have s1 : st0 r1 = nI (bg q 1 0) := by
      unfold st0
      rw [if_pos (by omega), (h1.2.2.2.2.1 0 (by omega)).1, bg_eq (hkn 1 (by omega)) (by omega)]
    have b1 : bg q 1 0 < 2 ^ 31 := by rw [bg_eq (hkn 1 (by omega)) (by omega)]; exact bsf_le hT 1 _ _
    have bT := hT (m_P q - kp q 0)
    have f0 : ((st0 r0).toInt64 - 1).toInt = (m_T q (m_P q - kp q 0) : Int) - 1 := by
      rw [s0, nI_l bT, l_sub (by rw [lNI (by omega), l_one]; omega) (by rw [lNI (by omega), l_one]; omega), lNI (by omega), l_one]
    have f1 : ((st0 r1).toInt64 - 1).toInt = (bg q 1 0 : Int) - 1 := by
      rw [s1, nI_l b1, l_sub (by rw [lNI (by omega), l_one]; omega) (by rw [lNI (by omega), l_one]; omega), lNI (by omega), l_one]
    have l1 : (mnl t.toInt64 ((st0 r0).toInt64 - 1)).toInt = min t.toInt ((m_T q (m_P q - kp q 0) : Int) - 1) := by rw [mnl_int, f0, Int32.toInt_toInt64]
    have l2 : (mnl (mnl t.toInt64 ((st0 r0).toInt64 - 1)) ((st0 r1).toInt64 - 1)).toInt = min (min t.toInt ((m_T q (m_P q - kp q 0) : Int) - 1)) ((bg q 1 0 : Int) - 1) := by rw [mnl_int, f1, l1]
    have bF : (nI (m_T q (m_P q - kp q 0))).toInt64.toInt = (m_T q (m_P q - kp q 0) : Int) := by rw [nI_l bT, lNI (by omega)]
    have bG : (if lN (bg q 1 0) < (nI (m_T q (m_P q - kp q 0))).toInt64 then lN (bg q 1 0) else (nI (m_T q (m_P q - kp q 0))).toInt64).toInt = min (bg q 1 0 : Int) (m_T q (m_P q - kp q 0) : Int) := by
      by_cases hz : lN (bg q 1 0) < (nI (m_T q (m_P q - kp q 0))).toInt64
      · rw [if_pos hz]
        rw [Int64.lt_iff_toInt_lt, bF, lNI (by omega)] at hz
        rw [lNI (by omega)]
        omega
      · rw [if_neg hz]
        rw [Int64.lt_iff_toInt_lt, bF, lNI (by omega)] at hz
        rw [bF]
        omega
    have w1 := mw_wh hT (hkn 1 (by omega)) ⟨(hRW 1 (by omega)).2.2.1, (hRW 1 (by omega)).2.2.2⟩ h1 f t (mnl t.toInt64 ((st0 r0).toInt64 - 1)) (nI (m_T q (m_P q - kp q 0))).toInt64 (by rw [l1]; omega) (by rw [l1, bF]) (v_h r1) (Nat.le_refl _)
    have w2 := mw_wh hT (hkn 2 (by omega)) ⟨(hRW 2 (by omega)).2.2.1, (hRW 2 (by omega)).2.2.2⟩ h2 f t (mnl (mnl t.toInt64 ((st0 r0).toInt64 - 1)) ((st0 r1).toInt64 - 1)) (if lN (bg q 1 0) < (nI (m_T q (m_P q - kp q 0))).toInt64 then lN (bg q 1 0) else (nI (m_T q (m_P q - kp q 0))).toInt64) (by rw [l2]; omega) (by rw [l2, bG]; omega) (v_h r2) (Nat.le_refl _)
    have w0 := mw_0 h f t (v_h r0) (Nat.le_refl _)
    have hm := mnc_all h f t
    have c4 := h.2.2.1
    have c1 := sA_le r0 f
    have c2 := sB_le r0 f t
    have c3 := sB_ge r0 f t
    rw [show min (v_h r0) (sB r0 f t) - min (v_h r0) (sA r0 f) = sB r0 f t - sA r0 f by omega] at w0
    unfold mw
    rw [w0, w1, w2, hm, nI_l (by omega), hh1, hh2]
