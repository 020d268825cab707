/-! The reference: where its cells lie, what they hold; what its methods answer. -/
theorem bi_eq {P : Prop} [Decidable P] (h : (if P then (1 : Int32) else 0) = 0) : ¬ P := fun q => by rw [if_pos q] at h; exact absurd h (by decide)
theorem bi_ne {P : Prop} [Decidable P] (h : ¬ (if P then (1 : Int32) else 0) = 0) : P := Decidable.byContradiction fun q => h (if_neg q)
abbrev mA : Type := Nat × Nat × Nat × Nat × Nat
def b_o (B : mA) : Nat := B.1
def b_r (B : mA) : Nat := B.2.1
def b_w (B : mA) : Nat := B.2.2.1
def b_t (B : mA) : Nat := B.2.2.2.1
def b_v (B : mA) : Nat := B.2.2.2.2
/-- how many points, their times, their values, the rooms, the widths -/
abbrev mv : Type := Nat × (Nat → Nat) × (Nat → Int32) × (Nat → Nat) × (Nat → Nat)
def m_P (q : mv) : Nat := q.1
def m_T (q : mv) : Nat → Nat := q.2.1
def m_V (q : mv) : Nat → Int32 := q.2.2.1
def m_R (q : mv) : Nat → Nat := q.2.2.2.1
def m_W (q : mv) : Nat → Nat := q.2.2.2.2
def mW (cI cJ : ClassId) (B : mA) (q : mv) : va_W :=
  [(b_o B, .inr (2, [.int 0, .ref (b_r B), .ref (b_w B), .int (nI (m_P q)), .ref (b_t B), .ref (b_v B)])),
   (b_r B, .inl (cI, 3, .inl (fun k => nI (m_R q k)))), (b_w B, .inl (cJ, 3, .inr (.inl (fun k => lN (m_W q k))))),
   (b_t B, .inl (cI, 1024, .inl (fun p => nI (m_T q p)))), (b_v B, .inl (cI, 1024, .inl (m_V q)))]
/-- two points in one bucket of level k -/
abbrev sm (q : mv) (k a b : Nat) : Prop := m_T q a / m_W q k = m_T q b / m_W q k
/-- buckets of level k among the first p points -/
def ng (q : mv) (k : Nat) : Nat → Nat
  | 0 => 0
  | p + 1 => if p = 0 ∨ ¬ sm q k (p - 1) p then ng q k p + 1 else ng q k p
def nE (q : mv) (k : Nat) : Nat := if k = 0 then m_P q else ng q k (m_P q)
def kp (q : mv) (k : Nat) : Nat := if nE q k < m_R q k then nE q k else m_R q k
def m_ok (q : mv) : Prop := m_P q ≤ 512 ∧ (∀ p, m_T q p < 2 ^ 31) ∧ (∀ k, k < 3 → 1 ≤ m_R q k ∧ m_R q k ≤ 60 ∧ 1 ≤ m_W q k ∧ m_W q k ≤ 1000000000) ∧ (∀ k, k < 3 → kp q k ≤ ng q k (m_P q))
theorem ng_le (q : mv) (k : Nat) : ∀ p, ng q k p ≤ p
  | 0 => Nat.le_refl _
  | p + 1 => by
    have h := ng_le q k p
    unfold ng
    split <;> omega
theorem ng_mono (q : mv) (k a : Nat) : ∀ n, ng q k a ≤ ng q k (a + n)
  | 0 => Nat.le_refl _
  | n + 1 => by
    have h := ng_mono q k a n
    rw [show a + (n + 1) = (a + n) + 1 from rfl, ng]
    split <;> omega
/-- the first point of bucket g of level k -/
def fsr (q : mv) (k g : Nat) : Nat → Nat → Nat
  | 0, p => p - 1
  | n + 1, p => if g + 1 ≤ ng q k p then p - 1 else fsr q k g n (p + 1)
def gn (q : mv) (k j : Nat) : Nat := ng q k (m_P q) - kp q k + j
def fs (q : mv) (k j : Nat) : Nat := fsr q k (gn q k j) (m_P q) 0
theorem fsr_lt (q : mv) (k g : Nat) (hg : g + 1 ≤ ng q k (m_P q)) : ∀ n p, p + n = m_P q → fsr q k g n p < m_P q := by
  have hP : 0 < m_P q := by have := ng_le q k (m_P q); omega
  intro n
  induction n with
  | zero => intro p hp; unfold fsr; omega
  | succ n ih =>
    intro p hp
    unfold fsr
    split
    · omega
    · exact ih (p + 1) (by omega)
theorem gn_lt {q : mv} {k j : Nat} (h : kp q k ≤ ng q k (m_P q)) (hj : j < kp q k) : gn q k j + 1 ≤ ng q k (m_P q) := by unfold gn; omega
theorem fs_lt {q : mv} {k j : Nat} (h : kp q k ≤ ng q k (m_P q)) (hj : j < kp q k) : fs q k j < m_P q := fsr_lt q k _ (gn_lt h hj) _ _ (Nat.zero_add _)
/-- where entry j of level k begins -/
def bg (q : mv) (k j : Nat) : Nat := m_T q (fs q k j) / m_W q k * m_W q k
/-- the figures of the bucket that begins with point p: least, greatest, sum, number -/
def fgr (q : mv) (k p : Nat) : Nat → Nat → Int32 → Int32 → Int32 → Nat → Nat → Int32
  | 0, _, a, b, c, d => fun w => if w = 0 then a else if w = 1 then b else if w = 2 then c else nI d
  | n + 1, x, a, b, c, d => if sm q k p x then fgr q k p n (x + 1) (if m_V q x < a then m_V q x else a) (if b < m_V q x then m_V q x else b) (c + m_V q x) (d + 1) else fun w => if w = 0 then a else if w = 1 then b else if w = 2 then c else nI d
def fg (q : mv) (k j : Nat) : Nat → Int32 := fgr q k (fs q k j) (m_P q - fs q k j) (fs q k j) (m_V q (fs q k j)) (m_V q (fs q k j)) 0 0
/-- is a point kept, and in the span -/
abbrev inS (q : mv) (f t : Int32) (p : Nat) : Prop := m_P q - kp q 0 ≤ p ∧ p < m_P q ∧ ¬ nI (m_T q p) < f ∧ ¬ t < nI (m_T q p)
def mnc (q : mv) (f t : Int32) : Nat → Nat
  | 0 => 0
  | p + 1 => if inS q f t p then mnc q f t p + 1 else mnc q f t p
theorem mnc_le (q : mv) (f t : Int32) : ∀ p, mnc q f t p ≤ p
  | 0 => Nat.le_refl _
  | p + 1 => by
    have h := mnc_le q f t p
    unfold mnc
    split <;> omega
def exq (q : mv) (f t g : Int32) : Nat → Int32
  | 0 => 0
  | p + 1 => if inS q f t p then (if mnc q f t p = 0 ∨ (if g < 0 then m_V q p < exq q f t g p else exq q f t g p < m_V q p) then m_V q p else exq q f t g p) else exq q f t g p
def smq (q : mv) (f t : Int32) : Nat → Int64
  | 0 => 0
  | p + 1 => if inS q f t p then smq q f t p + (m_V q p).toInt64 else smq q f t p
/-- the last kept point not later than t, of those from b on -/
def atq (q : mv) (t : Int32) (b : Nat) : Nat → Int32
  | 0 => -1
  | n + 1 => if t < nI (m_T q (b + n)) then atq q t b n else nI (b + n)
theorem atq_cases (q : mv) (t : Int32) (b : Nat) : ∀ n, atq q t b n = -1 ∨ ∃ j, b ≤ j ∧ j < b + n ∧ atq q t b n = nI j
  | 0 => Or.inl rfl
  | n + 1 => by
    unfold atq
    split
    · rcases atq_cases q t b n with h | ⟨j, h1, h2, h3⟩
      · exact Or.inl h
      · exact Or.inr ⟨j, h1, by omega, h3⟩
    · exact Or.inr ⟨b + n, by omega, by omega, rfl⟩
def atM (q : mv) (t sm : Int32) : Int32 :=
  if atq q t (m_P q - kp q 0) (kp q 0) < 0 then 0
  else if sm = 0 ∨ atq q t (m_P q - kp q 0) (kp q 0) = nI (m_P q - 1) then m_V q (atq q t (m_P q - kp q 0) (kp q 0)).toNatClampNeg
  else ((m_V q (atq q t (m_P q - kp q 0) (kp q 0)).toNatClampNeg).toInt64 + ((m_V q ((atq q t (m_P q - kp q 0) (kp q 0)).toNatClampNeg + 1)).toInt64 - (m_V q (atq q t (m_P q - kp q 0) (kp q 0)).toNatClampNeg).toInt64) * (t.toInt64 - (nI (m_T q (atq q t (m_P q - kp q 0) (kp q 0)).toNatClampNeg)).toInt64) / (nI (m_T q ((atq q t (m_P q - kp q 0) (kp q 0)).toNatClampNeg + 1)) - nI (m_T q (atq q t (m_P q - kp q 0) (kp q 0)).toNatClampNeg)).toInt64).toInt32
def rzq (q : mv) (p : Nat) : Int64 := (m_V q p).toInt64 - (m_V q (p - 1)).toInt64
/-- the steepest rise; b is where the kept points begin -/
def spq (q : mv) (f t : Int32) (b : Nat) : Nat → Nat → Int32 → Int64 → Int32
  | 0, _, x, _ => x
  | n + 1, p, x, y => if inS q f t (p - 1) ∧ inS q f t p ∧ (x = -1 ∨ y < rzq q p) then spq q f t b n (p + 1) (nI (p - b)) (rzq q p) else spq q f t b n (p + 1) x y
def spM (q : mv) (f t : Int32) : Int32 := spq q f t (m_P q - kp q 0) (kp q 0 - 1) (m_P q - kp q 0 + 1) (-1) 0
def blw (q : mv) (f t v : Int32) : Nat → Nat
  | 0 => 0
  | p + 1 => if inS q f t p ∧ m_V q p < v then blw q f t v p + 1 else blw q f t v p
def eqv (q : mv) (f t v : Int32) : Nat → Nat
  | 0 => 0
  | p + 1 => if inS q f t p ∧ m_V q p = v then eqv q f t v p + 1 else eqv q f t v p
theorem blw_le (q : mv) (f t v : Int32) : ∀ p, blw q f t v p ≤ p
  | 0 => Nat.le_refl _
  | p + 1 => by
    have h := blw_le q f t v p
    unfold blw
    split <;> omega
theorem eqv_le (q : mv) (f t v : Int32) : ∀ p, eqv q f t v p ≤ p
  | 0 => Nat.le_refl _
  | p + 1 => by
    have h := eqv_le q f t v p
    unfold eqv
    split <;> omega
abbrev mdc (q : mv) (f t : Int32) (p : Nat) : Prop := inS q f t p ∧ blw q f t (m_V q p) (m_P q) ≤ (mnc q f t (m_P q) - 1) / 2 ∧ (mnc q f t (m_P q) - 1) / 2 < blw q f t (m_V q p) (m_P q) + eqv q f t (m_V q p) (m_P q)
def mdr (q : mv) (f t : Int32) : Nat → Nat → Int32
  | 0, _ => 0
  | n + 1, p => if mdc q f t p then m_V q p else mdr q f t n (p + 1)
def mdM (q : mv) (f t : Int32) : Int32 := if mnc q f t (m_P q) = 0 then 0 else mdr q f t (m_P q) 0
def whq (q : mv) (k : Nat) (f t : Int32) (b : Int64) : Nat → Int64
  | 0 => 0
  | i + 1 => if f.toInt64 ≤ lN (bg q k i) ∧ lN (bg q k i + m_W q k - 1) ≤ t.toInt64 ∧ lN (bg q k i + m_W q k - 1) < b then whq q k f t b i + (fg q k i 3).toInt64 else whq q k f t b i
def rcM (q : mv) (f t : Int32) : Int64 :=
  if m_P q = 0 then 0 else
    (nI (mnc q f t (m_P q))).toInt64 + whq q 1 f t (nI (m_T q (m_P q - kp q 0))).toInt64 (kp q 1) +
      whq q 2 f t (if lN (bg q 1 0) < (nI (m_T q (m_P q - kp q 0))).toInt64 then lN (bg q 1 0) else (nI (m_T q (m_P q - kp q 0))).toInt64) (kp q 2)
