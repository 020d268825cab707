/-! A ring: where its cells lie, what they hold. -/
abbrev rgA : Type := Nat × Nat × Nat × (Nat → Nat)
def a_o (A : rgA) : Nat := A.1
def a_s (A : rgA) : Nat := A.2.1
def a_f (A : rgA) : Nat := A.2.2.1
def a_b (A : rgA) : Nat → Nat := A.2.2.2
/-- room, width, oldest, held, gone, starts, figures -/
abbrev rgV : Type := Nat × Nat × Nat × Nat × Int32 × (Nat → Int32) × (Nat → Nat → Int32)
def v_N (r : rgV) : Nat := r.1
def v_w (r : rgV) : Nat := r.2.1
def v_o (r : rgV) : Nat := r.2.2.1
def v_h (r : rgV) : Nat := r.2.2.2.1
def v_g (r : rgV) : Int32 := r.2.2.2.2.1
def v_S (r : rgV) : Nat → Int32 := r.2.2.2.2.2.1
def v_F (r : rgV) : Nat → Nat → Int32 := r.2.2.2.2.2.2
def rgW (cI cA : ClassId) (A : rgA) (r : rgV) : va_W :=
  [(a_o A, .inr (0, [.int (nI (v_N r)), .int (nI (v_w r)), .ref (a_s A), .ref (a_f A), .int (nI (v_o r)), .int (nI (v_h r)), .int (v_g r)])),
   (a_s A, .inl (cI, v_N r, .inl (v_S r))),
   (a_f A, .inl (cA, 4, .inr (.inr (.inr (.inr (fun k => some (a_b A k))))))),
   (a_b A 0, .inl (cI, v_N r, .inl (v_F r 0))), (a_b A 1, .inl (cI, v_N r, .inl (v_F r 1))), (a_b A 2, .inl (cI, v_N r, .inl (v_F r 2))), (a_b A 3, .inl (cI, v_N r, .inl (v_F r 3)))]
theorem rgW_row {cI cA : ClassId} {A : rgA} {r : rgV} {k : Nat} (hk : k < 4) : (rgW cI cA A r)[3 + k]? = some (a_b A k, .inl (cI, v_N r, .inl (v_F r k))) := by
  rcases (show k = 0 ∨ k = 1 ∨ k = 2 ∨ k = 3 by omega) with rfl | rfl | rfl | rfl <;> rfl
def r_ok (r : rgV) : Prop := 1 ≤ v_N r ∧ v_N r ≤ 60 ∧ v_o r < v_N r ∧ v_h r ≤ v_N r ∧ 1 ≤ v_w r ∧ v_w r ≤ 1000000000
/-- an int that names an entry of h -/
abbrev ix (h : Nat) (i : Int32) : Prop := ¬ i < 0 ∧ i < nI h
theorem ix_cases (h : Nat) (hh : h < 2 ^ 31) (i : Int32) : (∃ j : Nat, j < h ∧ i = nI j) ∨ ¬ ix h i := by
  rcases pk_ix i hh with q | q | q
  · exact Or.inr (fun z => z.1 q)
  · refine Or.inr (fun z => ?_)
    have h1 := z.2
    rw [Int32.lt_iff_toInt_lt] at h1
    rw [Int32.le_iff_toInt_le] at q
    omega
  · exact Or.inl q
theorem ix_nI {h j : Nat} (hj : j < h) (hh : h < 2 ^ 31) : ix h (nI j) := ⟨nI_pos (by omega), nI_lt hj hh⟩
theorem ix_nix {h : Nat} {i : Int32} (hn : ¬ ix h i) : i < 0 ∨ nI h ≤ i := by
  by_cases h0 : i < 0
  · exact Or.inl h0
  · refine Or.inr ?_
    have h1 : ¬ i < nI h := fun z => hn ⟨h0, z⟩
    rw [Int32.lt_iff_toInt_lt] at h1
    rw [Int32.le_iff_toInt_le]
    omega
/-- the place of entry j -/
def sl (r : rgV) (j : Nat) : Nat := if v_o r + j < v_N r then v_o r + j else v_o r + j - v_N r
theorem sl_lt {r : rgV} (hk : r_ok r) {j : Nat} (hj : j < v_N r) : sl r j < v_N r := by
  obtain ⟨h1, h2, h3, h4, h5, h6⟩ := hk
  unfold sl
  split <;> omega
/-- the start of entry j, its figure k -/
def v_E (r : rgV) (j : Nat) : Int32 := v_S r (sl r j)
def v_G (r : rgV) (k j : Nat) : Int32 := v_F r k (sl r j)
/-- two figures joined -/
def jn (k : Nat) (x y : Int32) : Int32 := if k = 0 then (if y < x then y else x) else if k = 1 then (if x < y then y else x) else x + y
/-- the first entry from i on whose start is not below t -/
def ffr (r : rgV) (t : Int64) : Nat → Nat → Nat
  | 0, i => i
  | n + 1, i => if (v_E r i).toInt64 < t then ffr r t n (i + 1) else i
def ff (r : rgV) (t : Int64) (i : Nat) : Nat := ffr r t (v_h r - i) i
/-- figure k of the entries i, .., joined to x -/
def tgr (r : rgV) (k : Nat) : Nat → Nat → Int32 → Int32
  | 0, _, x => x
  | n + 1, i, x => tgr r k n (i + 1) (jn k x (v_G r k i))
def tg (r : rgV) (k a b : Nat) : Int32 := if a < b then tgr r k (b - (a + 1)) (a + 1) (v_G r k a) else 0
/-- the end of entry j -/
def v_X (r : rgV) (j : Nat) : Int64 := (v_E r j).toInt64 + (nI (v_w r)).toInt64
/-- the numbers of the entries that lie wholly in a span -/
def mwr (r : rgV) (f t : Int64) : Nat → Nat → Int64 → Int64
  | 0, _, x => x
  | n + 1, i, x => mwr r f t n (i + 1) (if f ≤ (v_E r i).toInt64 ∧ v_X r i ≤ t + 1 then x + (v_G r 3 i).toInt64 else x)
def mw (r : rgV) (f t : Int64) : Int64 := mwr r f t (v_h r) 0 0
/-- do the figures agree -/
def hfr (r q : rgV) (a b j : Nat) : Prop := ∀ k, k < 4 → v_G r k j = tg q k a b
