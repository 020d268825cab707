/-! The series: its own cell, and what its questions answer, in words of the rings. -/
def xW (x sq : Nat) (lt : Int32) (A0 A1 A2 : rgA) : va_W := [(x, .inr (1, [.ref (a_o A0), .ref (a_o A1), .ref (a_o A2), .ref sq, .int lt]))]
def sA (r : rgV) (f : Int32) : Nat := ff r f.toInt64 0
def sB (r : rgV) (f t : Int32) : Nat := ff r (t.toInt64 + 1) (sA r f)
theorem sA_le (r : rgV) (f : Int32) : sA r f ≤ v_h r := ff_le (Nat.zero_le _)
theorem sB_le (r : rgV) (f t : Int32) : sB r f t ≤ v_h r := ff_le (sA_le r f)
theorem sB_ge (r : rgV) (f t : Int32) : sA r f ≤ sB r f t := ff_ge
/-- the rise to entry j -/
def rz (r : rgV) (j : Nat) : Int64 := (v_G r 2 j).toInt64 - (v_G r 2 (j - 1)).toInt64
def onl (r : rgV) (j : Nat) (t : Int32) : Int32 :=
  if 0 < (v_E r (j + 1)).toInt64 - (v_E r j).toInt64 then ((v_G r 2 j).toInt64 + rz r (j + 1) * (t.toInt64 - (v_E r j).toInt64) / ((v_E r (j + 1)).toInt64 - (v_E r j).toInt64)).toInt32 else v_G r 2 j
def smr (r : rgV) : Nat → Nat → Int64 → Int64
  | 0, _, x => x
  | n + 1, i, x => smr r n (i + 1) (x + (v_G r 2 i).toInt64)
def atV (r : rgV) (t sm : Int32) : Int32 :=
  if ff r (t.toInt64 + 1) 0 = 0 then 0 else if ¬ sm = 0 ∧ ff r (t.toInt64 + 1) 0 < v_h r then onl r (ff r (t.toInt64 + 1) 0 - 1) t else v_G r 2 (ff r (t.toInt64 + 1) 0 - 1)
def spr (r : rgV) : Nat → Nat → Int32 → Int64 → Int32
  | 0, _, b, _ => b
  | n + 1, i, b, x => if b = -1 ∨ x < rz r i then spr r n (i + 1) (nI i) (rz r i) else spr r n (i + 1) b x
def spV (r : rgV) (f t : Int32) : Int32 := spr r (sB r f t - (sA r f + 1)) (sA r f + 1) (-1) 0
def st0 (r : rgV) : Int32 := if 0 < v_h r then v_E r 0 else -1
def mnl (x y : Int64) : Int64 := if y < x then y else x
def rcV (r0 r1 r2 : rgV) (f t : Int32) : Int64 :=
  mw r0 f.toInt64 t.toInt64 + mw r1 f.toInt64 (mnl t.toInt64 ((st0 r0).toInt64 - 1)) + mw r2 f.toInt64 (mnl (mnl t.toInt64 ((st0 r0).toInt64 - 1)) ((st0 r1).toInt64 - 1))
/-- every entry of r agrees with what q has of it, if q has all of it -/
def agr (r q : rgV) : Prop := ∃ J : Nat → Nat → Prop, J 0 0 ∧ ∀ i a : Nat, i < v_h r → a ≤ v_h q → J i a → J (i + 1) (ff q (v_X r i) (ff q (v_E r i).toInt64 a)) ∧ (¬ v_E r i ≤ v_g q → hfr r q (ff q (v_E r i).toInt64 a) (ff q (v_X r i) (ff q (v_E r i).toInt64 a)) i)
